section WR
variable {p : Program} {l : Launch} {e : Env} {R : Room} {s : State} {m : MethodId} {args : Array Value} {below : List Frame} {meth : Method} {c : Code} {H : Heap} {locs : List Loc} {cells slots : Nat} {Q : State → Prop}
variable {pc : Nat} {ls : Array Slot} {rest : List Value} {G : GG} {ws : va_W} {A : Nat → Prop} {y0 : MethodName} {b0 : ByteArray} {mL0 : Nat} {rt0 : Option FieldType} {a : Nat} {H0 : Heap}
theorem dX10_byteAt_0 : decode cX10_byteAt 0 = .ok (.iload_n 1, 1) := by decide +kernel
theorem dX10_byteAt_1 : decode cX10_byteAt 1 = .ok (.ifCond .lt 29, 3) := by decide +kernel
theorem dX10_byteAt_30 : decode cX10_byteAt 30 = .ok (.iconst (-1), 1) := by decide +kernel
theorem dX10_byteAt_31 : decode cX10_byteAt 31 = .ok (.ireturn, 1) := by decide +kernel
theorem dX10_byteAt_4 : decode cX10_byteAt 4 = .ok (.iload_n 1, 1) := by decide +kernel
theorem dX10_byteAt_5 : decode cX10_byteAt 5 = .ok (.aload_n 0, 1) := by decide +kernel
theorem dX10_byteAt_6 : decode cX10_byteAt 6 = .ok (.getfield 27, 3) := by decide +kernel
theorem dX10_byteAt_9 : decode cX10_byteAt 9 = .ok (.if_icmp .ge 21, 3) := by decide +kernel
theorem dX10_byteAt_12 : decode cX10_byteAt 12 = .ok (.iload_n 1, 1) := by decide +kernel
theorem dX10_byteAt_13 : decode cX10_byteAt 13 = .ok (.aload_n 0, 1) := by decide +kernel
theorem dX10_byteAt_14 : decode cX10_byteAt 14 = .ok (.getfield 9, 3) := by decide +kernel
theorem dX10_byteAt_17 : decode cX10_byteAt 17 = .ok (.arraylength, 1) := by decide +kernel
theorem dX10_byteAt_18 : decode cX10_byteAt 18 = .ok (.if_icmp .ge 12, 3) := by decide +kernel
theorem dX10_byteAt_21 : decode cX10_byteAt 21 = .ok (.aload_n 0, 1) := by decide +kernel
theorem dX10_byteAt_22 : decode cX10_byteAt 22 = .ok (.getfield 9, 3) := by decide +kernel
theorem dX10_byteAt_25 : decode cX10_byteAt 25 = .ok (.iload_n 1, 1) := by decide +kernel
theorem dX10_byteAt_26 : decode cX10_byteAt 26 = .ok (.iaload, 1) := by decide +kernel
theorem dX10_byteAt_27 : decode cX10_byteAt 27 = .ok (.goto 4, 3) := by decide +kernel
theorem dX10_isLetter_0 : decode cX10_isLetter 0 = .ok (.iload_n 0, 1) := by decide +kernel
theorem dX10_isLetter_1 : decode cX10_isLetter 1 = .ok (.bipush 97, 2) := by decide +kernel
theorem dX10_isLetter_3 : decode cX10_isLetter 3 = .ok (.bipush 122, 2) := by decide +kernel
theorem dX10_isLetter_5 : decode cX10_isLetter 5 = .ok (.invokestatic 89, 3) := by decide +kernel
theorem nm_50 : Cond.methodLinkNest RX10 89 yX11_within RX11 ∈ NestW := List.mem_of_getElem? (i := 50) (by decide +kernel)
theorem si_X10_89 : SSN RX10 RX11 89 yX11_within cX11_within 3 (some .boolean) 3 := ⟨⟨nm_50, m_213, m_2, m_214⟩, ⟨by decide +kernel, by decide +kernel, by decide +kernel⟩⟩
theorem dX10_isLetter_8 : decode cX10_isLetter 8 = .ok (.ireturn, 1) := by decide +kernel
theorem dX10_isDigit_0 : decode cX10_isDigit 0 = .ok (.iload_n 0, 1) := by decide +kernel
theorem dX10_isDigit_1 : decode cX10_isDigit 1 = .ok (.bipush 48, 2) := by decide +kernel
theorem dX10_isDigit_3 : decode cX10_isDigit 3 = .ok (.bipush 57, 2) := by decide +kernel
theorem dX10_isDigit_5 : decode cX10_isDigit 5 = .ok (.invokestatic 89, 3) := by decide +kernel
theorem dX10_isDigit_8 : decode cX10_isDigit 8 = .ok (.ireturn, 1) := by decide +kernel
theorem dX10_refuse_0 : decode cX10_refuse 0 = .ok (.aload_n 0, 1) := by decide +kernel
theorem dX10_refuse_1 : decode cX10_refuse 1 = .ok (.aload_n 0, 1) := by decide +kernel
theorem dX10_refuse_2 : decode cX10_refuse 2 = .ok (.getfield 34, 3) := by decide +kernel
theorem m_145 : Cond.fieldLink RX10 34 "InquiryBench$Tape" "start" "I" ∈ BW := List.mem_of_getElem? (i := 145) (by decide +kernel)
theorem gf_X10_34 (hC : CX p s m meth c y0 b0 mL0 rt0 args) (hy0 : y0.cls = RX10) (hK : KK G s) (hP : va_P G.1 vwCl ws H) (q0 : Nat) {fs : List Value} {v : Value} (he : ws[q0]? = some (a, .inr (10, fs))) (hv : fs[5]? = some v) (hdg : decode b0 pc = .ok (.getfield 34, 3)) (kk : W p l e R s m args below meth c H locs cells slots Q (F0 m (pc + 3) ls (v :: rest))) : W p l e R s m args below meth c H locs cells slots Q (F0 m pc ls (.ref a :: rest)) := by
  obtain ⟨hx, hb, hr, hml, hB, hown, hlocks, hnm⟩ := hC
  rw [hy0] at hown
  exact va_get (ci := 10) (C := RX10) (T := TX10) (N := 8) hx hb hB in_X10 hown hK.1 hP q0 he rfl 5 (by decide) (hB _ m_145) (fun _ h => h) hv hdg kk
theorem dX10_refuse_5 : decode cX10_refuse 5 = .ok (.putfield 40, 3) := by decide +kernel
theorem m_147 : Cond.fieldLink RX10 40 "InquiryBench$Tape" "fault" "I" ∈ BW := List.mem_of_getElem? (i := 147) (by decide +kernel)
theorem pf_X10_40 (hC : CX p s m meth c y0 b0 mL0 rt0 args) (hy0 : y0.cls = RX10) (hK : KK G s) (hP : va_P G.1 vwCl ws H) (hD : va_D A ws) (hS : va_S A H0 H locs) (q0 : Nat) {fs : List Value} {v : Value} {ws' : va_W} (he : ws[q0]? = some (a, .inr (10, fs))) (hl : 7 < fs.length) (hws : ws.set q0 (a, .inr (10, fs.set 7 v)) = ws') (hn : narrow .int v = v) (hfit : fits .int v = true) (hdg : decode b0 pc = .ok (.putfield 40, 3)) (kk : ∀ (H1 : Heap) (locs1 : List Loc), va_P G.1 vwCl ws' H1 → va_D A ws' → va_S A H0 H1 locs1 → W p l e R s m args below meth c H1 locs1 cells slots Q (F0 m (pc + 3) ls rest)) : W p l e R s m args below meth c H locs cells slots Q (F0 m pc ls (v :: .ref a :: rest)) := by
  obtain ⟨hx, hb, hr, hml, hB, hown, hlocks, hnm⟩ := hC
  rw [hy0] at hown
  subst hws
  exact va_put (ci := 10) (ty := .int) (C := RX10) (T := TX10) (N := 8) hx hb hB in_X10 tyX10 tyX10_ok nmX10 hown hK.1 hP hD hS q0 he rfl 7 (by decide) (hB _ m_147) (fun _ h => h) rfl (by decide +kernel) hn hfit hl hdg kk
theorem dX10_refuse_8 : decode cX10_refuse 8 = .ok (.iconst 0, 1) := by decide +kernel
theorem dX10_refuse_9 : decode cX10_refuse 9 = .ok (.ireturn, 1) := by decide +kernel
theorem dX10_clear_0 : decode cX10_clear 0 = .ok (.aload_n 0, 1) := by decide +kernel
theorem dX10_clear_1 : decode cX10_clear 1 = .ok (.iconst 0, 1) := by decide +kernel
theorem dX10_clear_2 : decode cX10_clear 2 = .ok (.putfield 27, 3) := by decide +kernel
theorem dX10_clear_5 : decode cX10_clear 5 = .ok (.return_, 1) := by decide +kernel
theorem dX10_advance_0 : decode cX10_advance 0 = .ok (.aload_n 0, 1) := by decide +kernel
theorem dX10_advance_1 : decode cX10_advance 1 = .ok (.aload_n 0, 1) := by decide +kernel
theorem dX10_advance_2 : decode cX10_advance 2 = .ok (.getfield 37, 3) := by decide +kernel
theorem m_146 : Cond.fieldLink RX10 37 "InquiryBench$Tape" "next" "I" ∈ BW := List.mem_of_getElem? (i := 146) (by decide +kernel)
theorem gf_X10_37 (hC : CX p s m meth c y0 b0 mL0 rt0 args) (hy0 : y0.cls = RX10) (hK : KK G s) (hP : va_P G.1 vwCl ws H) (q0 : Nat) {fs : List Value} {v : Value} (he : ws[q0]? = some (a, .inr (10, fs))) (hv : fs[6]? = some v) (hdg : decode b0 pc = .ok (.getfield 37, 3)) (kk : W p l e R s m args below meth c H locs cells slots Q (F0 m (pc + 3) ls (v :: rest))) : W p l e R s m args below meth c H locs cells slots Q (F0 m pc ls (.ref a :: rest)) := by
  obtain ⟨hx, hb, hr, hml, hB, hown, hlocks, hnm⟩ := hC
  rw [hy0] at hown
  exact va_get (ci := 10) (C := RX10) (T := TX10) (N := 8) hx hb hB in_X10 hown hK.1 hP q0 he rfl 6 (by decide) (hB _ m_146) (fun _ h => h) hv hdg kk
theorem dX10_advance_5 : decode cX10_advance 5 = .ok (.putfield 34, 3) := by decide +kernel
theorem pf_X10_34 (hC : CX p s m meth c y0 b0 mL0 rt0 args) (hy0 : y0.cls = RX10) (hK : KK G s) (hP : va_P G.1 vwCl ws H) (hD : va_D A ws) (hS : va_S A H0 H locs) (q0 : Nat) {fs : List Value} {v : Value} {ws' : va_W} (he : ws[q0]? = some (a, .inr (10, fs))) (hl : 5 < fs.length) (hws : ws.set q0 (a, .inr (10, fs.set 5 v)) = ws') (hn : narrow .int v = v) (hfit : fits .int v = true) (hdg : decode b0 pc = .ok (.putfield 34, 3)) (kk : ∀ (H1 : Heap) (locs1 : List Loc), va_P G.1 vwCl ws' H1 → va_D A ws' → va_S A H0 H1 locs1 → W p l e R s m args below meth c H1 locs1 cells slots Q (F0 m (pc + 3) ls rest)) : W p l e R s m args below meth c H locs cells slots Q (F0 m pc ls (v :: .ref a :: rest)) := by
  obtain ⟨hx, hb, hr, hml, hB, hown, hlocks, hnm⟩ := hC
  rw [hy0] at hown
  subst hws
  exact va_put (ci := 10) (ty := .int) (C := RX10) (T := TX10) (N := 8) hx hb hB in_X10 tyX10 tyX10_ok nmX10 hown hK.1 hP hD hS q0 he rfl 5 (by decide) (hB _ m_145) (fun _ h => h) rfl (by decide +kernel) hn hfit hl hdg kk
theorem dX10_advance_8 : decode cX10_advance 8 = .ok (.aload_n 0, 1) := by decide +kernel
theorem dX10_advance_9 : decode cX10_advance 9 = .ok (.getfield 34, 3) := by decide +kernel
theorem dX10_advance_12 : decode cX10_advance 12 = .ok (.aload_n 0, 1) := by decide +kernel
theorem dX10_advance_13 : decode cX10_advance 13 = .ok (.getfield 27, 3) := by decide +kernel
theorem dX10_advance_16 : decode cX10_advance 16 = .ok (.if_icmp .ge 29, 3) := by decide +kernel
theorem dX10_advance_45 : decode cX10_advance 45 = .ok (.aload_n 0, 1) := by decide +kernel
theorem dX10_advance_46 : decode cX10_advance 46 = .ok (.aload_n 0, 1) := by decide +kernel
theorem dX10_advance_47 : decode cX10_advance 47 = .ok (.getfield 34, 3) := by decide +kernel
theorem dX10_advance_50 : decode cX10_advance 50 = .ok (.putfield 37, 3) := by decide +kernel
theorem pf_X10_37 (hC : CX p s m meth c y0 b0 mL0 rt0 args) (hy0 : y0.cls = RX10) (hK : KK G s) (hP : va_P G.1 vwCl ws H) (hD : va_D A ws) (hS : va_S A H0 H locs) (q0 : Nat) {fs : List Value} {v : Value} {ws' : va_W} (he : ws[q0]? = some (a, .inr (10, fs))) (hl : 6 < fs.length) (hws : ws.set q0 (a, .inr (10, fs.set 6 v)) = ws') (hn : narrow .int v = v) (hfit : fits .int v = true) (hdg : decode b0 pc = .ok (.putfield 37, 3)) (kk : ∀ (H1 : Heap) (locs1 : List Loc), va_P G.1 vwCl ws' H1 → va_D A ws' → va_S A H0 H1 locs1 → W p l e R s m args below meth c H1 locs1 cells slots Q (F0 m (pc + 3) ls rest)) : W p l e R s m args below meth c H locs cells slots Q (F0 m pc ls (v :: .ref a :: rest)) := by
  obtain ⟨hx, hb, hr, hml, hB, hown, hlocks, hnm⟩ := hC
  rw [hy0] at hown
  subst hws
  exact va_put (ci := 10) (ty := .int) (C := RX10) (T := TX10) (N := 8) hx hb hB in_X10 tyX10 tyX10_ok nmX10 hown hK.1 hP hD hS q0 he rfl 6 (by decide) (hB _ m_146) (fun _ h => h) rfl (by decide +kernel) hn hfit hl hdg kk
theorem dX10_advance_53 : decode cX10_advance 53 = .ok (.aload_n 0, 1) := by decide +kernel
theorem dX10_advance_54 : decode cX10_advance 54 = .ok (.aload_n 0, 1) := by decide +kernel
theorem dX10_advance_55 : decode cX10_advance 55 = .ok (.getfield 34, 3) := by decide +kernel
theorem dX10_advance_58 : decode cX10_advance 58 = .ok (.invokevirtual 78, 3) := by decide +kernel
theorem m_771 : Cond.code yX10_byteAt cX10_byteAt 2 (some .int) ∈ BW := List.mem_of_getElem? (i := 771) (by decide +kernel)
theorem m_768 : Cond.methodLink RX10 78 yX10_byteAt ∈ BW := List.mem_of_getElem? (i := 768) (by decide +kernel)
theorem m_769 : Cond.instanceMethod yX10_byteAt ∈ BW := List.mem_of_getElem? (i := 769) (by decide +kernel)
theorem m_770 : Cond.selects RX10 yX10_byteAt yX10_byteAt ∈ BW := List.mem_of_getElem? (i := 770) (by decide +kernel)
theorem si_X10_78 : SV RX10 RX10 78 yX10_byteAt cX10_byteAt 2 (some .int) 1 := ⟨⟨m_768, m_769, m_770, m_37, m_771⟩, rfl, by decide +kernel, by decide +kernel, by decide +kernel⟩
theorem dX10_advance_61 : decode cX10_advance 61 = .ok (.invokestatic 82, 3) := by decide +kernel
theorem m_774 : Cond.code yX10_isLetter cX10_isLetter 1 (some .boolean) ∈ BW := List.mem_of_getElem? (i := 774) (by decide +kernel)
theorem m_772 : Cond.methodLink RX10 82 yX10_isLetter ∈ BW := List.mem_of_getElem? (i := 772) (by decide +kernel)
theorem m_773 : Cond.static yX10_isLetter ∈ BW := List.mem_of_getElem? (i := 773) (by decide +kernel)
theorem si_X10_82 : SS RX10 82 yX10_isLetter cX10_isLetter 1 (some .boolean) 1 := ⟨⟨m_772, m_773, m_37, m_774⟩, ⟨by decide +kernel, by decide +kernel, by decide +kernel⟩⟩
theorem dX10_advance_64 : decode cX10_advance 64 = .ok (.ifCond .eq 47, 3) := by decide +kernel
theorem dX10_advance_67 : decode cX10_advance 67 = .ok (.aload_n 0, 1) := by decide +kernel
theorem dX10_advance_68 : decode cX10_advance 68 = .ok (.bipush (-2), 2) := by decide +kernel
theorem dX10_advance_70 : decode cX10_advance 70 = .ok (.putfield 31, 3) := by decide +kernel
theorem m_144 : Cond.fieldLink RX10 31 "InquiryBench$Tape" "kind" "I" ∈ BW := List.mem_of_getElem? (i := 144) (by decide +kernel)
theorem pf_X10_31 (hC : CX p s m meth c y0 b0 mL0 rt0 args) (hy0 : y0.cls = RX10) (hK : KK G s) (hP : va_P G.1 vwCl ws H) (hD : va_D A ws) (hS : va_S A H0 H locs) (q0 : Nat) {fs : List Value} {v : Value} {ws' : va_W} (he : ws[q0]? = some (a, .inr (10, fs))) (hl : 4 < fs.length) (hws : ws.set q0 (a, .inr (10, fs.set 4 v)) = ws') (hn : narrow .int v = v) (hfit : fits .int v = true) (hdg : decode b0 pc = .ok (.putfield 31, 3)) (kk : ∀ (H1 : Heap) (locs1 : List Loc), va_P G.1 vwCl ws' H1 → va_D A ws' → va_S A H0 H1 locs1 → W p l e R s m args below meth c H1 locs1 cells slots Q (F0 m (pc + 3) ls rest)) : W p l e R s m args below meth c H locs cells slots Q (F0 m pc ls (v :: .ref a :: rest)) := by
  obtain ⟨hx, hb, hr, hml, hB, hown, hlocks, hnm⟩ := hC
  rw [hy0] at hown
  subst hws
  exact va_put (ci := 10) (ty := .int) (C := RX10) (T := TX10) (N := 8) hx hb hB in_X10 tyX10 tyX10_ok nmX10 hown hK.1 hP hD hS q0 he rfl 4 (by decide) (hB _ m_144) (fun _ h => h) rfl (by decide +kernel) hn hfit hl hdg kk
theorem dX10_advance_73 : decode cX10_advance 73 = .ok (.aload_n 0, 1) := by decide +kernel
theorem dX10_advance_74 : decode cX10_advance 74 = .ok (.getfield 37, 3) := by decide +kernel
theorem dX10_advance_77 : decode cX10_advance 77 = .ok (.aload_n 0, 1) := by decide +kernel
theorem dX10_advance_78 : decode cX10_advance 78 = .ok (.getfield 27, 3) := by decide +kernel
theorem dX10_advance_81 : decode cX10_advance 81 = .ok (.if_icmp .ge 118, 3) := by decide +kernel
theorem dX10_advance_199 : decode cX10_advance 199 = .ok (.return_, 1) := by decide +kernel
theorem dX10_advance_84 : decode cX10_advance 84 = .ok (.aload_n 0, 1) := by decide +kernel
theorem dX10_advance_85 : decode cX10_advance 85 = .ok (.aload_n 0, 1) := by decide +kernel
theorem dX10_advance_86 : decode cX10_advance 86 = .ok (.getfield 37, 3) := by decide +kernel
theorem dX10_advance_89 : decode cX10_advance 89 = .ok (.invokevirtual 78, 3) := by decide +kernel
theorem dX10_advance_92 : decode cX10_advance 92 = .ok (.invokestatic 82, 3) := by decide +kernel
theorem dX10_advance_95 : decode cX10_advance 95 = .ok (.ifCond .eq 104, 3) := by decide +kernel
theorem dX10_advance_98 : decode cX10_advance 98 = .ok (.aload_n 0, 1) := by decide +kernel
theorem dX10_advance_99 : decode cX10_advance 99 = .ok (.dup, 1) := by decide +kernel
theorem dX10_advance_100 : decode cX10_advance 100 = .ok (.getfield 37, 3) := by decide +kernel
theorem dX10_advance_103 : decode cX10_advance 103 = .ok (.iconst 1, 1) := by decide +kernel
theorem dX10_advance_104 : decode cX10_advance 104 = .ok (.iadd, 1) := by decide +kernel
theorem dX10_advance_105 : decode cX10_advance 105 = .ok (.putfield 37, 3) := by decide +kernel
theorem dX10_advance_108 : decode cX10_advance 108 = .ok (.goto (-35), 3) := by decide +kernel
theorem dX10_advance_111 : decode cX10_advance 111 = .ok (.aload_n 0, 1) := by decide +kernel
theorem dX10_advance_112 : decode cX10_advance 112 = .ok (.aload_n 0, 1) := by decide +kernel
theorem dX10_advance_113 : decode cX10_advance 113 = .ok (.getfield 34, 3) := by decide +kernel
theorem dX10_advance_116 : decode cX10_advance 116 = .ok (.invokevirtual 78, 3) := by decide +kernel
theorem dX10_advance_119 : decode cX10_advance 119 = .ok (.invokestatic 86, 3) := by decide +kernel
theorem m_777 : Cond.code yX10_isDigit cX10_isDigit 1 (some .boolean) ∈ BW := List.mem_of_getElem? (i := 777) (by decide +kernel)
theorem m_775 : Cond.methodLink RX10 86 yX10_isDigit ∈ BW := List.mem_of_getElem? (i := 775) (by decide +kernel)
theorem m_776 : Cond.static yX10_isDigit ∈ BW := List.mem_of_getElem? (i := 776) (by decide +kernel)
theorem si_X10_86 : SS RX10 86 yX10_isDigit cX10_isDigit 1 (some .boolean) 1 := ⟨⟨m_775, m_776, m_37, m_777⟩, ⟨by decide +kernel, by decide +kernel, by decide +kernel⟩⟩
theorem dX10_advance_122 : decode cX10_advance 122 = .ok (.ifCond .eq 47, 3) := by decide +kernel
theorem dX10_advance_125 : decode cX10_advance 125 = .ok (.aload_n 0, 1) := by decide +kernel
theorem dX10_advance_126 : decode cX10_advance 126 = .ok (.bipush (-3), 2) := by decide +kernel
theorem dX10_advance_128 : decode cX10_advance 128 = .ok (.putfield 31, 3) := by decide +kernel
theorem dX10_advance_131 : decode cX10_advance 131 = .ok (.aload_n 0, 1) := by decide +kernel
theorem dX10_advance_132 : decode cX10_advance 132 = .ok (.getfield 37, 3) := by decide +kernel
theorem dX10_advance_135 : decode cX10_advance 135 = .ok (.aload_n 0, 1) := by decide +kernel
theorem dX10_advance_136 : decode cX10_advance 136 = .ok (.getfield 27, 3) := by decide +kernel
theorem dX10_advance_139 : decode cX10_advance 139 = .ok (.if_icmp .ge 60, 3) := by decide +kernel
theorem dX10_advance_142 : decode cX10_advance 142 = .ok (.aload_n 0, 1) := by decide +kernel
theorem dX10_advance_143 : decode cX10_advance 143 = .ok (.aload_n 0, 1) := by decide +kernel
theorem dX10_advance_144 : decode cX10_advance 144 = .ok (.getfield 37, 3) := by decide +kernel
theorem dX10_advance_147 : decode cX10_advance 147 = .ok (.invokevirtual 78, 3) := by decide +kernel
theorem dX10_advance_150 : decode cX10_advance 150 = .ok (.invokestatic 86, 3) := by decide +kernel
theorem dX10_advance_153 : decode cX10_advance 153 = .ok (.ifCond .eq 46, 3) := by decide +kernel
theorem dX10_advance_156 : decode cX10_advance 156 = .ok (.aload_n 0, 1) := by decide +kernel
theorem dX10_advance_157 : decode cX10_advance 157 = .ok (.dup, 1) := by decide +kernel
theorem dX10_advance_158 : decode cX10_advance 158 = .ok (.getfield 37, 3) := by decide +kernel
theorem dX10_advance_161 : decode cX10_advance 161 = .ok (.iconst 1, 1) := by decide +kernel
theorem dX10_advance_162 : decode cX10_advance 162 = .ok (.iadd, 1) := by decide +kernel
theorem dX10_advance_163 : decode cX10_advance 163 = .ok (.putfield 37, 3) := by decide +kernel
theorem dX10_advance_166 : decode cX10_advance 166 = .ok (.goto (-35), 3) := by decide +kernel
theorem dX10_advance_169 : decode cX10_advance 169 = .ok (.aload_n 0, 1) := by decide +kernel
theorem dX10_advance_170 : decode cX10_advance 170 = .ok (.aload_n 0, 1) := by decide +kernel
theorem dX10_advance_171 : decode cX10_advance 171 = .ok (.aload_n 0, 1) := by decide +kernel
theorem dX10_advance_172 : decode cX10_advance 172 = .ok (.getfield 34, 3) := by decide +kernel
theorem dX10_advance_175 : decode cX10_advance 175 = .ok (.invokevirtual 78, 3) := by decide +kernel
theorem dX10_advance_178 : decode cX10_advance 178 = .ok (.putfield 31, 3) := by decide +kernel
theorem dX10_advance_181 : decode cX10_advance 181 = .ok (.aload_n 0, 1) := by decide +kernel
theorem dX10_advance_182 : decode cX10_advance 182 = .ok (.getfield 31, 3) := by decide +kernel
theorem gf_X10_31 (hC : CX p s m meth c y0 b0 mL0 rt0 args) (hy0 : y0.cls = RX10) (hK : KK G s) (hP : va_P G.1 vwCl ws H) (q0 : Nat) {fs : List Value} {v : Value} (he : ws[q0]? = some (a, .inr (10, fs))) (hv : fs[4]? = some v) (hdg : decode b0 pc = .ok (.getfield 31, 3)) (kk : W p l e R s m args below meth c H locs cells slots Q (F0 m (pc + 3) ls (v :: rest))) : W p l e R s m args below meth c H locs cells slots Q (F0 m pc ls (.ref a :: rest)) := by
  obtain ⟨hx, hb, hr, hml, hB, hown, hlocks, hnm⟩ := hC
  rw [hy0] at hown
  exact va_get (ci := 10) (C := RX10) (T := TX10) (N := 8) hx hb hB in_X10 hown hK.1 hP q0 he rfl 4 (by decide) (hB _ m_144) (fun _ h => h) hv hdg kk
theorem dX10_advance_185 : decode cX10_advance 185 = .ok (.iconst (-1), 1) := by decide +kernel
theorem dX10_advance_186 : decode cX10_advance 186 = .ok (.if_icmp .eq 13, 3) := by decide +kernel
theorem dX10_advance_189 : decode cX10_advance 189 = .ok (.aload_n 0, 1) := by decide +kernel
theorem dX10_advance_190 : decode cX10_advance 190 = .ok (.dup, 1) := by decide +kernel
theorem dX10_advance_191 : decode cX10_advance 191 = .ok (.getfield 37, 3) := by decide +kernel
theorem dX10_advance_194 : decode cX10_advance 194 = .ok (.iconst 1, 1) := by decide +kernel
theorem dX10_advance_195 : decode cX10_advance 195 = .ok (.iadd, 1) := by decide +kernel
theorem dX10_advance_196 : decode cX10_advance 196 = .ok (.putfield 37, 3) := by decide +kernel
theorem dX10_advance_19 : decode cX10_advance 19 = .ok (.aload_n 0, 1) := by decide +kernel
theorem dX10_advance_20 : decode cX10_advance 20 = .ok (.aload_n 0, 1) := by decide +kernel
theorem dX10_advance_21 : decode cX10_advance 21 = .ok (.getfield 34, 3) := by decide +kernel
theorem dX10_advance_24 : decode cX10_advance 24 = .ok (.invokevirtual 78, 3) := by decide +kernel
theorem dX10_advance_27 : decode cX10_advance 27 = .ok (.bipush 32, 2) := by decide +kernel
theorem dX10_advance_29 : decode cX10_advance 29 = .ok (.if_icmp .ne 16, 3) := by decide +kernel
theorem dX10_advance_32 : decode cX10_advance 32 = .ok (.aload_n 0, 1) := by decide +kernel
theorem dX10_advance_33 : decode cX10_advance 33 = .ok (.dup, 1) := by decide +kernel
theorem dX10_advance_34 : decode cX10_advance 34 = .ok (.getfield 34, 3) := by decide +kernel
theorem dX10_advance_37 : decode cX10_advance 37 = .ok (.iconst 1, 1) := by decide +kernel
theorem dX10_advance_38 : decode cX10_advance 38 = .ok (.iadd, 1) := by decide +kernel
theorem dX10_advance_39 : decode cX10_advance 39 = .ok (.putfield 34, 3) := by decide +kernel
theorem dX10_advance_42 : decode cX10_advance 42 = .ok (.goto (-34), 3) := by decide +kernel
theorem dX10_isName_0 : decode cX10_isName 0 = .ok (.aload_n 0, 1) := by decide +kernel
theorem dX10_isName_1 : decode cX10_isName 1 = .ok (.getfield 31, 3) := by decide +kernel
theorem dX10_isName_4 : decode cX10_isName 4 = .ok (.bipush (-2), 2) := by decide +kernel
theorem dX10_isName_6 : decode cX10_isName 6 = .ok (.if_icmp .ne 19, 3) := by decide +kernel
theorem dX10_isName_25 : decode cX10_isName 25 = .ok (.iconst 0, 1) := by decide +kernel
theorem dX10_isName_26 : decode cX10_isName 26 = .ok (.ireturn, 1) := by decide +kernel
theorem dX10_isName_9 : decode cX10_isName 9 = .ok (.aload_n 0, 1) := by decide +kernel
theorem dX10_isName_10 : decode cX10_isName 10 = .ok (.getfield 37, 3) := by decide +kernel
theorem dX10_isName_13 : decode cX10_isName 13 = .ok (.aload_n 0, 1) := by decide +kernel
theorem dX10_isName_14 : decode cX10_isName 14 = .ok (.getfield 34, 3) := by decide +kernel
theorem dX10_isName_17 : decode cX10_isName 17 = .ok (.isub, 1) := by decide +kernel
theorem dX10_isName_18 : decode cX10_isName 18 = .ok (.aload_n 1, 1) := by decide +kernel
theorem dX10_isName_19 : decode cX10_isName 19 = .ok (.invokevirtual 93, 3) := by decide +kernel
theorem m_801 : Cond.code yJ0_length_8abf5 cJ0_length_8abf5 1 (some .int) ∈ BW := List.mem_of_getElem? (i := 801) (by decide +kernel)
theorem m_797 : Cond.methodLink RX10 93 yJ0_length_8abf5 ∈ BW := List.mem_of_getElem? (i := 797) (by decide +kernel)
theorem m_798 : Cond.instanceMethod yJ0_length_8abf5 ∈ BW := List.mem_of_getElem? (i := 798) (by decide +kernel)
theorem m_799 : Cond.selects RJ0 yJ0_length_8abf5 yJ0_length_8abf5 ∈ BW := List.mem_of_getElem? (i := 799) (by decide +kernel)
theorem si_X10_93 : SV RX10 RJ0 93 yJ0_length_8abf5 cJ0_length_8abf5 1 (some .int) 0 := ⟨⟨m_797, m_798, m_799, m_800, m_801⟩, rfl, by decide +kernel, by decide +kernel, by decide +kernel⟩
theorem dX10_isName_22 : decode cX10_isName 22 = .ok (.if_icmp .eq 5, 3) := by decide +kernel
theorem dX10_isName_27 : decode cX10_isName 27 = .ok (.iconst 0, 1) := by decide +kernel
theorem dX10_isName_28 : decode cX10_isName 28 = .ok (.istore_n 2, 1) := by decide +kernel
theorem dX10_isName_29 : decode cX10_isName 29 = .ok (.iload_n 2, 1) := by decide +kernel
theorem dX10_isName_30 : decode cX10_isName 30 = .ok (.aload_n 1, 1) := by decide +kernel
theorem dX10_isName_31 : decode cX10_isName 31 = .ok (.invokevirtual 93, 3) := by decide +kernel
theorem dX10_isName_34 : decode cX10_isName 34 = .ok (.if_icmp .ge 29, 3) := by decide +kernel
theorem dX10_isName_63 : decode cX10_isName 63 = .ok (.iconst 1, 1) := by decide +kernel
theorem dX10_isName_64 : decode cX10_isName 64 = .ok (.ireturn, 1) := by decide +kernel
theorem dX10_isName_37 : decode cX10_isName 37 = .ok (.aload_n 0, 1) := by decide +kernel
theorem dX10_isName_38 : decode cX10_isName 38 = .ok (.aload_n 0, 1) := by decide +kernel
theorem dX10_isName_39 : decode cX10_isName 39 = .ok (.getfield 34, 3) := by decide +kernel
theorem dX10_isName_42 : decode cX10_isName 42 = .ok (.iload_n 2, 1) := by decide +kernel
theorem dX10_isName_43 : decode cX10_isName 43 = .ok (.iadd, 1) := by decide +kernel
theorem dX10_isName_44 : decode cX10_isName 44 = .ok (.invokevirtual 78, 3) := by decide +kernel
theorem dX10_isName_47 : decode cX10_isName 47 = .ok (.aload_n 1, 1) := by decide +kernel
theorem dX10_isName_48 : decode cX10_isName 48 = .ok (.iload_n 2, 1) := by decide +kernel
theorem dX10_isName_49 : decode cX10_isName 49 = .ok (.invokevirtual 98, 3) := by decide +kernel
theorem m_812 : Cond.code yJ0_charAt_5068e cJ0_charAt_5068e 2 (some .char) ∈ BW := List.mem_of_getElem? (i := 812) (by decide +kernel)
theorem m_809 : Cond.methodLink RX10 98 yJ0_charAt_5068e ∈ BW := List.mem_of_getElem? (i := 809) (by decide +kernel)
theorem m_810 : Cond.instanceMethod yJ0_charAt_5068e ∈ BW := List.mem_of_getElem? (i := 810) (by decide +kernel)
theorem m_811 : Cond.selects RJ0 yJ0_charAt_5068e yJ0_charAt_5068e ∈ BW := List.mem_of_getElem? (i := 811) (by decide +kernel)
theorem si_X10_98 : SV RX10 RJ0 98 yJ0_charAt_5068e cJ0_charAt_5068e 2 (some .char) 1 := ⟨⟨m_809, m_810, m_811, m_800, m_812⟩, rfl, by decide +kernel, by decide +kernel, by decide +kernel⟩
theorem dX10_isName_52 : decode cX10_isName 52 = .ok (.if_icmp .eq 5, 3) := by decide +kernel
theorem dX10_isName_57 : decode cX10_isName 57 = .ok (.iinc 2 1, 3) := by decide +kernel
theorem dX10_isName_60 : decode cX10_isName 60 = .ok (.goto (-31), 3) := by decide +kernel
theorem dX10_isName_55 : decode cX10_isName 55 = .ok (.iconst 0, 1) := by decide +kernel
theorem dX10_isName_56 : decode cX10_isName 56 = .ok (.ireturn, 1) := by decide +kernel
theorem dX10_takesName_0 : decode cX10_takesName 0 = .ok (.aload_n 0, 1) := by decide +kernel
theorem dX10_takesName_1 : decode cX10_takesName 1 = .ok (.aload_n 1, 1) := by decide +kernel
theorem dX10_takesName_2 : decode cX10_takesName 2 = .ok (.invokevirtual 102, 3) := by decide +kernel
theorem m_796 : Cond.code yX10_isName cX10_isName 3 (some .boolean) ∈ BW := List.mem_of_getElem? (i := 796) (by decide +kernel)
theorem m_793 : Cond.methodLink RX10 102 yX10_isName ∈ BW := List.mem_of_getElem? (i := 793) (by decide +kernel)
theorem m_794 : Cond.instanceMethod yX10_isName ∈ BW := List.mem_of_getElem? (i := 794) (by decide +kernel)
theorem m_795 : Cond.selects RX10 yX10_isName yX10_isName ∈ BW := List.mem_of_getElem? (i := 795) (by decide +kernel)
theorem si_X10_102 : SV RX10 RX10 102 yX10_isName cX10_isName 3 (some .boolean) 1 := ⟨⟨m_793, m_794, m_795, m_37, m_796⟩, rfl, by decide +kernel, by decide +kernel, by decide +kernel⟩
theorem dX10_takesName_5 : decode cX10_takesName 5 = .ok (.ifCond .ne 8, 3) := by decide +kernel
theorem dX10_takesName_13 : decode cX10_takesName 13 = .ok (.aload_n 0, 1) := by decide +kernel
theorem dX10_takesName_14 : decode cX10_takesName 14 = .ok (.invokevirtual 47, 3) := by decide +kernel
theorem m_767 : Cond.code yX10_advance cX10_advance 1 none ∈ BW := List.mem_of_getElem? (i := 767) (by decide +kernel)
theorem m_764 : Cond.methodLink RX10 47 yX10_advance ∈ BW := List.mem_of_getElem? (i := 764) (by decide +kernel)
theorem m_765 : Cond.instanceMethod yX10_advance ∈ BW := List.mem_of_getElem? (i := 765) (by decide +kernel)
theorem m_766 : Cond.selects RX10 yX10_advance yX10_advance ∈ BW := List.mem_of_getElem? (i := 766) (by decide +kernel)
theorem si_X10_47 : SV RX10 RX10 47 yX10_advance cX10_advance 1 none 0 := ⟨⟨m_764, m_765, m_766, m_37, m_767⟩, rfl, by decide +kernel, by decide +kernel, by decide +kernel⟩
theorem dX10_takesName_17 : decode cX10_takesName 17 = .ok (.iconst 1, 1) := by decide +kernel
theorem dX10_takesName_18 : decode cX10_takesName 18 = .ok (.ireturn, 1) := by decide +kernel
theorem dX10_takesName_8 : decode cX10_takesName 8 = .ok (.aload_n 0, 1) := by decide +kernel
theorem dX10_takesName_9 : decode cX10_takesName 9 = .ok (.invokevirtual 106, 3) := by decide +kernel
theorem m_786 : Cond.code yX10_refuse cX10_refuse 1 (some .boolean) ∈ BW := List.mem_of_getElem? (i := 786) (by decide +kernel)
theorem m_783 : Cond.methodLink RX10 106 yX10_refuse ∈ BW := List.mem_of_getElem? (i := 783) (by decide +kernel)
theorem m_784 : Cond.instanceMethod yX10_refuse ∈ BW := List.mem_of_getElem? (i := 784) (by decide +kernel)
theorem m_785 : Cond.selects RX10 yX10_refuse yX10_refuse ∈ BW := List.mem_of_getElem? (i := 785) (by decide +kernel)
theorem si_X10_106 : SV RX10 RX10 106 yX10_refuse cX10_refuse 1 (some .boolean) 0 := ⟨⟨m_783, m_784, m_785, m_37, m_786⟩, rfl, by decide +kernel, by decide +kernel, by decide +kernel⟩
theorem dX10_takesName_12 : decode cX10_takesName 12 = .ok (.ireturn, 1) := by decide +kernel
theorem dX10_takesByte_0 : decode cX10_takesByte 0 = .ok (.aload_n 0, 1) := by decide +kernel
theorem dX10_takesByte_1 : decode cX10_takesByte 1 = .ok (.getfield 31, 3) := by decide +kernel
theorem dX10_takesByte_4 : decode cX10_takesByte 4 = .ok (.iload_n 1, 1) := by decide +kernel
theorem dX10_takesByte_5 : decode cX10_takesByte 5 = .ok (.if_icmp .eq 8, 3) := by decide +kernel
theorem dX10_takesByte_13 : decode cX10_takesByte 13 = .ok (.aload_n 0, 1) := by decide +kernel
theorem dX10_takesByte_14 : decode cX10_takesByte 14 = .ok (.invokevirtual 47, 3) := by decide +kernel
theorem dX10_takesByte_17 : decode cX10_takesByte 17 = .ok (.iconst 1, 1) := by decide +kernel
theorem dX10_takesByte_18 : decode cX10_takesByte 18 = .ok (.ireturn, 1) := by decide +kernel
theorem dX10_takesByte_8 : decode cX10_takesByte 8 = .ok (.aload_n 0, 1) := by decide +kernel
theorem dX10_takesByte_9 : decode cX10_takesByte 9 = .ok (.invokevirtual 106, 3) := by decide +kernel
theorem dX10_takesByte_12 : decode cX10_takesByte 12 = .ok (.ireturn, 1) := by decide +kernel
theorem dX10_numberHere_0 : decode cX10_numberHere 0 = .ok (.aload_n 0, 1) := by decide +kernel
theorem dX10_numberHere_1 : decode cX10_numberHere 1 = .ok (.getfield 31, 3) := by decide +kernel
theorem dX10_numberHere_4 : decode cX10_numberHere 4 = .ok (.bipush (-3), 2) := by decide +kernel
theorem dX10_numberHere_6 : decode cX10_numberHere 6 = .ok (.if_icmp .ne 16, 3) := by decide +kernel
theorem dX10_numberHere_22 : decode cX10_numberHere 22 = .ok (.iconst (-1), 1) := by decide +kernel
theorem dX10_numberHere_23 : decode cX10_numberHere 23 = .ok (.ireturn, 1) := by decide +kernel
theorem dX10_numberHere_9 : decode cX10_numberHere 9 = .ok (.aload_n 0, 1) := by decide +kernel
theorem dX10_numberHere_10 : decode cX10_numberHere 10 = .ok (.getfield 37, 3) := by decide +kernel
theorem dX10_numberHere_13 : decode cX10_numberHere 13 = .ok (.aload_n 0, 1) := by decide +kernel
theorem dX10_numberHere_14 : decode cX10_numberHere 14 = .ok (.getfield 34, 3) := by decide +kernel
theorem dX10_numberHere_17 : decode cX10_numberHere 17 = .ok (.isub, 1) := by decide +kernel
theorem dX10_numberHere_18 : decode cX10_numberHere 18 = .ok (.iconst 3, 1) := by decide +kernel
theorem dX10_numberHere_19 : decode cX10_numberHere 19 = .ok (.if_icmp .le 5, 3) := by decide +kernel
theorem dX10_numberHere_24 : decode cX10_numberHere 24 = .ok (.iconst 0, 1) := by decide +kernel
theorem dX10_numberHere_25 : decode cX10_numberHere 25 = .ok (.istore_n 1, 1) := by decide +kernel
theorem dX10_numberHere_26 : decode cX10_numberHere 26 = .ok (.aload_n 0, 1) := by decide +kernel
theorem dX10_numberHere_27 : decode cX10_numberHere 27 = .ok (.getfield 34, 3) := by decide +kernel
theorem dX10_numberHere_30 : decode cX10_numberHere 30 = .ok (.istore_n 2, 1) := by decide +kernel
theorem dX10_numberHere_31 : decode cX10_numberHere 31 = .ok (.iload_n 2, 1) := by decide +kernel
theorem dX10_numberHere_32 : decode cX10_numberHere 32 = .ok (.aload_n 0, 1) := by decide +kernel
theorem dX10_numberHere_33 : decode cX10_numberHere 33 = .ok (.getfield 37, 3) := by decide +kernel
theorem dX10_numberHere_36 : decode cX10_numberHere 36 = .ok (.if_icmp .ge 23, 3) := by decide +kernel
theorem dX10_numberHere_59 : decode cX10_numberHere 59 = .ok (.iload_n 1, 1) := by decide +kernel
theorem dX10_numberHere_60 : decode cX10_numberHere 60 = .ok (.ireturn, 1) := by decide +kernel
theorem dX10_numberHere_39 : decode cX10_numberHere 39 = .ok (.iload_n 1, 1) := by decide +kernel
theorem dX10_numberHere_40 : decode cX10_numberHere 40 = .ok (.bipush 10, 2) := by decide +kernel
theorem dX10_numberHere_42 : decode cX10_numberHere 42 = .ok (.imul, 1) := by decide +kernel
theorem dX10_numberHere_43 : decode cX10_numberHere 43 = .ok (.aload_n 0, 1) := by decide +kernel
theorem dX10_numberHere_44 : decode cX10_numberHere 44 = .ok (.iload_n 2, 1) := by decide +kernel
theorem dX10_numberHere_45 : decode cX10_numberHere 45 = .ok (.invokevirtual 78, 3) := by decide +kernel
theorem dX10_numberHere_48 : decode cX10_numberHere 48 = .ok (.iadd, 1) := by decide +kernel
theorem dX10_numberHere_49 : decode cX10_numberHere 49 = .ok (.bipush 48, 2) := by decide +kernel
theorem dX10_numberHere_51 : decode cX10_numberHere 51 = .ok (.isub, 1) := by decide +kernel
theorem dX10_numberHere_52 : decode cX10_numberHere 52 = .ok (.istore_n 1, 1) := by decide +kernel
theorem dX10_numberHere_53 : decode cX10_numberHere 53 = .ok (.iinc 2 1, 3) := by decide +kernel
theorem dX10_numberHere_56 : decode cX10_numberHere 56 = .ok (.goto (-25), 3) := by decide +kernel
theorem dX10_takesNumber_0 : decode cX10_takesNumber 0 = .ok (.aload_n 0, 1) := by decide +kernel
theorem dX10_takesNumber_1 : decode cX10_takesNumber 1 = .ok (.invokevirtual 109, 3) := by decide +kernel
theorem m_857 : Cond.code yX10_numberHere cX10_numberHere 3 (some .int) ∈ BW := List.mem_of_getElem? (i := 857) (by decide +kernel)
theorem m_854 : Cond.methodLink RX10 109 yX10_numberHere ∈ BW := List.mem_of_getElem? (i := 854) (by decide +kernel)
theorem m_855 : Cond.instanceMethod yX10_numberHere ∈ BW := List.mem_of_getElem? (i := 855) (by decide +kernel)
theorem m_856 : Cond.selects RX10 yX10_numberHere yX10_numberHere ∈ BW := List.mem_of_getElem? (i := 856) (by decide +kernel)
theorem si_X10_109 : SV RX10 RX10 109 yX10_numberHere cX10_numberHere 3 (some .int) 0 := ⟨⟨m_854, m_855, m_856, m_37, m_857⟩, rfl, by decide +kernel, by decide +kernel, by decide +kernel⟩
theorem dX10_takesNumber_4 : decode cX10_takesNumber 4 = .ok (.istore 4, 2) := by decide +kernel
theorem dX10_takesNumber_6 : decode cX10_takesNumber 6 = .ok (.iload 4, 2) := by decide +kernel
theorem dX10_takesNumber_8 : decode cX10_takesNumber 8 = .ok (.iconst 0, 1) := by decide +kernel
theorem dX10_takesNumber_9 : decode cX10_takesNumber 9 = .ok (.iload_n 3, 1) := by decide +kernel
theorem dX10_takesNumber_10 : decode cX10_takesNumber 10 = .ok (.invokestatic 89, 3) := by decide +kernel
theorem dX10_takesNumber_13 : decode cX10_takesNumber 13 = .ok (.ifCond .ne 8, 3) := by decide +kernel
theorem dX10_takesNumber_21 : decode cX10_takesNumber 21 = .ok (.aload_n 0, 1) := by decide +kernel
theorem dX10_takesNumber_22 : decode cX10_takesNumber 22 = .ok (.getfield 20, 3) := by decide +kernel
theorem m_141 : Cond.fieldLink RX10 20 "InquiryBench$Tape" "lines" "LInquiryBench$Table;" ∈ BW := List.mem_of_getElem? (i := 141) (by decide +kernel)
theorem gf_X10_20 (hC : CX p s m meth c y0 b0 mL0 rt0 args) (hy0 : y0.cls = RX10) (hK : KK G s) (hP : va_P G.1 vwCl ws H) (q0 : Nat) {fs : List Value} {v : Value} (he : ws[q0]? = some (a, .inr (10, fs))) (hv : fs[2]? = some v) (hdg : decode b0 pc = .ok (.getfield 20, 3)) (kk : W p l e R s m args below meth c H locs cells slots Q (F0 m (pc + 3) ls (v :: rest))) : W p l e R s m args below meth c H locs cells slots Q (F0 m pc ls (.ref a :: rest)) := by
  obtain ⟨hx, hb, hr, hml, hB, hown, hlocks, hnm⟩ := hC
  rw [hy0] at hown
  exact va_get (ci := 10) (C := RX10) (T := TX10) (N := 8) hx hb hB in_X10 hown hK.1 hP q0 he rfl 2 (by decide) (hB _ m_141) (fun _ h => h) hv hdg kk
theorem dX10_takesNumber_25 : decode cX10_takesNumber 25 = .ok (.iload_n 1, 1) := by decide +kernel
theorem dX10_takesNumber_26 : decode cX10_takesNumber 26 = .ok (.iload_n 2, 1) := by decide +kernel
theorem dX10_takesNumber_27 : decode cX10_takesNumber 27 = .ok (.iload 4, 2) := by decide +kernel
theorem dX10_takesNumber_29 : decode cX10_takesNumber 29 = .ok (.invokevirtual 66, 3) := by decide +kernel
theorem m_787 : Cond.methodLink RX10 66 yX8_set ∈ BW := List.mem_of_getElem? (i := 787) (by decide +kernel)
theorem si_X10_66 : SV RX10 RX8 66 yX8_set cX8_set 4 none 3 := ⟨⟨m_787, m_289, m_290, m_56, m_291⟩, rfl, by decide +kernel, by decide +kernel, by decide +kernel⟩
theorem dX10_takesNumber_32 : decode cX10_takesNumber 32 = .ok (.aload_n 0, 1) := by decide +kernel
theorem dX10_takesNumber_33 : decode cX10_takesNumber 33 = .ok (.invokevirtual 47, 3) := by decide +kernel
theorem dX10_takesNumber_36 : decode cX10_takesNumber 36 = .ok (.iconst 1, 1) := by decide +kernel
theorem dX10_takesNumber_37 : decode cX10_takesNumber 37 = .ok (.ireturn, 1) := by decide +kernel
theorem dX10_takesNumber_16 : decode cX10_takesNumber 16 = .ok (.aload_n 0, 1) := by decide +kernel
theorem dX10_takesNumber_17 : decode cX10_takesNumber 17 = .ok (.invokevirtual 106, 3) := by decide +kernel
theorem dX10_takesNumber_20 : decode cX10_takesNumber 20 = .ok (.ireturn, 1) := by decide +kernel
theorem dX10_addStep_0 : decode cX10_addStep 0 = .ok (.aload_n 0, 1) := by decide +kernel
theorem dX10_addStep_1 : decode cX10_addStep 1 = .ok (.getfield 24, 3) := by decide +kernel
theorem m_142 : Cond.fieldLink RX10 24 "InquiryBench$Tape" "steps" "LInquiryBench$Table;" ∈ BW := List.mem_of_getElem? (i := 142) (by decide +kernel)
theorem gf_X10_24 (hC : CX p s m meth c y0 b0 mL0 rt0 args) (hy0 : y0.cls = RX10) (hK : KK G s) (hP : va_P G.1 vwCl ws H) (q0 : Nat) {fs : List Value} {v : Value} (he : ws[q0]? = some (a, .inr (10, fs))) (hv : fs[3]? = some v) (hdg : decode b0 pc = .ok (.getfield 24, 3)) (kk : W p l e R s m args below meth c H locs cells slots Q (F0 m (pc + 3) ls (v :: rest))) : W p l e R s m args below meth c H locs cells slots Q (F0 m pc ls (.ref a :: rest)) := by
  obtain ⟨hx, hb, hr, hml, hB, hown, hlocks, hnm⟩ := hC
  rw [hy0] at hown
  exact va_get (ci := 10) (C := RX10) (T := TX10) (N := 8) hx hb hB in_X10 hown hK.1 hP q0 he rfl 3 (by decide) (hB _ m_142) (fun _ h => h) hv hdg kk
theorem dX10_addStep_4 : decode cX10_addStep 4 = .ok (.aload_n 0, 1) := by decide +kernel
theorem dX10_addStep_5 : decode cX10_addStep 5 = .ok (.getfield 24, 3) := by decide +kernel
theorem dX10_addStep_8 : decode cX10_addStep 8 = .ok (.invokevirtual 59, 3) := by decide +kernel
theorem m_782 : Cond.methodLink RX10 59 yX8_append ∈ BW := List.mem_of_getElem? (i := 782) (by decide +kernel)
theorem si_X10_59 : SV RX10 RX8 59 yX8_append cX8_append 1 (some .int) 0 := ⟨⟨m_782, m_285, m_286, m_56, m_287⟩, rfl, by decide +kernel, by decide +kernel, by decide +kernel⟩
theorem dX10_addStep_11 : decode cX10_addStep 11 = .ok (.iconst 0, 1) := by decide +kernel
theorem dX10_addStep_12 : decode cX10_addStep 12 = .ok (.iload_n 1, 1) := by decide +kernel
theorem dX10_addStep_13 : decode cX10_addStep 13 = .ok (.invokevirtual 66, 3) := by decide +kernel
theorem dX10_addStep_16 : decode cX10_addStep 16 = .ok (.return_, 1) := by decide +kernel
theorem dX10_factHere_0 : decode cX10_factHere 0 = .ok (.aload_n 0, 1) := by decide +kernel
theorem dX10_factHere_1 : decode cX10_factHere 1 = .ok (.ldc 171, 2) := by decide +kernel
theorem dX10_factHere_3 : decode cX10_factHere 3 = .ok (.invokevirtual 102, 3) := by decide +kernel
theorem dX10_factHere_6 : decode cX10_factHere 6 = .ok (.ifCond .eq 5, 3) := by decide +kernel
theorem dX10_factHere_9 : decode cX10_factHere 9 = .ok (.iconst 0, 1) := by decide +kernel
theorem dX10_factHere_10 : decode cX10_factHere 10 = .ok (.ireturn, 1) := by decide +kernel
theorem dX10_factHere_11 : decode cX10_factHere 11 = .ok (.aload_n 0, 1) := by decide +kernel
theorem dX10_factHere_12 : decode cX10_factHere 12 = .ok (.ldc 173, 2) := by decide +kernel
theorem dX10_factHere_14 : decode cX10_factHere 14 = .ok (.invokevirtual 102, 3) := by decide +kernel
theorem dX10_factHere_17 : decode cX10_factHere 17 = .ok (.ifCond .eq 5, 3) := by decide +kernel
theorem dX10_factHere_20 : decode cX10_factHere 20 = .ok (.iconst 1, 1) := by decide +kernel
theorem dX10_factHere_21 : decode cX10_factHere 21 = .ok (.ireturn, 1) := by decide +kernel
theorem dX10_factHere_22 : decode cX10_factHere 22 = .ok (.aload_n 0, 1) := by decide +kernel
theorem dX10_factHere_23 : decode cX10_factHere 23 = .ok (.ldc 175, 2) := by decide +kernel
theorem dX10_factHere_25 : decode cX10_factHere 25 = .ok (.invokevirtual 102, 3) := by decide +kernel
theorem dX10_factHere_28 : decode cX10_factHere 28 = .ok (.ifCond .eq 5, 3) := by decide +kernel
theorem dX10_factHere_31 : decode cX10_factHere 31 = .ok (.iconst 2, 1) := by decide +kernel
theorem dX10_factHere_32 : decode cX10_factHere 32 = .ok (.ireturn, 1) := by decide +kernel
theorem dX10_factHere_33 : decode cX10_factHere 33 = .ok (.aload_n 0, 1) := by decide +kernel
theorem dX10_factHere_34 : decode cX10_factHere 34 = .ok (.ldc 177, 2) := by decide +kernel
theorem dX10_factHere_36 : decode cX10_factHere 36 = .ok (.invokevirtual 102, 3) := by decide +kernel
theorem dX10_factHere_39 : decode cX10_factHere 39 = .ok (.ifCond .eq 5, 3) := by decide +kernel
theorem dX10_factHere_42 : decode cX10_factHere 42 = .ok (.iconst 3, 1) := by decide +kernel
theorem dX10_factHere_43 : decode cX10_factHere 43 = .ok (.ireturn, 1) := by decide +kernel
theorem dX10_factHere_44 : decode cX10_factHere 44 = .ok (.aload_n 0, 1) := by decide +kernel
theorem dX10_factHere_45 : decode cX10_factHere 45 = .ok (.ldc 179, 2) := by decide +kernel
theorem dX10_factHere_47 : decode cX10_factHere 47 = .ok (.invokevirtual 102, 3) := by decide +kernel
theorem dX10_factHere_50 : decode cX10_factHere 50 = .ok (.ifCond .eq 7, 3) := by decide +kernel
theorem dX10_factHere_53 : decode cX10_factHere 53 = .ok (.iconst 4, 1) := by decide +kernel
theorem dX10_factHere_54 : decode cX10_factHere 54 = .ok (.goto 4, 3) := by decide +kernel
theorem dX10_factHere_58 : decode cX10_factHere 58 = .ok (.ireturn, 1) := by decide +kernel
theorem dX10_factHere_57 : decode cX10_factHere 57 = .ok (.iconst (-1), 1) := by decide +kernel
theorem dX10_signHere_0 : decode cX10_signHere 0 = .ok (.aload_n 0, 1) := by decide +kernel
theorem dX10_signHere_1 : decode cX10_signHere 1 = .ok (.getfield 31, 3) := by decide +kernel
theorem dX10_signHere_4 : decode cX10_signHere 4 = .ok (.bipush 60, 2) := by decide +kernel
theorem dX10_signHere_6 : decode cX10_signHere 6 = .ok (.if_icmp .ne 5, 3) := by decide +kernel
theorem dX10_signHere_11 : decode cX10_signHere 11 = .ok (.aload_n 0, 1) := by decide +kernel
theorem dX10_signHere_12 : decode cX10_signHere 12 = .ok (.getfield 31, 3) := by decide +kernel
theorem dX10_signHere_15 : decode cX10_signHere 15 = .ok (.bipush 61, 2) := by decide +kernel
theorem dX10_signHere_17 : decode cX10_signHere 17 = .ok (.if_icmp .ne 5, 3) := by decide +kernel
theorem dX10_signHere_22 : decode cX10_signHere 22 = .ok (.aload_n 0, 1) := by decide +kernel
theorem dX10_signHere_23 : decode cX10_signHere 23 = .ok (.getfield 31, 3) := by decide +kernel
theorem dX10_signHere_26 : decode cX10_signHere 26 = .ok (.bipush 62, 2) := by decide +kernel
theorem dX10_signHere_28 : decode cX10_signHere 28 = .ok (.if_icmp .ne 7, 3) := by decide +kernel
theorem dX10_signHere_35 : decode cX10_signHere 35 = .ok (.iconst (-1), 1) := by decide +kernel
theorem dX10_signHere_36 : decode cX10_signHere 36 = .ok (.ireturn, 1) := by decide +kernel
theorem dX10_signHere_31 : decode cX10_signHere 31 = .ok (.iconst 2, 1) := by decide +kernel
theorem dX10_signHere_32 : decode cX10_signHere 32 = .ok (.goto 4, 3) := by decide +kernel
theorem dX10_signHere_20 : decode cX10_signHere 20 = .ok (.iconst 1, 1) := by decide +kernel
theorem dX10_signHere_21 : decode cX10_signHere 21 = .ok (.ireturn, 1) := by decide +kernel
theorem dX10_signHere_9 : decode cX10_signHere 9 = .ok (.iconst 0, 1) := by decide +kernel
theorem dX10_signHere_10 : decode cX10_signHere 10 = .ok (.ireturn, 1) := by decide +kernel
theorem dX10_sortHere_0 : decode cX10_sortHere 0 = .ok (.aload_n 0, 1) := by decide +kernel
theorem dX10_sortHere_1 : decode cX10_sortHere 1 = .ok (.ldc 127, 2) := by decide +kernel
theorem dX10_sortHere_3 : decode cX10_sortHere 3 = .ok (.invokevirtual 102, 3) := by decide +kernel
theorem dX10_sortHere_6 : decode cX10_sortHere 6 = .ok (.ifCond .eq 5, 3) := by decide +kernel
theorem dX10_sortHere_9 : decode cX10_sortHere 9 = .ok (.iconst 0, 1) := by decide +kernel
theorem dX10_sortHere_10 : decode cX10_sortHere 10 = .ok (.ireturn, 1) := by decide +kernel
theorem dX10_sortHere_11 : decode cX10_sortHere 11 = .ok (.aload_n 0, 1) := by decide +kernel
theorem dX10_sortHere_12 : decode cX10_sortHere 12 = .ok (.ldc 129, 2) := by decide +kernel
theorem dX10_sortHere_14 : decode cX10_sortHere 14 = .ok (.invokevirtual 102, 3) := by decide +kernel
theorem dX10_sortHere_17 : decode cX10_sortHere 17 = .ok (.ifCond .eq 5, 3) := by decide +kernel
theorem dX10_sortHere_20 : decode cX10_sortHere 20 = .ok (.iconst 1, 1) := by decide +kernel
theorem dX10_sortHere_21 : decode cX10_sortHere 21 = .ok (.ireturn, 1) := by decide +kernel
theorem dX10_sortHere_22 : decode cX10_sortHere 22 = .ok (.aload_n 0, 1) := by decide +kernel
theorem dX10_sortHere_23 : decode cX10_sortHere 23 = .ok (.ldc 131, 2) := by decide +kernel
theorem dX10_sortHere_25 : decode cX10_sortHere 25 = .ok (.invokevirtual 102, 3) := by decide +kernel
theorem dX10_sortHere_28 : decode cX10_sortHere 28 = .ok (.ifCond .eq 5, 3) := by decide +kernel
theorem dX10_sortHere_31 : decode cX10_sortHere 31 = .ok (.iconst 2, 1) := by decide +kernel
theorem dX10_sortHere_32 : decode cX10_sortHere 32 = .ok (.ireturn, 1) := by decide +kernel
theorem dX10_sortHere_33 : decode cX10_sortHere 33 = .ok (.aload_n 0, 1) := by decide +kernel
theorem dX10_sortHere_34 : decode cX10_sortHere 34 = .ok (.ldc 133, 2) := by decide +kernel
theorem dX10_sortHere_36 : decode cX10_sortHere 36 = .ok (.invokevirtual 102, 3) := by decide +kernel
theorem dX10_sortHere_39 : decode cX10_sortHere 39 = .ok (.ifCond .eq 7, 3) := by decide +kernel
theorem dX10_sortHere_42 : decode cX10_sortHere 42 = .ok (.iconst 3, 1) := by decide +kernel
theorem dX10_sortHere_43 : decode cX10_sortHere 43 = .ok (.goto 4, 3) := by decide +kernel
theorem dX10_sortHere_47 : decode cX10_sortHere 47 = .ok (.ireturn, 1) := by decide +kernel
theorem dX10_sortHere_46 : decode cX10_sortHere 46 = .ok (.iconst (-1), 1) := by decide +kernel
theorem dX10_takesComparison_0 : decode cX10_takesComparison 0 = .ok (.aload_n 0, 1) := by decide +kernel
theorem dX10_takesComparison_1 : decode cX10_takesComparison 1 = .ok (.invokevirtual 165, 3) := by decide +kernel
theorem m_885 : Cond.code yX10_factHere cX10_factHere 1 (some .int) ∈ BW := List.mem_of_getElem? (i := 885) (by decide +kernel)
theorem m_882 : Cond.methodLink RX10 165 yX10_factHere ∈ BW := List.mem_of_getElem? (i := 882) (by decide +kernel)
theorem m_883 : Cond.instanceMethod yX10_factHere ∈ BW := List.mem_of_getElem? (i := 883) (by decide +kernel)
theorem m_884 : Cond.selects RX10 yX10_factHere yX10_factHere ∈ BW := List.mem_of_getElem? (i := 884) (by decide +kernel)
theorem si_X10_165 : SV RX10 RX10 165 yX10_factHere cX10_factHere 1 (some .int) 0 := ⟨⟨m_882, m_883, m_884, m_37, m_885⟩, rfl, by decide +kernel, by decide +kernel, by decide +kernel⟩
theorem dX10_takesComparison_4 : decode cX10_takesComparison 4 = .ok (.istore_n 1, 1) := by decide +kernel
theorem dX10_takesComparison_5 : decode cX10_takesComparison 5 = .ok (.iload_n 1, 1) := by decide +kernel
theorem dX10_takesComparison_6 : decode cX10_takesComparison 6 = .ok (.ifCond .ge 8, 3) := by decide +kernel
theorem dX10_takesComparison_14 : decode cX10_takesComparison 14 = .ok (.aload_n 0, 1) := by decide +kernel
theorem dX10_takesComparison_15 : decode cX10_takesComparison 15 = .ok (.invokevirtual 47, 3) := by decide +kernel
theorem dX10_takesComparison_18 : decode cX10_takesComparison 18 = .ok (.aload_n 0, 1) := by decide +kernel
theorem dX10_takesComparison_19 : decode cX10_takesComparison 19 = .ok (.invokevirtual 168, 3) := by decide +kernel
theorem m_889 : Cond.code yX10_signHere cX10_signHere 1 (some .int) ∈ BW := List.mem_of_getElem? (i := 889) (by decide +kernel)
theorem m_886 : Cond.methodLink RX10 168 yX10_signHere ∈ BW := List.mem_of_getElem? (i := 886) (by decide +kernel)
theorem m_887 : Cond.instanceMethod yX10_signHere ∈ BW := List.mem_of_getElem? (i := 887) (by decide +kernel)
theorem m_888 : Cond.selects RX10 yX10_signHere yX10_signHere ∈ BW := List.mem_of_getElem? (i := 888) (by decide +kernel)
theorem si_X10_168 : SV RX10 RX10 168 yX10_signHere cX10_signHere 1 (some .int) 0 := ⟨⟨m_886, m_887, m_888, m_37, m_889⟩, rfl, by decide +kernel, by decide +kernel, by decide +kernel⟩
theorem dX10_takesComparison_22 : decode cX10_takesComparison 22 = .ok (.istore_n 2, 1) := by decide +kernel
theorem dX10_takesComparison_23 : decode cX10_takesComparison 23 = .ok (.iload_n 2, 1) := by decide +kernel
theorem dX10_takesComparison_24 : decode cX10_takesComparison 24 = .ok (.ifCond .ge 8, 3) := by decide +kernel
theorem dX10_takesComparison_32 : decode cX10_takesComparison 32 = .ok (.aload_n 0, 1) := by decide +kernel
theorem dX10_takesComparison_33 : decode cX10_takesComparison 33 = .ok (.invokevirtual 47, 3) := by decide +kernel
theorem dX10_takesComparison_36 : decode cX10_takesComparison 36 = .ok (.aload_n 0, 1) := by decide +kernel
theorem dX10_takesComparison_37 : decode cX10_takesComparison 37 = .ok (.invokevirtual 109, 3) := by decide +kernel
theorem dX10_takesComparison_40 : decode cX10_takesComparison 40 = .ok (.istore_n 3, 1) := by decide +kernel
theorem dX10_takesComparison_41 : decode cX10_takesComparison 41 = .ok (.iload_n 3, 1) := by decide +kernel
theorem dX10_takesComparison_42 : decode cX10_takesComparison 42 = .ok (.ifCond .ge 8, 3) := by decide +kernel
theorem dX10_takesComparison_50 : decode cX10_takesComparison 50 = .ok (.aload_n 0, 1) := by decide +kernel
theorem dX10_takesComparison_51 : decode cX10_takesComparison 51 = .ok (.invokevirtual 47, 3) := by decide +kernel
theorem dX10_takesComparison_54 : decode cX10_takesComparison 54 = .ok (.aload_n 0, 1) := by decide +kernel
theorem dX10_takesComparison_55 : decode cX10_takesComparison 55 = .ok (.iload_n 1, 1) := by decide +kernel
theorem dX10_takesComparison_56 : decode cX10_takesComparison 56 = .ok (.iconst 3, 1) := by decide +kernel
theorem dX10_takesComparison_57 : decode cX10_takesComparison 57 = .ok (.imul, 1) := by decide +kernel
theorem dX10_takesComparison_58 : decode cX10_takesComparison 58 = .ok (.iload_n 2, 1) := by decide +kernel
theorem dX10_takesComparison_59 : decode cX10_takesComparison 59 = .ok (.iadd, 1) := by decide +kernel
theorem dX10_takesComparison_60 : decode cX10_takesComparison 60 = .ok (.sipush 1000, 3) := by decide +kernel
theorem dX10_takesComparison_63 : decode cX10_takesComparison 63 = .ok (.imul, 1) := by decide +kernel
theorem dX10_takesComparison_64 : decode cX10_takesComparison 64 = .ok (.iload_n 3, 1) := by decide +kernel
theorem dX10_takesComparison_65 : decode cX10_takesComparison 65 = .ok (.iadd, 1) := by decide +kernel
theorem dX10_takesComparison_66 : decode cX10_takesComparison 66 = .ok (.invokevirtual 152, 3) := by decide +kernel
theorem m_872 : Cond.code yX10_addStep cX10_addStep 2 none ∈ BW := List.mem_of_getElem? (i := 872) (by decide +kernel)
theorem m_869 : Cond.methodLink RX10 152 yX10_addStep ∈ BW := List.mem_of_getElem? (i := 869) (by decide +kernel)
theorem m_870 : Cond.instanceMethod yX10_addStep ∈ BW := List.mem_of_getElem? (i := 870) (by decide +kernel)
theorem m_871 : Cond.selects RX10 yX10_addStep yX10_addStep ∈ BW := List.mem_of_getElem? (i := 871) (by decide +kernel)
theorem si_X10_152 : SV RX10 RX10 152 yX10_addStep cX10_addStep 2 none 1 := ⟨⟨m_869, m_870, m_871, m_37, m_872⟩, rfl, by decide +kernel, by decide +kernel, by decide +kernel⟩
theorem dX10_takesComparison_69 : decode cX10_takesComparison 69 = .ok (.iconst 1, 1) := by decide +kernel
theorem dX10_takesComparison_70 : decode cX10_takesComparison 70 = .ok (.ireturn, 1) := by decide +kernel
theorem dX10_takesComparison_45 : decode cX10_takesComparison 45 = .ok (.aload_n 0, 1) := by decide +kernel
theorem dX10_takesComparison_46 : decode cX10_takesComparison 46 = .ok (.invokevirtual 106, 3) := by decide +kernel
theorem dX10_takesComparison_49 : decode cX10_takesComparison 49 = .ok (.ireturn, 1) := by decide +kernel
theorem dX10_takesComparison_27 : decode cX10_takesComparison 27 = .ok (.aload_n 0, 1) := by decide +kernel
theorem dX10_takesComparison_28 : decode cX10_takesComparison 28 = .ok (.invokevirtual 106, 3) := by decide +kernel
theorem dX10_takesComparison_31 : decode cX10_takesComparison 31 = .ok (.ireturn, 1) := by decide +kernel
theorem dX10_takesComparison_9 : decode cX10_takesComparison 9 = .ok (.aload_n 0, 1) := by decide +kernel
theorem dX10_takesComparison_10 : decode cX10_takesComparison 10 = .ok (.invokevirtual 106, 3) := by decide +kernel
theorem dX10_takesComparison_13 : decode cX10_takesComparison 13 = .ok (.ireturn, 1) := by decide +kernel
theorem dX10_takesOne_0 : decode cX10_takesOne 0 = .ok (.iconst 0, 1) := by decide +kernel
theorem dX10_takesOne_1 : decode cX10_takesOne 1 = .ok (.istore_n 2, 1) := by decide +kernel
theorem dX10_takesOne_2 : decode cX10_takesOne 2 = .ok (.iconst 0, 1) := by decide +kernel
theorem dX10_takesOne_3 : decode cX10_takesOne 3 = .ok (.istore_n 3, 1) := by decide +kernel
theorem dX10_takesOne_4 : decode cX10_takesOne 4 = .ok (.iload_n 3, 1) := by decide +kernel
theorem dX10_takesOne_5 : decode cX10_takesOne 5 = .ok (.sipush 240, 3) := by decide +kernel
theorem dX10_takesOne_8 : decode cX10_takesOne 8 = .ok (.if_icmp .ge 32, 3) := by decide +kernel
theorem dX10_takesOne_40 : decode cX10_takesOne 40 = .ok (.aload_n 0, 1) := by decide +kernel
theorem dX10_takesOne_41 : decode cX10_takesOne 41 = .ok (.getfield 31, 3) := by decide +kernel
theorem dX10_takesOne_44 : decode cX10_takesOne 44 = .ok (.bipush 40, 2) := by decide +kernel
theorem dX10_takesOne_46 : decode cX10_takesOne 46 = .ok (.if_icmp .eq 12, 3) := by decide +kernel
theorem dX10_takesOne_58 : decode cX10_takesOne 58 = .ok (.iload_n 1, 1) := by decide +kernel
theorem dX10_takesOne_59 : decode cX10_takesOne 59 = .ok (.iconst 4, 1) := by decide +kernel
theorem dX10_takesOne_60 : decode cX10_takesOne 60 = .ok (.if_icmp .lt 8, 3) := by decide +kernel
theorem dX10_takesOne_63 : decode cX10_takesOne 63 = .ok (.aload_n 0, 1) := by decide +kernel
theorem dX10_takesOne_64 : decode cX10_takesOne 64 = .ok (.invokevirtual 106, 3) := by decide +kernel
theorem dX10_takesOne_67 : decode cX10_takesOne 67 = .ok (.ireturn, 1) := by decide +kernel
theorem dX10_takesOne_49 : decode cX10_takesOne 49 = .ok (.aload_n 0, 1) := by decide +kernel
theorem dX10_takesOne_50 : decode cX10_takesOne 50 = .ok (.invokevirtual 162, 3) := by decide +kernel
theorem m_881 : Cond.code yX10_takesComparison cX10_takesComparison 4 (some .boolean) ∈ BW := List.mem_of_getElem? (i := 881) (by decide +kernel)
theorem m_878 : Cond.methodLink RX10 162 yX10_takesComparison ∈ BW := List.mem_of_getElem? (i := 878) (by decide +kernel)
theorem m_879 : Cond.instanceMethod yX10_takesComparison ∈ BW := List.mem_of_getElem? (i := 879) (by decide +kernel)
theorem m_880 : Cond.selects RX10 yX10_takesComparison yX10_takesComparison ∈ BW := List.mem_of_getElem? (i := 880) (by decide +kernel)
theorem si_X10_162 : SV RX10 RX10 162 yX10_takesComparison cX10_takesComparison 4 (some .boolean) 0 := ⟨⟨m_878, m_879, m_880, m_37, m_881⟩, rfl, by decide +kernel, by decide +kernel, by decide +kernel⟩
theorem dX10_takesOne_53 : decode cX10_takesOne 53 = .ok (.ifCond .ne 40, 3) := by decide +kernel
theorem dX10_takesOne_93 : decode cX10_takesOne 93 = .ok (.iload_n 2, 1) := by decide +kernel
theorem dX10_takesOne_94 : decode cX10_takesOne 94 = .ok (.ifCond .eq 8, 3) := by decide +kernel
theorem dX10_takesOne_102 : decode cX10_takesOne 102 = .ok (.iconst 1, 1) := by decide +kernel
theorem dX10_takesOne_103 : decode cX10_takesOne 103 = .ok (.ireturn, 1) := by decide +kernel
theorem dX10_takesOne_97 : decode cX10_takesOne 97 = .ok (.aload_n 0, 1) := by decide +kernel
theorem dX10_takesOne_98 : decode cX10_takesOne 98 = .ok (.iconst (-1), 1) := by decide +kernel
theorem dX10_takesOne_99 : decode cX10_takesOne 99 = .ok (.invokevirtual 152, 3) := by decide +kernel
theorem dX10_takesOne_56 : decode cX10_takesOne 56 = .ok (.iconst 0, 1) := by decide +kernel
theorem dX10_takesOne_57 : decode cX10_takesOne 57 = .ok (.ireturn, 1) := by decide +kernel
theorem dX10_takesOne_11 : decode cX10_takesOne 11 = .ok (.aload_n 0, 1) := by decide +kernel
theorem dX10_takesOne_12 : decode cX10_takesOne 12 = .ok (.ldc 160, 2) := by decide +kernel
theorem dX10_takesOne_14 : decode cX10_takesOne 14 = .ok (.invokevirtual 102, 3) := by decide +kernel
theorem dX10_takesOne_17 : decode cX10_takesOne 17 = .ok (.ifCond .eq 23, 3) := by decide +kernel
theorem dX10_takesOne_20 : decode cX10_takesOne 20 = .ok (.aload_n 0, 1) := by decide +kernel
theorem dX10_takesOne_21 : decode cX10_takesOne 21 = .ok (.invokevirtual 47, 3) := by decide +kernel
theorem dX10_takesOne_24 : decode cX10_takesOne 24 = .ok (.iload_n 2, 1) := by decide +kernel
theorem dX10_takesOne_25 : decode cX10_takesOne 25 = .ok (.ifCond .ne 7, 3) := by decide +kernel
theorem dX10_takesOne_32 : decode cX10_takesOne 32 = .ok (.iconst 0, 1) := by decide +kernel
theorem dX10_takesOne_33 : decode cX10_takesOne 33 = .ok (.istore_n 2, 1) := by decide +kernel
theorem dX10_takesOne_34 : decode cX10_takesOne 34 = .ok (.iinc 3 1, 3) := by decide +kernel
theorem dX10_takesOne_37 : decode cX10_takesOne 37 = .ok (.goto (-33), 3) := by decide +kernel
theorem dX10_takesOne_28 : decode cX10_takesOne 28 = .ok (.iconst 1, 1) := by decide +kernel
theorem dX10_takesOne_29 : decode cX10_takesOne 29 = .ok (.goto 4, 3) := by decide +kernel
theorem dX10_takesAll_0 : decode cX10_takesAll 0 = .ok (.aload_n 0, 1) := by decide +kernel
theorem dX10_takesAll_1 : decode cX10_takesAll 1 = .ok (.iload_n 1, 1) := by decide +kernel
theorem dX10_takesAll_2 : decode cX10_takesAll 2 = .ok (.invokevirtual 155, 3) := by decide +kernel
theorem m_877 : Cond.code yX10_takesOne cX10_takesOne 4 (some .boolean) ∈ BW := List.mem_of_getElem? (i := 877) (by decide +kernel)
theorem m_874 : Cond.methodLink RX10 155 yX10_takesOne ∈ BW := List.mem_of_getElem? (i := 874) (by decide +kernel)
theorem m_875 : Cond.instanceMethod yX10_takesOne ∈ BW := List.mem_of_getElem? (i := 875) (by decide +kernel)
theorem m_876 : Cond.selects RX10 yX10_takesOne yX10_takesOne ∈ BW := List.mem_of_getElem? (i := 876) (by decide +kernel)
theorem si_X10_155 : SV RX10 RX10 155 yX10_takesOne cX10_takesOne 4 (some .boolean) 1 := ⟨⟨m_874, m_875, m_876, m_37, m_877⟩, rfl, by decide +kernel, by decide +kernel, by decide +kernel⟩
theorem dX10_takesAll_5 : decode cX10_takesAll 5 = .ok (.ifCond .ne 5, 3) := by decide +kernel
theorem dX10_takesAll_10 : decode cX10_takesAll 10 = .ok (.iconst 0, 1) := by decide +kernel
theorem dX10_takesAll_11 : decode cX10_takesAll 11 = .ok (.istore_n 2, 1) := by decide +kernel
theorem dX10_takesAll_12 : decode cX10_takesAll 12 = .ok (.iload_n 2, 1) := by decide +kernel
theorem dX10_takesAll_13 : decode cX10_takesAll 13 = .ok (.sipush 240, 3) := by decide +kernel
theorem dX10_takesAll_16 : decode cX10_takesAll 16 = .ok (.if_icmp .ge 38, 3) := by decide +kernel
theorem dX10_takesAll_54 : decode cX10_takesAll 54 = .ok (.iconst 1, 1) := by decide +kernel
theorem dX10_takesAll_55 : decode cX10_takesAll 55 = .ok (.ireturn, 1) := by decide +kernel
theorem dX10_takesAll_19 : decode cX10_takesAll 19 = .ok (.aload_n 0, 1) := by decide +kernel
theorem dX10_takesAll_20 : decode cX10_takesAll 20 = .ok (.ldc 158, 2) := by decide +kernel
theorem dX10_takesAll_22 : decode cX10_takesAll 22 = .ok (.invokevirtual 102, 3) := by decide +kernel
theorem dX10_takesAll_25 : decode cX10_takesAll 25 = .ok (.ifCond .eq 29, 3) := by decide +kernel
theorem dX10_takesAll_28 : decode cX10_takesAll 28 = .ok (.aload_n 0, 1) := by decide +kernel
theorem dX10_takesAll_29 : decode cX10_takesAll 29 = .ok (.invokevirtual 47, 3) := by decide +kernel
theorem dX10_takesAll_32 : decode cX10_takesAll 32 = .ok (.aload_n 0, 1) := by decide +kernel
theorem dX10_takesAll_33 : decode cX10_takesAll 33 = .ok (.iload_n 1, 1) := by decide +kernel
theorem dX10_takesAll_34 : decode cX10_takesAll 34 = .ok (.invokevirtual 155, 3) := by decide +kernel
theorem dX10_takesAll_37 : decode cX10_takesAll 37 = .ok (.ifCond .ne 5, 3) := by decide +kernel
theorem dX10_takesAll_42 : decode cX10_takesAll 42 = .ok (.aload_n 0, 1) := by decide +kernel
theorem dX10_takesAll_43 : decode cX10_takesAll 43 = .ok (.bipush (-2), 2) := by decide +kernel
theorem dX10_takesAll_45 : decode cX10_takesAll 45 = .ok (.invokevirtual 152, 3) := by decide +kernel
theorem dX10_takesAll_48 : decode cX10_takesAll 48 = .ok (.iinc 2 1, 3) := by decide +kernel
theorem dX10_takesAll_51 : decode cX10_takesAll 51 = .ok (.goto (-39), 3) := by decide +kernel
theorem dX10_takesAll_40 : decode cX10_takesAll 40 = .ok (.iconst 0, 1) := by decide +kernel
theorem dX10_takesAll_41 : decode cX10_takesAll 41 = .ok (.ireturn, 1) := by decide +kernel
theorem dX10_takesAll_8 : decode cX10_takesAll 8 = .ok (.iconst 0, 1) := by decide +kernel
theorem dX10_takesAll_9 : decode cX10_takesAll 9 = .ok (.ireturn, 1) := by decide +kernel
theorem dX10_takesCond_0 : decode cX10_takesCond 0 = .ok (.aload_n 0, 1) := by decide +kernel
theorem dX10_takesCond_1 : decode cX10_takesCond 1 = .ok (.iload_n 1, 1) := by decide +kernel
theorem dX10_takesCond_2 : decode cX10_takesCond 2 = .ok (.invokevirtual 147, 3) := by decide +kernel
theorem m_873 : Cond.code yX10_takesAll cX10_takesAll 3 (some .boolean) ∈ BW := List.mem_of_getElem? (i := 873) (by decide +kernel)
theorem m_866 : Cond.methodLink RX10 147 yX10_takesAll ∈ BW := List.mem_of_getElem? (i := 866) (by decide +kernel)
theorem m_867 : Cond.instanceMethod yX10_takesAll ∈ BW := List.mem_of_getElem? (i := 867) (by decide +kernel)
theorem m_868 : Cond.selects RX10 yX10_takesAll yX10_takesAll ∈ BW := List.mem_of_getElem? (i := 868) (by decide +kernel)
theorem si_X10_147 : SV RX10 RX10 147 yX10_takesAll cX10_takesAll 3 (some .boolean) 1 := ⟨⟨m_866, m_867, m_868, m_37, m_873⟩, rfl, by decide +kernel, by decide +kernel, by decide +kernel⟩
theorem dX10_takesCond_5 : decode cX10_takesCond 5 = .ok (.ifCond .ne 5, 3) := by decide +kernel
theorem dX10_takesCond_10 : decode cX10_takesCond 10 = .ok (.iconst 0, 1) := by decide +kernel
theorem dX10_takesCond_11 : decode cX10_takesCond 11 = .ok (.istore_n 2, 1) := by decide +kernel
theorem dX10_takesCond_12 : decode cX10_takesCond 12 = .ok (.iload_n 2, 1) := by decide +kernel
theorem dX10_takesCond_13 : decode cX10_takesCond 13 = .ok (.sipush 240, 3) := by decide +kernel
theorem dX10_takesCond_16 : decode cX10_takesCond 16 = .ok (.if_icmp .ge 38, 3) := by decide +kernel
theorem dX10_takesCond_54 : decode cX10_takesCond 54 = .ok (.iconst 1, 1) := by decide +kernel
theorem dX10_takesCond_55 : decode cX10_takesCond 55 = .ok (.ireturn, 1) := by decide +kernel
theorem dX10_takesCond_19 : decode cX10_takesCond 19 = .ok (.aload_n 0, 1) := by decide +kernel
theorem dX10_takesCond_20 : decode cX10_takesCond 20 = .ok (.ldc 150, 2) := by decide +kernel
theorem dX10_takesCond_22 : decode cX10_takesCond 22 = .ok (.invokevirtual 102, 3) := by decide +kernel
theorem dX10_takesCond_25 : decode cX10_takesCond 25 = .ok (.ifCond .eq 29, 3) := by decide +kernel
theorem dX10_takesCond_28 : decode cX10_takesCond 28 = .ok (.aload_n 0, 1) := by decide +kernel
theorem dX10_takesCond_29 : decode cX10_takesCond 29 = .ok (.invokevirtual 47, 3) := by decide +kernel
theorem dX10_takesCond_32 : decode cX10_takesCond 32 = .ok (.aload_n 0, 1) := by decide +kernel
theorem dX10_takesCond_33 : decode cX10_takesCond 33 = .ok (.iload_n 1, 1) := by decide +kernel
theorem dX10_takesCond_34 : decode cX10_takesCond 34 = .ok (.invokevirtual 147, 3) := by decide +kernel
theorem dX10_takesCond_37 : decode cX10_takesCond 37 = .ok (.ifCond .ne 5, 3) := by decide +kernel
theorem dX10_takesCond_42 : decode cX10_takesCond 42 = .ok (.aload_n 0, 1) := by decide +kernel
theorem dX10_takesCond_43 : decode cX10_takesCond 43 = .ok (.bipush (-3), 2) := by decide +kernel
theorem dX10_takesCond_45 : decode cX10_takesCond 45 = .ok (.invokevirtual 152, 3) := by decide +kernel
theorem dX10_takesCond_48 : decode cX10_takesCond 48 = .ok (.iinc 2 1, 3) := by decide +kernel
theorem dX10_takesCond_51 : decode cX10_takesCond 51 = .ok (.goto (-39), 3) := by decide +kernel
theorem dX10_takesCond_40 : decode cX10_takesCond 40 = .ok (.iconst 0, 1) := by decide +kernel
theorem dX10_takesCond_41 : decode cX10_takesCond 41 = .ok (.ireturn, 1) := by decide +kernel
theorem dX10_takesCond_8 : decode cX10_takesCond 8 = .ok (.iconst 0, 1) := by decide +kernel
theorem dX10_takesCond_9 : decode cX10_takesCond 9 = .ok (.ireturn, 1) := by decide +kernel
theorem dX10_takesOne_68 : decode cX10_takesOne 68 = .ok (.aload_n 0, 1) := by decide +kernel
theorem dX10_takesOne_69 : decode cX10_takesOne 69 = .ok (.invokevirtual 47, 3) := by decide +kernel
theorem dX10_takesOne_72 : decode cX10_takesOne 72 = .ok (.aload_n 0, 1) := by decide +kernel
theorem dX10_takesOne_73 : decode cX10_takesOne 73 = .ok (.iload_n 1, 1) := by decide +kernel
theorem dX10_takesOne_74 : decode cX10_takesOne 74 = .ok (.iconst 1, 1) := by decide +kernel
theorem dX10_takesOne_75 : decode cX10_takesOne 75 = .ok (.iadd, 1) := by decide +kernel
theorem dX10_takesOne_76 : decode cX10_takesOne 76 = .ok (.invokevirtual 121, 3) := by decide +kernel
theorem m_865 : Cond.code yX10_takesCond cX10_takesCond 3 (some .boolean) ∈ BW := List.mem_of_getElem? (i := 865) (by decide +kernel)
theorem m_862 : Cond.methodLink RX10 121 yX10_takesCond ∈ BW := List.mem_of_getElem? (i := 862) (by decide +kernel)
theorem m_863 : Cond.instanceMethod yX10_takesCond ∈ BW := List.mem_of_getElem? (i := 863) (by decide +kernel)
theorem m_864 : Cond.selects RX10 yX10_takesCond yX10_takesCond ∈ BW := List.mem_of_getElem? (i := 864) (by decide +kernel)
theorem si_X10_121 : SV RX10 RX10 121 yX10_takesCond cX10_takesCond 3 (some .boolean) 1 := ⟨⟨m_862, m_863, m_864, m_37, m_865⟩, rfl, by decide +kernel, by decide +kernel, by decide +kernel⟩
theorem dX10_takesOne_79 : decode cX10_takesOne 79 = .ok (.ifCond .eq 12, 3) := by decide +kernel
theorem dX10_takesOne_82 : decode cX10_takesOne 82 = .ok (.aload_n 0, 1) := by decide +kernel
theorem dX10_takesOne_83 : decode cX10_takesOne 83 = .ok (.bipush 41, 2) := by decide +kernel
theorem dX10_takesOne_85 : decode cX10_takesOne 85 = .ok (.invokevirtual 124, 3) := by decide +kernel
theorem m_893 : Cond.code yX10_takesByte cX10_takesByte 2 (some .boolean) ∈ BW := List.mem_of_getElem? (i := 893) (by decide +kernel)
theorem m_890 : Cond.methodLink RX10 124 yX10_takesByte ∈ BW := List.mem_of_getElem? (i := 890) (by decide +kernel)
theorem m_891 : Cond.instanceMethod yX10_takesByte ∈ BW := List.mem_of_getElem? (i := 891) (by decide +kernel)
theorem m_892 : Cond.selects RX10 yX10_takesByte yX10_takesByte ∈ BW := List.mem_of_getElem? (i := 892) (by decide +kernel)
theorem si_X10_124 : SV RX10 RX10 124 yX10_takesByte cX10_takesByte 2 (some .boolean) 1 := ⟨⟨m_890, m_891, m_892, m_37, m_893⟩, rfl, by decide +kernel, by decide +kernel, by decide +kernel⟩
theorem dX10_takesOne_88 : decode cX10_takesOne 88 = .ok (.ifCond .ne 5, 3) := by decide +kernel
theorem dX10_takesOne_91 : decode cX10_takesOne 91 = .ok (.iconst 0, 1) := by decide +kernel
theorem dX10_takesOne_92 : decode cX10_takesOne 92 = .ok (.ireturn, 1) := by decide +kernel
end WR
set_option maxHeartbeats 4000000 in
set_option maxRecDepth 100000 in
theorem t_byteAt (l : Launch) (G : GG) (h0 : Nat) (ix : Int32) (tby : Nat) (kt : Nat) (tln : Nat) (tsp : Nat) (tkd : Int32) (ts9 : Int32) (tn9 : Int32) (tf9 : Int32) (fby : Nat → Int32) : MP l G yX10_byteAt cX10_byteAt 2 (some .int) 1 [.ref h0, .int ix] [(h0, .inr (10, [.ref tby, .int (nI kt), .ref tln, .ref tsp, .int tkd, .int ts9, .int tn9, .int tf9])), (tby, .inl (G.2.1, 240, .inl fby))] (fun r : Int32 => True) := by
  refine MP.start (by decide +kernel) (Nat.le_of_ble_eq_true rfl) ?_
  intro p e s m below meth c ls hC hK hP hD hl
  have hl : lv_has ls 2 [(0, .ref h0), (1, .int ix)] := hl
  obtain ⟨hx, hb, hr, hml, hB, hown, hlocks, hnm⟩ := id hC
  refine lv_iload_n hx hb dX10_byteAt_0 rfl (lv_at hl 1 rfl) ?_
  refine lv_if_lt (tgt := 30) hx hb dX10_byteAt_1 (by decide) (fun c_1_2571 => ?_) (fun c_1_2571 => ?_)
  · refine lv_iconst (v := (-1)) hx hb dX10_byteAt_30 (by decide) ?_
    exact RP (v := (-1)) hC (trivial) rfl dX10_byteAt_31
  · refine lv_iload_n hx hb dX10_byteAt_4 rfl (lv_at hl 1 rfl) ?_
    refine lv_aload_n hx hb dX10_byteAt_5 rfl (lv_at hl 0 rfl) ?_
    refine gf_X10_27 hC rfl hK hP 0 rfl rfl dX10_byteAt_6 ?_
    refine lv_icmp_ge (tgt := 30) hx hb dX10_byteAt_9 (by decide) (fun c_9_2572 => ?_) (fun c_9_2572 => ?_)
    · refine lv_iconst (v := (-1)) hx hb dX10_byteAt_30 (by decide) ?_
      exact RP (v := (-1)) hC (trivial) rfl dX10_byteAt_31
    · refine lv_iload_n hx hb dX10_byteAt_12 rfl (lv_at hl 1 rfl) ?_
      refine lv_aload_n hx hb dX10_byteAt_13 rfl (lv_at hl 0 rfl) ?_
      refine gf_X10_9 hC rfl hK hP 0 rfl rfl dX10_byteAt_14 ?_
      refine va_alen (v := 240) hx hb hK.1 hP 1 0 rfl rfl (show Int32.ofNat 240 = 240 by decide) dX10_byteAt_17 ?_
      refine lv_icmp_ge (tgt := 30) hx hb dX10_byteAt_18 (by decide) (fun c_18_2573 => ?_) (fun c_18_2573 => ?_)
      · refine lv_iconst (v := (-1)) hx hb dX10_byteAt_30 (by decide) ?_
        exact RP (v := (-1)) hC (trivial) rfl dX10_byteAt_31
      · refine lv_aload_n hx hb dX10_byteAt_21 rfl (lv_at hl 0 rfl) ?_
        obtain ⟨ji, hji, rfl⟩ := ltN (N := 240) (by decide) c_1_2571 c_18_2573
        refine gf_X10_9 hC rfl hK hP 0 rfl rfl dX10_byteAt_22 ?_
        refine lv_iload_n hx hb dX10_byteAt_25 rfl (lv_at hl 1 rfl) ?_
        refine ald hC hK hP 1 rfl (vp_in_nI (by omega) (by omega)) (k := ji) (nI_clamp (by omega)) (v := fby ji) rfl dX10_byteAt_26 ?_
        refine lv_topi (fun x2574 ex2574 => ?_)
        refine lv_goto (tgt := 31) hx hb dX10_byteAt_27 (by decide) ?_
        exact RP (v := x2574) hC (trivial) rfl dX10_byteAt_31
set_option maxHeartbeats 4000000 in
set_option maxRecDepth 100000 in
theorem t_byteAtN (l : Launch) (G : GG) (h0 : Nat) (j9 : Nat) (tby : Nat) (kt : Nat) (tln : Nat) (tsp : Nat) (tkd : Int32) (ts9 : Int32) (tn9 : Int32) (tf9 : Int32) (fby : Nat → Int32) (hj9 : j9 < 2 ^ 31) : MP l G yX10_byteAt cX10_byteAt 2 (some .int) 1 [.ref h0, .int (nI j9)] [(h0, .inr (10, [.ref tby, .int (nI kt), .ref tln, .ref tsp, .int tkd, .int ts9, .int tn9, .int tf9])), (tby, .inl (G.2.1, 240, .inl fby))] (fun r : Int32 => r = (-1) ∨ (r = (fby j9) ∧ j9 < 240)) := by
  refine MP.start (by decide +kernel) (Nat.le_of_ble_eq_true rfl) ?_
  intro p e s m below meth c ls hC hK hP hD hl
  have hl : lv_has ls 2 [(0, .ref h0), (1, .int (nI j9))] := hl
  obtain ⟨hx, hb, hr, hml, hB, hown, hlocks, hnm⟩ := id hC
  refine lv_iload_n hx hb dX10_byteAt_0 rfl (lv_at hl 1 rfl) ?_
  refine lv_if_lt (tgt := 30) hx hb dX10_byteAt_1 (by decide) (fun c9 => absurd c9 (nI_pos (by omega))) (fun _ => ?_)
  refine lv_iload_n hx hb dX10_byteAt_4 rfl (lv_at hl 1 rfl) ?_
  refine lv_aload_n hx hb dX10_byteAt_5 rfl (lv_at hl 0 rfl) ?_
  refine gf_X10_27 hC rfl hK hP 0 rfl rfl dX10_byteAt_6 ?_
  refine lv_icmp_ge (tgt := 30) hx hb dX10_byteAt_9 (by decide) (fun c_9_2575 => ?_) (fun c_9_2575 => ?_)
  · refine lv_iconst (v := (-1)) hx hb dX10_byteAt_30 (by decide) ?_
    exact RP (v := (-1)) hC (Or.inl rfl) rfl dX10_byteAt_31
  · refine lv_iload_n hx hb dX10_byteAt_12 rfl (lv_at hl 1 rfl) ?_
    refine lv_aload_n hx hb dX10_byteAt_13 rfl (lv_at hl 0 rfl) ?_
    refine gf_X10_9 hC rfl hK hP 0 rfl rfl dX10_byteAt_14 ?_
    refine va_alen (v := 240) hx hb hK.1 hP 1 0 rfl rfl (show Int32.ofNat 240 = 240 by decide) dX10_byteAt_17 ?_
    refine lv_icmp_ge (tgt := 30) hx hb dX10_byteAt_18 (by decide) (fun c_18_2576 => ?_) (fun c_18_2576 => ?_)
    · refine lv_iconst (v := (-1)) hx hb dX10_byteAt_30 (by decide) ?_
      exact RP (v := (-1)) hC (Or.inl rfl) rfl dX10_byteAt_31
    · refine lv_aload_n hx hb dX10_byteAt_21 rfl (lv_at hl 0 rfl) ?_
      have hj240 := nge_nat (R := 240) (k := j9) (by decide) (by omega) c_18_2576
      refine gf_X10_9 hC rfl hK hP 0 rfl rfl dX10_byteAt_22 ?_
      refine lv_iload_n hx hb dX10_byteAt_25 rfl (lv_at hl 1 rfl) ?_
      refine ald hC hK hP 1 rfl (vp_in_nI (by omega) (by omega)) (k := j9) (nI_clamp (by omega)) (v := (fby j9)) (rfl) dX10_byteAt_26 ?_
      refine lv_goto (tgt := 31) hx hb dX10_byteAt_27 (by decide) ?_
      exact RP (v := (fby j9)) hC (Or.inr ⟨rfl, by omega⟩) rfl dX10_byteAt_31
set_option maxHeartbeats 4000000 in
set_option maxRecDepth 100000 in
theorem t_letter (l : Launch) (G : GG) (b9 : Int32) : MP l G yX10_isLetter cX10_isLetter 1 (some .boolean) 2 [.int b9] [] (fun r : Int32 => r = 1 ∨ r = 0) := by
  refine MP.start (by decide +kernel) (Nat.le_of_ble_eq_true rfl) ?_
  intro p e s m below meth c ls hC hK hP hD hl
  have hl : lv_has ls 1 [(0, .int b9)] := hl
  obtain ⟨hx, hb, hr, hml, hB, hown, hlocks, hnm⟩ := id hC
  refine lv_iload_n hx hb dX10_isLetter_0 rfl (lv_at hl 0 rfl) ?_
  refine lv_bipush (v := 97) hx hb dX10_isLetter_1 (by decide) ?_
  refine lv_bipush (v := 122) hx hb dX10_isLetter_3 (by decide) ?_
  refine pSN hC hK hl (c_within l G b9 97 122) si_X10_89 rfl rfl (Nat.le_of_ble_eq_true rfl) ⟨Nat.le_of_ble_eq_true rfl, Nat.le_of_ble_eq_true rfl⟩ ⟨by first | exact Nat.le_of_ble_eq_true rfl | exact Nat.zero_le _, by first | exact Nat.le_of_ble_eq_true rfl | exact Nat.zero_le _⟩ dX10_isLetter_5 (fun r2577 hr2577 => ?_)
  rcases hr2577 with ⟨rfl, a2578⟩ | ⟨rfl, a2578⟩
  · exact RP (v := 1) hC (Or.inl (rfl)) (by decide +kernel) dX10_isLetter_8
  · exact RP (v := 0) hC (Or.inr (rfl)) (by decide +kernel) dX10_isLetter_8
set_option maxHeartbeats 4000000 in
set_option maxRecDepth 100000 in
theorem t_digit (l : Launch) (G : GG) (b9 : Int32) : MP l G yX10_isDigit cX10_isDigit 1 (some .boolean) 2 [.int b9] [] (fun r : Int32 => r = 1 ∨ r = 0) := by
  refine MP.start (by decide +kernel) (Nat.le_of_ble_eq_true rfl) ?_
  intro p e s m below meth c ls hC hK hP hD hl
  have hl : lv_has ls 1 [(0, .int b9)] := hl
  obtain ⟨hx, hb, hr, hml, hB, hown, hlocks, hnm⟩ := id hC
  refine lv_iload_n hx hb dX10_isDigit_0 rfl (lv_at hl 0 rfl) ?_
  refine lv_bipush (v := 48) hx hb dX10_isDigit_1 (by decide) ?_
  refine lv_bipush (v := 57) hx hb dX10_isDigit_3 (by decide) ?_
  refine pSN hC hK hl (c_within l G b9 48 57) si_X10_89 rfl rfl (Nat.le_of_ble_eq_true rfl) ⟨Nat.le_of_ble_eq_true rfl, Nat.le_of_ble_eq_true rfl⟩ ⟨by first | exact Nat.le_of_ble_eq_true rfl | exact Nat.zero_le _, by first | exact Nat.le_of_ble_eq_true rfl | exact Nat.zero_le _⟩ dX10_isDigit_5 (fun r2579 hr2579 => ?_)
  rcases hr2579 with ⟨rfl, a2580⟩ | ⟨rfl, a2580⟩
  · exact RP (v := 1) hC (Or.inl (rfl)) (by decide +kernel) dX10_isDigit_8
  · exact RP (v := 0) hC (Or.inr (rfl)) (by decide +kernel) dX10_isDigit_8
set_option maxHeartbeats 4000000 in
set_option maxRecDepth 100000 in
theorem t_refuse (l : Launch) (G : GG) (h0 : Nat) (tby : Nat) (kt : Nat) (tln : Nat) (tsp : Nat) (tkd : Int32) (ks : Nat) (kn : Nat) (tf9 : Int32) : MI l G yX10_refuse cX10_refuse 1 (some .boolean) 1 0 0 [.ref h0] [(h0, .inr (10, [.ref tby, .int (nI kt), .ref tln, .ref tsp, .int tkd, .int (nI ks), .int (nI kn), .int tf9]))] (fun (r : Int32) (u : Int32) => (r = 0)) (fun u : Int32 => [(h0, .inr (10, [.ref tby, .int (nI kt), .ref tln, .ref tsp, .int tkd, .int (nI ks), .int (nI kn), .int u]))]) := by
  refine MI.start (by decide +kernel) (Nat.le_of_ble_eq_true rfl) ?_
  intro p e s m below meth c A ls hC hK hP hD hS hA hl
  have hl : lv_has ls 1 [(0, .ref h0)] := hl
  obtain ⟨hx, hb, hr, hml, hB, hown, hlocks, hnm⟩ := id hC
  refine lv_aload_n hx hb dX10_refuse_0 rfl (lv_at hl 0 rfl) ?_
  refine lv_aload_n hx hb dX10_refuse_1 rfl (lv_at hl 0 rfl) ?_
  refine gf_X10_34 hC rfl hK hP 0 rfl rfl dX10_refuse_2 ?_
  refine pf_X10_40 hC rfl hK hP hD hS 0 (ws' := [(h0, .inr (10, [.ref tby, .int (nI kt), .ref tln, .ref tsp, .int tkd, .int (nI ks), .int (nI kn), .int (nI ks)]))]) rfl (Nat.le_of_ble_eq_true rfl) rfl rfl rfl dX10_refuse_5 (fun H locs hP hD hS => ?_)
  refine lv_iconst (v := 0) hx hb dX10_refuse_8 (by decide) ?_
  exact RI (v := 0) hC hP hD hS [0] (nI ks) rfl rfl (by decide) (rfl) (by decide +kernel) dX10_refuse_9
set_option maxHeartbeats 4000000 in
set_option maxRecDepth 100000 in
theorem t_clear (l : Launch) (G : GG) (h0 : Nat) (tby : Nat) (kt : Nat) (tln : Nat) (tsp : Nat) (tkd : Int32) (ts9 : Int32) (tn9 : Int32) (tf9 : Int32) : MV l G yX10_clear cX10_clear 1 1 0 0 [.ref h0] [(h0, .inr (10, [.ref tby, .int (nI kt), .ref tln, .ref tsp, .int tkd, .int ts9, .int tn9, .int tf9]))] (fun u : Unit => True) (fun u : Unit => [(h0, .inr (10, [.ref tby, .int 0, .ref tln, .ref tsp, .int tkd, .int ts9, .int tn9, .int tf9]))]) := by
  refine MV.start (by decide +kernel) (Nat.le_of_ble_eq_true rfl) ?_
  intro p e s m below meth c A ls hC hK hP hD hS hA hl
  have hl : lv_has ls 1 [(0, .ref h0)] := hl
  obtain ⟨hx, hb, hr, hml, hB, hown, hlocks, hnm⟩ := id hC
  refine lv_aload_n hx hb dX10_clear_0 rfl (lv_at hl 0 rfl) ?_
  refine lv_iconst (v := 0) hx hb dX10_clear_1 (by decide) ?_
  refine pf_X10_27 hC rfl hK hP hD hS 0 (ws' := [(h0, .inr (10, [.ref tby, .int 0, .ref tln, .ref tsp, .int tkd, .int ts9, .int tn9, .int tf9]))]) rfl (Nat.le_of_ble_eq_true rfl) rfl rfl rfl dX10_clear_2 (fun H locs hP hD hS => ?_)
  exact RV hC hP hD hS [0] () rfl rfl (by decide) (trivial) dX10_clear_5
set_option maxHeartbeats 4000000 in
set_option maxRecDepth 100000 in
theorem t_advance (l : Launch) (G : GG) (h0 : Nat) (tby : Nat) (kt : Nat) (tln : Nat) (tsp : Nat) (tkd : Int32) (ks : Nat) (kn : Nat) (tf9 : Int32) (fby : Nat → Int32) (hkt : kt ≤ 240) (hks : ks ≤ 240) (hkn : kn ≤ 240) : MV l G yX10_advance cX10_advance 1 3 0 0 [.ref h0] [(h0, .inr (10, [.ref tby, .int (nI kt), .ref tln, .ref tsp, .int tkd, .int (nI ks), .int (nI kn), .int tf9])), (tby, .inl (G.2.1, 240, .inl fby))] (fun u : Int32 × Nat × Nat => u.2.1 ≤ 240 ∧ u.2.2 ≤ 240) (fun u : Int32 × Nat × Nat => [(h0, .inr (10, [.ref tby, .int (nI kt), .ref tln, .ref tsp, .int u.1, .int (nI u.2.1), .int (nI u.2.2), .int tf9])), (tby, .inl (G.2.1, 240, .inl fby))]) := by
  refine MV.start (by decide +kernel) (Nat.le_of_ble_eq_true rfl) ?_
  intro p e s m below meth c A ls hC hK hP hD hS hA hl
  have hl : lv_has ls 1 [(0, .ref h0)] := hl
  obtain ⟨hx, hb, hr, hml, hB, hown, hlocks, hnm⟩ := id hC
  refine lv_aload_n hx hb dX10_advance_0 rfl (lv_at hl 0 rfl) ?_
  refine lv_aload_n hx hb dX10_advance_1 rfl (lv_at hl 0 rfl) ?_
  refine gf_X10_37 hC rfl hK hP 0 rfl rfl dX10_advance_2 ?_
  refine pf_X10_34 hC rfl hK hP hD hS 0 (ws' := [(h0, .inr (10, [.ref tby, .int (nI kt), .ref tln, .ref tsp, .int tkd, .int (nI kn), .int (nI kn), .int tf9])), (tby, .inl (G.2.1, 240, .inl fby))]) rfl (Nat.le_of_ble_eq_true rfl) rfl rfl rfl dX10_advance_5 (fun H locs hP hD hS => ?_)
  have keyA : ∀ (nA jA : Nat) (H : Heap) (locs : List Loc) (ls : Array Slot), kt ≤ jA + nA → jA ≤ 240 → va_P G.1 vwCl [(h0, .inr (10, [.ref tby, .int (nI kt), .ref tln, .ref tsp, .int tkd, .int (nI jA), .int (nI kn), .int tf9])), (tby, .inl (G.2.1, 240, .inl fby))] H → va_D A [(h0, .inr (10, [.ref tby, .int (nI kt), .ref tln, .ref tsp, .int tkd, .int (nI jA), .int (nI kn), .int tf9])), (tby, .inl (G.2.1, 240, .inl fby))] → va_S A s.heap H locs → lv_has ls 1 [(0, .ref h0)] → W p l e (RM 3 0 0) s m ([.ref h0] : List Value).toArray below meth c H locs 0 0 (MQ below (QV G (fun u : Int32 × Nat × Nat => u.2.1 ≤ 240 ∧ u.2.2 ≤ 240) (fun u : Int32 × Nat × Nat => [(h0, .inr (10, [.ref tby, .int (nI kt), .ref tln, .ref tsp, .int u.1, .int (nI u.2.1), .int (nI u.2.2), .int tf9])), (tby, .inl (G.2.1, 240, .inl fby))]) A) ([.ref h0] : List Value).toArray s 0 0 A) (F0 m 8 ls []) := by
    intro nA
    induction nA with
    | zero =>
      intro jA H locs ls hkA hmA hP hD hS hl
      have hzA : nI kt ≤ nI jA := (nI_leI (by omega) (by omega)).mpr (by omega)
      refine lv_aload_n hx hb dX10_advance_8 rfl (lv_at hl 0 rfl) ?_
      refine gf_X10_34 hC rfl hK hP 0 rfl rfl dX10_advance_9 ?_
      refine lv_aload_n hx hb dX10_advance_12 rfl (lv_at hl 0 rfl) ?_
      refine gf_X10_27 hC rfl hK hP 0 rfl rfl dX10_advance_13 ?_
      refine lv_icmp_ge (tgt := 45) hx hb dX10_advance_16 (by decide) (fun _ => ?_) (fun c9 => absurd (hzA) c9)
      refine lv_aload_n hx hb dX10_advance_45 rfl (lv_at hl 0 rfl) ?_
      refine lv_aload_n hx hb dX10_advance_46 rfl (lv_at hl 0 rfl) ?_
      refine gf_X10_34 hC rfl hK hP 0 rfl rfl dX10_advance_47 ?_
      refine pf_X10_37 hC rfl hK hP hD hS 0 (ws' := [(h0, .inr (10, [.ref tby, .int (nI kt), .ref tln, .ref tsp, .int tkd, .int (nI jA), .int (nI jA), .int tf9])), (tby, .inl (G.2.1, 240, .inl fby))]) rfl (Nat.le_of_ble_eq_true rfl) rfl rfl rfl dX10_advance_50 (fun H locs hP hD hS => ?_)
      refine lv_aload_n hx hb dX10_advance_53 rfl (lv_at hl 0 rfl) ?_
      refine lv_aload_n hx hb dX10_advance_54 rfl (lv_at hl 0 rfl) ?_
      refine gf_X10_34 hC rfl hK hP 0 rfl rfl dX10_advance_55 ?_
      refine pV hC hK hl hP hD (t_byteAt l G h0 (nI jA) tby kt tln tsp tkd (nI jA) (nI jA) tf9 fby) si_X10_78 [0, 1] rfl rfl (by decide) rfl rfl rfl rfl rfl (Nat.le_of_ble_eq_true rfl) ⟨Nat.le_of_ble_eq_true rfl, Nat.le_of_ble_eq_true rfl⟩ ⟨by first | exact Nat.le_of_ble_eq_true rfl | exact Nat.zero_le _, by first | exact Nat.le_of_ble_eq_true rfl | exact Nat.zero_le _⟩ dX10_advance_58 (fun r2581 hr2581 => ?_)
      refine pS hC hK hl (t_letter l G r2581) si_X10_82 rfl rfl (Nat.le_of_ble_eq_true rfl) ⟨Nat.le_of_ble_eq_true rfl, Nat.le_of_ble_eq_true rfl⟩ ⟨by first | exact Nat.le_of_ble_eq_true rfl | exact Nat.zero_le _, by first | exact Nat.le_of_ble_eq_true rfl | exact Nat.zero_le _⟩ dX10_advance_61 (fun r2582 hr2582 => ?_)
      rcases hr2582 with rfl | rfl
      · refine lv_if_eq (tgt := 111) hx hb dX10_advance_64 (by decide) (fun c9 => absurd c9 (by decide)) (fun _ => ?_)
        refine lv_aload_n hx hb dX10_advance_67 rfl (lv_at hl 0 rfl) ?_
        refine lv_bipush (v := (-2)) hx hb dX10_advance_68 (by decide) ?_
        refine pf_X10_31 hC rfl hK hP hD hS 0 (ws' := [(h0, .inr (10, [.ref tby, .int (nI kt), .ref tln, .ref tsp, .int (-2), .int (nI jA), .int (nI jA), .int tf9])), (tby, .inl (G.2.1, 240, .inl fby))]) rfl (Nat.le_of_ble_eq_true rfl) rfl rfl rfl dX10_advance_70 (fun H locs hP hD hS => ?_)
        have keyB : ∀ (nB jB : Nat) (H : Heap) (locs : List Loc) (ls : Array Slot), kt ≤ jB + nB → jB ≤ 240 → va_P G.1 vwCl [(h0, .inr (10, [.ref tby, .int (nI kt), .ref tln, .ref tsp, .int (-2), .int (nI jA), .int (nI jB), .int tf9])), (tby, .inl (G.2.1, 240, .inl fby))] H → va_D A [(h0, .inr (10, [.ref tby, .int (nI kt), .ref tln, .ref tsp, .int (-2), .int (nI jA), .int (nI jB), .int tf9])), (tby, .inl (G.2.1, 240, .inl fby))] → va_S A s.heap H locs → lv_has ls 1 [(0, .ref h0)] → W p l e (RM 3 0 0) s m ([.ref h0] : List Value).toArray below meth c H locs 0 0 (MQ below (QV G (fun u : Int32 × Nat × Nat => u.2.1 ≤ 240 ∧ u.2.2 ≤ 240) (fun u : Int32 × Nat × Nat => [(h0, .inr (10, [.ref tby, .int (nI kt), .ref tln, .ref tsp, .int u.1, .int (nI u.2.1), .int (nI u.2.2), .int tf9])), (tby, .inl (G.2.1, 240, .inl fby))]) A) ([.ref h0] : List Value).toArray s 0 0 A) (F0 m 73 ls []) := by
          intro nB
          induction nB with
          | zero =>
            intro jB H locs ls hkB hmB hP hD hS hl
            have hzB : nI kt ≤ nI jB := (nI_leI (by omega) (by omega)).mpr (by omega)
            refine lv_aload_n hx hb dX10_advance_73 rfl (lv_at hl 0 rfl) ?_
            refine gf_X10_37 hC rfl hK hP 0 rfl rfl dX10_advance_74 ?_
            refine lv_aload_n hx hb dX10_advance_77 rfl (lv_at hl 0 rfl) ?_
            refine gf_X10_27 hC rfl hK hP 0 rfl rfl dX10_advance_78 ?_
            refine lv_icmp_ge (tgt := 199) hx hb dX10_advance_81 (by decide) (fun _ => ?_) (fun c9 => absurd (hzB) c9)
            exact RV hC hP hD hS [0, 1] ((-2), jA, jB) rfl rfl (by decide) (by dsimp only; omega) dX10_advance_199
          | succ nB ihB =>
            intro jB H locs ls hkB hmB hP hD hS hl
            refine lv_aload_n hx hb dX10_advance_73 rfl (lv_at hl 0 rfl) ?_
            refine gf_X10_37 hC rfl hK hP 0 rfl rfl dX10_advance_74 ?_
            refine lv_aload_n hx hb dX10_advance_77 rfl (lv_at hl 0 rfl) ?_
            refine gf_X10_27 hC rfl hK hP 0 rfl rfl dX10_advance_78 ?_
            refine lv_icmp_ge (tgt := 199) hx hb dX10_advance_81 (by decide) (fun c_81_2584 => ?_) (fun c_81_2584 => ?_)
            · exact RV hC hP hD hS [0, 1] ((-2), jA, jB) rfl rfl (by decide) (by dsimp only; omega) dX10_advance_199
            · refine lv_aload_n hx hb dX10_advance_84 rfl (lv_at hl 0 rfl) ?_
              refine lv_aload_n hx hb dX10_advance_85 rfl (lv_at hl 0 rfl) ?_
              refine gf_X10_37 hC rfl hK hP 0 rfl rfl dX10_advance_86 ?_
              refine pV hC hK hl hP hD (t_byteAt l G h0 (nI jB) tby kt tln tsp (-2) (nI jA) (nI jB) tf9 fby) si_X10_78 [0, 1] rfl rfl (by decide) rfl rfl rfl rfl rfl (Nat.le_of_ble_eq_true rfl) ⟨Nat.le_of_ble_eq_true rfl, Nat.le_of_ble_eq_true rfl⟩ ⟨by first | exact Nat.le_of_ble_eq_true rfl | exact Nat.zero_le _, by first | exact Nat.le_of_ble_eq_true rfl | exact Nat.zero_le _⟩ dX10_advance_89 (fun r2585 hr2585 => ?_)
              refine pS hC hK hl (t_letter l G r2585) si_X10_82 rfl rfl (Nat.le_of_ble_eq_true rfl) ⟨Nat.le_of_ble_eq_true rfl, Nat.le_of_ble_eq_true rfl⟩ ⟨by first | exact Nat.le_of_ble_eq_true rfl | exact Nat.zero_le _, by first | exact Nat.le_of_ble_eq_true rfl | exact Nat.zero_le _⟩ dX10_advance_92 (fun r2586 hr2586 => ?_)
              rcases hr2586 with rfl | rfl
              · refine lv_if_eq (tgt := 199) hx hb dX10_advance_95 (by decide) (fun c9 => absurd c9 (by decide)) (fun _ => ?_)
                refine lv_aload_n hx hb dX10_advance_98 rfl (lv_at hl 0 rfl) ?_
                refine lv_dup hx hb dX10_advance_99 rfl ?_
                refine gf_X10_37 hC rfl hK hP 0 rfl rfl dX10_advance_100 ?_
                refine lv_iconst (v := 1) hx hb dX10_advance_103 (by decide) ?_
                refine lv_iadd hx hb dX10_advance_104 ?_
                refine eqi (x1 := nI (jB + 1)) (nI_1 _) ?_
                refine pf_X10_37 hC rfl hK hP hD hS 0 (ws' := [(h0, .inr (10, [.ref tby, .int (nI kt), .ref tln, .ref tsp, .int (-2), .int (nI jA), .int (nI (jB + 1)), .int tf9])), (tby, .inl (G.2.1, 240, .inl fby))]) rfl (Nat.le_of_ble_eq_true rfl) rfl rfl rfl dX10_advance_105 (fun H locs hP hD hS => ?_)
                refine lv_goto (tgt := 73) hx hb dX10_advance_108 (by decide) ?_
                have hnB9 := nge_nat (R := kt) (k := jB) (by omega) (by omega) c_81_2584
                exact ihB (jB + 1) _ _ _ (by omega) (by omega) hP hD hS (lv_sub hl [0] rfl)
              · refine lv_if_eq (tgt := 199) hx hb dX10_advance_95 (by decide) (fun _ => ?_) (fun c9 => absurd (by decide) c9)
                exact RV hC hP hD hS [0, 1] ((-2), jA, jB) rfl rfl (by decide) (by dsimp only; omega) dX10_advance_199
        exact keyB kt jA _ _ _ (by omega) (by omega) hP hD hS (lv_sub hl [0] rfl)
      · refine lv_if_eq (tgt := 111) hx hb dX10_advance_64 (by decide) (fun _ => ?_) (fun c9 => absurd (by decide) c9)
        refine lv_aload_n hx hb dX10_advance_111 rfl (lv_at hl 0 rfl) ?_
        refine lv_aload_n hx hb dX10_advance_112 rfl (lv_at hl 0 rfl) ?_
        refine gf_X10_34 hC rfl hK hP 0 rfl rfl dX10_advance_113 ?_
        refine pV hC hK hl hP hD (t_byteAt l G h0 (nI jA) tby kt tln tsp tkd (nI jA) (nI jA) tf9 fby) si_X10_78 [0, 1] rfl rfl (by decide) rfl rfl rfl rfl rfl (Nat.le_of_ble_eq_true rfl) ⟨Nat.le_of_ble_eq_true rfl, Nat.le_of_ble_eq_true rfl⟩ ⟨by first | exact Nat.le_of_ble_eq_true rfl | exact Nat.zero_le _, by first | exact Nat.le_of_ble_eq_true rfl | exact Nat.zero_le _⟩ dX10_advance_116 (fun r2588 hr2588 => ?_)
        refine pS hC hK hl (t_digit l G r2588) si_X10_86 rfl rfl (Nat.le_of_ble_eq_true rfl) ⟨Nat.le_of_ble_eq_true rfl, Nat.le_of_ble_eq_true rfl⟩ ⟨by first | exact Nat.le_of_ble_eq_true rfl | exact Nat.zero_le _, by first | exact Nat.le_of_ble_eq_true rfl | exact Nat.zero_le _⟩ dX10_advance_119 (fun r2589 hr2589 => ?_)
        rcases hr2589 with rfl | rfl
        · refine lv_if_eq (tgt := 169) hx hb dX10_advance_122 (by decide) (fun c9 => absurd c9 (by decide)) (fun _ => ?_)
          refine lv_aload_n hx hb dX10_advance_125 rfl (lv_at hl 0 rfl) ?_
          refine lv_bipush (v := (-3)) hx hb dX10_advance_126 (by decide) ?_
          refine pf_X10_31 hC rfl hK hP hD hS 0 (ws' := [(h0, .inr (10, [.ref tby, .int (nI kt), .ref tln, .ref tsp, .int (-3), .int (nI jA), .int (nI jA), .int tf9])), (tby, .inl (G.2.1, 240, .inl fby))]) rfl (Nat.le_of_ble_eq_true rfl) rfl rfl rfl dX10_advance_128 (fun H locs hP hD hS => ?_)
          have keyC : ∀ (nC jC : Nat) (H : Heap) (locs : List Loc) (ls : Array Slot), kt ≤ jC + nC → jC ≤ 240 → va_P G.1 vwCl [(h0, .inr (10, [.ref tby, .int (nI kt), .ref tln, .ref tsp, .int (-3), .int (nI jA), .int (nI jC), .int tf9])), (tby, .inl (G.2.1, 240, .inl fby))] H → va_D A [(h0, .inr (10, [.ref tby, .int (nI kt), .ref tln, .ref tsp, .int (-3), .int (nI jA), .int (nI jC), .int tf9])), (tby, .inl (G.2.1, 240, .inl fby))] → va_S A s.heap H locs → lv_has ls 1 [(0, .ref h0)] → W p l e (RM 3 0 0) s m ([.ref h0] : List Value).toArray below meth c H locs 0 0 (MQ below (QV G (fun u : Int32 × Nat × Nat => u.2.1 ≤ 240 ∧ u.2.2 ≤ 240) (fun u : Int32 × Nat × Nat => [(h0, .inr (10, [.ref tby, .int (nI kt), .ref tln, .ref tsp, .int u.1, .int (nI u.2.1), .int (nI u.2.2), .int tf9])), (tby, .inl (G.2.1, 240, .inl fby))]) A) ([.ref h0] : List Value).toArray s 0 0 A) (F0 m 131 ls []) := by
            intro nC
            induction nC with
            | zero =>
              intro jC H locs ls hkC hmC hP hD hS hl
              have hzC : nI kt ≤ nI jC := (nI_leI (by omega) (by omega)).mpr (by omega)
              refine lv_aload_n hx hb dX10_advance_131 rfl (lv_at hl 0 rfl) ?_
              refine gf_X10_37 hC rfl hK hP 0 rfl rfl dX10_advance_132 ?_
              refine lv_aload_n hx hb dX10_advance_135 rfl (lv_at hl 0 rfl) ?_
              refine gf_X10_27 hC rfl hK hP 0 rfl rfl dX10_advance_136 ?_
              refine lv_icmp_ge (tgt := 199) hx hb dX10_advance_139 (by decide) (fun _ => ?_) (fun c9 => absurd (hzC) c9)
              exact RV hC hP hD hS [0, 1] ((-3), jA, jC) rfl rfl (by decide) (by dsimp only; omega) dX10_advance_199
            | succ nC ihC =>
              intro jC H locs ls hkC hmC hP hD hS hl
              refine lv_aload_n hx hb dX10_advance_131 rfl (lv_at hl 0 rfl) ?_
              refine gf_X10_37 hC rfl hK hP 0 rfl rfl dX10_advance_132 ?_
              refine lv_aload_n hx hb dX10_advance_135 rfl (lv_at hl 0 rfl) ?_
              refine gf_X10_27 hC rfl hK hP 0 rfl rfl dX10_advance_136 ?_
              refine lv_icmp_ge (tgt := 199) hx hb dX10_advance_139 (by decide) (fun c_139_2591 => ?_) (fun c_139_2591 => ?_)
              · exact RV hC hP hD hS [0, 1] ((-3), jA, jC) rfl rfl (by decide) (by dsimp only; omega) dX10_advance_199
              · refine lv_aload_n hx hb dX10_advance_142 rfl (lv_at hl 0 rfl) ?_
                refine lv_aload_n hx hb dX10_advance_143 rfl (lv_at hl 0 rfl) ?_
                refine gf_X10_37 hC rfl hK hP 0 rfl rfl dX10_advance_144 ?_
                refine pV hC hK hl hP hD (t_byteAt l G h0 (nI jC) tby kt tln tsp (-3) (nI jA) (nI jC) tf9 fby) si_X10_78 [0, 1] rfl rfl (by decide) rfl rfl rfl rfl rfl (Nat.le_of_ble_eq_true rfl) ⟨Nat.le_of_ble_eq_true rfl, Nat.le_of_ble_eq_true rfl⟩ ⟨by first | exact Nat.le_of_ble_eq_true rfl | exact Nat.zero_le _, by first | exact Nat.le_of_ble_eq_true rfl | exact Nat.zero_le _⟩ dX10_advance_147 (fun r2592 hr2592 => ?_)
                refine pS hC hK hl (t_digit l G r2592) si_X10_86 rfl rfl (Nat.le_of_ble_eq_true rfl) ⟨Nat.le_of_ble_eq_true rfl, Nat.le_of_ble_eq_true rfl⟩ ⟨by first | exact Nat.le_of_ble_eq_true rfl | exact Nat.zero_le _, by first | exact Nat.le_of_ble_eq_true rfl | exact Nat.zero_le _⟩ dX10_advance_150 (fun r2593 hr2593 => ?_)
                rcases hr2593 with rfl | rfl
                · refine lv_if_eq (tgt := 199) hx hb dX10_advance_153 (by decide) (fun c9 => absurd c9 (by decide)) (fun _ => ?_)
                  refine lv_aload_n hx hb dX10_advance_156 rfl (lv_at hl 0 rfl) ?_
                  refine lv_dup hx hb dX10_advance_157 rfl ?_
                  refine gf_X10_37 hC rfl hK hP 0 rfl rfl dX10_advance_158 ?_
                  refine lv_iconst (v := 1) hx hb dX10_advance_161 (by decide) ?_
                  refine lv_iadd hx hb dX10_advance_162 ?_
                  refine eqi (x1 := nI (jC + 1)) (nI_1 _) ?_
                  refine pf_X10_37 hC rfl hK hP hD hS 0 (ws' := [(h0, .inr (10, [.ref tby, .int (nI kt), .ref tln, .ref tsp, .int (-3), .int (nI jA), .int (nI (jC + 1)), .int tf9])), (tby, .inl (G.2.1, 240, .inl fby))]) rfl (Nat.le_of_ble_eq_true rfl) rfl rfl rfl dX10_advance_163 (fun H locs hP hD hS => ?_)
                  refine lv_goto (tgt := 131) hx hb dX10_advance_166 (by decide) ?_
                  have hnC9 := nge_nat (R := kt) (k := jC) (by omega) (by omega) c_139_2591
                  exact ihC (jC + 1) _ _ _ (by omega) (by omega) hP hD hS (lv_sub hl [0] rfl)
                · refine lv_if_eq (tgt := 199) hx hb dX10_advance_153 (by decide) (fun _ => ?_) (fun c9 => absurd (by decide) c9)
                  exact RV hC hP hD hS [0, 1] ((-3), jA, jC) rfl rfl (by decide) (by dsimp only; omega) dX10_advance_199
          exact keyC kt jA _ _ _ (by omega) (by omega) hP hD hS (lv_sub hl [0] rfl)
        · refine lv_if_eq (tgt := 169) hx hb dX10_advance_122 (by decide) (fun _ => ?_) (fun c9 => absurd (by decide) c9)
          refine lv_aload_n hx hb dX10_advance_169 rfl (lv_at hl 0 rfl) ?_
          refine lv_aload_n hx hb dX10_advance_170 rfl (lv_at hl 0 rfl) ?_
          refine lv_aload_n hx hb dX10_advance_171 rfl (lv_at hl 0 rfl) ?_
          refine gf_X10_34 hC rfl hK hP 0 rfl rfl dX10_advance_172 ?_
          refine pV hC hK hl hP hD (t_byteAtN l G h0 jA tby kt tln tsp tkd (nI jA) (nI jA) tf9 fby (by omega)) si_X10_78 [0, 1] rfl rfl (by decide) rfl rfl rfl rfl rfl (Nat.le_of_ble_eq_true rfl) ⟨Nat.le_of_ble_eq_true rfl, Nat.le_of_ble_eq_true rfl⟩ ⟨by first | exact Nat.le_of_ble_eq_true rfl | exact Nat.zero_le _, by first | exact Nat.le_of_ble_eq_true rfl | exact Nat.zero_le _⟩ dX10_advance_175 (fun r2595 hr2595 => ?_)
          rcases hr2595 with rfl | ⟨rfl, a2596⟩
          · refine pf_X10_31 hC rfl hK hP hD hS 0 (ws' := [(h0, .inr (10, [.ref tby, .int (nI kt), .ref tln, .ref tsp, .int (-1), .int (nI jA), .int (nI jA), .int tf9])), (tby, .inl (G.2.1, 240, .inl fby))]) rfl (Nat.le_of_ble_eq_true rfl) rfl rfl rfl dX10_advance_178 (fun H locs hP hD hS => ?_)
            refine lv_aload_n hx hb dX10_advance_181 rfl (lv_at hl 0 rfl) ?_
            refine gf_X10_31 hC rfl hK hP 0 rfl rfl dX10_advance_182 ?_
            refine lv_iconst (v := (-1)) hx hb dX10_advance_185 (by decide) ?_
            refine lv_icmp_eq (tgt := 199) hx hb dX10_advance_186 (by decide) (fun _ => ?_) (fun c9 => absurd (by decide) c9)
            exact RV hC hP hD hS [0, 1] ((-1), jA, jA) rfl rfl (by decide) (by dsimp only; omega) dX10_advance_199
          · refine pf_X10_31 hC rfl hK hP hD hS 0 (ws' := [(h0, .inr (10, [.ref tby, .int (nI kt), .ref tln, .ref tsp, .int (fby jA), .int (nI jA), .int (nI jA), .int tf9])), (tby, .inl (G.2.1, 240, .inl fby))]) rfl (Nat.le_of_ble_eq_true rfl) rfl rfl rfl dX10_advance_178 (fun H locs hP hD hS => ?_)
            refine lv_aload_n hx hb dX10_advance_181 rfl (lv_at hl 0 rfl) ?_
            refine gf_X10_31 hC rfl hK hP 0 rfl rfl dX10_advance_182 ?_
            refine lv_iconst (v := (-1)) hx hb dX10_advance_185 (by decide) ?_
            refine lv_icmp_eq (tgt := 199) hx hb dX10_advance_186 (by decide) (fun c_186_2597 => ?_) (fun c_186_2597 => ?_)
            · exact RV hC hP hD hS [0, 1] ((fby jA), jA, jA) rfl rfl (by decide) (by dsimp only; omega) dX10_advance_199
            · refine lv_aload_n hx hb dX10_advance_189 rfl (lv_at hl 0 rfl) ?_
              refine lv_dup hx hb dX10_advance_190 rfl ?_
              refine gf_X10_37 hC rfl hK hP 0 rfl rfl dX10_advance_191 ?_
              refine lv_iconst (v := 1) hx hb dX10_advance_194 (by decide) ?_
              refine lv_iadd hx hb dX10_advance_195 ?_
              refine eqi (x1 := nI (jA + 1)) (nI_1 _) ?_
              refine pf_X10_37 hC rfl hK hP hD hS 0 (ws' := [(h0, .inr (10, [.ref tby, .int (nI kt), .ref tln, .ref tsp, .int (fby jA), .int (nI jA), .int (nI (jA + 1)), .int tf9])), (tby, .inl (G.2.1, 240, .inl fby))]) rfl (Nat.le_of_ble_eq_true rfl) rfl rfl rfl dX10_advance_196 (fun H locs hP hD hS => ?_)
              exact RV hC hP hD hS [0, 1] ((fby jA), jA, (jA + 1)) rfl rfl (by decide) (by dsimp only; omega) dX10_advance_199
    | succ nA ihA =>
      intro jA H locs ls hkA hmA hP hD hS hl
      refine lv_aload_n hx hb dX10_advance_8 rfl (lv_at hl 0 rfl) ?_
      refine gf_X10_34 hC rfl hK hP 0 rfl rfl dX10_advance_9 ?_
      refine lv_aload_n hx hb dX10_advance_12 rfl (lv_at hl 0 rfl) ?_
      refine gf_X10_27 hC rfl hK hP 0 rfl rfl dX10_advance_13 ?_
      refine lv_icmp_ge (tgt := 45) hx hb dX10_advance_16 (by decide) (fun c_16_2598 => ?_) (fun c_16_2598 => ?_)
      · refine lv_aload_n hx hb dX10_advance_45 rfl (lv_at hl 0 rfl) ?_
        refine lv_aload_n hx hb dX10_advance_46 rfl (lv_at hl 0 rfl) ?_
        refine gf_X10_34 hC rfl hK hP 0 rfl rfl dX10_advance_47 ?_
        refine pf_X10_37 hC rfl hK hP hD hS 0 (ws' := [(h0, .inr (10, [.ref tby, .int (nI kt), .ref tln, .ref tsp, .int tkd, .int (nI jA), .int (nI jA), .int tf9])), (tby, .inl (G.2.1, 240, .inl fby))]) rfl (Nat.le_of_ble_eq_true rfl) rfl rfl rfl dX10_advance_50 (fun H locs hP hD hS => ?_)
        refine lv_aload_n hx hb dX10_advance_53 rfl (lv_at hl 0 rfl) ?_
        refine lv_aload_n hx hb dX10_advance_54 rfl (lv_at hl 0 rfl) ?_
        refine gf_X10_34 hC rfl hK hP 0 rfl rfl dX10_advance_55 ?_
        refine pV hC hK hl hP hD (t_byteAt l G h0 (nI jA) tby kt tln tsp tkd (nI jA) (nI jA) tf9 fby) si_X10_78 [0, 1] rfl rfl (by decide) rfl rfl rfl rfl rfl (Nat.le_of_ble_eq_true rfl) ⟨Nat.le_of_ble_eq_true rfl, Nat.le_of_ble_eq_true rfl⟩ ⟨by first | exact Nat.le_of_ble_eq_true rfl | exact Nat.zero_le _, by first | exact Nat.le_of_ble_eq_true rfl | exact Nat.zero_le _⟩ dX10_advance_58 (fun r2599 hr2599 => ?_)
        refine pS hC hK hl (t_letter l G r2599) si_X10_82 rfl rfl (Nat.le_of_ble_eq_true rfl) ⟨Nat.le_of_ble_eq_true rfl, Nat.le_of_ble_eq_true rfl⟩ ⟨by first | exact Nat.le_of_ble_eq_true rfl | exact Nat.zero_le _, by first | exact Nat.le_of_ble_eq_true rfl | exact Nat.zero_le _⟩ dX10_advance_61 (fun r2600 hr2600 => ?_)
        rcases hr2600 with rfl | rfl
        · refine lv_if_eq (tgt := 111) hx hb dX10_advance_64 (by decide) (fun c9 => absurd c9 (by decide)) (fun _ => ?_)
          refine lv_aload_n hx hb dX10_advance_67 rfl (lv_at hl 0 rfl) ?_
          refine lv_bipush (v := (-2)) hx hb dX10_advance_68 (by decide) ?_
          refine pf_X10_31 hC rfl hK hP hD hS 0 (ws' := [(h0, .inr (10, [.ref tby, .int (nI kt), .ref tln, .ref tsp, .int (-2), .int (nI jA), .int (nI jA), .int tf9])), (tby, .inl (G.2.1, 240, .inl fby))]) rfl (Nat.le_of_ble_eq_true rfl) rfl rfl rfl dX10_advance_70 (fun H locs hP hD hS => ?_)
          have keyB : ∀ (nB jB : Nat) (H : Heap) (locs : List Loc) (ls : Array Slot), kt ≤ jB + nB → jB ≤ 240 → va_P G.1 vwCl [(h0, .inr (10, [.ref tby, .int (nI kt), .ref tln, .ref tsp, .int (-2), .int (nI jA), .int (nI jB), .int tf9])), (tby, .inl (G.2.1, 240, .inl fby))] H → va_D A [(h0, .inr (10, [.ref tby, .int (nI kt), .ref tln, .ref tsp, .int (-2), .int (nI jA), .int (nI jB), .int tf9])), (tby, .inl (G.2.1, 240, .inl fby))] → va_S A s.heap H locs → lv_has ls 1 [(0, .ref h0)] → W p l e (RM 3 0 0) s m ([.ref h0] : List Value).toArray below meth c H locs 0 0 (MQ below (QV G (fun u : Int32 × Nat × Nat => u.2.1 ≤ 240 ∧ u.2.2 ≤ 240) (fun u : Int32 × Nat × Nat => [(h0, .inr (10, [.ref tby, .int (nI kt), .ref tln, .ref tsp, .int u.1, .int (nI u.2.1), .int (nI u.2.2), .int tf9])), (tby, .inl (G.2.1, 240, .inl fby))]) A) ([.ref h0] : List Value).toArray s 0 0 A) (F0 m 73 ls []) := by
            intro nB
            induction nB with
            | zero =>
              intro jB H locs ls hkB hmB hP hD hS hl
              have hzB : nI kt ≤ nI jB := (nI_leI (by omega) (by omega)).mpr (by omega)
              refine lv_aload_n hx hb dX10_advance_73 rfl (lv_at hl 0 rfl) ?_
              refine gf_X10_37 hC rfl hK hP 0 rfl rfl dX10_advance_74 ?_
              refine lv_aload_n hx hb dX10_advance_77 rfl (lv_at hl 0 rfl) ?_
              refine gf_X10_27 hC rfl hK hP 0 rfl rfl dX10_advance_78 ?_
              refine lv_icmp_ge (tgt := 199) hx hb dX10_advance_81 (by decide) (fun _ => ?_) (fun c9 => absurd (hzB) c9)
              exact RV hC hP hD hS [0, 1] ((-2), jA, jB) rfl rfl (by decide) (by dsimp only; omega) dX10_advance_199
            | succ nB ihB =>
              intro jB H locs ls hkB hmB hP hD hS hl
              refine lv_aload_n hx hb dX10_advance_73 rfl (lv_at hl 0 rfl) ?_
              refine gf_X10_37 hC rfl hK hP 0 rfl rfl dX10_advance_74 ?_
              refine lv_aload_n hx hb dX10_advance_77 rfl (lv_at hl 0 rfl) ?_
              refine gf_X10_27 hC rfl hK hP 0 rfl rfl dX10_advance_78 ?_
              refine lv_icmp_ge (tgt := 199) hx hb dX10_advance_81 (by decide) (fun c_81_2602 => ?_) (fun c_81_2602 => ?_)
              · exact RV hC hP hD hS [0, 1] ((-2), jA, jB) rfl rfl (by decide) (by dsimp only; omega) dX10_advance_199
              · refine lv_aload_n hx hb dX10_advance_84 rfl (lv_at hl 0 rfl) ?_
                refine lv_aload_n hx hb dX10_advance_85 rfl (lv_at hl 0 rfl) ?_
                refine gf_X10_37 hC rfl hK hP 0 rfl rfl dX10_advance_86 ?_
                refine pV hC hK hl hP hD (t_byteAt l G h0 (nI jB) tby kt tln tsp (-2) (nI jA) (nI jB) tf9 fby) si_X10_78 [0, 1] rfl rfl (by decide) rfl rfl rfl rfl rfl (Nat.le_of_ble_eq_true rfl) ⟨Nat.le_of_ble_eq_true rfl, Nat.le_of_ble_eq_true rfl⟩ ⟨by first | exact Nat.le_of_ble_eq_true rfl | exact Nat.zero_le _, by first | exact Nat.le_of_ble_eq_true rfl | exact Nat.zero_le _⟩ dX10_advance_89 (fun r2603 hr2603 => ?_)
                refine pS hC hK hl (t_letter l G r2603) si_X10_82 rfl rfl (Nat.le_of_ble_eq_true rfl) ⟨Nat.le_of_ble_eq_true rfl, Nat.le_of_ble_eq_true rfl⟩ ⟨by first | exact Nat.le_of_ble_eq_true rfl | exact Nat.zero_le _, by first | exact Nat.le_of_ble_eq_true rfl | exact Nat.zero_le _⟩ dX10_advance_92 (fun r2604 hr2604 => ?_)
                rcases hr2604 with rfl | rfl
                · refine lv_if_eq (tgt := 199) hx hb dX10_advance_95 (by decide) (fun c9 => absurd c9 (by decide)) (fun _ => ?_)
                  refine lv_aload_n hx hb dX10_advance_98 rfl (lv_at hl 0 rfl) ?_
                  refine lv_dup hx hb dX10_advance_99 rfl ?_
                  refine gf_X10_37 hC rfl hK hP 0 rfl rfl dX10_advance_100 ?_
                  refine lv_iconst (v := 1) hx hb dX10_advance_103 (by decide) ?_
                  refine lv_iadd hx hb dX10_advance_104 ?_
                  refine eqi (x1 := nI (jB + 1)) (nI_1 _) ?_
                  refine pf_X10_37 hC rfl hK hP hD hS 0 (ws' := [(h0, .inr (10, [.ref tby, .int (nI kt), .ref tln, .ref tsp, .int (-2), .int (nI jA), .int (nI (jB + 1)), .int tf9])), (tby, .inl (G.2.1, 240, .inl fby))]) rfl (Nat.le_of_ble_eq_true rfl) rfl rfl rfl dX10_advance_105 (fun H locs hP hD hS => ?_)
                  refine lv_goto (tgt := 73) hx hb dX10_advance_108 (by decide) ?_
                  have hnB9 := nge_nat (R := kt) (k := jB) (by omega) (by omega) c_81_2602
                  exact ihB (jB + 1) _ _ _ (by omega) (by omega) hP hD hS (lv_sub hl [0] rfl)
                · refine lv_if_eq (tgt := 199) hx hb dX10_advance_95 (by decide) (fun _ => ?_) (fun c9 => absurd (by decide) c9)
                  exact RV hC hP hD hS [0, 1] ((-2), jA, jB) rfl rfl (by decide) (by dsimp only; omega) dX10_advance_199
          exact keyB kt jA _ _ _ (by omega) (by omega) hP hD hS (lv_sub hl [0] rfl)
        · refine lv_if_eq (tgt := 111) hx hb dX10_advance_64 (by decide) (fun _ => ?_) (fun c9 => absurd (by decide) c9)
          refine lv_aload_n hx hb dX10_advance_111 rfl (lv_at hl 0 rfl) ?_
          refine lv_aload_n hx hb dX10_advance_112 rfl (lv_at hl 0 rfl) ?_
          refine gf_X10_34 hC rfl hK hP 0 rfl rfl dX10_advance_113 ?_
          refine pV hC hK hl hP hD (t_byteAt l G h0 (nI jA) tby kt tln tsp tkd (nI jA) (nI jA) tf9 fby) si_X10_78 [0, 1] rfl rfl (by decide) rfl rfl rfl rfl rfl (Nat.le_of_ble_eq_true rfl) ⟨Nat.le_of_ble_eq_true rfl, Nat.le_of_ble_eq_true rfl⟩ ⟨by first | exact Nat.le_of_ble_eq_true rfl | exact Nat.zero_le _, by first | exact Nat.le_of_ble_eq_true rfl | exact Nat.zero_le _⟩ dX10_advance_116 (fun r2606 hr2606 => ?_)
          refine pS hC hK hl (t_digit l G r2606) si_X10_86 rfl rfl (Nat.le_of_ble_eq_true rfl) ⟨Nat.le_of_ble_eq_true rfl, Nat.le_of_ble_eq_true rfl⟩ ⟨by first | exact Nat.le_of_ble_eq_true rfl | exact Nat.zero_le _, by first | exact Nat.le_of_ble_eq_true rfl | exact Nat.zero_le _⟩ dX10_advance_119 (fun r2607 hr2607 => ?_)
          rcases hr2607 with rfl | rfl
          · refine lv_if_eq (tgt := 169) hx hb dX10_advance_122 (by decide) (fun c9 => absurd c9 (by decide)) (fun _ => ?_)
            refine lv_aload_n hx hb dX10_advance_125 rfl (lv_at hl 0 rfl) ?_
            refine lv_bipush (v := (-3)) hx hb dX10_advance_126 (by decide) ?_
            refine pf_X10_31 hC rfl hK hP hD hS 0 (ws' := [(h0, .inr (10, [.ref tby, .int (nI kt), .ref tln, .ref tsp, .int (-3), .int (nI jA), .int (nI jA), .int tf9])), (tby, .inl (G.2.1, 240, .inl fby))]) rfl (Nat.le_of_ble_eq_true rfl) rfl rfl rfl dX10_advance_128 (fun H locs hP hD hS => ?_)
            have keyC : ∀ (nC jC : Nat) (H : Heap) (locs : List Loc) (ls : Array Slot), kt ≤ jC + nC → jC ≤ 240 → va_P G.1 vwCl [(h0, .inr (10, [.ref tby, .int (nI kt), .ref tln, .ref tsp, .int (-3), .int (nI jA), .int (nI jC), .int tf9])), (tby, .inl (G.2.1, 240, .inl fby))] H → va_D A [(h0, .inr (10, [.ref tby, .int (nI kt), .ref tln, .ref tsp, .int (-3), .int (nI jA), .int (nI jC), .int tf9])), (tby, .inl (G.2.1, 240, .inl fby))] → va_S A s.heap H locs → lv_has ls 1 [(0, .ref h0)] → W p l e (RM 3 0 0) s m ([.ref h0] : List Value).toArray below meth c H locs 0 0 (MQ below (QV G (fun u : Int32 × Nat × Nat => u.2.1 ≤ 240 ∧ u.2.2 ≤ 240) (fun u : Int32 × Nat × Nat => [(h0, .inr (10, [.ref tby, .int (nI kt), .ref tln, .ref tsp, .int u.1, .int (nI u.2.1), .int (nI u.2.2), .int tf9])), (tby, .inl (G.2.1, 240, .inl fby))]) A) ([.ref h0] : List Value).toArray s 0 0 A) (F0 m 131 ls []) := by
              intro nC
              induction nC with
              | zero =>
                intro jC H locs ls hkC hmC hP hD hS hl
                have hzC : nI kt ≤ nI jC := (nI_leI (by omega) (by omega)).mpr (by omega)
                refine lv_aload_n hx hb dX10_advance_131 rfl (lv_at hl 0 rfl) ?_
                refine gf_X10_37 hC rfl hK hP 0 rfl rfl dX10_advance_132 ?_
                refine lv_aload_n hx hb dX10_advance_135 rfl (lv_at hl 0 rfl) ?_
                refine gf_X10_27 hC rfl hK hP 0 rfl rfl dX10_advance_136 ?_
                refine lv_icmp_ge (tgt := 199) hx hb dX10_advance_139 (by decide) (fun _ => ?_) (fun c9 => absurd (hzC) c9)
                exact RV hC hP hD hS [0, 1] ((-3), jA, jC) rfl rfl (by decide) (by dsimp only; omega) dX10_advance_199
              | succ nC ihC =>
                intro jC H locs ls hkC hmC hP hD hS hl
                refine lv_aload_n hx hb dX10_advance_131 rfl (lv_at hl 0 rfl) ?_
                refine gf_X10_37 hC rfl hK hP 0 rfl rfl dX10_advance_132 ?_
                refine lv_aload_n hx hb dX10_advance_135 rfl (lv_at hl 0 rfl) ?_
                refine gf_X10_27 hC rfl hK hP 0 rfl rfl dX10_advance_136 ?_
                refine lv_icmp_ge (tgt := 199) hx hb dX10_advance_139 (by decide) (fun c_139_2609 => ?_) (fun c_139_2609 => ?_)
                · exact RV hC hP hD hS [0, 1] ((-3), jA, jC) rfl rfl (by decide) (by dsimp only; omega) dX10_advance_199
                · refine lv_aload_n hx hb dX10_advance_142 rfl (lv_at hl 0 rfl) ?_
                  refine lv_aload_n hx hb dX10_advance_143 rfl (lv_at hl 0 rfl) ?_
                  refine gf_X10_37 hC rfl hK hP 0 rfl rfl dX10_advance_144 ?_
                  refine pV hC hK hl hP hD (t_byteAt l G h0 (nI jC) tby kt tln tsp (-3) (nI jA) (nI jC) tf9 fby) si_X10_78 [0, 1] rfl rfl (by decide) rfl rfl rfl rfl rfl (Nat.le_of_ble_eq_true rfl) ⟨Nat.le_of_ble_eq_true rfl, Nat.le_of_ble_eq_true rfl⟩ ⟨by first | exact Nat.le_of_ble_eq_true rfl | exact Nat.zero_le _, by first | exact Nat.le_of_ble_eq_true rfl | exact Nat.zero_le _⟩ dX10_advance_147 (fun r2610 hr2610 => ?_)
                  refine pS hC hK hl (t_digit l G r2610) si_X10_86 rfl rfl (Nat.le_of_ble_eq_true rfl) ⟨Nat.le_of_ble_eq_true rfl, Nat.le_of_ble_eq_true rfl⟩ ⟨by first | exact Nat.le_of_ble_eq_true rfl | exact Nat.zero_le _, by first | exact Nat.le_of_ble_eq_true rfl | exact Nat.zero_le _⟩ dX10_advance_150 (fun r2611 hr2611 => ?_)
                  rcases hr2611 with rfl | rfl
                  · refine lv_if_eq (tgt := 199) hx hb dX10_advance_153 (by decide) (fun c9 => absurd c9 (by decide)) (fun _ => ?_)
                    refine lv_aload_n hx hb dX10_advance_156 rfl (lv_at hl 0 rfl) ?_
                    refine lv_dup hx hb dX10_advance_157 rfl ?_
                    refine gf_X10_37 hC rfl hK hP 0 rfl rfl dX10_advance_158 ?_
                    refine lv_iconst (v := 1) hx hb dX10_advance_161 (by decide) ?_
                    refine lv_iadd hx hb dX10_advance_162 ?_
                    refine eqi (x1 := nI (jC + 1)) (nI_1 _) ?_
                    refine pf_X10_37 hC rfl hK hP hD hS 0 (ws' := [(h0, .inr (10, [.ref tby, .int (nI kt), .ref tln, .ref tsp, .int (-3), .int (nI jA), .int (nI (jC + 1)), .int tf9])), (tby, .inl (G.2.1, 240, .inl fby))]) rfl (Nat.le_of_ble_eq_true rfl) rfl rfl rfl dX10_advance_163 (fun H locs hP hD hS => ?_)
                    refine lv_goto (tgt := 131) hx hb dX10_advance_166 (by decide) ?_
                    have hnC9 := nge_nat (R := kt) (k := jC) (by omega) (by omega) c_139_2609
                    exact ihC (jC + 1) _ _ _ (by omega) (by omega) hP hD hS (lv_sub hl [0] rfl)
                  · refine lv_if_eq (tgt := 199) hx hb dX10_advance_153 (by decide) (fun _ => ?_) (fun c9 => absurd (by decide) c9)
                    exact RV hC hP hD hS [0, 1] ((-3), jA, jC) rfl rfl (by decide) (by dsimp only; omega) dX10_advance_199
            exact keyC kt jA _ _ _ (by omega) (by omega) hP hD hS (lv_sub hl [0] rfl)
          · refine lv_if_eq (tgt := 169) hx hb dX10_advance_122 (by decide) (fun _ => ?_) (fun c9 => absurd (by decide) c9)
            refine lv_aload_n hx hb dX10_advance_169 rfl (lv_at hl 0 rfl) ?_
            refine lv_aload_n hx hb dX10_advance_170 rfl (lv_at hl 0 rfl) ?_
            refine lv_aload_n hx hb dX10_advance_171 rfl (lv_at hl 0 rfl) ?_
            refine gf_X10_34 hC rfl hK hP 0 rfl rfl dX10_advance_172 ?_
            refine pV hC hK hl hP hD (t_byteAtN l G h0 jA tby kt tln tsp tkd (nI jA) (nI jA) tf9 fby (by omega)) si_X10_78 [0, 1] rfl rfl (by decide) rfl rfl rfl rfl rfl (Nat.le_of_ble_eq_true rfl) ⟨Nat.le_of_ble_eq_true rfl, Nat.le_of_ble_eq_true rfl⟩ ⟨by first | exact Nat.le_of_ble_eq_true rfl | exact Nat.zero_le _, by first | exact Nat.le_of_ble_eq_true rfl | exact Nat.zero_le _⟩ dX10_advance_175 (fun r2613 hr2613 => ?_)
            rcases hr2613 with rfl | ⟨rfl, a2614⟩
            · refine pf_X10_31 hC rfl hK hP hD hS 0 (ws' := [(h0, .inr (10, [.ref tby, .int (nI kt), .ref tln, .ref tsp, .int (-1), .int (nI jA), .int (nI jA), .int tf9])), (tby, .inl (G.2.1, 240, .inl fby))]) rfl (Nat.le_of_ble_eq_true rfl) rfl rfl rfl dX10_advance_178 (fun H locs hP hD hS => ?_)
              refine lv_aload_n hx hb dX10_advance_181 rfl (lv_at hl 0 rfl) ?_
              refine gf_X10_31 hC rfl hK hP 0 rfl rfl dX10_advance_182 ?_
              refine lv_iconst (v := (-1)) hx hb dX10_advance_185 (by decide) ?_
              refine lv_icmp_eq (tgt := 199) hx hb dX10_advance_186 (by decide) (fun _ => ?_) (fun c9 => absurd (by decide) c9)
              exact RV hC hP hD hS [0, 1] ((-1), jA, jA) rfl rfl (by decide) (by dsimp only; omega) dX10_advance_199
            · refine pf_X10_31 hC rfl hK hP hD hS 0 (ws' := [(h0, .inr (10, [.ref tby, .int (nI kt), .ref tln, .ref tsp, .int (fby jA), .int (nI jA), .int (nI jA), .int tf9])), (tby, .inl (G.2.1, 240, .inl fby))]) rfl (Nat.le_of_ble_eq_true rfl) rfl rfl rfl dX10_advance_178 (fun H locs hP hD hS => ?_)
              refine lv_aload_n hx hb dX10_advance_181 rfl (lv_at hl 0 rfl) ?_
              refine gf_X10_31 hC rfl hK hP 0 rfl rfl dX10_advance_182 ?_
              refine lv_iconst (v := (-1)) hx hb dX10_advance_185 (by decide) ?_
              refine lv_icmp_eq (tgt := 199) hx hb dX10_advance_186 (by decide) (fun c_186_2615 => ?_) (fun c_186_2615 => ?_)
              · exact RV hC hP hD hS [0, 1] ((fby jA), jA, jA) rfl rfl (by decide) (by dsimp only; omega) dX10_advance_199
              · refine lv_aload_n hx hb dX10_advance_189 rfl (lv_at hl 0 rfl) ?_
                refine lv_dup hx hb dX10_advance_190 rfl ?_
                refine gf_X10_37 hC rfl hK hP 0 rfl rfl dX10_advance_191 ?_
                refine lv_iconst (v := 1) hx hb dX10_advance_194 (by decide) ?_
                refine lv_iadd hx hb dX10_advance_195 ?_
                refine eqi (x1 := nI (jA + 1)) (nI_1 _) ?_
                refine pf_X10_37 hC rfl hK hP hD hS 0 (ws' := [(h0, .inr (10, [.ref tby, .int (nI kt), .ref tln, .ref tsp, .int (fby jA), .int (nI jA), .int (nI (jA + 1)), .int tf9])), (tby, .inl (G.2.1, 240, .inl fby))]) rfl (Nat.le_of_ble_eq_true rfl) rfl rfl rfl dX10_advance_196 (fun H locs hP hD hS => ?_)
                exact RV hC hP hD hS [0, 1] ((fby jA), jA, (jA + 1)) rfl rfl (by decide) (by dsimp only; omega) dX10_advance_199
      · refine lv_aload_n hx hb dX10_advance_19 rfl (lv_at hl 0 rfl) ?_
        refine lv_aload_n hx hb dX10_advance_20 rfl (lv_at hl 0 rfl) ?_
        refine gf_X10_34 hC rfl hK hP 0 rfl rfl dX10_advance_21 ?_
        refine pV hC hK hl hP hD (t_byteAt l G h0 (nI jA) tby kt tln tsp tkd (nI jA) (nI kn) tf9 fby) si_X10_78 [0, 1] rfl rfl (by decide) rfl rfl rfl rfl rfl (Nat.le_of_ble_eq_true rfl) ⟨Nat.le_of_ble_eq_true rfl, Nat.le_of_ble_eq_true rfl⟩ ⟨by first | exact Nat.le_of_ble_eq_true rfl | exact Nat.zero_le _, by first | exact Nat.le_of_ble_eq_true rfl | exact Nat.zero_le _⟩ dX10_advance_24 (fun r2616 hr2616 => ?_)
        refine lv_bipush (v := 32) hx hb dX10_advance_27 (by decide) ?_
        refine lv_icmp_ne (tgt := 45) hx hb dX10_advance_29 (by decide) (fun c_29_2617 => ?_) (fun c_29_2617 => ?_)
        · refine lv_aload_n hx hb dX10_advance_45 rfl (lv_at hl 0 rfl) ?_
          refine lv_aload_n hx hb dX10_advance_46 rfl (lv_at hl 0 rfl) ?_
          refine gf_X10_34 hC rfl hK hP 0 rfl rfl dX10_advance_47 ?_
          refine pf_X10_37 hC rfl hK hP hD hS 0 (ws' := [(h0, .inr (10, [.ref tby, .int (nI kt), .ref tln, .ref tsp, .int tkd, .int (nI jA), .int (nI jA), .int tf9])), (tby, .inl (G.2.1, 240, .inl fby))]) rfl (Nat.le_of_ble_eq_true rfl) rfl rfl rfl dX10_advance_50 (fun H locs hP hD hS => ?_)
          refine lv_aload_n hx hb dX10_advance_53 rfl (lv_at hl 0 rfl) ?_
          refine lv_aload_n hx hb dX10_advance_54 rfl (lv_at hl 0 rfl) ?_
          refine gf_X10_34 hC rfl hK hP 0 rfl rfl dX10_advance_55 ?_
          refine pV hC hK hl hP hD (t_byteAt l G h0 (nI jA) tby kt tln tsp tkd (nI jA) (nI jA) tf9 fby) si_X10_78 [0, 1] rfl rfl (by decide) rfl rfl rfl rfl rfl (Nat.le_of_ble_eq_true rfl) ⟨Nat.le_of_ble_eq_true rfl, Nat.le_of_ble_eq_true rfl⟩ ⟨by first | exact Nat.le_of_ble_eq_true rfl | exact Nat.zero_le _, by first | exact Nat.le_of_ble_eq_true rfl | exact Nat.zero_le _⟩ dX10_advance_58 (fun r2618 hr2618 => ?_)
          refine pS hC hK hl (t_letter l G r2618) si_X10_82 rfl rfl (Nat.le_of_ble_eq_true rfl) ⟨Nat.le_of_ble_eq_true rfl, Nat.le_of_ble_eq_true rfl⟩ ⟨by first | exact Nat.le_of_ble_eq_true rfl | exact Nat.zero_le _, by first | exact Nat.le_of_ble_eq_true rfl | exact Nat.zero_le _⟩ dX10_advance_61 (fun r2619 hr2619 => ?_)
          rcases hr2619 with rfl | rfl
          · refine lv_if_eq (tgt := 111) hx hb dX10_advance_64 (by decide) (fun c9 => absurd c9 (by decide)) (fun _ => ?_)
            refine lv_aload_n hx hb dX10_advance_67 rfl (lv_at hl 0 rfl) ?_
            refine lv_bipush (v := (-2)) hx hb dX10_advance_68 (by decide) ?_
            refine pf_X10_31 hC rfl hK hP hD hS 0 (ws' := [(h0, .inr (10, [.ref tby, .int (nI kt), .ref tln, .ref tsp, .int (-2), .int (nI jA), .int (nI jA), .int tf9])), (tby, .inl (G.2.1, 240, .inl fby))]) rfl (Nat.le_of_ble_eq_true rfl) rfl rfl rfl dX10_advance_70 (fun H locs hP hD hS => ?_)
            have keyB : ∀ (nB jB : Nat) (H : Heap) (locs : List Loc) (ls : Array Slot), kt ≤ jB + nB → jB ≤ 240 → va_P G.1 vwCl [(h0, .inr (10, [.ref tby, .int (nI kt), .ref tln, .ref tsp, .int (-2), .int (nI jA), .int (nI jB), .int tf9])), (tby, .inl (G.2.1, 240, .inl fby))] H → va_D A [(h0, .inr (10, [.ref tby, .int (nI kt), .ref tln, .ref tsp, .int (-2), .int (nI jA), .int (nI jB), .int tf9])), (tby, .inl (G.2.1, 240, .inl fby))] → va_S A s.heap H locs → lv_has ls 1 [(0, .ref h0)] → W p l e (RM 3 0 0) s m ([.ref h0] : List Value).toArray below meth c H locs 0 0 (MQ below (QV G (fun u : Int32 × Nat × Nat => u.2.1 ≤ 240 ∧ u.2.2 ≤ 240) (fun u : Int32 × Nat × Nat => [(h0, .inr (10, [.ref tby, .int (nI kt), .ref tln, .ref tsp, .int u.1, .int (nI u.2.1), .int (nI u.2.2), .int tf9])), (tby, .inl (G.2.1, 240, .inl fby))]) A) ([.ref h0] : List Value).toArray s 0 0 A) (F0 m 73 ls []) := by
              intro nB
              induction nB with
              | zero =>
                intro jB H locs ls hkB hmB hP hD hS hl
                have hzB : nI kt ≤ nI jB := (nI_leI (by omega) (by omega)).mpr (by omega)
                refine lv_aload_n hx hb dX10_advance_73 rfl (lv_at hl 0 rfl) ?_
                refine gf_X10_37 hC rfl hK hP 0 rfl rfl dX10_advance_74 ?_
                refine lv_aload_n hx hb dX10_advance_77 rfl (lv_at hl 0 rfl) ?_
                refine gf_X10_27 hC rfl hK hP 0 rfl rfl dX10_advance_78 ?_
                refine lv_icmp_ge (tgt := 199) hx hb dX10_advance_81 (by decide) (fun _ => ?_) (fun c9 => absurd (hzB) c9)
                exact RV hC hP hD hS [0, 1] ((-2), jA, jB) rfl rfl (by decide) (by dsimp only; omega) dX10_advance_199
              | succ nB ihB =>
                intro jB H locs ls hkB hmB hP hD hS hl
                refine lv_aload_n hx hb dX10_advance_73 rfl (lv_at hl 0 rfl) ?_
                refine gf_X10_37 hC rfl hK hP 0 rfl rfl dX10_advance_74 ?_
                refine lv_aload_n hx hb dX10_advance_77 rfl (lv_at hl 0 rfl) ?_
                refine gf_X10_27 hC rfl hK hP 0 rfl rfl dX10_advance_78 ?_
                refine lv_icmp_ge (tgt := 199) hx hb dX10_advance_81 (by decide) (fun c_81_2621 => ?_) (fun c_81_2621 => ?_)
                · exact RV hC hP hD hS [0, 1] ((-2), jA, jB) rfl rfl (by decide) (by dsimp only; omega) dX10_advance_199
                · refine lv_aload_n hx hb dX10_advance_84 rfl (lv_at hl 0 rfl) ?_
                  refine lv_aload_n hx hb dX10_advance_85 rfl (lv_at hl 0 rfl) ?_
                  refine gf_X10_37 hC rfl hK hP 0 rfl rfl dX10_advance_86 ?_
                  refine pV hC hK hl hP hD (t_byteAt l G h0 (nI jB) tby kt tln tsp (-2) (nI jA) (nI jB) tf9 fby) si_X10_78 [0, 1] rfl rfl (by decide) rfl rfl rfl rfl rfl (Nat.le_of_ble_eq_true rfl) ⟨Nat.le_of_ble_eq_true rfl, Nat.le_of_ble_eq_true rfl⟩ ⟨by first | exact Nat.le_of_ble_eq_true rfl | exact Nat.zero_le _, by first | exact Nat.le_of_ble_eq_true rfl | exact Nat.zero_le _⟩ dX10_advance_89 (fun r2622 hr2622 => ?_)
                  refine pS hC hK hl (t_letter l G r2622) si_X10_82 rfl rfl (Nat.le_of_ble_eq_true rfl) ⟨Nat.le_of_ble_eq_true rfl, Nat.le_of_ble_eq_true rfl⟩ ⟨by first | exact Nat.le_of_ble_eq_true rfl | exact Nat.zero_le _, by first | exact Nat.le_of_ble_eq_true rfl | exact Nat.zero_le _⟩ dX10_advance_92 (fun r2623 hr2623 => ?_)
                  rcases hr2623 with rfl | rfl
                  · refine lv_if_eq (tgt := 199) hx hb dX10_advance_95 (by decide) (fun c9 => absurd c9 (by decide)) (fun _ => ?_)
                    refine lv_aload_n hx hb dX10_advance_98 rfl (lv_at hl 0 rfl) ?_
                    refine lv_dup hx hb dX10_advance_99 rfl ?_
                    refine gf_X10_37 hC rfl hK hP 0 rfl rfl dX10_advance_100 ?_
                    refine lv_iconst (v := 1) hx hb dX10_advance_103 (by decide) ?_
                    refine lv_iadd hx hb dX10_advance_104 ?_
                    refine eqi (x1 := nI (jB + 1)) (nI_1 _) ?_
                    refine pf_X10_37 hC rfl hK hP hD hS 0 (ws' := [(h0, .inr (10, [.ref tby, .int (nI kt), .ref tln, .ref tsp, .int (-2), .int (nI jA), .int (nI (jB + 1)), .int tf9])), (tby, .inl (G.2.1, 240, .inl fby))]) rfl (Nat.le_of_ble_eq_true rfl) rfl rfl rfl dX10_advance_105 (fun H locs hP hD hS => ?_)
                    refine lv_goto (tgt := 73) hx hb dX10_advance_108 (by decide) ?_
                    have hnB9 := nge_nat (R := kt) (k := jB) (by omega) (by omega) c_81_2621
                    exact ihB (jB + 1) _ _ _ (by omega) (by omega) hP hD hS (lv_sub hl [0] rfl)
                  · refine lv_if_eq (tgt := 199) hx hb dX10_advance_95 (by decide) (fun _ => ?_) (fun c9 => absurd (by decide) c9)
                    exact RV hC hP hD hS [0, 1] ((-2), jA, jB) rfl rfl (by decide) (by dsimp only; omega) dX10_advance_199
            exact keyB kt jA _ _ _ (by omega) (by omega) hP hD hS (lv_sub hl [0] rfl)
          · refine lv_if_eq (tgt := 111) hx hb dX10_advance_64 (by decide) (fun _ => ?_) (fun c9 => absurd (by decide) c9)
            refine lv_aload_n hx hb dX10_advance_111 rfl (lv_at hl 0 rfl) ?_
            refine lv_aload_n hx hb dX10_advance_112 rfl (lv_at hl 0 rfl) ?_
            refine gf_X10_34 hC rfl hK hP 0 rfl rfl dX10_advance_113 ?_
            refine pV hC hK hl hP hD (t_byteAt l G h0 (nI jA) tby kt tln tsp tkd (nI jA) (nI jA) tf9 fby) si_X10_78 [0, 1] rfl rfl (by decide) rfl rfl rfl rfl rfl (Nat.le_of_ble_eq_true rfl) ⟨Nat.le_of_ble_eq_true rfl, Nat.le_of_ble_eq_true rfl⟩ ⟨by first | exact Nat.le_of_ble_eq_true rfl | exact Nat.zero_le _, by first | exact Nat.le_of_ble_eq_true rfl | exact Nat.zero_le _⟩ dX10_advance_116 (fun r2625 hr2625 => ?_)
            refine pS hC hK hl (t_digit l G r2625) si_X10_86 rfl rfl (Nat.le_of_ble_eq_true rfl) ⟨Nat.le_of_ble_eq_true rfl, Nat.le_of_ble_eq_true rfl⟩ ⟨by first | exact Nat.le_of_ble_eq_true rfl | exact Nat.zero_le _, by first | exact Nat.le_of_ble_eq_true rfl | exact Nat.zero_le _⟩ dX10_advance_119 (fun r2626 hr2626 => ?_)
            rcases hr2626 with rfl | rfl
            · refine lv_if_eq (tgt := 169) hx hb dX10_advance_122 (by decide) (fun c9 => absurd c9 (by decide)) (fun _ => ?_)
              refine lv_aload_n hx hb dX10_advance_125 rfl (lv_at hl 0 rfl) ?_
              refine lv_bipush (v := (-3)) hx hb dX10_advance_126 (by decide) ?_
              refine pf_X10_31 hC rfl hK hP hD hS 0 (ws' := [(h0, .inr (10, [.ref tby, .int (nI kt), .ref tln, .ref tsp, .int (-3), .int (nI jA), .int (nI jA), .int tf9])), (tby, .inl (G.2.1, 240, .inl fby))]) rfl (Nat.le_of_ble_eq_true rfl) rfl rfl rfl dX10_advance_128 (fun H locs hP hD hS => ?_)
              have keyC : ∀ (nC jC : Nat) (H : Heap) (locs : List Loc) (ls : Array Slot), kt ≤ jC + nC → jC ≤ 240 → va_P G.1 vwCl [(h0, .inr (10, [.ref tby, .int (nI kt), .ref tln, .ref tsp, .int (-3), .int (nI jA), .int (nI jC), .int tf9])), (tby, .inl (G.2.1, 240, .inl fby))] H → va_D A [(h0, .inr (10, [.ref tby, .int (nI kt), .ref tln, .ref tsp, .int (-3), .int (nI jA), .int (nI jC), .int tf9])), (tby, .inl (G.2.1, 240, .inl fby))] → va_S A s.heap H locs → lv_has ls 1 [(0, .ref h0)] → W p l e (RM 3 0 0) s m ([.ref h0] : List Value).toArray below meth c H locs 0 0 (MQ below (QV G (fun u : Int32 × Nat × Nat => u.2.1 ≤ 240 ∧ u.2.2 ≤ 240) (fun u : Int32 × Nat × Nat => [(h0, .inr (10, [.ref tby, .int (nI kt), .ref tln, .ref tsp, .int u.1, .int (nI u.2.1), .int (nI u.2.2), .int tf9])), (tby, .inl (G.2.1, 240, .inl fby))]) A) ([.ref h0] : List Value).toArray s 0 0 A) (F0 m 131 ls []) := by
                intro nC
                induction nC with
                | zero =>
                  intro jC H locs ls hkC hmC hP hD hS hl
                  have hzC : nI kt ≤ nI jC := (nI_leI (by omega) (by omega)).mpr (by omega)
                  refine lv_aload_n hx hb dX10_advance_131 rfl (lv_at hl 0 rfl) ?_
                  refine gf_X10_37 hC rfl hK hP 0 rfl rfl dX10_advance_132 ?_
                  refine lv_aload_n hx hb dX10_advance_135 rfl (lv_at hl 0 rfl) ?_
                  refine gf_X10_27 hC rfl hK hP 0 rfl rfl dX10_advance_136 ?_
                  refine lv_icmp_ge (tgt := 199) hx hb dX10_advance_139 (by decide) (fun _ => ?_) (fun c9 => absurd (hzC) c9)
                  exact RV hC hP hD hS [0, 1] ((-3), jA, jC) rfl rfl (by decide) (by dsimp only; omega) dX10_advance_199
                | succ nC ihC =>
                  intro jC H locs ls hkC hmC hP hD hS hl
                  refine lv_aload_n hx hb dX10_advance_131 rfl (lv_at hl 0 rfl) ?_
                  refine gf_X10_37 hC rfl hK hP 0 rfl rfl dX10_advance_132 ?_
                  refine lv_aload_n hx hb dX10_advance_135 rfl (lv_at hl 0 rfl) ?_
                  refine gf_X10_27 hC rfl hK hP 0 rfl rfl dX10_advance_136 ?_
                  refine lv_icmp_ge (tgt := 199) hx hb dX10_advance_139 (by decide) (fun c_139_2628 => ?_) (fun c_139_2628 => ?_)
                  · exact RV hC hP hD hS [0, 1] ((-3), jA, jC) rfl rfl (by decide) (by dsimp only; omega) dX10_advance_199
                  · refine lv_aload_n hx hb dX10_advance_142 rfl (lv_at hl 0 rfl) ?_
                    refine lv_aload_n hx hb dX10_advance_143 rfl (lv_at hl 0 rfl) ?_
                    refine gf_X10_37 hC rfl hK hP 0 rfl rfl dX10_advance_144 ?_
                    refine pV hC hK hl hP hD (t_byteAt l G h0 (nI jC) tby kt tln tsp (-3) (nI jA) (nI jC) tf9 fby) si_X10_78 [0, 1] rfl rfl (by decide) rfl rfl rfl rfl rfl (Nat.le_of_ble_eq_true rfl) ⟨Nat.le_of_ble_eq_true rfl, Nat.le_of_ble_eq_true rfl⟩ ⟨by first | exact Nat.le_of_ble_eq_true rfl | exact Nat.zero_le _, by first | exact Nat.le_of_ble_eq_true rfl | exact Nat.zero_le _⟩ dX10_advance_147 (fun r2629 hr2629 => ?_)
                    refine pS hC hK hl (t_digit l G r2629) si_X10_86 rfl rfl (Nat.le_of_ble_eq_true rfl) ⟨Nat.le_of_ble_eq_true rfl, Nat.le_of_ble_eq_true rfl⟩ ⟨by first | exact Nat.le_of_ble_eq_true rfl | exact Nat.zero_le _, by first | exact Nat.le_of_ble_eq_true rfl | exact Nat.zero_le _⟩ dX10_advance_150 (fun r2630 hr2630 => ?_)
                    rcases hr2630 with rfl | rfl
                    · refine lv_if_eq (tgt := 199) hx hb dX10_advance_153 (by decide) (fun c9 => absurd c9 (by decide)) (fun _ => ?_)
                      refine lv_aload_n hx hb dX10_advance_156 rfl (lv_at hl 0 rfl) ?_
                      refine lv_dup hx hb dX10_advance_157 rfl ?_
                      refine gf_X10_37 hC rfl hK hP 0 rfl rfl dX10_advance_158 ?_
                      refine lv_iconst (v := 1) hx hb dX10_advance_161 (by decide) ?_
                      refine lv_iadd hx hb dX10_advance_162 ?_
                      refine eqi (x1 := nI (jC + 1)) (nI_1 _) ?_
                      refine pf_X10_37 hC rfl hK hP hD hS 0 (ws' := [(h0, .inr (10, [.ref tby, .int (nI kt), .ref tln, .ref tsp, .int (-3), .int (nI jA), .int (nI (jC + 1)), .int tf9])), (tby, .inl (G.2.1, 240, .inl fby))]) rfl (Nat.le_of_ble_eq_true rfl) rfl rfl rfl dX10_advance_163 (fun H locs hP hD hS => ?_)
                      refine lv_goto (tgt := 131) hx hb dX10_advance_166 (by decide) ?_
                      have hnC9 := nge_nat (R := kt) (k := jC) (by omega) (by omega) c_139_2628
                      exact ihC (jC + 1) _ _ _ (by omega) (by omega) hP hD hS (lv_sub hl [0] rfl)
                    · refine lv_if_eq (tgt := 199) hx hb dX10_advance_153 (by decide) (fun _ => ?_) (fun c9 => absurd (by decide) c9)
                      exact RV hC hP hD hS [0, 1] ((-3), jA, jC) rfl rfl (by decide) (by dsimp only; omega) dX10_advance_199
              exact keyC kt jA _ _ _ (by omega) (by omega) hP hD hS (lv_sub hl [0] rfl)
            · refine lv_if_eq (tgt := 169) hx hb dX10_advance_122 (by decide) (fun _ => ?_) (fun c9 => absurd (by decide) c9)
              refine lv_aload_n hx hb dX10_advance_169 rfl (lv_at hl 0 rfl) ?_
              refine lv_aload_n hx hb dX10_advance_170 rfl (lv_at hl 0 rfl) ?_
              refine lv_aload_n hx hb dX10_advance_171 rfl (lv_at hl 0 rfl) ?_
              refine gf_X10_34 hC rfl hK hP 0 rfl rfl dX10_advance_172 ?_
              refine pV hC hK hl hP hD (t_byteAtN l G h0 jA tby kt tln tsp tkd (nI jA) (nI jA) tf9 fby (by omega)) si_X10_78 [0, 1] rfl rfl (by decide) rfl rfl rfl rfl rfl (Nat.le_of_ble_eq_true rfl) ⟨Nat.le_of_ble_eq_true rfl, Nat.le_of_ble_eq_true rfl⟩ ⟨by first | exact Nat.le_of_ble_eq_true rfl | exact Nat.zero_le _, by first | exact Nat.le_of_ble_eq_true rfl | exact Nat.zero_le _⟩ dX10_advance_175 (fun r2632 hr2632 => ?_)
              rcases hr2632 with rfl | ⟨rfl, a2633⟩
              · refine pf_X10_31 hC rfl hK hP hD hS 0 (ws' := [(h0, .inr (10, [.ref tby, .int (nI kt), .ref tln, .ref tsp, .int (-1), .int (nI jA), .int (nI jA), .int tf9])), (tby, .inl (G.2.1, 240, .inl fby))]) rfl (Nat.le_of_ble_eq_true rfl) rfl rfl rfl dX10_advance_178 (fun H locs hP hD hS => ?_)
                refine lv_aload_n hx hb dX10_advance_181 rfl (lv_at hl 0 rfl) ?_
                refine gf_X10_31 hC rfl hK hP 0 rfl rfl dX10_advance_182 ?_
                refine lv_iconst (v := (-1)) hx hb dX10_advance_185 (by decide) ?_
                refine lv_icmp_eq (tgt := 199) hx hb dX10_advance_186 (by decide) (fun _ => ?_) (fun c9 => absurd (by decide) c9)
                exact RV hC hP hD hS [0, 1] ((-1), jA, jA) rfl rfl (by decide) (by dsimp only; omega) dX10_advance_199
              · refine pf_X10_31 hC rfl hK hP hD hS 0 (ws' := [(h0, .inr (10, [.ref tby, .int (nI kt), .ref tln, .ref tsp, .int (fby jA), .int (nI jA), .int (nI jA), .int tf9])), (tby, .inl (G.2.1, 240, .inl fby))]) rfl (Nat.le_of_ble_eq_true rfl) rfl rfl rfl dX10_advance_178 (fun H locs hP hD hS => ?_)
                refine lv_aload_n hx hb dX10_advance_181 rfl (lv_at hl 0 rfl) ?_
                refine gf_X10_31 hC rfl hK hP 0 rfl rfl dX10_advance_182 ?_
                refine lv_iconst (v := (-1)) hx hb dX10_advance_185 (by decide) ?_
                refine lv_icmp_eq (tgt := 199) hx hb dX10_advance_186 (by decide) (fun c_186_2634 => ?_) (fun c_186_2634 => ?_)
                · exact RV hC hP hD hS [0, 1] ((fby jA), jA, jA) rfl rfl (by decide) (by dsimp only; omega) dX10_advance_199
                · refine lv_aload_n hx hb dX10_advance_189 rfl (lv_at hl 0 rfl) ?_
                  refine lv_dup hx hb dX10_advance_190 rfl ?_
                  refine gf_X10_37 hC rfl hK hP 0 rfl rfl dX10_advance_191 ?_
                  refine lv_iconst (v := 1) hx hb dX10_advance_194 (by decide) ?_
                  refine lv_iadd hx hb dX10_advance_195 ?_
                  refine eqi (x1 := nI (jA + 1)) (nI_1 _) ?_
                  refine pf_X10_37 hC rfl hK hP hD hS 0 (ws' := [(h0, .inr (10, [.ref tby, .int (nI kt), .ref tln, .ref tsp, .int (fby jA), .int (nI jA), .int (nI (jA + 1)), .int tf9])), (tby, .inl (G.2.1, 240, .inl fby))]) rfl (Nat.le_of_ble_eq_true rfl) rfl rfl rfl dX10_advance_196 (fun H locs hP hD hS => ?_)
                  exact RV hC hP hD hS [0, 1] ((fby jA), jA, (jA + 1)) rfl rfl (by decide) (by dsimp only; omega) dX10_advance_199
        · refine lv_aload_n hx hb dX10_advance_32 rfl (lv_at hl 0 rfl) ?_
          refine lv_dup hx hb dX10_advance_33 rfl ?_
          refine gf_X10_34 hC rfl hK hP 0 rfl rfl dX10_advance_34 ?_
          refine lv_iconst (v := 1) hx hb dX10_advance_37 (by decide) ?_
          refine lv_iadd hx hb dX10_advance_38 ?_
          refine eqi (x1 := nI (jA + 1)) (nI_1 _) ?_
          refine pf_X10_34 hC rfl hK hP hD hS 0 (ws' := [(h0, .inr (10, [.ref tby, .int (nI kt), .ref tln, .ref tsp, .int tkd, .int (nI (jA + 1)), .int (nI kn), .int tf9])), (tby, .inl (G.2.1, 240, .inl fby))]) rfl (Nat.le_of_ble_eq_true rfl) rfl rfl rfl dX10_advance_39 (fun H locs hP hD hS => ?_)
          refine lv_goto (tgt := 8) hx hb dX10_advance_42 (by decide) ?_
          have hnA9 := nge_nat (R := kt) (k := jA) (by omega) (by omega) c_16_2598
          exact ihA (jA + 1) _ _ _ (by omega) (by omega) hP hD hS (lv_sub hl [0] rfl)
  exact keyA kt kn _ _ _ (by omega) (by omega) hP hD hS (lv_sub hl [0] rfl)
set_option maxHeartbeats 4000000 in
set_option maxRecDepth 100000 in
theorem t_isName (l : Launch) (G : GG) (K : OO) (i9 : Nat) (h0 : Nat) (tby : Nat) (kt : Nat) (tln : Nat) (tsp : Nat) (tkd : Int32) (ks : Nat) (kn : Nat) (tf9 : Int32) (fby : Nat → Int32) (hkt : kt ≤ 240) (hks : ks ≤ 240) (hkn : kn ≤ 240) (hi9 : i9 < 16) : MPo l G K yX10_isName cX10_isName 3 (some .boolean) 6 [.ref h0, .ref (K.1 i9)] [(h0, .inr (10, [.ref tby, .int (nI kt), .ref tln, .ref tsp, .int tkd, .int (nI ks), .int (nI kn), .int tf9])), (tby, .inl (G.2.1, 240, .inl fby))] (fun r : Int32 => r = 1 ∨ r = 0) := by
  refine MPo.start (by decide +kernel) (Nat.le_of_ble_eq_true rfl) ?_
  intro p e s m below meth c ls hC hK hP hD hl hO hS
  have hl : lv_has ls 3 [(0, .ref h0), (1, .ref (K.1 i9))] := hl
  obtain ⟨hx, hb, hr, hml, hB, hown, hlocks, hnm⟩ := id hC
  have hs6 := slen6 i9 hi9
  refine lv_aload_n hx hb dX10_isName_0 rfl (lv_at hl 0 rfl) ?_
  refine gf_X10_31 hC rfl hK hP 0 rfl rfl dX10_isName_1 ?_
  refine lv_bipush (v := (-2)) hx hb dX10_isName_4 (by decide) ?_
  refine lv_icmp_ne (tgt := 25) hx hb dX10_isName_6 (by decide) (fun c_6_2635 => ?_) (fun c_6_2635 => ?_)
  · refine lv_iconst (v := 0) hx hb dX10_isName_25 (by decide) ?_
    exact RP (v := 0) hC (Or.inr (rfl)) (by decide +kernel) dX10_isName_26
  · refine lv_aload_n hx hb dX10_isName_9 rfl (lv_at hl 0 rfl) ?_
    refine gf_X10_37 hC rfl hK hP 0 rfl rfl dX10_isName_10 ?_
    refine lv_aload_n hx hb dX10_isName_13 rfl (lv_at hl 0 rfl) ?_
    refine gf_X10_34 hC rfl hK hP 0 rfl rfl dX10_isName_14 ?_
    refine lv_isub hx hb dX10_isName_17 ?_
    refine lv_aload_n hx hb dX10_isName_18 rfl (lv_at hl 1 rfl) ?_
    refine pTo (i := i9) (hi9) hO hS hC hK hl (j_len l G K i9 ((hi9))) si_X10_93 rfl rfl (Nat.le_of_ble_eq_true rfl) ⟨Nat.le_of_ble_eq_true rfl, Nat.le_of_ble_eq_true rfl⟩ ⟨by first | exact Nat.le_of_ble_eq_true rfl | exact Nat.zero_le _, by first | exact Nat.le_of_ble_eq_true rfl | exact Nat.zero_le _⟩ dX10_isName_19 (fun r2636 hr2636 => ?_)
    obtain rfl := hr2636
    refine lv_icmp_eq (tgt := 27) hx hb dX10_isName_22 (by decide) (fun c_22_2638 => ?_) (fun c_22_2638 => ?_)
    · refine lv_iconst (v := 0) hx hb dX10_isName_27 (by decide) ?_
      refine lv_istore_n (lv' := [(2, .int 0), (0, .ref h0), (1, .ref (K.1 i9))]) hx hb dX10_isName_28 rfl hl (by decide) rfl (fun ls hl => ?_)
      have keyP : ∀ (nP kP : Nat) (ls : Array Slot), kP + nP = (SLEN.getD i9 0) → lv_has ls 3 [(2, .int (nI kP)), (0, .ref h0), (1, .ref (K.1 i9))] → W p l e (RM 6 0 0) s m ([.ref h0, .ref (K.1 i9)] : List Value).toArray below meth c s.heap [] 0 0 (MQ below (QP (fun r : Int32 => r = 1 ∨ r = 0)) ([.ref h0, .ref (K.1 i9)] : List Value).toArray s 0 0 (fun _ => False)) (F0 m 29 ls []) := by
        intro nP
        induction nP with
        | zero =>
          intro kP ls hkP hl
          obtain rfl : (SLEN.getD i9 0) = kP := by omega
          have hl : lv_has ls 3 [(2, .int (nI (SLEN.getD i9 0))), (0, .ref h0), (1, .ref (K.1 i9))] := hl
          refine lv_iload_n hx hb dX10_isName_29 rfl (lv_at hl 0 rfl) ?_
          refine lv_aload_n hx hb dX10_isName_30 rfl (lv_at hl 2 rfl) ?_
          refine pTo (i := i9) (hi9) hO hS hC hK hl (j_len l G K i9 ((hi9))) si_X10_93 rfl rfl (Nat.le_of_ble_eq_true rfl) ⟨Nat.le_of_ble_eq_true rfl, Nat.le_of_ble_eq_true rfl⟩ ⟨by first | exact Nat.le_of_ble_eq_true rfl | exact Nat.zero_le _, by first | exact Nat.le_of_ble_eq_true rfl | exact Nat.zero_le _⟩ dX10_isName_31 (fun r2639 hr2639 => ?_)
          obtain rfl := hr2639
          refine lv_icmp_ge (tgt := 63) hx hb dX10_isName_34 (by decide) (fun _ => ?_) (fun c9 => absurd (Int32.le_refl _) c9)
          refine lv_iconst (v := 1) hx hb dX10_isName_63 (by decide) ?_
          exact RP (v := 1) hC (Or.inl (rfl)) (by decide +kernel) dX10_isName_64
        | succ nP ihP =>
          intro kP ls hkP hl
          refine lv_iload_n hx hb dX10_isName_29 rfl (lv_at hl 0 rfl) ?_
          refine lv_aload_n hx hb dX10_isName_30 rfl (lv_at hl 2 rfl) ?_
          refine pTo (i := i9) (hi9) hO hS hC hK hl (j_len l G K i9 ((hi9))) si_X10_93 rfl rfl (Nat.le_of_ble_eq_true rfl) ⟨Nat.le_of_ble_eq_true rfl, Nat.le_of_ble_eq_true rfl⟩ ⟨by first | exact Nat.le_of_ble_eq_true rfl | exact Nat.zero_le _, by first | exact Nat.le_of_ble_eq_true rfl | exact Nat.zero_le _⟩ dX10_isName_31 (fun r2641 hr2641 => ?_)
          obtain rfl := hr2641
          refine lv_icmp_ge (tgt := 63) hx hb dX10_isName_34 (by decide) (fun c9 => absurd c9 (nI_ge (a := kP) (b := (SLEN.getD i9 0)) (by omega) (by omega))) (fun _ => ?_)
          refine lv_aload_n hx hb dX10_isName_37 rfl (lv_at hl 1 rfl) ?_
          refine lv_aload_n hx hb dX10_isName_38 rfl (lv_at hl 1 rfl) ?_
          refine gf_X10_34 hC rfl hK hP 0 rfl rfl dX10_isName_39 ?_
          refine lv_iload_n hx hb dX10_isName_42 rfl (lv_at hl 0 rfl) ?_
          refine lv_iadd hx hb dX10_isName_43 ?_
          refine pV hC hK hl hP hD (t_byteAt l G h0 ((nI ks) + (nI kP)) tby kt tln tsp tkd (nI ks) (nI kn) tf9 fby) si_X10_78 [0, 1] rfl rfl (by decide) rfl rfl rfl rfl rfl (Nat.le_of_ble_eq_true rfl) ⟨Nat.le_of_ble_eq_true rfl, Nat.le_of_ble_eq_true rfl⟩ ⟨by first | exact Nat.le_of_ble_eq_true rfl | exact Nat.zero_le _, by first | exact Nat.le_of_ble_eq_true rfl | exact Nat.zero_le _⟩ dX10_isName_44 (fun r2643 hr2643 => ?_)
          refine lv_aload_n hx hb dX10_isName_47 rfl (lv_at hl 2 rfl) ?_
          refine lv_iload_n hx hb dX10_isName_48 rfl (lv_at hl 0 rfl) ?_
          refine pTo (i := i9) (hi9) hO hS hC hK hl (j_chr l G K i9 kP ((hi9)) (by omega)) si_X10_98 rfl rfl (Nat.le_of_ble_eq_true rfl) ⟨Nat.le_of_ble_eq_true rfl, Nat.le_of_ble_eq_true rfl⟩ ⟨by first | exact Nat.le_of_ble_eq_true rfl | exact Nat.zero_le _, by first | exact Nat.le_of_ble_eq_true rfl | exact Nat.zero_le _⟩ dX10_isName_49 (fun r2644 hr2644 => ?_)
          obtain rfl := hr2644
          refine lv_icmp_eq (tgt := 57) hx hb dX10_isName_52 (by decide) (fun c_52_2646 => ?_) (fun c_52_2646 => ?_)
          · refine lv_iinc (v := nI (kP + 1)) (lv' := [(2, .int (nI (kP + 1))), (0, .ref h0), (1, .ref (K.1 i9))]) hx hb dX10_isName_57 hl (k := 0) rfl (nI_1 _) (by decide) rfl (fun ls hl => ?_)
            refine lv_goto (tgt := 29) hx hb dX10_isName_60 (by decide) ?_
            exact ihP (kP + 1) _ (by omega) (lv_sub hl [0, 1, 2] rfl)
          · refine lv_iconst (v := 0) hx hb dX10_isName_55 (by decide) ?_
            exact RP (v := 0) hC (Or.inr (rfl)) (by decide +kernel) dX10_isName_56
      exact keyP (SLEN.getD i9 0) 0 _ (by omega) (lv_sub hl [0, 1, 2] rfl)
    · refine lv_iconst (v := 0) hx hb dX10_isName_25 (by decide) ?_
      exact RP (v := 0) hC (Or.inr (rfl)) (by decide +kernel) dX10_isName_26
set_option maxHeartbeats 4000000 in
set_option maxRecDepth 100000 in
theorem t_takesName (l : Launch) (G : GG) (K : OO) (i9 : Nat) (h0 : Nat) (tby : Nat) (kt : Nat) (tln : Nat) (tsp : Nat) (tkd : Int32) (ks : Nat) (kn : Nat) (tf9 : Int32) (fby : Nat → Int32) (hkt : kt ≤ 240) (hks : ks ≤ 240) (hkn : kn ≤ 240) (hi9 : i9 < 16) : MIo l G K yX10_takesName cX10_takesName 2 (some .boolean) 7 0 0 [.ref h0, .ref (K.1 i9)] [(h0, .inr (10, [.ref tby, .int (nI kt), .ref tln, .ref tsp, .int tkd, .int (nI ks), .int (nI kn), .int tf9])), (tby, .inl (G.2.1, 240, .inl fby))] (fun (r : Int32) (u : Int32 × Nat × Nat × Int32) => (r = 1 ∨ r = 0) ∧ (u.2.1 ≤ 240 ∧ u.2.2.1 ≤ 240)) (fun u : Int32 × Nat × Nat × Int32 => [(h0, .inr (10, [.ref tby, .int (nI kt), .ref tln, .ref tsp, .int u.1, .int (nI u.2.1), .int (nI u.2.2.1), .int u.2.2.2])), (tby, .inl (G.2.1, 240, .inl fby))]) := by
  refine MIo.start (by decide +kernel) (Nat.le_of_ble_eq_true rfl) ?_
  intro p e s m below meth c A ls hC hK hP hD hS hA hl hO
  have hl : lv_has ls 2 [(0, .ref h0), (1, .ref (K.1 i9))] := hl
  obtain ⟨hx, hb, hr, hml, hB, hown, hlocks, hnm⟩ := id hC
  refine lv_aload_n hx hb dX10_takesName_0 rfl (lv_at hl 0 rfl) ?_
  refine lv_aload_n hx hb dX10_takesName_1 rfl (lv_at hl 1 rfl) ?_
  refine pVo hO hS hC hK hl hP hD (t_isName l G K i9 h0 tby kt tln tsp tkd ks kn tf9 fby (by omega) (by omega) (by omega) ((hi9))) si_X10_102 [0, 1] rfl rfl (by decide) rfl rfl rfl rfl rfl (Nat.le_of_ble_eq_true rfl) ⟨Nat.le_of_ble_eq_true rfl, Nat.le_of_ble_eq_true rfl⟩ ⟨by first | exact Nat.le_of_ble_eq_true rfl | exact Nat.zero_le _, by first | exact Nat.le_of_ble_eq_true rfl | exact Nat.zero_le _⟩ dX10_takesName_2 (fun r2647 hr2647 => ?_)
  rcases hr2647 with rfl | rfl
  · refine lv_if_ne (tgt := 13) hx hb dX10_takesName_5 (by decide) (fun _ => ?_) (fun c9 => absurd c9 (by decide))
    refine lv_aload_n hx hb dX10_takesName_13 rfl (lv_at hl 0 rfl) ?_
    refine vV (wr := []) hC hK hl hP hD hS hA (t_advance l G h0 tby kt tln tsp tkd ks kn tf9 fby (by omega) (by omega) (by omega)) si_X10_47 [0, 1] [] rfl rfl (by decide) rfl (by decide) (by decide) rfl rfl rfl rfl rfl (Nat.le_of_ble_eq_true rfl) ⟨Nat.le_of_ble_eq_true rfl, Nat.le_of_ble_eq_true rfl⟩ ⟨Nat.le_of_ble_eq_true rfl, Nat.le_of_ble_eq_true rfl⟩ dX10_takesName_14 (fun u2650 H locs hr2649 hP hD hS => ?_)
    obtain ⟨kd12651, ks12652, kn12653⟩ := u2650
    try dsimp only at hr2649
    have hP : va_P G.1 vwCl [(h0, .inr (10, [.ref tby, .int (nI kt), .ref tln, .ref tsp, .int kd12651, .int (nI ks12652), .int (nI kn12653), .int tf9])), (tby, .inl (G.2.1, 240, .inl fby))] H := hP
    have hD : va_D A [(h0, .inr (10, [.ref tby, .int (nI kt), .ref tln, .ref tsp, .int kd12651, .int (nI ks12652), .int (nI kn12653), .int tf9])), (tby, .inl (G.2.1, 240, .inl fby))] := hD
    have w2654 := hr2649
    refine lv_iconst (v := 1) hx hb dX10_takesName_17 (by decide) ?_
    exact RI (v := 1) hC hP hD hS [0, 1] (kd12651, ks12652, kn12653, tf9) rfl rfl (by decide) (⟨Or.inl (rfl), by dsimp only; omega⟩) (by decide +kernel) dX10_takesName_18
  · refine lv_if_ne (tgt := 13) hx hb dX10_takesName_5 (by decide) (fun c9 => absurd (by decide) c9) (fun _ => ?_)
    refine lv_aload_n hx hb dX10_takesName_8 rfl (lv_at hl 0 rfl) ?_
    refine iV (wr := [(tby, .inl (G.2.1, 240, .inl fby))]) hC hK hl hP hD hS hA (t_refuse l G h0 tby kt tln tsp tkd ks kn tf9) si_X10_106 [0] [1] rfl rfl (by decide) rfl (by decide) (by decide) rfl rfl rfl rfl rfl (Nat.le_of_ble_eq_true rfl) ⟨Nat.le_of_ble_eq_true rfl, Nat.le_of_ble_eq_true rfl⟩ ⟨Nat.le_of_ble_eq_true rfl, Nat.le_of_ble_eq_true rfl⟩ dX10_takesName_9 (fun r2655 u2656 H locs hr2655 hP hD hS => ?_)
    obtain ⟨tf12657, rfl⟩ : ∃ z9, z9 = u2656 := ⟨_, rfl⟩
    try dsimp only at hr2655
    have hP : va_P G.1 vwCl [(tby, .inl (G.2.1, 240, .inl fby)), (h0, .inr (10, [.ref tby, .int (nI kt), .ref tln, .ref tsp, .int tkd, .int (nI ks), .int (nI kn), .int tf12657]))] H := hP
    have hD : va_D A [(tby, .inl (G.2.1, 240, .inl fby)), (h0, .inr (10, [.ref tby, .int (nI kt), .ref tln, .ref tsp, .int tkd, .int (nI ks), .int (nI kn), .int tf12657]))] := hD
    obtain rfl := hr2655
    exact RI (v := 0) hC hP hD hS [1, 0] (tkd, ks, kn, tf12657) rfl rfl (by decide) (⟨Or.inr (rfl), by dsimp only; omega⟩) (by decide +kernel) dX10_takesName_12
set_option maxHeartbeats 4000000 in
set_option maxRecDepth 100000 in
theorem t_takesByte (l : Launch) (G : GG) (h0 : Nat) (b9 : Int32) (tby : Nat) (kt : Nat) (tln : Nat) (tsp : Nat) (tkd : Int32) (ks : Nat) (kn : Nat) (tf9 : Int32) (fby : Nat → Int32) (hkt : kt ≤ 240) (hks : ks ≤ 240) (hkn : kn ≤ 240) : MI l G yX10_takesByte cX10_takesByte 2 (some .boolean) 4 0 0 [.ref h0, .int b9] [(h0, .inr (10, [.ref tby, .int (nI kt), .ref tln, .ref tsp, .int tkd, .int (nI ks), .int (nI kn), .int tf9])), (tby, .inl (G.2.1, 240, .inl fby))] (fun (r : Int32) (u : Int32 × Nat × Nat × Int32) => (r = 1 ∨ r = 0) ∧ (u.2.1 ≤ 240 ∧ u.2.2.1 ≤ 240)) (fun u : Int32 × Nat × Nat × Int32 => [(h0, .inr (10, [.ref tby, .int (nI kt), .ref tln, .ref tsp, .int u.1, .int (nI u.2.1), .int (nI u.2.2.1), .int u.2.2.2])), (tby, .inl (G.2.1, 240, .inl fby))]) := by
  refine MI.start (by decide +kernel) (Nat.le_of_ble_eq_true rfl) ?_
  intro p e s m below meth c A ls hC hK hP hD hS hA hl
  have hl : lv_has ls 2 [(0, .ref h0), (1, .int b9)] := hl
  obtain ⟨hx, hb, hr, hml, hB, hown, hlocks, hnm⟩ := id hC
  refine lv_aload_n hx hb dX10_takesByte_0 rfl (lv_at hl 0 rfl) ?_
  refine gf_X10_31 hC rfl hK hP 0 rfl rfl dX10_takesByte_1 ?_
  refine lv_iload_n hx hb dX10_takesByte_4 rfl (lv_at hl 1 rfl) ?_
  refine lv_icmp_eq (tgt := 13) hx hb dX10_takesByte_5 (by decide) (fun c_5_2659 => ?_) (fun c_5_2659 => ?_)
  · refine lv_aload_n hx hb dX10_takesByte_13 rfl (lv_at hl 0 rfl) ?_
    refine vV (wr := []) hC hK hl hP hD hS hA (t_advance l G h0 tby kt tln tsp tkd ks kn tf9 fby (by omega) (by omega) (by omega)) si_X10_47 [0, 1] [] rfl rfl (by decide) rfl (by decide) (by decide) rfl rfl rfl rfl rfl (Nat.le_of_ble_eq_true rfl) ⟨Nat.le_of_ble_eq_true rfl, Nat.le_of_ble_eq_true rfl⟩ ⟨Nat.le_of_ble_eq_true rfl, Nat.le_of_ble_eq_true rfl⟩ dX10_takesByte_14 (fun u2661 H locs hr2660 hP hD hS => ?_)
    obtain ⟨kd12662, ks12663, kn12664⟩ := u2661
    try dsimp only at hr2660
    have hP : va_P G.1 vwCl [(h0, .inr (10, [.ref tby, .int (nI kt), .ref tln, .ref tsp, .int kd12662, .int (nI ks12663), .int (nI kn12664), .int tf9])), (tby, .inl (G.2.1, 240, .inl fby))] H := hP
    have hD : va_D A [(h0, .inr (10, [.ref tby, .int (nI kt), .ref tln, .ref tsp, .int kd12662, .int (nI ks12663), .int (nI kn12664), .int tf9])), (tby, .inl (G.2.1, 240, .inl fby))] := hD
    have w2665 := hr2660
    refine lv_iconst (v := 1) hx hb dX10_takesByte_17 (by decide) ?_
    exact RI (v := 1) hC hP hD hS [0, 1] (kd12662, ks12663, kn12664, tf9) rfl rfl (by decide) (⟨Or.inl (rfl), by dsimp only; omega⟩) (by decide +kernel) dX10_takesByte_18
  · refine lv_aload_n hx hb dX10_takesByte_8 rfl (lv_at hl 0 rfl) ?_
    refine iV (wr := [(tby, .inl (G.2.1, 240, .inl fby))]) hC hK hl hP hD hS hA (t_refuse l G h0 tby kt tln tsp tkd ks kn tf9) si_X10_106 [0] [1] rfl rfl (by decide) rfl (by decide) (by decide) rfl rfl rfl rfl rfl (Nat.le_of_ble_eq_true rfl) ⟨Nat.le_of_ble_eq_true rfl, Nat.le_of_ble_eq_true rfl⟩ ⟨Nat.le_of_ble_eq_true rfl, Nat.le_of_ble_eq_true rfl⟩ dX10_takesByte_9 (fun r2666 u2667 H locs hr2666 hP hD hS => ?_)
    obtain ⟨tf12668, rfl⟩ : ∃ z9, z9 = u2667 := ⟨_, rfl⟩
    try dsimp only at hr2666
    have hP : va_P G.1 vwCl [(tby, .inl (G.2.1, 240, .inl fby)), (h0, .inr (10, [.ref tby, .int (nI kt), .ref tln, .ref tsp, .int tkd, .int (nI ks), .int (nI kn), .int tf12668]))] H := hP
    have hD : va_D A [(tby, .inl (G.2.1, 240, .inl fby)), (h0, .inr (10, [.ref tby, .int (nI kt), .ref tln, .ref tsp, .int tkd, .int (nI ks), .int (nI kn), .int tf12668]))] := hD
    obtain rfl := hr2666
    exact RI (v := 0) hC hP hD hS [1, 0] (tkd, ks, kn, tf12668) rfl rfl (by decide) (⟨Or.inr (rfl), by dsimp only; omega⟩) (by decide +kernel) dX10_takesByte_12
set_option maxHeartbeats 4000000 in
set_option maxRecDepth 100000 in
theorem t_numberHere (l : Launch) (G : GG) (h0 : Nat) (tby : Nat) (kt : Nat) (tln : Nat) (tsp : Nat) (tkd : Int32) (ks : Nat) (kn : Nat) (tf9 : Int32) (fby : Nat → Int32) (hkt : kt ≤ 240) (hks : ks ≤ 240) (hkn : kn ≤ 240) : MP l G yX10_numberHere cX10_numberHere 3 (some .int) 3 [.ref h0] [(h0, .inr (10, [.ref tby, .int (nI kt), .ref tln, .ref tsp, .int tkd, .int (nI ks), .int (nI kn), .int tf9])), (tby, .inl (G.2.1, 240, .inl fby))] (fun r : Int32 => True) := by
  refine MP.start (by decide +kernel) (Nat.le_of_ble_eq_true rfl) ?_
  intro p e s m below meth c ls hC hK hP hD hl
  have hl : lv_has ls 3 [(0, .ref h0)] := hl
  obtain ⟨hx, hb, hr, hml, hB, hown, hlocks, hnm⟩ := id hC
  refine lv_aload_n hx hb dX10_numberHere_0 rfl (lv_at hl 0 rfl) ?_
  refine gf_X10_31 hC rfl hK hP 0 rfl rfl dX10_numberHere_1 ?_
  refine lv_bipush (v := (-3)) hx hb dX10_numberHere_4 (by decide) ?_
  refine lv_icmp_ne (tgt := 22) hx hb dX10_numberHere_6 (by decide) (fun c_6_2670 => ?_) (fun c_6_2670 => ?_)
  · refine lv_iconst (v := (-1)) hx hb dX10_numberHere_22 (by decide) ?_
    exact RP (v := (-1)) hC (trivial) rfl dX10_numberHere_23
  · refine lv_aload_n hx hb dX10_numberHere_9 rfl (lv_at hl 0 rfl) ?_
    refine gf_X10_37 hC rfl hK hP 0 rfl rfl dX10_numberHere_10 ?_
    refine lv_aload_n hx hb dX10_numberHere_13 rfl (lv_at hl 0 rfl) ?_
    refine gf_X10_34 hC rfl hK hP 0 rfl rfl dX10_numberHere_14 ?_
    refine lv_isub hx hb dX10_numberHere_17 ?_
    refine lv_iconst (v := 3) hx hb dX10_numberHere_18 (by decide) ?_
    refine lv_icmp_le (tgt := 24) hx hb dX10_numberHere_19 (by decide) (fun c_19_2671 => ?_) (fun c_19_2671 => ?_)
    · refine lv_iconst (v := 0) hx hb dX10_numberHere_24 (by decide) ?_
      refine lv_istore_n (lv' := [(1, .int 0), (0, .ref h0)]) hx hb dX10_numberHere_25 rfl hl (by decide) rfl (fun ls hl => ?_)
      refine lv_aload_n hx hb dX10_numberHere_26 rfl (lv_at hl 1 rfl) ?_
      refine gf_X10_34 hC rfl hK hP 0 rfl rfl dX10_numberHere_27 ?_
      refine lv_istore_n (lv' := [(2, .int (nI ks)), (1, .int 0), (0, .ref h0)]) hx hb dX10_numberHere_30 rfl hl (by decide) rfl (fun ls hl => ?_)
      have keyP : ∀ (nP kP : Nat) (nn : Int32) (ls : Array Slot), kP < 2 ^ 31 → (nI kn).toInt ≤ ((kP + nP : Nat) : Int) → lv_has ls 3 [(2, .int (nI kP)), (1, .int nn), (0, .ref h0)] → W p l e (RM 3 0 0) s m ([.ref h0] : List Value).toArray below meth c s.heap [] 0 0 (MQ below (QP (fun r : Int32 => True)) ([.ref h0] : List Value).toArray s 0 0 (fun _ => False)) (F0 m 31 ls []) := by
        intro nP
        induction nP with
        | zero =>
          intro kP nn ls hjP hkP hl
          have hzP : nI kn ≤ nI kP := bz hjP (by omega)
          refine lv_iload_n hx hb dX10_numberHere_31 rfl (lv_at hl 0 rfl) ?_
          refine lv_aload_n hx hb dX10_numberHere_32 rfl (lv_at hl 2 rfl) ?_
          refine gf_X10_37 hC rfl hK hP 0 rfl rfl dX10_numberHere_33 ?_
          refine lv_icmp_ge (tgt := 59) hx hb dX10_numberHere_36 (by decide) (fun _ => ?_) (fun c9 => absurd (hzP) c9)
          refine lv_iload_n hx hb dX10_numberHere_59 rfl (lv_at hl 1 rfl) ?_
          exact RP (v := nn) hC (trivial) rfl dX10_numberHere_60
        | succ nP ihP =>
          intro kP nn ls hjP hkP hl
          refine lv_iload_n hx hb dX10_numberHere_31 rfl (lv_at hl 0 rfl) ?_
          refine lv_aload_n hx hb dX10_numberHere_32 rfl (lv_at hl 2 rfl) ?_
          refine gf_X10_37 hC rfl hK hP 0 rfl rfl dX10_numberHere_33 ?_
          refine lv_icmp_ge (tgt := 59) hx hb dX10_numberHere_36 (by decide) (fun c_36_2672 => ?_) (fun c_36_2672 => ?_)
          · refine lv_iload_n hx hb dX10_numberHere_59 rfl (lv_at hl 1 rfl) ?_
            exact RP (v := nn) hC (trivial) rfl dX10_numberHere_60
          · refine lv_iload_n hx hb dX10_numberHere_39 rfl (lv_at hl 1 rfl) ?_
            refine lv_bipush (v := 10) hx hb dX10_numberHere_40 (by decide) ?_
            refine lv_imul hx hb dX10_numberHere_42 ?_
            refine lv_aload_n hx hb dX10_numberHere_43 rfl (lv_at hl 2 rfl) ?_
            refine lv_iload_n hx hb dX10_numberHere_44 rfl (lv_at hl 0 rfl) ?_
            refine pV hC hK hl hP hD (t_byteAt l G h0 (nI kP) tby kt tln tsp tkd (nI ks) (nI kn) tf9 fby) si_X10_78 [0, 1] rfl rfl (by decide) rfl rfl rfl rfl rfl (Nat.le_of_ble_eq_true rfl) ⟨Nat.le_of_ble_eq_true rfl, Nat.le_of_ble_eq_true rfl⟩ ⟨by first | exact Nat.le_of_ble_eq_true rfl | exact Nat.zero_le _, by first | exact Nat.le_of_ble_eq_true rfl | exact Nat.zero_le _⟩ dX10_numberHere_45 (fun r2673 hr2673 => ?_)
            refine lv_iadd hx hb dX10_numberHere_48 ?_
            refine lv_bipush (v := 48) hx hb dX10_numberHere_49 (by decide) ?_
            refine lv_isub hx hb dX10_numberHere_51 ?_
            refine lv_istore_n (lv' := [(1, .int (((nn * 10) + r2673) - 48)), (2, .int (nI kP)), (0, .ref h0)]) hx hb dX10_numberHere_52 rfl hl (by decide) rfl (fun ls hl => ?_)
            refine lv_iinc (v := nI (kP + 1)) (lv' := [(2, .int (nI (kP + 1))), (1, .int (((nn * 10) + r2673) - 48)), (0, .ref h0)]) hx hb dX10_numberHere_53 hl (k := 1) rfl (nI_1 _) (by decide) rfl (fun ls hl => ?_)
            refine lv_goto (tgt := 31) hx hb dX10_numberHere_56 (by decide) ?_
            exact ihP (kP + 1) (((nn * 10) + r2673) - 48) _ (bs hjP c_36_2672) (by omega) (lv_sub hl [0, 1, 2] rfl)
      exact keyP (nI kn).toInt.toNat ks 0 _ (by first | decide | omega) (by omega) (lv_sub hl [0, 1, 2] rfl)
    · refine lv_iconst (v := (-1)) hx hb dX10_numberHere_22 (by decide) ?_
      exact RP (v := (-1)) hC (trivial) rfl dX10_numberHere_23
set_option maxHeartbeats 4000000 in
set_option maxRecDepth 100000 in
theorem t_takesNumber (l : Launch) (G : GG) (h0 : Nat) (li : Int32) (co : Int32) (mo : Int32) (tby : Nat) (kt : Nat) (tln : Nat) (tsp : Nat) (tkd : Int32) (ks : Nat) (kn : Nat) (tf9 : Int32) (fby : Nat → Int32) (tlnc : Nat) (kln : Nat) (ftln : Nat → Int32) (hkt : kt ≤ 240) (hks : ks ≤ 240) (hkn : kn ≤ 240) (hkln : kln ≤ 9) : MI l G yX10_takesNumber cX10_takesNumber 5 (some .boolean) 4 0 0 [.ref h0, .int li, .int co, .int mo] [(h0, .inr (10, [.ref tby, .int (nI kt), .ref tln, .ref tsp, .int tkd, .int (nI ks), .int (nI kn), .int tf9])), (tby, .inl (G.2.1, 240, .inl fby)), (tln, .inr (8, [.int 9, .int 7, .ref tlnc, .int (nI kln)])), (tlnc, .inl (G.2.1, 63, .inl ftln))] (fun (r : Int32) (u : Int32 × Nat × Nat × Int32 × (Nat → Int32)) => (r = 1 ∨ r = 0) ∧ (u.2.1 ≤ 240 ∧ u.2.2.1 ≤ 240)) (fun u : Int32 × Nat × Nat × Int32 × (Nat → Int32) => [(h0, .inr (10, [.ref tby, .int (nI kt), .ref tln, .ref tsp, .int u.1, .int (nI u.2.1), .int (nI u.2.2.1), .int u.2.2.2.1])), (tby, .inl (G.2.1, 240, .inl fby)), (tln, .inr (8, [.int 9, .int 7, .ref tlnc, .int (nI kln)])), (tlnc, .inl (G.2.1, 63, .inl u.2.2.2.2))]) := by
  refine MI.start (by decide +kernel) (Nat.le_of_ble_eq_true rfl) ?_
  intro p e s m below meth c A ls hC hK hP hD hS hA hl
  have hl : lv_has ls 5 [(0, .ref h0), (1, .int li), (2, .int co), (3, .int mo)] := hl
  obtain ⟨hx, hb, hr, hml, hB, hown, hlocks, hnm⟩ := id hC
  refine lv_aload_n hx hb dX10_takesNumber_0 rfl (lv_at hl 0 rfl) ?_
  refine pV hC hK hl hP hD (t_numberHere l G h0 tby kt tln tsp tkd ks kn tf9 fby (by omega) (by omega) (by omega)) si_X10_109 [0, 1] rfl rfl (by decide) rfl rfl rfl rfl rfl (Nat.le_of_ble_eq_true rfl) ⟨Nat.le_of_ble_eq_true rfl, Nat.le_of_ble_eq_true rfl⟩ ⟨by first | exact Nat.le_of_ble_eq_true rfl | exact Nat.zero_le _, by first | exact Nat.le_of_ble_eq_true rfl | exact Nat.zero_le _⟩ dX10_takesNumber_1 (fun r2674 hr2674 => ?_)
  refine lv_istore (lv' := [(4, .int r2674), (0, .ref h0), (1, .int li), (2, .int co), (3, .int mo)]) hx hb dX10_takesNumber_4 hl (by decide) rfl (fun ls hl => ?_)
  refine lv_iload hx hb dX10_takesNumber_6 (lv_at hl 0 rfl) ?_
  refine lv_iconst (v := 0) hx hb dX10_takesNumber_8 (by decide) ?_
  refine lv_iload_n hx hb dX10_takesNumber_9 rfl (lv_at hl 4 rfl) ?_
  refine pSN hC hK hl (c_within l G r2674 0 mo) si_X10_89 rfl rfl (Nat.le_of_ble_eq_true rfl) ⟨Nat.le_of_ble_eq_true rfl, Nat.le_of_ble_eq_true rfl⟩ ⟨by first | exact Nat.le_of_ble_eq_true rfl | exact Nat.zero_le _, by first | exact Nat.le_of_ble_eq_true rfl | exact Nat.zero_le _⟩ dX10_takesNumber_10 (fun r2675 hr2675 => ?_)
  rcases hr2675 with ⟨rfl, a2676⟩ | ⟨rfl, a2676⟩
  · refine lv_if_ne (tgt := 21) hx hb dX10_takesNumber_13 (by decide) (fun _ => ?_) (fun c9 => absurd c9 (by decide))
    refine lv_aload_n hx hb dX10_takesNumber_21 rfl (lv_at hl 1 rfl) ?_
    refine gf_X10_20 hC rfl hK hP 0 rfl rfl dX10_takesNumber_22 ?_
    refine lv_iload_n hx hb dX10_takesNumber_25 rfl (lv_at hl 2 rfl) ?_
    refine lv_iload_n hx hb dX10_takesNumber_26 rfl (lv_at hl 3 rfl) ?_
    refine lv_iload hx hb dX10_takesNumber_27 (lv_at hl 0 rfl) ?_
    refine vV (wr := [(h0, .inr (10, [.ref tby, .int (nI kt), .ref tln, .ref tsp, .int tkd, .int (nI ks), .int (nI kn), .int tf9])), (tby, .inl (G.2.1, 240, .inl fby))]) hC hK hl hP hD hS hA (c_T_set l G tln li co r2674 9 7 tlnc kln ftln (by omega) (by omega) (by omega)) si_X10_66 [2, 3] [0, 1] rfl rfl (by decide) rfl (by decide) (by decide) rfl rfl rfl rfl rfl (Nat.le_of_ble_eq_true rfl) ⟨Nat.le_of_ble_eq_true rfl, Nat.le_of_ble_eq_true rfl⟩ ⟨Nat.le_of_ble_eq_true rfl, Nat.le_of_ble_eq_true rfl⟩ dX10_takesNumber_29 (fun u2678 H locs hr2677 hP hD hS => ?_)
    obtain ⟨f12679, rfl⟩ : ∃ z9, z9 = u2678 := ⟨_, rfl⟩
    try dsimp only at hr2677
    have hP : va_P G.1 vwCl [(h0, .inr (10, [.ref tby, .int (nI kt), .ref tln, .ref tsp, .int tkd, .int (nI ks), .int (nI kn), .int tf9])), (tby, .inl (G.2.1, 240, .inl fby)), (tln, .inr (8, [.int 9, .int 7, .ref tlnc, .int (nI kln)])), (tlnc, .inl (G.2.1, 63, .inl f12679))] H := hP
    have hD : va_D A [(h0, .inr (10, [.ref tby, .int (nI kt), .ref tln, .ref tsp, .int tkd, .int (nI ks), .int (nI kn), .int tf9])), (tby, .inl (G.2.1, 240, .inl fby)), (tln, .inr (8, [.int 9, .int 7, .ref tlnc, .int (nI kln)])), (tlnc, .inl (G.2.1, 63, .inl f12679))] := hD
    have w2680 := hr2677
    refine lv_aload_n hx hb dX10_takesNumber_32 rfl (lv_at hl 1 rfl) ?_
    refine vV (wr := [(tln, .inr (8, [.int 9, .int 7, .ref tlnc, .int (nI kln)])), (tlnc, .inl (G.2.1, 63, .inl f12679))]) hC hK hl hP hD hS hA (t_advance l G h0 tby kt tln tsp tkd ks kn tf9 fby (by omega) (by omega) (by omega)) si_X10_47 [0, 1] [2, 3] rfl rfl (by decide) rfl (by decide) (by decide) rfl rfl rfl rfl rfl (Nat.le_of_ble_eq_true rfl) ⟨Nat.le_of_ble_eq_true rfl, Nat.le_of_ble_eq_true rfl⟩ ⟨Nat.le_of_ble_eq_true rfl, Nat.le_of_ble_eq_true rfl⟩ dX10_takesNumber_33 (fun u2682 H locs hr2681 hP hD hS => ?_)
    obtain ⟨kd12683, ks12684, kn12685⟩ := u2682
    try dsimp only at hr2681
    have hP : va_P G.1 vwCl [(tln, .inr (8, [.int 9, .int 7, .ref tlnc, .int (nI kln)])), (tlnc, .inl (G.2.1, 63, .inl f12679)), (h0, .inr (10, [.ref tby, .int (nI kt), .ref tln, .ref tsp, .int kd12683, .int (nI ks12684), .int (nI kn12685), .int tf9])), (tby, .inl (G.2.1, 240, .inl fby))] H := hP
    have hD : va_D A [(tln, .inr (8, [.int 9, .int 7, .ref tlnc, .int (nI kln)])), (tlnc, .inl (G.2.1, 63, .inl f12679)), (h0, .inr (10, [.ref tby, .int (nI kt), .ref tln, .ref tsp, .int kd12683, .int (nI ks12684), .int (nI kn12685), .int tf9])), (tby, .inl (G.2.1, 240, .inl fby))] := hD
    have w2686 := hr2681
    refine lv_iconst (v := 1) hx hb dX10_takesNumber_36 (by decide) ?_
    exact RI (v := 1) hC hP hD hS [2, 3, 0, 1] (kd12683, ks12684, kn12685, tf9, f12679) rfl rfl (by decide) (⟨Or.inl (rfl), by dsimp only; omega⟩) (by decide +kernel) dX10_takesNumber_37
  · refine lv_if_ne (tgt := 21) hx hb dX10_takesNumber_13 (by decide) (fun c9 => absurd (by decide) c9) (fun _ => ?_)
    refine lv_aload_n hx hb dX10_takesNumber_16 rfl (lv_at hl 1 rfl) ?_
    refine iV (wr := [(tby, .inl (G.2.1, 240, .inl fby)), (tln, .inr (8, [.int 9, .int 7, .ref tlnc, .int (nI kln)])), (tlnc, .inl (G.2.1, 63, .inl ftln))]) hC hK hl hP hD hS hA (t_refuse l G h0 tby kt tln tsp tkd ks kn tf9) si_X10_106 [0] [1, 2, 3] rfl rfl (by decide) rfl (by decide) (by decide) rfl rfl rfl rfl rfl (Nat.le_of_ble_eq_true rfl) ⟨Nat.le_of_ble_eq_true rfl, Nat.le_of_ble_eq_true rfl⟩ ⟨Nat.le_of_ble_eq_true rfl, Nat.le_of_ble_eq_true rfl⟩ dX10_takesNumber_17 (fun r2687 u2688 H locs hr2687 hP hD hS => ?_)
    obtain ⟨tf12689, rfl⟩ : ∃ z9, z9 = u2688 := ⟨_, rfl⟩
    try dsimp only at hr2687
    have hP : va_P G.1 vwCl [(tby, .inl (G.2.1, 240, .inl fby)), (tln, .inr (8, [.int 9, .int 7, .ref tlnc, .int (nI kln)])), (tlnc, .inl (G.2.1, 63, .inl ftln)), (h0, .inr (10, [.ref tby, .int (nI kt), .ref tln, .ref tsp, .int tkd, .int (nI ks), .int (nI kn), .int tf12689]))] H := hP
    have hD : va_D A [(tby, .inl (G.2.1, 240, .inl fby)), (tln, .inr (8, [.int 9, .int 7, .ref tlnc, .int (nI kln)])), (tlnc, .inl (G.2.1, 63, .inl ftln)), (h0, .inr (10, [.ref tby, .int (nI kt), .ref tln, .ref tsp, .int tkd, .int (nI ks), .int (nI kn), .int tf12689]))] := hD
    obtain rfl := hr2687
    exact RI (v := 0) hC hP hD hS [3, 0, 1, 2] (tkd, ks, kn, tf12689, ftln) rfl rfl (by decide) (⟨Or.inr (rfl), by dsimp only; omega⟩) (by decide +kernel) dX10_takesNumber_20
set_option maxHeartbeats 4000000 in
set_option maxRecDepth 100000 in
theorem t_addStep (l : Launch) (G : GG) (h0 : Nat) (sp : Int32) (tby : Nat) (kt : Nat) (tln : Nat) (tsp : Nat) (tkd : Int32) (ks : Nat) (kn : Nat) (tf9 : Int32) (tspc : Nat) (ksp : Nat) (ftsp : Nat → Int32) (hksp : ksp ≤ 120) : MV l G yX10_addStep cX10_addStep 2 2 0 0 [.ref h0, .int sp] [(h0, .inr (10, [.ref tby, .int (nI kt), .ref tln, .ref tsp, .int tkd, .int (nI ks), .int (nI kn), .int tf9])), (tsp, .inr (8, [.int 120, .int 1, .ref tspc, .int (nI ksp)])), (tspc, .inl (G.2.1, 120, .inl ftsp))] (fun u : Nat × (Nat → Int32) => u.1 ≤ 120) (fun u : Nat × (Nat → Int32) => [(h0, .inr (10, [.ref tby, .int (nI kt), .ref tln, .ref tsp, .int tkd, .int (nI ks), .int (nI kn), .int tf9])), (tsp, .inr (8, [.int 120, .int 1, .ref tspc, .int (nI u.1)])), (tspc, .inl (G.2.1, 120, .inl u.2))]) := by
  refine MV.start (by decide +kernel) (Nat.le_of_ble_eq_true rfl) ?_
  intro p e s m below meth c A ls hC hK hP hD hS hA hl
  have hl : lv_has ls 2 [(0, .ref h0), (1, .int sp)] := hl
  obtain ⟨hx, hb, hr, hml, hB, hown, hlocks, hnm⟩ := id hC
  refine lv_aload_n hx hb dX10_addStep_0 rfl (lv_at hl 0 rfl) ?_
  refine gf_X10_24 hC rfl hK hP 0 rfl rfl dX10_addStep_1 ?_
  refine lv_aload_n hx hb dX10_addStep_4 rfl (lv_at hl 0 rfl) ?_
  refine gf_X10_24 hC rfl hK hP 0 rfl rfl dX10_addStep_5 ?_
  rcases Nat.lt_or_ge ksp 120 with hcap9 | hcap9
  · refine iV (wr := [(h0, .inr (10, [.ref tby, .int (nI kt), .ref tln, .ref tsp, .int tkd, .int (nI ks), .int (nI kn), .int tf9])), (tspc, .inl (G.2.1, 120, .inl ftsp))]) hC hK hl hP hD hS hA (c_T_append l G tsp 120 1 tspc ksp (by omega) (by omega)) si_X10_59 [1] [0, 2] rfl rfl (by decide) rfl (by decide) (by decide) rfl rfl rfl rfl rfl (Nat.le_of_ble_eq_true rfl) ⟨Nat.le_of_ble_eq_true rfl, Nat.le_of_ble_eq_true rfl⟩ ⟨Nat.le_of_ble_eq_true rfl, Nat.le_of_ble_eq_true rfl⟩ dX10_addStep_8 (fun r2691 u2692 H locs hr2691 hP hD hS => ?_)
    have hP : va_P G.1 vwCl [(h0, .inr (10, [.ref tby, .int (nI kt), .ref tln, .ref tsp, .int tkd, .int (nI ks), .int (nI kn), .int tf9])), (tspc, .inl (G.2.1, 120, .inl ftsp)), (tsp, .inr (8, [.int 120, .int 1, .ref tspc, .int (nI (ksp + 1))]))] H := hP
    have hD : va_D A [(h0, .inr (10, [.ref tby, .int (nI kt), .ref tln, .ref tsp, .int tkd, .int (nI ks), .int (nI kn), .int tf9])), (tspc, .inl (G.2.1, 120, .inl ftsp)), (tsp, .inr (8, [.int 120, .int 1, .ref tspc, .int (nI (ksp + 1))]))] := hD
    obtain rfl := hr2691
    refine lv_iconst (v := 0) hx hb dX10_addStep_11 (by decide) ?_
    refine lv_iload_n hx hb dX10_addStep_12 rfl (lv_at hl 1 rfl) ?_
    refine vV (wr := [(h0, .inr (10, [.ref tby, .int (nI kt), .ref tln, .ref tsp, .int tkd, .int (nI ks), .int (nI kn), .int tf9]))]) hC hK hl hP hD hS hA (c_T_set l G tsp (nI ksp) 0 sp 120 1 tspc (ksp + 1) ftsp (by omega) (by omega) (by omega)) si_X10_66 [2, 1] [0] rfl rfl (by decide) rfl (by decide) (by decide) rfl rfl rfl rfl rfl (Nat.le_of_ble_eq_true rfl) ⟨Nat.le_of_ble_eq_true rfl, Nat.le_of_ble_eq_true rfl⟩ ⟨Nat.le_of_ble_eq_true rfl, Nat.le_of_ble_eq_true rfl⟩ dX10_addStep_13 (fun u2695 H locs hr2694 hP hD hS => ?_)
    obtain ⟨f12696, rfl⟩ : ∃ z9, z9 = u2695 := ⟨_, rfl⟩
    try dsimp only at hr2694
    have hP : va_P G.1 vwCl [(h0, .inr (10, [.ref tby, .int (nI kt), .ref tln, .ref tsp, .int tkd, .int (nI ks), .int (nI kn), .int tf9])), (tsp, .inr (8, [.int 120, .int 1, .ref tspc, .int (nI (ksp + 1))])), (tspc, .inl (G.2.1, 120, .inl f12696))] H := hP
    have hD : va_D A [(h0, .inr (10, [.ref tby, .int (nI kt), .ref tln, .ref tsp, .int tkd, .int (nI ks), .int (nI kn), .int tf9])), (tsp, .inr (8, [.int 120, .int 1, .ref tspc, .int (nI (ksp + 1))])), (tspc, .inl (G.2.1, 120, .inl f12696))] := hD
    have w2697 := hr2694
    exact RV hC hP hD hS [0, 1, 2] ((ksp + 1), f12696) rfl rfl (by decide) (by dsimp only; omega) dX10_addStep_16
  · refine iV (wr := [(h0, .inr (10, [.ref tby, .int (nI kt), .ref tln, .ref tsp, .int tkd, .int (nI ks), .int (nI kn), .int tf9])), (tspc, .inl (G.2.1, 120, .inl ftsp))]) hC hK hl hP hD hS hA (c_T_appendF l G tsp 120 1 tspc ksp (by omega) (by omega)) si_X10_59 [1] [0, 2] rfl rfl (by decide) rfl (by decide) (by decide) rfl rfl rfl rfl rfl (Nat.le_of_ble_eq_true rfl) ⟨Nat.le_of_ble_eq_true rfl, Nat.le_of_ble_eq_true rfl⟩ ⟨Nat.le_of_ble_eq_true rfl, Nat.le_of_ble_eq_true rfl⟩ dX10_addStep_8 (fun r2698 u2699 H locs hr2698 hP hD hS => ?_)
    have hP : va_P G.1 vwCl [(h0, .inr (10, [.ref tby, .int (nI kt), .ref tln, .ref tsp, .int tkd, .int (nI ks), .int (nI kn), .int tf9])), (tspc, .inl (G.2.1, 120, .inl ftsp)), (tsp, .inr (8, [.int 120, .int 1, .ref tspc, .int (nI ksp)]))] H := hP
    have hD : va_D A [(h0, .inr (10, [.ref tby, .int (nI kt), .ref tln, .ref tsp, .int tkd, .int (nI ks), .int (nI kn), .int tf9])), (tspc, .inl (G.2.1, 120, .inl ftsp)), (tsp, .inr (8, [.int 120, .int 1, .ref tspc, .int (nI ksp)]))] := hD
    obtain rfl := hr2698
    refine lv_iconst (v := 0) hx hb dX10_addStep_11 (by decide) ?_
    refine lv_iload_n hx hb dX10_addStep_12 rfl (lv_at hl 1 rfl) ?_
    refine vV (wr := [(h0, .inr (10, [.ref tby, .int (nI kt), .ref tln, .ref tsp, .int tkd, .int (nI ks), .int (nI kn), .int tf9]))]) hC hK hl hP hD hS hA (c_T_set l G tsp (-2) 0 sp 120 1 tspc ksp ftsp (by omega) (by omega) (by omega)) si_X10_66 [2, 1] [0] rfl rfl (by decide) rfl (by decide) (by decide) rfl rfl rfl rfl rfl (Nat.le_of_ble_eq_true rfl) ⟨Nat.le_of_ble_eq_true rfl, Nat.le_of_ble_eq_true rfl⟩ ⟨Nat.le_of_ble_eq_true rfl, Nat.le_of_ble_eq_true rfl⟩ dX10_addStep_13 (fun u2702 H locs hr2701 hP hD hS => ?_)
    obtain ⟨f12703, rfl⟩ : ∃ z9, z9 = u2702 := ⟨_, rfl⟩
    try dsimp only at hr2701
    have hP : va_P G.1 vwCl [(h0, .inr (10, [.ref tby, .int (nI kt), .ref tln, .ref tsp, .int tkd, .int (nI ks), .int (nI kn), .int tf9])), (tsp, .inr (8, [.int 120, .int 1, .ref tspc, .int (nI ksp)])), (tspc, .inl (G.2.1, 120, .inl f12703))] H := hP
    have hD : va_D A [(h0, .inr (10, [.ref tby, .int (nI kt), .ref tln, .ref tsp, .int tkd, .int (nI ks), .int (nI kn), .int tf9])), (tsp, .inr (8, [.int 120, .int 1, .ref tspc, .int (nI ksp)])), (tspc, .inl (G.2.1, 120, .inl f12703))] := hD
    have w2704 := hr2701
    exact RV hC hP hD hS [0, 1, 2] (ksp, f12703) rfl rfl (by decide) (by dsimp only; omega) dX10_addStep_16
set_option maxHeartbeats 4000000 in
set_option maxRecDepth 100000 in
theorem t_factHere (l : Launch) (G : GG) (K : OO) (h0 : Nat) (tby : Nat) (kt : Nat) (tln : Nat) (tsp : Nat) (tkd : Int32) (ks : Nat) (kn : Nat) (tf9 : Int32) (fby : Nat → Int32) (hkt : kt ≤ 240) (hks : ks ≤ 240) (hkn : kn ≤ 240) : MPo l G K yX10_factHere cX10_factHere 1 (some .int) 7 [.ref h0] [(h0, .inr (10, [.ref tby, .int (nI kt), .ref tln, .ref tsp, .int tkd, .int (nI ks), .int (nI kn), .int tf9])), (tby, .inl (G.2.1, 240, .inl fby))] (fun r : Int32 => True) := by
  refine MPo.start (by decide +kernel) (Nat.le_of_ble_eq_true rfl) ?_
  intro p e s m below meth c ls hC hK hP hD hl hO hS
  have hl : lv_has ls 1 [(0, .ref h0)] := hl
  obtain ⟨hx, hb, hr, hml, hB, hown, hlocks, hnm⟩ := id hC
  refine lv_aload_n hx hb dX10_factHere_0 rfl (lv_at hl 0 rfl) ?_
  refine va_ldcS (index := 171) (tx := "person") hx hb hown (hO.2.1 11 (by decide)) dX10_factHere_1 ?_
  refine pVo hO hS hC hK hl hP hD (t_isName l G K 11 h0 tby kt tln tsp tkd ks kn tf9 fby (by omega) (by omega) (by omega) ((by decide))) si_X10_102 [0, 1] rfl rfl (by decide) rfl rfl rfl rfl rfl (Nat.le_of_ble_eq_true rfl) ⟨Nat.le_of_ble_eq_true rfl, Nat.le_of_ble_eq_true rfl⟩ ⟨by first | exact Nat.le_of_ble_eq_true rfl | exact Nat.zero_le _, by first | exact Nat.le_of_ble_eq_true rfl | exact Nat.zero_le _⟩ dX10_factHere_3 (fun r2705 hr2705 => ?_)
  rcases hr2705 with rfl | rfl
  · refine lv_if_eq (tgt := 11) hx hb dX10_factHere_6 (by decide) (fun c9 => absurd c9 (by decide)) (fun _ => ?_)
    refine lv_iconst (v := 0) hx hb dX10_factHere_9 (by decide) ?_
    exact RP (v := 0) hC (trivial) rfl dX10_factHere_10
  · refine lv_if_eq (tgt := 11) hx hb dX10_factHere_6 (by decide) (fun _ => ?_) (fun c9 => absurd (by decide) c9)
    refine lv_aload_n hx hb dX10_factHere_11 rfl (lv_at hl 0 rfl) ?_
    refine va_ldcS (index := 173) (tx := "post") hx hb hown (hO.2.1 12 (by decide)) dX10_factHere_12 ?_
    refine pVo hO hS hC hK hl hP hD (t_isName l G K 12 h0 tby kt tln tsp tkd ks kn tf9 fby (by omega) (by omega) (by omega) ((by decide))) si_X10_102 [0, 1] rfl rfl (by decide) rfl rfl rfl rfl rfl (Nat.le_of_ble_eq_true rfl) ⟨Nat.le_of_ble_eq_true rfl, Nat.le_of_ble_eq_true rfl⟩ ⟨by first | exact Nat.le_of_ble_eq_true rfl | exact Nat.zero_le _, by first | exact Nat.le_of_ble_eq_true rfl | exact Nat.zero_le _⟩ dX10_factHere_14 (fun r2707 hr2707 => ?_)
    rcases hr2707 with rfl | rfl
    · refine lv_if_eq (tgt := 22) hx hb dX10_factHere_17 (by decide) (fun c9 => absurd c9 (by decide)) (fun _ => ?_)
      refine lv_iconst (v := 1) hx hb dX10_factHere_20 (by decide) ?_
      exact RP (v := 1) hC (trivial) rfl dX10_factHere_21
    · refine lv_if_eq (tgt := 22) hx hb dX10_factHere_17 (by decide) (fun _ => ?_) (fun c9 => absurd (by decide) c9)
      refine lv_aload_n hx hb dX10_factHere_22 rfl (lv_at hl 0 rfl) ?_
      refine va_ldcS (index := 175) (tx := "had") hx hb hown (hO.2.1 13 (by decide)) dX10_factHere_23 ?_
      refine pVo hO hS hC hK hl hP hD (t_isName l G K 13 h0 tby kt tln tsp tkd ks kn tf9 fby (by omega) (by omega) (by omega) ((by decide))) si_X10_102 [0, 1] rfl rfl (by decide) rfl rfl rfl rfl rfl (Nat.le_of_ble_eq_true rfl) ⟨Nat.le_of_ble_eq_true rfl, Nat.le_of_ble_eq_true rfl⟩ ⟨by first | exact Nat.le_of_ble_eq_true rfl | exact Nat.zero_le _, by first | exact Nat.le_of_ble_eq_true rfl | exact Nat.zero_le _⟩ dX10_factHere_25 (fun r2709 hr2709 => ?_)
      rcases hr2709 with rfl | rfl
      · refine lv_if_eq (tgt := 33) hx hb dX10_factHere_28 (by decide) (fun c9 => absurd c9 (by decide)) (fun _ => ?_)
        refine lv_iconst (v := 2) hx hb dX10_factHere_31 (by decide) ?_
        exact RP (v := 2) hC (trivial) rfl dX10_factHere_32
      · refine lv_if_eq (tgt := 33) hx hb dX10_factHere_28 (by decide) (fun _ => ?_) (fun c9 => absurd (by decide) c9)
        refine lv_aload_n hx hb dX10_factHere_33 rfl (lv_at hl 0 rfl) ?_
        refine va_ldcS (index := 177) (tx := "made") hx hb hown (hO.2.1 14 (by decide)) dX10_factHere_34 ?_
        refine pVo hO hS hC hK hl hP hD (t_isName l G K 14 h0 tby kt tln tsp tkd ks kn tf9 fby (by omega) (by omega) (by omega) ((by decide))) si_X10_102 [0, 1] rfl rfl (by decide) rfl rfl rfl rfl rfl (Nat.le_of_ble_eq_true rfl) ⟨Nat.le_of_ble_eq_true rfl, Nat.le_of_ble_eq_true rfl⟩ ⟨by first | exact Nat.le_of_ble_eq_true rfl | exact Nat.zero_le _, by first | exact Nat.le_of_ble_eq_true rfl | exact Nat.zero_le _⟩ dX10_factHere_36 (fun r2711 hr2711 => ?_)
        rcases hr2711 with rfl | rfl
        · refine lv_if_eq (tgt := 44) hx hb dX10_factHere_39 (by decide) (fun c9 => absurd c9 (by decide)) (fun _ => ?_)
          refine lv_iconst (v := 3) hx hb dX10_factHere_42 (by decide) ?_
          exact RP (v := 3) hC (trivial) rfl dX10_factHere_43
        · refine lv_if_eq (tgt := 44) hx hb dX10_factHere_39 (by decide) (fun _ => ?_) (fun c9 => absurd (by decide) c9)
          refine lv_aload_n hx hb dX10_factHere_44 rfl (lv_at hl 0 rfl) ?_
          refine va_ldcS (index := 179) (tx := "slow") hx hb hown (hO.2.1 15 (by decide)) dX10_factHere_45 ?_
          refine pVo hO hS hC hK hl hP hD (t_isName l G K 15 h0 tby kt tln tsp tkd ks kn tf9 fby (by omega) (by omega) (by omega) ((by decide))) si_X10_102 [0, 1] rfl rfl (by decide) rfl rfl rfl rfl rfl (Nat.le_of_ble_eq_true rfl) ⟨Nat.le_of_ble_eq_true rfl, Nat.le_of_ble_eq_true rfl⟩ ⟨by first | exact Nat.le_of_ble_eq_true rfl | exact Nat.zero_le _, by first | exact Nat.le_of_ble_eq_true rfl | exact Nat.zero_le _⟩ dX10_factHere_47 (fun r2713 hr2713 => ?_)
          rcases hr2713 with rfl | rfl
          · refine lv_if_eq (tgt := 57) hx hb dX10_factHere_50 (by decide) (fun c9 => absurd c9 (by decide)) (fun _ => ?_)
            refine lv_iconst (v := 4) hx hb dX10_factHere_53 (by decide) ?_
            refine lv_goto (tgt := 58) hx hb dX10_factHere_54 (by decide) ?_
            exact RP (v := 4) hC (trivial) rfl dX10_factHere_58
          · refine lv_if_eq (tgt := 57) hx hb dX10_factHere_50 (by decide) (fun _ => ?_) (fun c9 => absurd (by decide) c9)
            refine lv_iconst (v := (-1)) hx hb dX10_factHere_57 (by decide) ?_
            exact RP (v := (-1)) hC (trivial) rfl dX10_factHere_58
set_option maxHeartbeats 4000000 in
set_option maxRecDepth 100000 in
theorem t_signHere (l : Launch) (G : GG) (h0 : Nat) (tby : Nat) (kt : Nat) (tln : Nat) (tsp : Nat) (tkd : Int32) (ts9 : Int32) (tn9 : Int32) (tf9 : Int32) : MP l G yX10_signHere cX10_signHere 1 (some .int) 1 [.ref h0] [(h0, .inr (10, [.ref tby, .int (nI kt), .ref tln, .ref tsp, .int tkd, .int ts9, .int tn9, .int tf9]))] (fun r : Int32 => True) := by
  refine MP.start (by decide +kernel) (Nat.le_of_ble_eq_true rfl) ?_
  intro p e s m below meth c ls hC hK hP hD hl
  have hl : lv_has ls 1 [(0, .ref h0)] := hl
  obtain ⟨hx, hb, hr, hml, hB, hown, hlocks, hnm⟩ := id hC
  refine lv_aload_n hx hb dX10_signHere_0 rfl (lv_at hl 0 rfl) ?_
  refine gf_X10_31 hC rfl hK hP 0 rfl rfl dX10_signHere_1 ?_
  refine lv_bipush (v := 60) hx hb dX10_signHere_4 (by decide) ?_
  refine lv_icmp_ne (tgt := 11) hx hb dX10_signHere_6 (by decide) (fun c_6_2715 => ?_) (fun c_6_2715 => ?_)
  · refine lv_aload_n hx hb dX10_signHere_11 rfl (lv_at hl 0 rfl) ?_
    refine gf_X10_31 hC rfl hK hP 0 rfl rfl dX10_signHere_12 ?_
    refine lv_bipush (v := 61) hx hb dX10_signHere_15 (by decide) ?_
    refine lv_icmp_ne (tgt := 22) hx hb dX10_signHere_17 (by decide) (fun c_17_2716 => ?_) (fun c_17_2716 => ?_)
    · refine lv_aload_n hx hb dX10_signHere_22 rfl (lv_at hl 0 rfl) ?_
      refine gf_X10_31 hC rfl hK hP 0 rfl rfl dX10_signHere_23 ?_
      refine lv_bipush (v := 62) hx hb dX10_signHere_26 (by decide) ?_
      refine lv_icmp_ne (tgt := 35) hx hb dX10_signHere_28 (by decide) (fun c_28_2717 => ?_) (fun c_28_2717 => ?_)
      · refine lv_iconst (v := (-1)) hx hb dX10_signHere_35 (by decide) ?_
        exact RP (v := (-1)) hC (trivial) rfl dX10_signHere_36
      · refine lv_iconst (v := 2) hx hb dX10_signHere_31 (by decide) ?_
        refine lv_goto (tgt := 36) hx hb dX10_signHere_32 (by decide) ?_
        exact RP (v := 2) hC (trivial) rfl dX10_signHere_36
    · refine lv_iconst (v := 1) hx hb dX10_signHere_20 (by decide) ?_
      exact RP (v := 1) hC (trivial) rfl dX10_signHere_21
  · refine lv_iconst (v := 0) hx hb dX10_signHere_9 (by decide) ?_
    exact RP (v := 0) hC (trivial) rfl dX10_signHere_10
set_option maxHeartbeats 4000000 in
set_option maxRecDepth 100000 in
theorem t_sortHere (l : Launch) (G : GG) (K : OO) (h0 : Nat) (tby : Nat) (kt : Nat) (tln : Nat) (tsp : Nat) (tkd : Int32) (ks : Nat) (kn : Nat) (tf9 : Int32) (fby : Nat → Int32) (hkt : kt ≤ 240) (hks : ks ≤ 240) (hkn : kn ≤ 240) : MPo l G K yX10_sortHere cX10_sortHere 1 (some .int) 7 [.ref h0] [(h0, .inr (10, [.ref tby, .int (nI kt), .ref tln, .ref tsp, .int tkd, .int (nI ks), .int (nI kn), .int tf9])), (tby, .inl (G.2.1, 240, .inl fby))] (fun r : Int32 => True) := by
  refine MPo.start (by decide +kernel) (Nat.le_of_ble_eq_true rfl) ?_
  intro p e s m below meth c ls hC hK hP hD hl hO hS
  have hl : lv_has ls 1 [(0, .ref h0)] := hl
  obtain ⟨hx, hb, hr, hml, hB, hown, hlocks, hnm⟩ := id hC
  refine lv_aload_n hx hb dX10_sortHere_0 rfl (lv_at hl 0 rfl) ?_
  refine va_ldcS (index := 127) (tx := "taken") hx hb hown (hO.2.1 1 (by decide)) dX10_sortHere_1 ?_
  refine pVo hO hS hC hK hl hP hD (t_isName l G K 1 h0 tby kt tln tsp tkd ks kn tf9 fby (by omega) (by omega) (by omega) ((by decide))) si_X10_102 [0, 1] rfl rfl (by decide) rfl rfl rfl rfl rfl (Nat.le_of_ble_eq_true rfl) ⟨Nat.le_of_ble_eq_true rfl, Nat.le_of_ble_eq_true rfl⟩ ⟨by first | exact Nat.le_of_ble_eq_true rfl | exact Nat.zero_le _, by first | exact Nat.le_of_ble_eq_true rfl | exact Nat.zero_le _⟩ dX10_sortHere_3 (fun r2718 hr2718 => ?_)
  rcases hr2718 with rfl | rfl
  · refine lv_if_eq (tgt := 11) hx hb dX10_sortHere_6 (by decide) (fun c9 => absurd c9 (by decide)) (fun _ => ?_)
    refine lv_iconst (v := 0) hx hb dX10_sortHere_9 (by decide) ?_
    exact RP (v := 0) hC (trivial) rfl dX10_sortHere_10
  · refine lv_if_eq (tgt := 11) hx hb dX10_sortHere_6 (by decide) (fun _ => ?_) (fun c9 => absurd (by decide) c9)
    refine lv_aload_n hx hb dX10_sortHere_11 rfl (lv_at hl 0 rfl) ?_
    refine va_ldcS (index := 129) (tx := "warn") hx hb hown (hO.2.1 2 (by decide)) dX10_sortHere_12 ?_
    refine pVo hO hS hC hK hl hP hD (t_isName l G K 2 h0 tby kt tln tsp tkd ks kn tf9 fby (by omega) (by omega) (by omega) ((by decide))) si_X10_102 [0, 1] rfl rfl (by decide) rfl rfl rfl rfl rfl (Nat.le_of_ble_eq_true rfl) ⟨Nat.le_of_ble_eq_true rfl, Nat.le_of_ble_eq_true rfl⟩ ⟨by first | exact Nat.le_of_ble_eq_true rfl | exact Nat.zero_le _, by first | exact Nat.le_of_ble_eq_true rfl | exact Nat.zero_le _⟩ dX10_sortHere_14 (fun r2720 hr2720 => ?_)
    rcases hr2720 with rfl | rfl
    · refine lv_if_eq (tgt := 22) hx hb dX10_sortHere_17 (by decide) (fun c9 => absurd c9 (by decide)) (fun _ => ?_)
      refine lv_iconst (v := 1) hx hb dX10_sortHere_20 (by decide) ?_
      exact RP (v := 1) hC (trivial) rfl dX10_sortHere_21
    · refine lv_if_eq (tgt := 22) hx hb dX10_sortHere_17 (by decide) (fun _ => ?_) (fun c9 => absurd (by decide) c9)
      refine lv_aload_n hx hb dX10_sortHere_22 rfl (lv_at hl 0 rfl) ?_
      refine va_ldcS (index := 131) (tx := "ask") hx hb hown (hO.2.1 3 (by decide)) dX10_sortHere_23 ?_
      refine pVo hO hS hC hK hl hP hD (t_isName l G K 3 h0 tby kt tln tsp tkd ks kn tf9 fby (by omega) (by omega) (by omega) ((by decide))) si_X10_102 [0, 1] rfl rfl (by decide) rfl rfl rfl rfl rfl (Nat.le_of_ble_eq_true rfl) ⟨Nat.le_of_ble_eq_true rfl, Nat.le_of_ble_eq_true rfl⟩ ⟨by first | exact Nat.le_of_ble_eq_true rfl | exact Nat.zero_le _, by first | exact Nat.le_of_ble_eq_true rfl | exact Nat.zero_le _⟩ dX10_sortHere_25 (fun r2722 hr2722 => ?_)
      rcases hr2722 with rfl | rfl
      · refine lv_if_eq (tgt := 33) hx hb dX10_sortHere_28 (by decide) (fun c9 => absurd c9 (by decide)) (fun _ => ?_)
        refine lv_iconst (v := 2) hx hb dX10_sortHere_31 (by decide) ?_
        exact RP (v := 2) hC (trivial) rfl dX10_sortHere_32
      · refine lv_if_eq (tgt := 33) hx hb dX10_sortHere_28 (by decide) (fun _ => ?_) (fun c9 => absurd (by decide) c9)
        refine lv_aload_n hx hb dX10_sortHere_33 rfl (lv_at hl 0 rfl) ?_
        refine va_ldcS (index := 133) (tx := "heard") hx hb hown (hO.2.1 4 (by decide)) dX10_sortHere_34 ?_
        refine pVo hO hS hC hK hl hP hD (t_isName l G K 4 h0 tby kt tln tsp tkd ks kn tf9 fby (by omega) (by omega) (by omega) ((by decide))) si_X10_102 [0, 1] rfl rfl (by decide) rfl rfl rfl rfl rfl (Nat.le_of_ble_eq_true rfl) ⟨Nat.le_of_ble_eq_true rfl, Nat.le_of_ble_eq_true rfl⟩ ⟨by first | exact Nat.le_of_ble_eq_true rfl | exact Nat.zero_le _, by first | exact Nat.le_of_ble_eq_true rfl | exact Nat.zero_le _⟩ dX10_sortHere_36 (fun r2724 hr2724 => ?_)
        rcases hr2724 with rfl | rfl
        · refine lv_if_eq (tgt := 46) hx hb dX10_sortHere_39 (by decide) (fun c9 => absurd c9 (by decide)) (fun _ => ?_)
          refine lv_iconst (v := 3) hx hb dX10_sortHere_42 (by decide) ?_
          refine lv_goto (tgt := 47) hx hb dX10_sortHere_43 (by decide) ?_
          exact RP (v := 3) hC (trivial) rfl dX10_sortHere_47
        · refine lv_if_eq (tgt := 46) hx hb dX10_sortHere_39 (by decide) (fun _ => ?_) (fun c9 => absurd (by decide) c9)
          refine lv_iconst (v := (-1)) hx hb dX10_sortHere_46 (by decide) ?_
          exact RP (v := (-1)) hC (trivial) rfl dX10_sortHere_47
set_option maxHeartbeats 4000000 in
set_option maxRecDepth 100000 in
theorem t_takesComparison (l : Launch) (G : GG) (K : OO) (h0 : Nat) (tby : Nat) (kt : Nat) (tln : Nat) (tsp : Nat) (tkd : Int32) (ks : Nat) (kn : Nat) (tf9 : Int32) (fby : Nat → Int32) (tspc : Nat) (ksp : Nat) (ftsp : Nat → Int32) (hkt : kt ≤ 240) (hks : ks ≤ 240) (hkn : kn ≤ 240) (hksp : ksp ≤ 120) : MIo l G K yX10_takesComparison cX10_takesComparison 4 (some .boolean) 8 0 0 [.ref h0] [(h0, .inr (10, [.ref tby, .int (nI kt), .ref tln, .ref tsp, .int tkd, .int (nI ks), .int (nI kn), .int tf9])), (tby, .inl (G.2.1, 240, .inl fby)), (tsp, .inr (8, [.int 120, .int 1, .ref tspc, .int (nI ksp)])), (tspc, .inl (G.2.1, 120, .inl ftsp))] (fun (r : Int32) (u : Int32 × Nat × Nat × Int32 × Nat × (Nat → Int32)) => (r = 1 ∨ r = 0) ∧ (u.2.1 ≤ 240 ∧ u.2.2.1 ≤ 240 ∧ u.2.2.2.2.1 ≤ 120)) (fun u : Int32 × Nat × Nat × Int32 × Nat × (Nat → Int32) => [(h0, .inr (10, [.ref tby, .int (nI kt), .ref tln, .ref tsp, .int u.1, .int (nI u.2.1), .int (nI u.2.2.1), .int u.2.2.2.1])), (tby, .inl (G.2.1, 240, .inl fby)), (tsp, .inr (8, [.int 120, .int 1, .ref tspc, .int (nI u.2.2.2.2.1)])), (tspc, .inl (G.2.1, 120, .inl u.2.2.2.2.2))]) := by
  refine MIo.start (by decide +kernel) (Nat.le_of_ble_eq_true rfl) ?_
  intro p e s m below meth c A ls hC hK hP hD hS hA hl hO
  have hl : lv_has ls 4 [(0, .ref h0)] := hl
  obtain ⟨hx, hb, hr, hml, hB, hown, hlocks, hnm⟩ := id hC
  refine lv_aload_n hx hb dX10_takesComparison_0 rfl (lv_at hl 0 rfl) ?_
  refine pVo hO hS hC hK hl hP hD (t_factHere l G K h0 tby kt tln tsp tkd ks kn tf9 fby (by omega) (by omega) (by omega)) si_X10_165 [0, 1] rfl rfl (by decide) rfl rfl rfl rfl rfl (Nat.le_of_ble_eq_true rfl) ⟨Nat.le_of_ble_eq_true rfl, Nat.le_of_ble_eq_true rfl⟩ ⟨by first | exact Nat.le_of_ble_eq_true rfl | exact Nat.zero_le _, by first | exact Nat.le_of_ble_eq_true rfl | exact Nat.zero_le _⟩ dX10_takesComparison_1 (fun r2726 hr2726 => ?_)
  refine lv_istore_n (lv' := [(1, .int r2726), (0, .ref h0)]) hx hb dX10_takesComparison_4 rfl hl (by decide) rfl (fun ls hl => ?_)
  refine lv_iload_n hx hb dX10_takesComparison_5 rfl (lv_at hl 0 rfl) ?_
  refine lv_if_ge (tgt := 14) hx hb dX10_takesComparison_6 (by decide) (fun c_6_2727 => ?_) (fun c_6_2727 => ?_)
  · refine lv_aload_n hx hb dX10_takesComparison_14 rfl (lv_at hl 1 rfl) ?_
    refine vV (wr := [(tsp, .inr (8, [.int 120, .int 1, .ref tspc, .int (nI ksp)])), (tspc, .inl (G.2.1, 120, .inl ftsp))]) hC hK hl hP hD hS hA (t_advance l G h0 tby kt tln tsp tkd ks kn tf9 fby (by omega) (by omega) (by omega)) si_X10_47 [0, 1] [2, 3] rfl rfl (by decide) rfl (by decide) (by decide) rfl rfl rfl rfl rfl (Nat.le_of_ble_eq_true rfl) ⟨Nat.le_of_ble_eq_true rfl, Nat.le_of_ble_eq_true rfl⟩ ⟨Nat.le_of_ble_eq_true rfl, Nat.le_of_ble_eq_true rfl⟩ dX10_takesComparison_15 (fun u2729 H locs hr2728 hP hD hS => ?_)
    obtain ⟨kd12730, ks12731, kn12732⟩ := u2729
    try dsimp only at hr2728
    have hP : va_P G.1 vwCl [(tsp, .inr (8, [.int 120, .int 1, .ref tspc, .int (nI ksp)])), (tspc, .inl (G.2.1, 120, .inl ftsp)), (h0, .inr (10, [.ref tby, .int (nI kt), .ref tln, .ref tsp, .int kd12730, .int (nI ks12731), .int (nI kn12732), .int tf9])), (tby, .inl (G.2.1, 240, .inl fby))] H := hP
    have hD : va_D A [(tsp, .inr (8, [.int 120, .int 1, .ref tspc, .int (nI ksp)])), (tspc, .inl (G.2.1, 120, .inl ftsp)), (h0, .inr (10, [.ref tby, .int (nI kt), .ref tln, .ref tsp, .int kd12730, .int (nI ks12731), .int (nI kn12732), .int tf9])), (tby, .inl (G.2.1, 240, .inl fby))] := hD
    have w2733 := hr2728
    refine lv_aload_n hx hb dX10_takesComparison_18 rfl (lv_at hl 1 rfl) ?_
    refine pV hC hK hl hP hD (t_signHere l G h0 tby kt tln tsp kd12730 (nI ks12731) (nI kn12732) tf9) si_X10_168 [2] rfl rfl (by decide) rfl rfl rfl rfl rfl (Nat.le_of_ble_eq_true rfl) ⟨Nat.le_of_ble_eq_true rfl, Nat.le_of_ble_eq_true rfl⟩ ⟨by first | exact Nat.le_of_ble_eq_true rfl | exact Nat.zero_le _, by first | exact Nat.le_of_ble_eq_true rfl | exact Nat.zero_le _⟩ dX10_takesComparison_19 (fun r2734 hr2734 => ?_)
    refine lv_istore_n (lv' := [(2, .int r2734), (1, .int r2726), (0, .ref h0)]) hx hb dX10_takesComparison_22 rfl hl (by decide) rfl (fun ls hl => ?_)
    refine lv_iload_n hx hb dX10_takesComparison_23 rfl (lv_at hl 0 rfl) ?_
    refine lv_if_ge (tgt := 32) hx hb dX10_takesComparison_24 (by decide) (fun c_24_2735 => ?_) (fun c_24_2735 => ?_)
    · refine lv_aload_n hx hb dX10_takesComparison_32 rfl (lv_at hl 2 rfl) ?_
      refine vV (wr := [(tsp, .inr (8, [.int 120, .int 1, .ref tspc, .int (nI ksp)])), (tspc, .inl (G.2.1, 120, .inl ftsp))]) hC hK hl hP hD hS hA (t_advance l G h0 tby kt tln tsp kd12730 ks12731 kn12732 tf9 fby (by omega) (by omega) (by omega)) si_X10_47 [2, 3] [0, 1] rfl rfl (by decide) rfl (by decide) (by decide) rfl rfl rfl rfl rfl (Nat.le_of_ble_eq_true rfl) ⟨Nat.le_of_ble_eq_true rfl, Nat.le_of_ble_eq_true rfl⟩ ⟨Nat.le_of_ble_eq_true rfl, Nat.le_of_ble_eq_true rfl⟩ dX10_takesComparison_33 (fun u2737 H locs hr2736 hP hD hS => ?_)
      obtain ⟨kd12738, ks12739, kn12740⟩ := u2737
      try dsimp only at hr2736
      have hP : va_P G.1 vwCl [(tsp, .inr (8, [.int 120, .int 1, .ref tspc, .int (nI ksp)])), (tspc, .inl (G.2.1, 120, .inl ftsp)), (h0, .inr (10, [.ref tby, .int (nI kt), .ref tln, .ref tsp, .int kd12738, .int (nI ks12739), .int (nI kn12740), .int tf9])), (tby, .inl (G.2.1, 240, .inl fby))] H := hP
      have hD : va_D A [(tsp, .inr (8, [.int 120, .int 1, .ref tspc, .int (nI ksp)])), (tspc, .inl (G.2.1, 120, .inl ftsp)), (h0, .inr (10, [.ref tby, .int (nI kt), .ref tln, .ref tsp, .int kd12738, .int (nI ks12739), .int (nI kn12740), .int tf9])), (tby, .inl (G.2.1, 240, .inl fby))] := hD
      have w2741 := hr2736
      refine lv_aload_n hx hb dX10_takesComparison_36 rfl (lv_at hl 2 rfl) ?_
      refine pV hC hK hl hP hD (t_numberHere l G h0 tby kt tln tsp kd12738 ks12739 kn12740 tf9 fby (by omega) (by omega) (by omega)) si_X10_109 [2, 3] rfl rfl (by decide) rfl rfl rfl rfl rfl (Nat.le_of_ble_eq_true rfl) ⟨Nat.le_of_ble_eq_true rfl, Nat.le_of_ble_eq_true rfl⟩ ⟨by first | exact Nat.le_of_ble_eq_true rfl | exact Nat.zero_le _, by first | exact Nat.le_of_ble_eq_true rfl | exact Nat.zero_le _⟩ dX10_takesComparison_37 (fun r2742 hr2742 => ?_)
      refine lv_istore_n (lv' := [(3, .int r2742), (2, .int r2734), (1, .int r2726), (0, .ref h0)]) hx hb dX10_takesComparison_40 rfl hl (by decide) rfl (fun ls hl => ?_)
      refine lv_iload_n hx hb dX10_takesComparison_41 rfl (lv_at hl 0 rfl) ?_
      refine lv_if_ge (tgt := 50) hx hb dX10_takesComparison_42 (by decide) (fun c_42_2743 => ?_) (fun c_42_2743 => ?_)
      · refine lv_aload_n hx hb dX10_takesComparison_50 rfl (lv_at hl 3 rfl) ?_
        refine vV (wr := [(tsp, .inr (8, [.int 120, .int 1, .ref tspc, .int (nI ksp)])), (tspc, .inl (G.2.1, 120, .inl ftsp))]) hC hK hl hP hD hS hA (t_advance l G h0 tby kt tln tsp kd12738 ks12739 kn12740 tf9 fby (by omega) (by omega) (by omega)) si_X10_47 [2, 3] [0, 1] rfl rfl (by decide) rfl (by decide) (by decide) rfl rfl rfl rfl rfl (Nat.le_of_ble_eq_true rfl) ⟨Nat.le_of_ble_eq_true rfl, Nat.le_of_ble_eq_true rfl⟩ ⟨Nat.le_of_ble_eq_true rfl, Nat.le_of_ble_eq_true rfl⟩ dX10_takesComparison_51 (fun u2745 H locs hr2744 hP hD hS => ?_)
        obtain ⟨kd12746, ks12747, kn12748⟩ := u2745
        try dsimp only at hr2744
        have hP : va_P G.1 vwCl [(tsp, .inr (8, [.int 120, .int 1, .ref tspc, .int (nI ksp)])), (tspc, .inl (G.2.1, 120, .inl ftsp)), (h0, .inr (10, [.ref tby, .int (nI kt), .ref tln, .ref tsp, .int kd12746, .int (nI ks12747), .int (nI kn12748), .int tf9])), (tby, .inl (G.2.1, 240, .inl fby))] H := hP
        have hD : va_D A [(tsp, .inr (8, [.int 120, .int 1, .ref tspc, .int (nI ksp)])), (tspc, .inl (G.2.1, 120, .inl ftsp)), (h0, .inr (10, [.ref tby, .int (nI kt), .ref tln, .ref tsp, .int kd12746, .int (nI ks12747), .int (nI kn12748), .int tf9])), (tby, .inl (G.2.1, 240, .inl fby))] := hD
        have w2749 := hr2744
        refine lv_aload_n hx hb dX10_takesComparison_54 rfl (lv_at hl 3 rfl) ?_
        refine lv_iload_n hx hb dX10_takesComparison_55 rfl (lv_at hl 2 rfl) ?_
        refine lv_iconst (v := 3) hx hb dX10_takesComparison_56 (by decide) ?_
        refine lv_imul hx hb dX10_takesComparison_57 ?_
        refine lv_iload_n hx hb dX10_takesComparison_58 rfl (lv_at hl 1 rfl) ?_
        refine lv_iadd hx hb dX10_takesComparison_59 ?_
        refine lv_sipush (v := 1000) hx hb dX10_takesComparison_60 (by decide) ?_
        refine lv_imul hx hb dX10_takesComparison_63 ?_
        refine lv_iload_n hx hb dX10_takesComparison_64 rfl (lv_at hl 0 rfl) ?_
        refine lv_iadd hx hb dX10_takesComparison_65 ?_
        refine vV (wr := [(tby, .inl (G.2.1, 240, .inl fby))]) hC hK hl hP hD hS hA (t_addStep l G h0 ((((r2726 * 3) + r2734) * 1000) + r2742) tby kt tln tsp kd12746 ks12747 kn12748 tf9 tspc ksp ftsp (by omega)) si_X10_152 [2, 0, 1] [3] rfl rfl (by decide) rfl (by decide) (by decide) rfl rfl rfl rfl rfl (Nat.le_of_ble_eq_true rfl) ⟨Nat.le_of_ble_eq_true rfl, Nat.le_of_ble_eq_true rfl⟩ ⟨Nat.le_of_ble_eq_true rfl, Nat.le_of_ble_eq_true rfl⟩ dX10_takesComparison_66 (fun u2751 H locs hr2750 hP hD hS => ?_)
        obtain ⟨ksp12752, gtsp2753⟩ := u2751
        try dsimp only at hr2750
        have hP : va_P G.1 vwCl [(tby, .inl (G.2.1, 240, .inl fby)), (h0, .inr (10, [.ref tby, .int (nI kt), .ref tln, .ref tsp, .int kd12746, .int (nI ks12747), .int (nI kn12748), .int tf9])), (tsp, .inr (8, [.int 120, .int 1, .ref tspc, .int (nI ksp12752)])), (tspc, .inl (G.2.1, 120, .inl gtsp2753))] H := hP
        have hD : va_D A [(tby, .inl (G.2.1, 240, .inl fby)), (h0, .inr (10, [.ref tby, .int (nI kt), .ref tln, .ref tsp, .int kd12746, .int (nI ks12747), .int (nI kn12748), .int tf9])), (tsp, .inr (8, [.int 120, .int 1, .ref tspc, .int (nI ksp12752)])), (tspc, .inl (G.2.1, 120, .inl gtsp2753))] := hD
        have w2754 := hr2750
        refine lv_iconst (v := 1) hx hb dX10_takesComparison_69 (by decide) ?_
        exact RI (v := 1) hC hP hD hS [1, 0, 2, 3] (kd12746, ks12747, kn12748, tf9, ksp12752, gtsp2753) rfl rfl (by decide) (⟨Or.inl (rfl), by dsimp only; omega⟩) (by decide +kernel) dX10_takesComparison_70
      · refine lv_aload_n hx hb dX10_takesComparison_45 rfl (lv_at hl 3 rfl) ?_
        refine iV (wr := [(tsp, .inr (8, [.int 120, .int 1, .ref tspc, .int (nI ksp)])), (tspc, .inl (G.2.1, 120, .inl ftsp)), (tby, .inl (G.2.1, 240, .inl fby))]) hC hK hl hP hD hS hA (t_refuse l G h0 tby kt tln tsp kd12738 ks12739 kn12740 tf9) si_X10_106 [2] [0, 1, 3] rfl rfl (by decide) rfl (by decide) (by decide) rfl rfl rfl rfl rfl (Nat.le_of_ble_eq_true rfl) ⟨Nat.le_of_ble_eq_true rfl, Nat.le_of_ble_eq_true rfl⟩ ⟨Nat.le_of_ble_eq_true rfl, Nat.le_of_ble_eq_true rfl⟩ dX10_takesComparison_46 (fun r2755 u2756 H locs hr2755 hP hD hS => ?_)
        obtain ⟨tf12757, rfl⟩ : ∃ z9, z9 = u2756 := ⟨_, rfl⟩
        try dsimp only at hr2755
        have hP : va_P G.1 vwCl [(tsp, .inr (8, [.int 120, .int 1, .ref tspc, .int (nI ksp)])), (tspc, .inl (G.2.1, 120, .inl ftsp)), (tby, .inl (G.2.1, 240, .inl fby)), (h0, .inr (10, [.ref tby, .int (nI kt), .ref tln, .ref tsp, .int kd12738, .int (nI ks12739), .int (nI kn12740), .int tf12757]))] H := hP
        have hD : va_D A [(tsp, .inr (8, [.int 120, .int 1, .ref tspc, .int (nI ksp)])), (tspc, .inl (G.2.1, 120, .inl ftsp)), (tby, .inl (G.2.1, 240, .inl fby)), (h0, .inr (10, [.ref tby, .int (nI kt), .ref tln, .ref tsp, .int kd12738, .int (nI ks12739), .int (nI kn12740), .int tf12757]))] := hD
        obtain rfl := hr2755
        exact RI (v := 0) hC hP hD hS [3, 2, 0, 1] (kd12738, ks12739, kn12740, tf12757, ksp, ftsp) rfl rfl (by decide) (⟨Or.inr (rfl), by dsimp only; omega⟩) (by decide +kernel) dX10_takesComparison_49
    · refine lv_aload_n hx hb dX10_takesComparison_27 rfl (lv_at hl 2 rfl) ?_
      refine iV (wr := [(tsp, .inr (8, [.int 120, .int 1, .ref tspc, .int (nI ksp)])), (tspc, .inl (G.2.1, 120, .inl ftsp)), (tby, .inl (G.2.1, 240, .inl fby))]) hC hK hl hP hD hS hA (t_refuse l G h0 tby kt tln tsp kd12730 ks12731 kn12732 tf9) si_X10_106 [2] [0, 1, 3] rfl rfl (by decide) rfl (by decide) (by decide) rfl rfl rfl rfl rfl (Nat.le_of_ble_eq_true rfl) ⟨Nat.le_of_ble_eq_true rfl, Nat.le_of_ble_eq_true rfl⟩ ⟨Nat.le_of_ble_eq_true rfl, Nat.le_of_ble_eq_true rfl⟩ dX10_takesComparison_28 (fun r2759 u2760 H locs hr2759 hP hD hS => ?_)
      obtain ⟨tf12761, rfl⟩ : ∃ z9, z9 = u2760 := ⟨_, rfl⟩
      try dsimp only at hr2759
      have hP : va_P G.1 vwCl [(tsp, .inr (8, [.int 120, .int 1, .ref tspc, .int (nI ksp)])), (tspc, .inl (G.2.1, 120, .inl ftsp)), (tby, .inl (G.2.1, 240, .inl fby)), (h0, .inr (10, [.ref tby, .int (nI kt), .ref tln, .ref tsp, .int kd12730, .int (nI ks12731), .int (nI kn12732), .int tf12761]))] H := hP
      have hD : va_D A [(tsp, .inr (8, [.int 120, .int 1, .ref tspc, .int (nI ksp)])), (tspc, .inl (G.2.1, 120, .inl ftsp)), (tby, .inl (G.2.1, 240, .inl fby)), (h0, .inr (10, [.ref tby, .int (nI kt), .ref tln, .ref tsp, .int kd12730, .int (nI ks12731), .int (nI kn12732), .int tf12761]))] := hD
      obtain rfl := hr2759
      exact RI (v := 0) hC hP hD hS [3, 2, 0, 1] (kd12730, ks12731, kn12732, tf12761, ksp, ftsp) rfl rfl (by decide) (⟨Or.inr (rfl), by dsimp only; omega⟩) (by decide +kernel) dX10_takesComparison_31
  · refine lv_aload_n hx hb dX10_takesComparison_9 rfl (lv_at hl 1 rfl) ?_
    refine iV (wr := [(tby, .inl (G.2.1, 240, .inl fby)), (tsp, .inr (8, [.int 120, .int 1, .ref tspc, .int (nI ksp)])), (tspc, .inl (G.2.1, 120, .inl ftsp))]) hC hK hl hP hD hS hA (t_refuse l G h0 tby kt tln tsp tkd ks kn tf9) si_X10_106 [0] [1, 2, 3] rfl rfl (by decide) rfl (by decide) (by decide) rfl rfl rfl rfl rfl (Nat.le_of_ble_eq_true rfl) ⟨Nat.le_of_ble_eq_true rfl, Nat.le_of_ble_eq_true rfl⟩ ⟨Nat.le_of_ble_eq_true rfl, Nat.le_of_ble_eq_true rfl⟩ dX10_takesComparison_10 (fun r2763 u2764 H locs hr2763 hP hD hS => ?_)
    obtain ⟨tf12765, rfl⟩ : ∃ z9, z9 = u2764 := ⟨_, rfl⟩
    try dsimp only at hr2763
    have hP : va_P G.1 vwCl [(tby, .inl (G.2.1, 240, .inl fby)), (tsp, .inr (8, [.int 120, .int 1, .ref tspc, .int (nI ksp)])), (tspc, .inl (G.2.1, 120, .inl ftsp)), (h0, .inr (10, [.ref tby, .int (nI kt), .ref tln, .ref tsp, .int tkd, .int (nI ks), .int (nI kn), .int tf12765]))] H := hP
    have hD : va_D A [(tby, .inl (G.2.1, 240, .inl fby)), (tsp, .inr (8, [.int 120, .int 1, .ref tspc, .int (nI ksp)])), (tspc, .inl (G.2.1, 120, .inl ftsp)), (h0, .inr (10, [.ref tby, .int (nI kt), .ref tln, .ref tsp, .int tkd, .int (nI ks), .int (nI kn), .int tf12765]))] := hD
    obtain rfl := hr2763
    exact RI (v := 0) hC hP hD hS [3, 0, 1, 2] (tkd, ks, kn, tf12765, ksp, ftsp) rfl rfl (by decide) (⟨Or.inr (rfl), by dsimp only; omega⟩) (by decide +kernel) dX10_takesComparison_13
set_option maxHeartbeats 4000000 in
set_option maxRecDepth 100000 in
theorem t_one4 (l : Launch) (G : GG) (K : OO) (h0 : Nat) (tby : Nat) (kt : Nat) (tln : Nat) (tsp : Nat) (tkd : Int32) (ks : Nat) (kn : Nat) (tf9 : Int32) (fby : Nat → Int32) (tspc : Nat) (ksp : Nat) (ftsp : Nat → Int32) (hkt : kt ≤ 240) (hks : ks ≤ 240) (hkn : kn ≤ 240) (hksp : ksp ≤ 120) : MIo l G K yX10_takesOne cX10_takesOne 4 (some .boolean) 9 0 0 [.ref h0, .int 4] [(h0, .inr (10, [.ref tby, .int (nI kt), .ref tln, .ref tsp, .int tkd, .int (nI ks), .int (nI kn), .int tf9])), (tby, .inl (G.2.1, 240, .inl fby)), (tsp, .inr (8, [.int 120, .int 1, .ref tspc, .int (nI ksp)])), (tspc, .inl (G.2.1, 120, .inl ftsp))] (fun (r : Int32) (u : Int32 × Nat × Nat × Int32 × Nat × (Nat → Int32)) => (r = 1 ∨ r = 0) ∧ (u.2.1 ≤ 240 ∧ u.2.2.1 ≤ 240 ∧ u.2.2.2.2.1 ≤ 120)) (fun u : Int32 × Nat × Nat × Int32 × Nat × (Nat → Int32) => [(h0, .inr (10, [.ref tby, .int (nI kt), .ref tln, .ref tsp, .int u.1, .int (nI u.2.1), .int (nI u.2.2.1), .int u.2.2.2.1])), (tby, .inl (G.2.1, 240, .inl fby)), (tsp, .inr (8, [.int 120, .int 1, .ref tspc, .int (nI u.2.2.2.2.1)])), (tspc, .inl (G.2.1, 120, .inl u.2.2.2.2.2))]) := by
  refine MIo.start (by decide +kernel) (Nat.le_of_ble_eq_true rfl) ?_
  intro p e s m below meth c A ls hC hK hP hD hS hA hl hO
  have hl : lv_has ls 4 [(0, .ref h0), (1, .int 4)] := hl
  obtain ⟨hx, hb, hr, hml, hB, hown, hlocks, hnm⟩ := id hC
  refine lv_iconst (v := 0) hx hb dX10_takesOne_0 (by decide) ?_
  refine lv_istore_n (lv' := [(2, .int 0), (0, .ref h0), (1, .int 4)]) hx hb dX10_takesOne_1 rfl hl (by decide) rfl (fun ls hl => ?_)
  refine lv_iconst (v := 0) hx hb dX10_takesOne_2 (by decide) ?_
  refine lv_istore_n (lv' := [(3, .int 0), (2, .int 0), (0, .ref h0), (1, .int 4)]) hx hb dX10_takesOne_3 rfl hl (by decide) rfl (fun ls hl => ?_)
  have keyP : ∀ (nP kP : Nat) (tu : Int32) (vkd : Int32) (vtf : Int32) (vks : Nat) (vkn : Nat) (H : Heap) (locs : List Loc) (ls : Array Slot), kP + nP = 240 → (vks ≤ 240) → (vkn ≤ 240) → va_P G.1 vwCl [(h0, .inr (10, [.ref tby, .int (nI kt), .ref tln, .ref tsp, .int vkd, .int (nI vks), .int (nI vkn), .int vtf])), (tby, .inl (G.2.1, 240, .inl fby)), (tsp, .inr (8, [.int 120, .int 1, .ref tspc, .int (nI ksp)])), (tspc, .inl (G.2.1, 120, .inl ftsp))] H → va_D A [(h0, .inr (10, [.ref tby, .int (nI kt), .ref tln, .ref tsp, .int vkd, .int (nI vks), .int (nI vkn), .int vtf])), (tby, .inl (G.2.1, 240, .inl fby)), (tsp, .inr (8, [.int 120, .int 1, .ref tspc, .int (nI ksp)])), (tspc, .inl (G.2.1, 120, .inl ftsp))] → va_S A s.heap H locs → lv_has ls 4 [(3, .int (nI kP)), (2, .int tu), (0, .ref h0), (1, .int 4)] → W p l e (RM 9 0 0) s m ([.ref h0, .int 4] : List Value).toArray below meth c H locs 0 0 (MQ below (QI G (fun (r : Int32) (u : Int32 × Nat × Nat × Int32 × Nat × (Nat → Int32)) => (r = 1 ∨ r = 0) ∧ (u.2.1 ≤ 240 ∧ u.2.2.1 ≤ 240 ∧ u.2.2.2.2.1 ≤ 120)) (fun u : Int32 × Nat × Nat × Int32 × Nat × (Nat → Int32) => [(h0, .inr (10, [.ref tby, .int (nI kt), .ref tln, .ref tsp, .int u.1, .int (nI u.2.1), .int (nI u.2.2.1), .int u.2.2.2.1])), (tby, .inl (G.2.1, 240, .inl fby)), (tsp, .inr (8, [.int 120, .int 1, .ref tspc, .int (nI u.2.2.2.2.1)])), (tspc, .inl (G.2.1, 120, .inl u.2.2.2.2.2))]) A) ([.ref h0, .int 4] : List Value).toArray s 0 0 A) (F0 m 4 ls []) := by
    intro nP
    induction nP with
    | zero =>
      intro kP tu vkd vtf vks vkn H locs ls hkP hvks hvkn hP hD hS hl
      obtain rfl : 240 = kP := by omega
      have hl : lv_has ls 4 [(3, .int 240), (2, .int tu), (0, .ref h0), (1, .int 4)] := hl
      refine lv_iload_n hx hb dX10_takesOne_4 rfl (lv_at hl 0 rfl) ?_
      refine lv_sipush (v := 240) hx hb dX10_takesOne_5 (by decide) ?_
      refine lv_icmp_ge (tgt := 40) hx hb dX10_takesOne_8 (by decide) (fun _ => ?_) (fun c9 => absurd (by decide) c9)
      refine lv_aload_n hx hb dX10_takesOne_40 rfl (lv_at hl 2 rfl) ?_
      refine gf_X10_31 hC rfl hK hP 0 rfl rfl dX10_takesOne_41 ?_
      refine lv_bipush (v := 40) hx hb dX10_takesOne_44 (by decide) ?_
      refine lv_icmp_eq (tgt := 58) hx hb dX10_takesOne_46 (by decide) (fun c_46_2767 => ?_) (fun c_46_2767 => ?_)
      · refine lv_iload_n hx hb dX10_takesOne_58 rfl (lv_at hl 3 rfl) ?_
        refine lv_iconst (v := 4) hx hb dX10_takesOne_59 (by decide) ?_
        refine lv_icmp_lt (tgt := 68) hx hb dX10_takesOne_60 (by decide) (fun c9 => absurd c9 (by decide)) (fun _ => ?_)
        refine lv_aload_n hx hb dX10_takesOne_63 rfl (lv_at hl 2 rfl) ?_
        refine iV (wr := [(tby, .inl (G.2.1, 240, .inl fby)), (tsp, .inr (8, [.int 120, .int 1, .ref tspc, .int (nI ksp)])), (tspc, .inl (G.2.1, 120, .inl ftsp))]) hC hK hl hP hD hS hA (t_refuse l G h0 tby kt tln tsp vkd vks vkn vtf) si_X10_106 [0] [1, 2, 3] rfl rfl (by decide) rfl (by decide) (by decide) rfl rfl rfl rfl rfl (Nat.le_of_ble_eq_true rfl) ⟨Nat.le_of_ble_eq_true rfl, Nat.le_of_ble_eq_true rfl⟩ ⟨Nat.le_of_ble_eq_true rfl, Nat.le_of_ble_eq_true rfl⟩ dX10_takesOne_64 (fun r2768 u2769 H locs hr2768 hP hD hS => ?_)
        obtain ⟨tf12770, rfl⟩ : ∃ z9, z9 = u2769 := ⟨_, rfl⟩
        try dsimp only at hr2768
        have hP : va_P G.1 vwCl [(tby, .inl (G.2.1, 240, .inl fby)), (tsp, .inr (8, [.int 120, .int 1, .ref tspc, .int (nI ksp)])), (tspc, .inl (G.2.1, 120, .inl ftsp)), (h0, .inr (10, [.ref tby, .int (nI kt), .ref tln, .ref tsp, .int vkd, .int (nI vks), .int (nI vkn), .int tf12770]))] H := hP
        have hD : va_D A [(tby, .inl (G.2.1, 240, .inl fby)), (tsp, .inr (8, [.int 120, .int 1, .ref tspc, .int (nI ksp)])), (tspc, .inl (G.2.1, 120, .inl ftsp)), (h0, .inr (10, [.ref tby, .int (nI kt), .ref tln, .ref tsp, .int vkd, .int (nI vks), .int (nI vkn), .int tf12770]))] := hD
        obtain rfl := hr2768
        exact RI (v := 0) hC hP hD hS [3, 0, 1, 2] (vkd, vks, vkn, tf12770, ksp, ftsp) rfl rfl (by decide) (⟨Or.inr (rfl), by dsimp only; omega⟩) (by decide +kernel) dX10_takesOne_67
      · refine lv_aload_n hx hb dX10_takesOne_49 rfl (lv_at hl 2 rfl) ?_
        refine iVo (wr := []) hO hC hK hl hP hD hS hA (t_takesComparison l G K h0 tby kt tln tsp vkd vks vkn vtf fby tspc ksp ftsp (by omega) (by omega) (by omega) (by omega)) si_X10_162 [0, 1, 2, 3] [] rfl rfl (by decide) rfl (by decide) (by decide) rfl rfl rfl rfl rfl (Nat.le_of_ble_eq_true rfl) ⟨Nat.le_of_ble_eq_true rfl, Nat.le_of_ble_eq_true rfl⟩ ⟨Nat.le_of_ble_eq_true rfl, Nat.le_of_ble_eq_true rfl⟩ dX10_takesOne_50 (fun r2772 u2773 H locs hr2772 hP hD hS => ?_)
        obtain ⟨kd12774, ks12775, kn12776, tf12777, ksp12778, gtsp2779⟩ := u2773
        try dsimp only at hr2772
        have hP : va_P G.1 vwCl [(h0, .inr (10, [.ref tby, .int (nI kt), .ref tln, .ref tsp, .int kd12774, .int (nI ks12775), .int (nI kn12776), .int tf12777])), (tby, .inl (G.2.1, 240, .inl fby)), (tsp, .inr (8, [.int 120, .int 1, .ref tspc, .int (nI ksp12778)])), (tspc, .inl (G.2.1, 120, .inl gtsp2779))] H := hP
        have hD : va_D A [(h0, .inr (10, [.ref tby, .int (nI kt), .ref tln, .ref tsp, .int kd12774, .int (nI ks12775), .int (nI kn12776), .int tf12777])), (tby, .inl (G.2.1, 240, .inl fby)), (tsp, .inr (8, [.int 120, .int 1, .ref tspc, .int (nI ksp12778)])), (tspc, .inl (G.2.1, 120, .inl gtsp2779))] := hD
        obtain ⟨hr2772, w2780⟩ := hr2772
        rcases hr2772 with rfl | rfl
        · refine lv_if_ne (tgt := 93) hx hb dX10_takesOne_53 (by decide) (fun _ => ?_) (fun c9 => absurd c9 (by decide))
          refine lv_iload_n hx hb dX10_takesOne_93 rfl (lv_at hl 1 rfl) ?_
          refine lv_if_eq (tgt := 102) hx hb dX10_takesOne_94 (by decide) (fun c_94_2782 => ?_) (fun c_94_2782 => ?_)
          · refine lv_iconst (v := 1) hx hb dX10_takesOne_102 (by decide) ?_
            exact RI (v := 1) hC hP hD hS [0, 1, 2, 3] (kd12774, ks12775, kn12776, tf12777, ksp12778, gtsp2779) rfl rfl (by decide) (⟨Or.inl (rfl), by dsimp only; omega⟩) (by decide +kernel) dX10_takesOne_103
          · refine lv_aload_n hx hb dX10_takesOne_97 rfl (lv_at hl 2 rfl) ?_
            refine lv_iconst (v := (-1)) hx hb dX10_takesOne_98 (by decide) ?_
            refine vV (wr := [(tby, .inl (G.2.1, 240, .inl fby))]) hC hK hl hP hD hS hA (t_addStep l G h0 (-1) tby kt tln tsp kd12774 ks12775 kn12776 tf12777 tspc ksp12778 gtsp2779 (by omega)) si_X10_152 [0, 2, 3] [1] rfl rfl (by decide) rfl (by decide) (by decide) rfl rfl rfl rfl rfl (Nat.le_of_ble_eq_true rfl) ⟨Nat.le_of_ble_eq_true rfl, Nat.le_of_ble_eq_true rfl⟩ ⟨Nat.le_of_ble_eq_true rfl, Nat.le_of_ble_eq_true rfl⟩ dX10_takesOne_99 (fun u2784 H locs hr2783 hP hD hS => ?_)
            obtain ⟨ksp12785, gtsp2786⟩ := u2784
            try dsimp only at hr2783
            have hP : va_P G.1 vwCl [(tby, .inl (G.2.1, 240, .inl fby)), (h0, .inr (10, [.ref tby, .int (nI kt), .ref tln, .ref tsp, .int kd12774, .int (nI ks12775), .int (nI kn12776), .int tf12777])), (tsp, .inr (8, [.int 120, .int 1, .ref tspc, .int (nI ksp12785)])), (tspc, .inl (G.2.1, 120, .inl gtsp2786))] H := hP
            have hD : va_D A [(tby, .inl (G.2.1, 240, .inl fby)), (h0, .inr (10, [.ref tby, .int (nI kt), .ref tln, .ref tsp, .int kd12774, .int (nI ks12775), .int (nI kn12776), .int tf12777])), (tsp, .inr (8, [.int 120, .int 1, .ref tspc, .int (nI ksp12785)])), (tspc, .inl (G.2.1, 120, .inl gtsp2786))] := hD
            have w2787 := hr2783
            refine lv_iconst (v := 1) hx hb dX10_takesOne_102 (by decide) ?_
            exact RI (v := 1) hC hP hD hS [1, 0, 2, 3] (kd12774, ks12775, kn12776, tf12777, ksp12785, gtsp2786) rfl rfl (by decide) (⟨Or.inl (rfl), by dsimp only; omega⟩) (by decide +kernel) dX10_takesOne_103
        · refine lv_if_ne (tgt := 93) hx hb dX10_takesOne_53 (by decide) (fun c9 => absurd (by decide) c9) (fun _ => ?_)
          refine lv_iconst (v := 0) hx hb dX10_takesOne_56 (by decide) ?_
          exact RI (v := 0) hC hP hD hS [0, 1, 2, 3] (kd12774, ks12775, kn12776, tf12777, ksp12778, gtsp2779) rfl rfl (by decide) (⟨Or.inr (rfl), by dsimp only; omega⟩) (by decide +kernel) dX10_takesOne_57
    | succ nP ihP =>
      intro kP tu vkd vtf vks vkn H locs ls hkP hvks hvkn hP hD hS hl
      refine lv_iload_n hx hb dX10_takesOne_4 rfl (lv_at hl 0 rfl) ?_
      refine lv_sipush (v := 240) hx hb dX10_takesOne_5 (by decide) ?_
      refine lv_icmp_ge (tgt := 40) hx hb dX10_takesOne_8 (by decide) (fun c9 => absurd c9 (nI_ge (a := kP) (b := 240) (by omega) (by omega))) (fun _ => ?_)
      refine lv_aload_n hx hb dX10_takesOne_11 rfl (lv_at hl 2 rfl) ?_
      refine va_ldcS (index := 160) (tx := "not") hx hb hown (hO.2.1 10 (by decide)) dX10_takesOne_12 ?_
      refine pVo hO hS hC hK hl hP hD (t_isName l G K 10 h0 tby kt tln tsp vkd vks vkn vtf fby (by omega) (by omega) (by omega) ((by decide))) si_X10_102 [0, 1] rfl rfl (by decide) rfl rfl rfl rfl rfl (Nat.le_of_ble_eq_true rfl) ⟨Nat.le_of_ble_eq_true rfl, Nat.le_of_ble_eq_true rfl⟩ ⟨by first | exact Nat.le_of_ble_eq_true rfl | exact Nat.zero_le _, by first | exact Nat.le_of_ble_eq_true rfl | exact Nat.zero_le _⟩ dX10_takesOne_14 (fun r2788 hr2788 => ?_)
      rcases hr2788 with rfl | rfl
      · refine lv_if_eq (tgt := 40) hx hb dX10_takesOne_17 (by decide) (fun c9 => absurd c9 (by decide)) (fun _ => ?_)
        refine lv_aload_n hx hb dX10_takesOne_20 rfl (lv_at hl 2 rfl) ?_
        refine vV (wr := [(tsp, .inr (8, [.int 120, .int 1, .ref tspc, .int (nI ksp)])), (tspc, .inl (G.2.1, 120, .inl ftsp))]) hC hK hl hP hD hS hA (t_advance l G h0 tby kt tln tsp vkd vks vkn vtf fby (by omega) (by omega) (by omega)) si_X10_47 [0, 1] [2, 3] rfl rfl (by decide) rfl (by decide) (by decide) rfl rfl rfl rfl rfl (Nat.le_of_ble_eq_true rfl) ⟨Nat.le_of_ble_eq_true rfl, Nat.le_of_ble_eq_true rfl⟩ ⟨Nat.le_of_ble_eq_true rfl, Nat.le_of_ble_eq_true rfl⟩ dX10_takesOne_21 (fun u2791 H locs hr2790 hP hD hS => ?_)
        obtain ⟨kd12792, ks12793, kn12794⟩ := u2791
        try dsimp only at hr2790
        have hP : va_P G.1 vwCl [(tsp, .inr (8, [.int 120, .int 1, .ref tspc, .int (nI ksp)])), (tspc, .inl (G.2.1, 120, .inl ftsp)), (h0, .inr (10, [.ref tby, .int (nI kt), .ref tln, .ref tsp, .int kd12792, .int (nI ks12793), .int (nI kn12794), .int vtf])), (tby, .inl (G.2.1, 240, .inl fby))] H := hP
        have hD : va_D A [(tsp, .inr (8, [.int 120, .int 1, .ref tspc, .int (nI ksp)])), (tspc, .inl (G.2.1, 120, .inl ftsp)), (h0, .inr (10, [.ref tby, .int (nI kt), .ref tln, .ref tsp, .int kd12792, .int (nI ks12793), .int (nI kn12794), .int vtf])), (tby, .inl (G.2.1, 240, .inl fby))] := hD
        have w2795 := hr2790
        refine lv_iload_n hx hb dX10_takesOne_24 rfl (lv_at hl 1 rfl) ?_
        refine lv_if_ne (tgt := 32) hx hb dX10_takesOne_25 (by decide) (fun c_25_2796 => ?_) (fun c_25_2796 => ?_)
        · refine lv_iconst (v := 0) hx hb dX10_takesOne_32 (by decide) ?_
          refine lv_istore_n (lv' := [(2, .int 0), (3, .int (nI kP)), (0, .ref h0), (1, .int 4)]) hx hb dX10_takesOne_33 rfl hl (by decide) rfl (fun ls hl => ?_)
          refine lv_iinc (v := nI (kP + 1)) (lv' := [(3, .int (nI (kP + 1))), (2, .int 0), (0, .ref h0), (1, .int 4)]) hx hb dX10_takesOne_34 hl (k := 1) rfl (nI_1 _) (by decide) rfl (fun ls hl => ?_)
          refine lv_goto (tgt := 4) hx hb dX10_takesOne_37 (by decide) ?_
          have hP := hP.sub (ws' := [(h0, .inr (10, [.ref tby, .int (nI kt), .ref tln, .ref tsp, .int kd12792, .int (nI ks12793), .int (nI kn12794), .int vtf])), (tby, .inl (G.2.1, 240, .inl fby)), (tsp, .inr (8, [.int 120, .int 1, .ref tspc, .int (nI ksp)])), (tspc, .inl (G.2.1, 120, .inl ftsp))]) [2, 3, 0, 1] rfl
          have hD := hD.sub (ws' := [(h0, .inr (10, [.ref tby, .int (nI kt), .ref tln, .ref tsp, .int kd12792, .int (nI ks12793), .int (nI kn12794), .int vtf])), (tby, .inl (G.2.1, 240, .inl fby)), (tsp, .inr (8, [.int 120, .int 1, .ref tspc, .int (nI ksp)])), (tspc, .inl (G.2.1, 120, .inl ftsp))]) [2, 3, 0, 1] (by decide) rfl
          exact ihP (kP + 1) 0 kd12792 vtf ks12793 kn12794 _ _ _ (by omega) (by first | assumption | exact Or.inl rfl | exact Or.inr rfl | omega) (by first | assumption | exact Or.inl rfl | exact Or.inr rfl | omega) hP hD hS (lv_sub hl [0, 1, 2, 3] rfl)
        · refine lv_iconst (v := 1) hx hb dX10_takesOne_28 (by decide) ?_
          refine lv_goto (tgt := 33) hx hb dX10_takesOne_29 (by decide) ?_
          refine lv_istore_n (lv' := [(2, .int 1), (3, .int (nI kP)), (0, .ref h0), (1, .int 4)]) hx hb dX10_takesOne_33 rfl hl (by decide) rfl (fun ls hl => ?_)
          refine lv_iinc (v := nI (kP + 1)) (lv' := [(3, .int (nI (kP + 1))), (2, .int 1), (0, .ref h0), (1, .int 4)]) hx hb dX10_takesOne_34 hl (k := 1) rfl (nI_1 _) (by decide) rfl (fun ls hl => ?_)
          refine lv_goto (tgt := 4) hx hb dX10_takesOne_37 (by decide) ?_
          have hP := hP.sub (ws' := [(h0, .inr (10, [.ref tby, .int (nI kt), .ref tln, .ref tsp, .int kd12792, .int (nI ks12793), .int (nI kn12794), .int vtf])), (tby, .inl (G.2.1, 240, .inl fby)), (tsp, .inr (8, [.int 120, .int 1, .ref tspc, .int (nI ksp)])), (tspc, .inl (G.2.1, 120, .inl ftsp))]) [2, 3, 0, 1] rfl
          have hD := hD.sub (ws' := [(h0, .inr (10, [.ref tby, .int (nI kt), .ref tln, .ref tsp, .int kd12792, .int (nI ks12793), .int (nI kn12794), .int vtf])), (tby, .inl (G.2.1, 240, .inl fby)), (tsp, .inr (8, [.int 120, .int 1, .ref tspc, .int (nI ksp)])), (tspc, .inl (G.2.1, 120, .inl ftsp))]) [2, 3, 0, 1] (by decide) rfl
          exact ihP (kP + 1) 1 kd12792 vtf ks12793 kn12794 _ _ _ (by omega) (by first | assumption | exact Or.inl rfl | exact Or.inr rfl | omega) (by first | assumption | exact Or.inl rfl | exact Or.inr rfl | omega) hP hD hS (lv_sub hl [0, 1, 2, 3] rfl)
      · refine lv_if_eq (tgt := 40) hx hb dX10_takesOne_17 (by decide) (fun _ => ?_) (fun c9 => absurd (by decide) c9)
        refine lv_aload_n hx hb dX10_takesOne_40 rfl (lv_at hl 2 rfl) ?_
        refine gf_X10_31 hC rfl hK hP 0 rfl rfl dX10_takesOne_41 ?_
        refine lv_bipush (v := 40) hx hb dX10_takesOne_44 (by decide) ?_
        refine lv_icmp_eq (tgt := 58) hx hb dX10_takesOne_46 (by decide) (fun c_46_2797 => ?_) (fun c_46_2797 => ?_)
        · refine lv_iload_n hx hb dX10_takesOne_58 rfl (lv_at hl 3 rfl) ?_
          refine lv_iconst (v := 4) hx hb dX10_takesOne_59 (by decide) ?_
          refine lv_icmp_lt (tgt := 68) hx hb dX10_takesOne_60 (by decide) (fun c9 => absurd c9 (by decide)) (fun _ => ?_)
          refine lv_aload_n hx hb dX10_takesOne_63 rfl (lv_at hl 2 rfl) ?_
          refine iV (wr := [(tby, .inl (G.2.1, 240, .inl fby)), (tsp, .inr (8, [.int 120, .int 1, .ref tspc, .int (nI ksp)])), (tspc, .inl (G.2.1, 120, .inl ftsp))]) hC hK hl hP hD hS hA (t_refuse l G h0 tby kt tln tsp vkd vks vkn vtf) si_X10_106 [0] [1, 2, 3] rfl rfl (by decide) rfl (by decide) (by decide) rfl rfl rfl rfl rfl (Nat.le_of_ble_eq_true rfl) ⟨Nat.le_of_ble_eq_true rfl, Nat.le_of_ble_eq_true rfl⟩ ⟨Nat.le_of_ble_eq_true rfl, Nat.le_of_ble_eq_true rfl⟩ dX10_takesOne_64 (fun r2798 u2799 H locs hr2798 hP hD hS => ?_)
          obtain ⟨tf12800, rfl⟩ : ∃ z9, z9 = u2799 := ⟨_, rfl⟩
          try dsimp only at hr2798
          have hP : va_P G.1 vwCl [(tby, .inl (G.2.1, 240, .inl fby)), (tsp, .inr (8, [.int 120, .int 1, .ref tspc, .int (nI ksp)])), (tspc, .inl (G.2.1, 120, .inl ftsp)), (h0, .inr (10, [.ref tby, .int (nI kt), .ref tln, .ref tsp, .int vkd, .int (nI vks), .int (nI vkn), .int tf12800]))] H := hP
          have hD : va_D A [(tby, .inl (G.2.1, 240, .inl fby)), (tsp, .inr (8, [.int 120, .int 1, .ref tspc, .int (nI ksp)])), (tspc, .inl (G.2.1, 120, .inl ftsp)), (h0, .inr (10, [.ref tby, .int (nI kt), .ref tln, .ref tsp, .int vkd, .int (nI vks), .int (nI vkn), .int tf12800]))] := hD
          obtain rfl := hr2798
          exact RI (v := 0) hC hP hD hS [3, 0, 1, 2] (vkd, vks, vkn, tf12800, ksp, ftsp) rfl rfl (by decide) (⟨Or.inr (rfl), by dsimp only; omega⟩) (by decide +kernel) dX10_takesOne_67
        · refine lv_aload_n hx hb dX10_takesOne_49 rfl (lv_at hl 2 rfl) ?_
          refine iVo (wr := []) hO hC hK hl hP hD hS hA (t_takesComparison l G K h0 tby kt tln tsp vkd vks vkn vtf fby tspc ksp ftsp (by omega) (by omega) (by omega) (by omega)) si_X10_162 [0, 1, 2, 3] [] rfl rfl (by decide) rfl (by decide) (by decide) rfl rfl rfl rfl rfl (Nat.le_of_ble_eq_true rfl) ⟨Nat.le_of_ble_eq_true rfl, Nat.le_of_ble_eq_true rfl⟩ ⟨Nat.le_of_ble_eq_true rfl, Nat.le_of_ble_eq_true rfl⟩ dX10_takesOne_50 (fun r2802 u2803 H locs hr2802 hP hD hS => ?_)
          obtain ⟨kd12804, ks12805, kn12806, tf12807, ksp12808, gtsp2809⟩ := u2803
          try dsimp only at hr2802
          have hP : va_P G.1 vwCl [(h0, .inr (10, [.ref tby, .int (nI kt), .ref tln, .ref tsp, .int kd12804, .int (nI ks12805), .int (nI kn12806), .int tf12807])), (tby, .inl (G.2.1, 240, .inl fby)), (tsp, .inr (8, [.int 120, .int 1, .ref tspc, .int (nI ksp12808)])), (tspc, .inl (G.2.1, 120, .inl gtsp2809))] H := hP
          have hD : va_D A [(h0, .inr (10, [.ref tby, .int (nI kt), .ref tln, .ref tsp, .int kd12804, .int (nI ks12805), .int (nI kn12806), .int tf12807])), (tby, .inl (G.2.1, 240, .inl fby)), (tsp, .inr (8, [.int 120, .int 1, .ref tspc, .int (nI ksp12808)])), (tspc, .inl (G.2.1, 120, .inl gtsp2809))] := hD
          obtain ⟨hr2802, w2810⟩ := hr2802
          rcases hr2802 with rfl | rfl
          · refine lv_if_ne (tgt := 93) hx hb dX10_takesOne_53 (by decide) (fun _ => ?_) (fun c9 => absurd c9 (by decide))
            refine lv_iload_n hx hb dX10_takesOne_93 rfl (lv_at hl 1 rfl) ?_
            refine lv_if_eq (tgt := 102) hx hb dX10_takesOne_94 (by decide) (fun c_94_2812 => ?_) (fun c_94_2812 => ?_)
            · refine lv_iconst (v := 1) hx hb dX10_takesOne_102 (by decide) ?_
              exact RI (v := 1) hC hP hD hS [0, 1, 2, 3] (kd12804, ks12805, kn12806, tf12807, ksp12808, gtsp2809) rfl rfl (by decide) (⟨Or.inl (rfl), by dsimp only; omega⟩) (by decide +kernel) dX10_takesOne_103
            · refine lv_aload_n hx hb dX10_takesOne_97 rfl (lv_at hl 2 rfl) ?_
              refine lv_iconst (v := (-1)) hx hb dX10_takesOne_98 (by decide) ?_
              refine vV (wr := [(tby, .inl (G.2.1, 240, .inl fby))]) hC hK hl hP hD hS hA (t_addStep l G h0 (-1) tby kt tln tsp kd12804 ks12805 kn12806 tf12807 tspc ksp12808 gtsp2809 (by omega)) si_X10_152 [0, 2, 3] [1] rfl rfl (by decide) rfl (by decide) (by decide) rfl rfl rfl rfl rfl (Nat.le_of_ble_eq_true rfl) ⟨Nat.le_of_ble_eq_true rfl, Nat.le_of_ble_eq_true rfl⟩ ⟨Nat.le_of_ble_eq_true rfl, Nat.le_of_ble_eq_true rfl⟩ dX10_takesOne_99 (fun u2814 H locs hr2813 hP hD hS => ?_)
              obtain ⟨ksp12815, gtsp2816⟩ := u2814
              try dsimp only at hr2813
              have hP : va_P G.1 vwCl [(tby, .inl (G.2.1, 240, .inl fby)), (h0, .inr (10, [.ref tby, .int (nI kt), .ref tln, .ref tsp, .int kd12804, .int (nI ks12805), .int (nI kn12806), .int tf12807])), (tsp, .inr (8, [.int 120, .int 1, .ref tspc, .int (nI ksp12815)])), (tspc, .inl (G.2.1, 120, .inl gtsp2816))] H := hP
              have hD : va_D A [(tby, .inl (G.2.1, 240, .inl fby)), (h0, .inr (10, [.ref tby, .int (nI kt), .ref tln, .ref tsp, .int kd12804, .int (nI ks12805), .int (nI kn12806), .int tf12807])), (tsp, .inr (8, [.int 120, .int 1, .ref tspc, .int (nI ksp12815)])), (tspc, .inl (G.2.1, 120, .inl gtsp2816))] := hD
              have w2817 := hr2813
              refine lv_iconst (v := 1) hx hb dX10_takesOne_102 (by decide) ?_
              exact RI (v := 1) hC hP hD hS [1, 0, 2, 3] (kd12804, ks12805, kn12806, tf12807, ksp12815, gtsp2816) rfl rfl (by decide) (⟨Or.inl (rfl), by dsimp only; omega⟩) (by decide +kernel) dX10_takesOne_103
          · refine lv_if_ne (tgt := 93) hx hb dX10_takesOne_53 (by decide) (fun c9 => absurd (by decide) c9) (fun _ => ?_)
            refine lv_iconst (v := 0) hx hb dX10_takesOne_56 (by decide) ?_
            exact RI (v := 0) hC hP hD hS [0, 1, 2, 3] (kd12804, ks12805, kn12806, tf12807, ksp12808, gtsp2809) rfl rfl (by decide) (⟨Or.inr (rfl), by dsimp only; omega⟩) (by decide +kernel) dX10_takesOne_57
  exact keyP 240 0 0 tkd tf9 ks kn _ _ _ (by omega) (by first | assumption | exact Or.inl rfl | exact Or.inr rfl | omega) (by first | assumption | exact Or.inl rfl | exact Or.inr rfl | omega) hP hD hS (lv_sub hl [0, 1, 2, 3] rfl)
set_option maxHeartbeats 4000000 in
set_option maxRecDepth 100000 in
theorem t_all4 (l : Launch) (G : GG) (K : OO) (h0 : Nat) (tby : Nat) (kt : Nat) (tln : Nat) (tsp : Nat) (tkd : Int32) (ks : Nat) (kn : Nat) (tf9 : Int32) (fby : Nat → Int32) (tspc : Nat) (ksp : Nat) (ftsp : Nat → Int32) (hkt : kt ≤ 240) (hks : ks ≤ 240) (hkn : kn ≤ 240) (hksp : ksp ≤ 120) : MIo l G K yX10_takesAll cX10_takesAll 3 (some .boolean) 10 0 0 [.ref h0, .int 4] [(h0, .inr (10, [.ref tby, .int (nI kt), .ref tln, .ref tsp, .int tkd, .int (nI ks), .int (nI kn), .int tf9])), (tby, .inl (G.2.1, 240, .inl fby)), (tsp, .inr (8, [.int 120, .int 1, .ref tspc, .int (nI ksp)])), (tspc, .inl (G.2.1, 120, .inl ftsp))] (fun (r : Int32) (u : Int32 × Nat × Nat × Int32 × Nat × (Nat → Int32)) => (r = 1 ∨ r = 0) ∧ (u.2.1 ≤ 240 ∧ u.2.2.1 ≤ 240 ∧ u.2.2.2.2.1 ≤ 120)) (fun u : Int32 × Nat × Nat × Int32 × Nat × (Nat → Int32) => [(h0, .inr (10, [.ref tby, .int (nI kt), .ref tln, .ref tsp, .int u.1, .int (nI u.2.1), .int (nI u.2.2.1), .int u.2.2.2.1])), (tby, .inl (G.2.1, 240, .inl fby)), (tsp, .inr (8, [.int 120, .int 1, .ref tspc, .int (nI u.2.2.2.2.1)])), (tspc, .inl (G.2.1, 120, .inl u.2.2.2.2.2))]) := by
  refine MIo.start (by decide +kernel) (Nat.le_of_ble_eq_true rfl) ?_
  intro p e s m below meth c A ls hC hK hP hD hS hA hl hO
  have hl : lv_has ls 3 [(0, .ref h0), (1, .int 4)] := hl
  obtain ⟨hx, hb, hr, hml, hB, hown, hlocks, hnm⟩ := id hC
  refine lv_aload_n hx hb dX10_takesAll_0 rfl (lv_at hl 0 rfl) ?_
  refine lv_iload_n hx hb dX10_takesAll_1 rfl (lv_at hl 1 rfl) ?_
  refine iVo (wr := []) hO hC hK hl hP hD hS hA (t_one4 l G K h0 tby kt tln tsp tkd ks kn tf9 fby tspc ksp ftsp (by omega) (by omega) (by omega) (by omega)) si_X10_155 [0, 1, 2, 3] [] rfl rfl (by decide) rfl (by decide) (by decide) rfl rfl rfl rfl rfl (Nat.le_of_ble_eq_true rfl) ⟨Nat.le_of_ble_eq_true rfl, Nat.le_of_ble_eq_true rfl⟩ ⟨Nat.le_of_ble_eq_true rfl, Nat.le_of_ble_eq_true rfl⟩ dX10_takesAll_2 (fun r2818 u2819 H locs hr2818 hP hD hS => ?_)
  obtain ⟨kd12820, ks12821, kn12822, tf12823, ksp12824, gtsp2825⟩ := u2819
  try dsimp only at hr2818
  have hP : va_P G.1 vwCl [(h0, .inr (10, [.ref tby, .int (nI kt), .ref tln, .ref tsp, .int kd12820, .int (nI ks12821), .int (nI kn12822), .int tf12823])), (tby, .inl (G.2.1, 240, .inl fby)), (tsp, .inr (8, [.int 120, .int 1, .ref tspc, .int (nI ksp12824)])), (tspc, .inl (G.2.1, 120, .inl gtsp2825))] H := hP
  have hD : va_D A [(h0, .inr (10, [.ref tby, .int (nI kt), .ref tln, .ref tsp, .int kd12820, .int (nI ks12821), .int (nI kn12822), .int tf12823])), (tby, .inl (G.2.1, 240, .inl fby)), (tsp, .inr (8, [.int 120, .int 1, .ref tspc, .int (nI ksp12824)])), (tspc, .inl (G.2.1, 120, .inl gtsp2825))] := hD
  obtain ⟨hr2818, w2826⟩ := hr2818
  rcases hr2818 with rfl | rfl
  · refine lv_if_ne (tgt := 10) hx hb dX10_takesAll_5 (by decide) (fun _ => ?_) (fun c9 => absurd c9 (by decide))
    refine lv_iconst (v := 0) hx hb dX10_takesAll_10 (by decide) ?_
    refine lv_istore_n (lv' := [(2, .int 0), (0, .ref h0), (1, .int 4)]) hx hb dX10_takesAll_11 rfl hl (by decide) rfl (fun ls hl => ?_)
    have keyP : ∀ (nP kP : Nat) (vkd : Int32) (vtf : Int32) (vtsp : Nat → Int32) (vks : Nat) (vkn : Nat) (vksp : Nat) (H : Heap) (locs : List Loc) (ls : Array Slot), kP + nP = 240 → (vks ≤ 240) → (vkn ≤ 240) → (vksp ≤ 120) → va_P G.1 vwCl [(h0, .inr (10, [.ref tby, .int (nI kt), .ref tln, .ref tsp, .int vkd, .int (nI vks), .int (nI vkn), .int vtf])), (tby, .inl (G.2.1, 240, .inl fby)), (tsp, .inr (8, [.int 120, .int 1, .ref tspc, .int (nI vksp)])), (tspc, .inl (G.2.1, 120, .inl vtsp))] H → va_D A [(h0, .inr (10, [.ref tby, .int (nI kt), .ref tln, .ref tsp, .int vkd, .int (nI vks), .int (nI vkn), .int vtf])), (tby, .inl (G.2.1, 240, .inl fby)), (tsp, .inr (8, [.int 120, .int 1, .ref tspc, .int (nI vksp)])), (tspc, .inl (G.2.1, 120, .inl vtsp))] → va_S A s.heap H locs → lv_has ls 3 [(2, .int (nI kP)), (0, .ref h0), (1, .int 4)] → W p l e (RM 10 0 0) s m ([.ref h0, .int 4] : List Value).toArray below meth c H locs 0 0 (MQ below (QI G (fun (r : Int32) (u : Int32 × Nat × Nat × Int32 × Nat × (Nat → Int32)) => (r = 1 ∨ r = 0) ∧ (u.2.1 ≤ 240 ∧ u.2.2.1 ≤ 240 ∧ u.2.2.2.2.1 ≤ 120)) (fun u : Int32 × Nat × Nat × Int32 × Nat × (Nat → Int32) => [(h0, .inr (10, [.ref tby, .int (nI kt), .ref tln, .ref tsp, .int u.1, .int (nI u.2.1), .int (nI u.2.2.1), .int u.2.2.2.1])), (tby, .inl (G.2.1, 240, .inl fby)), (tsp, .inr (8, [.int 120, .int 1, .ref tspc, .int (nI u.2.2.2.2.1)])), (tspc, .inl (G.2.1, 120, .inl u.2.2.2.2.2))]) A) ([.ref h0, .int 4] : List Value).toArray s 0 0 A) (F0 m 12 ls []) := by
      intro nP
      induction nP with
      | zero =>
        intro kP vkd vtf vtsp vks vkn vksp H locs ls hkP hvks hvkn hvksp hP hD hS hl
        obtain rfl : 240 = kP := by omega
        have hl : lv_has ls 3 [(2, .int 240), (0, .ref h0), (1, .int 4)] := hl
        refine lv_iload_n hx hb dX10_takesAll_12 rfl (lv_at hl 0 rfl) ?_
        refine lv_sipush (v := 240) hx hb dX10_takesAll_13 (by decide) ?_
        refine lv_icmp_ge (tgt := 54) hx hb dX10_takesAll_16 (by decide) (fun _ => ?_) (fun c9 => absurd (by decide) c9)
        refine lv_iconst (v := 1) hx hb dX10_takesAll_54 (by decide) ?_
        exact RI (v := 1) hC hP hD hS [0, 1, 2, 3] (vkd, vks, vkn, vtf, vksp, vtsp) rfl rfl (by decide) (⟨Or.inl (rfl), by dsimp only; omega⟩) (by decide +kernel) dX10_takesAll_55
      | succ nP ihP =>
        intro kP vkd vtf vtsp vks vkn vksp H locs ls hkP hvks hvkn hvksp hP hD hS hl
        refine lv_iload_n hx hb dX10_takesAll_12 rfl (lv_at hl 0 rfl) ?_
        refine lv_sipush (v := 240) hx hb dX10_takesAll_13 (by decide) ?_
        refine lv_icmp_ge (tgt := 54) hx hb dX10_takesAll_16 (by decide) (fun c9 => absurd c9 (nI_ge (a := kP) (b := 240) (by omega) (by omega))) (fun _ => ?_)
        refine lv_aload_n hx hb dX10_takesAll_19 rfl (lv_at hl 1 rfl) ?_
        refine va_ldcS (index := 158) (tx := "and") hx hb hown (hO.2.1 9 (by decide)) dX10_takesAll_20 ?_
        refine pVo hO hS hC hK hl hP hD (t_isName l G K 9 h0 tby kt tln tsp vkd vks vkn vtf fby (by omega) (by omega) (by omega) ((by decide))) si_X10_102 [0, 1] rfl rfl (by decide) rfl rfl rfl rfl rfl (Nat.le_of_ble_eq_true rfl) ⟨Nat.le_of_ble_eq_true rfl, Nat.le_of_ble_eq_true rfl⟩ ⟨by first | exact Nat.le_of_ble_eq_true rfl | exact Nat.zero_le _, by first | exact Nat.le_of_ble_eq_true rfl | exact Nat.zero_le _⟩ dX10_takesAll_22 (fun r2828 hr2828 => ?_)
        rcases hr2828 with rfl | rfl
        · refine lv_if_eq (tgt := 54) hx hb dX10_takesAll_25 (by decide) (fun c9 => absurd c9 (by decide)) (fun _ => ?_)
          refine lv_aload_n hx hb dX10_takesAll_28 rfl (lv_at hl 1 rfl) ?_
          refine vV (wr := [(tsp, .inr (8, [.int 120, .int 1, .ref tspc, .int (nI vksp)])), (tspc, .inl (G.2.1, 120, .inl vtsp))]) hC hK hl hP hD hS hA (t_advance l G h0 tby kt tln tsp vkd vks vkn vtf fby (by omega) (by omega) (by omega)) si_X10_47 [0, 1] [2, 3] rfl rfl (by decide) rfl (by decide) (by decide) rfl rfl rfl rfl rfl (Nat.le_of_ble_eq_true rfl) ⟨Nat.le_of_ble_eq_true rfl, Nat.le_of_ble_eq_true rfl⟩ ⟨Nat.le_of_ble_eq_true rfl, Nat.le_of_ble_eq_true rfl⟩ dX10_takesAll_29 (fun u2831 H locs hr2830 hP hD hS => ?_)
          obtain ⟨kd12832, ks12833, kn12834⟩ := u2831
          try dsimp only at hr2830
          have hP : va_P G.1 vwCl [(tsp, .inr (8, [.int 120, .int 1, .ref tspc, .int (nI vksp)])), (tspc, .inl (G.2.1, 120, .inl vtsp)), (h0, .inr (10, [.ref tby, .int (nI kt), .ref tln, .ref tsp, .int kd12832, .int (nI ks12833), .int (nI kn12834), .int vtf])), (tby, .inl (G.2.1, 240, .inl fby))] H := hP
          have hD : va_D A [(tsp, .inr (8, [.int 120, .int 1, .ref tspc, .int (nI vksp)])), (tspc, .inl (G.2.1, 120, .inl vtsp)), (h0, .inr (10, [.ref tby, .int (nI kt), .ref tln, .ref tsp, .int kd12832, .int (nI ks12833), .int (nI kn12834), .int vtf])), (tby, .inl (G.2.1, 240, .inl fby))] := hD
          have w2835 := hr2830
          refine lv_aload_n hx hb dX10_takesAll_32 rfl (lv_at hl 1 rfl) ?_
          refine lv_iload_n hx hb dX10_takesAll_33 rfl (lv_at hl 2 rfl) ?_
          refine iVo (wr := []) hO hC hK hl hP hD hS hA (t_one4 l G K h0 tby kt tln tsp kd12832 ks12833 kn12834 vtf fby tspc vksp vtsp (by omega) (by omega) (by omega) (by omega)) si_X10_155 [2, 3, 0, 1] [] rfl rfl (by decide) rfl (by decide) (by decide) rfl rfl rfl rfl rfl (Nat.le_of_ble_eq_true rfl) ⟨Nat.le_of_ble_eq_true rfl, Nat.le_of_ble_eq_true rfl⟩ ⟨Nat.le_of_ble_eq_true rfl, Nat.le_of_ble_eq_true rfl⟩ dX10_takesAll_34 (fun r2836 u2837 H locs hr2836 hP hD hS => ?_)
          obtain ⟨kd12838, ks12839, kn12840, tf12841, ksp12842, gtsp2843⟩ := u2837
          try dsimp only at hr2836
          have hP : va_P G.1 vwCl [(h0, .inr (10, [.ref tby, .int (nI kt), .ref tln, .ref tsp, .int kd12838, .int (nI ks12839), .int (nI kn12840), .int tf12841])), (tby, .inl (G.2.1, 240, .inl fby)), (tsp, .inr (8, [.int 120, .int 1, .ref tspc, .int (nI ksp12842)])), (tspc, .inl (G.2.1, 120, .inl gtsp2843))] H := hP
          have hD : va_D A [(h0, .inr (10, [.ref tby, .int (nI kt), .ref tln, .ref tsp, .int kd12838, .int (nI ks12839), .int (nI kn12840), .int tf12841])), (tby, .inl (G.2.1, 240, .inl fby)), (tsp, .inr (8, [.int 120, .int 1, .ref tspc, .int (nI ksp12842)])), (tspc, .inl (G.2.1, 120, .inl gtsp2843))] := hD
          obtain ⟨hr2836, w2844⟩ := hr2836
          rcases hr2836 with rfl | rfl
          · refine lv_if_ne (tgt := 42) hx hb dX10_takesAll_37 (by decide) (fun _ => ?_) (fun c9 => absurd c9 (by decide))
            refine lv_aload_n hx hb dX10_takesAll_42 rfl (lv_at hl 1 rfl) ?_
            refine lv_bipush (v := (-2)) hx hb dX10_takesAll_43 (by decide) ?_
            refine vV (wr := [(tby, .inl (G.2.1, 240, .inl fby))]) hC hK hl hP hD hS hA (t_addStep l G h0 (-2) tby kt tln tsp kd12838 ks12839 kn12840 tf12841 tspc ksp12842 gtsp2843 (by omega)) si_X10_152 [0, 2, 3] [1] rfl rfl (by decide) rfl (by decide) (by decide) rfl rfl rfl rfl rfl (Nat.le_of_ble_eq_true rfl) ⟨Nat.le_of_ble_eq_true rfl, Nat.le_of_ble_eq_true rfl⟩ ⟨Nat.le_of_ble_eq_true rfl, Nat.le_of_ble_eq_true rfl⟩ dX10_takesAll_45 (fun u2847 H locs hr2846 hP hD hS => ?_)
            obtain ⟨ksp12848, gtsp2849⟩ := u2847
            try dsimp only at hr2846
            have hP : va_P G.1 vwCl [(tby, .inl (G.2.1, 240, .inl fby)), (h0, .inr (10, [.ref tby, .int (nI kt), .ref tln, .ref tsp, .int kd12838, .int (nI ks12839), .int (nI kn12840), .int tf12841])), (tsp, .inr (8, [.int 120, .int 1, .ref tspc, .int (nI ksp12848)])), (tspc, .inl (G.2.1, 120, .inl gtsp2849))] H := hP
            have hD : va_D A [(tby, .inl (G.2.1, 240, .inl fby)), (h0, .inr (10, [.ref tby, .int (nI kt), .ref tln, .ref tsp, .int kd12838, .int (nI ks12839), .int (nI kn12840), .int tf12841])), (tsp, .inr (8, [.int 120, .int 1, .ref tspc, .int (nI ksp12848)])), (tspc, .inl (G.2.1, 120, .inl gtsp2849))] := hD
            have w2850 := hr2846
            refine lv_iinc (v := nI (kP + 1)) (lv' := [(2, .int (nI (kP + 1))), (0, .ref h0), (1, .int 4)]) hx hb dX10_takesAll_48 hl (k := 0) rfl (nI_1 _) (by decide) rfl (fun ls hl => ?_)
            refine lv_goto (tgt := 12) hx hb dX10_takesAll_51 (by decide) ?_
            have hP := hP.sub (ws' := [(h0, .inr (10, [.ref tby, .int (nI kt), .ref tln, .ref tsp, .int kd12838, .int (nI ks12839), .int (nI kn12840), .int tf12841])), (tby, .inl (G.2.1, 240, .inl fby)), (tsp, .inr (8, [.int 120, .int 1, .ref tspc, .int (nI ksp12848)])), (tspc, .inl (G.2.1, 120, .inl gtsp2849))]) [1, 0, 2, 3] rfl
            have hD := hD.sub (ws' := [(h0, .inr (10, [.ref tby, .int (nI kt), .ref tln, .ref tsp, .int kd12838, .int (nI ks12839), .int (nI kn12840), .int tf12841])), (tby, .inl (G.2.1, 240, .inl fby)), (tsp, .inr (8, [.int 120, .int 1, .ref tspc, .int (nI ksp12848)])), (tspc, .inl (G.2.1, 120, .inl gtsp2849))]) [1, 0, 2, 3] (by decide) rfl
            exact ihP (kP + 1) kd12838 tf12841 gtsp2849 ks12839 kn12840 ksp12848 _ _ _ (by omega) (by first | assumption | exact Or.inl rfl | exact Or.inr rfl | omega) (by first | assumption | exact Or.inl rfl | exact Or.inr rfl | omega) (by first | assumption | exact Or.inl rfl | exact Or.inr rfl | omega) hP hD hS (lv_sub hl [0, 1, 2] rfl)
          · refine lv_if_ne (tgt := 42) hx hb dX10_takesAll_37 (by decide) (fun c9 => absurd (by decide) c9) (fun _ => ?_)
            refine lv_iconst (v := 0) hx hb dX10_takesAll_40 (by decide) ?_
            exact RI (v := 0) hC hP hD hS [0, 1, 2, 3] (kd12838, ks12839, kn12840, tf12841, ksp12842, gtsp2843) rfl rfl (by decide) (⟨Or.inr (rfl), by dsimp only; omega⟩) (by decide +kernel) dX10_takesAll_41
        · refine lv_if_eq (tgt := 54) hx hb dX10_takesAll_25 (by decide) (fun _ => ?_) (fun c9 => absurd (by decide) c9)
          refine lv_iconst (v := 1) hx hb dX10_takesAll_54 (by decide) ?_
          exact RI (v := 1) hC hP hD hS [0, 1, 2, 3] (vkd, vks, vkn, vtf, vksp, vtsp) rfl rfl (by decide) (⟨Or.inl (rfl), by dsimp only; omega⟩) (by decide +kernel) dX10_takesAll_55
    exact keyP 240 0 kd12820 tf12823 gtsp2825 ks12821 kn12822 ksp12824 _ _ _ (by omega) (by first | assumption | exact Or.inl rfl | exact Or.inr rfl | omega) (by first | assumption | exact Or.inl rfl | exact Or.inr rfl | omega) (by first | assumption | exact Or.inl rfl | exact Or.inr rfl | omega) hP hD hS (lv_sub hl [0, 1, 2] rfl)
  · refine lv_if_ne (tgt := 10) hx hb dX10_takesAll_5 (by decide) (fun c9 => absurd (by decide) c9) (fun _ => ?_)
    refine lv_iconst (v := 0) hx hb dX10_takesAll_8 (by decide) ?_
    exact RI (v := 0) hC hP hD hS [0, 1, 2, 3] (kd12820, ks12821, kn12822, tf12823, ksp12824, gtsp2825) rfl rfl (by decide) (⟨Or.inr (rfl), by dsimp only; omega⟩) (by decide +kernel) dX10_takesAll_9
set_option maxHeartbeats 4000000 in
set_option maxRecDepth 100000 in
theorem t_cond4 (l : Launch) (G : GG) (K : OO) (h0 : Nat) (tby : Nat) (kt : Nat) (tln : Nat) (tsp : Nat) (tkd : Int32) (ks : Nat) (kn : Nat) (tf9 : Int32) (fby : Nat → Int32) (tspc : Nat) (ksp : Nat) (ftsp : Nat → Int32) (hkt : kt ≤ 240) (hks : ks ≤ 240) (hkn : kn ≤ 240) (hksp : ksp ≤ 120) : MIo l G K yX10_takesCond cX10_takesCond 3 (some .boolean) 11 0 0 [.ref h0, .int 4] [(h0, .inr (10, [.ref tby, .int (nI kt), .ref tln, .ref tsp, .int tkd, .int (nI ks), .int (nI kn), .int tf9])), (tby, .inl (G.2.1, 240, .inl fby)), (tsp, .inr (8, [.int 120, .int 1, .ref tspc, .int (nI ksp)])), (tspc, .inl (G.2.1, 120, .inl ftsp))] (fun (r : Int32) (u : Int32 × Nat × Nat × Int32 × Nat × (Nat → Int32)) => (r = 1 ∨ r = 0) ∧ (u.2.1 ≤ 240 ∧ u.2.2.1 ≤ 240 ∧ u.2.2.2.2.1 ≤ 120)) (fun u : Int32 × Nat × Nat × Int32 × Nat × (Nat → Int32) => [(h0, .inr (10, [.ref tby, .int (nI kt), .ref tln, .ref tsp, .int u.1, .int (nI u.2.1), .int (nI u.2.2.1), .int u.2.2.2.1])), (tby, .inl (G.2.1, 240, .inl fby)), (tsp, .inr (8, [.int 120, .int 1, .ref tspc, .int (nI u.2.2.2.2.1)])), (tspc, .inl (G.2.1, 120, .inl u.2.2.2.2.2))]) := by
  refine MIo.start (by decide +kernel) (Nat.le_of_ble_eq_true rfl) ?_
  intro p e s m below meth c A ls hC hK hP hD hS hA hl hO
  have hl : lv_has ls 3 [(0, .ref h0), (1, .int 4)] := hl
  obtain ⟨hx, hb, hr, hml, hB, hown, hlocks, hnm⟩ := id hC
  refine lv_aload_n hx hb dX10_takesCond_0 rfl (lv_at hl 0 rfl) ?_
  refine lv_iload_n hx hb dX10_takesCond_1 rfl (lv_at hl 1 rfl) ?_
  refine iVo (wr := []) hO hC hK hl hP hD hS hA (t_all4 l G K h0 tby kt tln tsp tkd ks kn tf9 fby tspc ksp ftsp (by omega) (by omega) (by omega) (by omega)) si_X10_147 [0, 1, 2, 3] [] rfl rfl (by decide) rfl (by decide) (by decide) rfl rfl rfl rfl rfl (Nat.le_of_ble_eq_true rfl) ⟨Nat.le_of_ble_eq_true rfl, Nat.le_of_ble_eq_true rfl⟩ ⟨Nat.le_of_ble_eq_true rfl, Nat.le_of_ble_eq_true rfl⟩ dX10_takesCond_2 (fun r2851 u2852 H locs hr2851 hP hD hS => ?_)
  obtain ⟨kd12853, ks12854, kn12855, tf12856, ksp12857, gtsp2858⟩ := u2852
  try dsimp only at hr2851
  have hP : va_P G.1 vwCl [(h0, .inr (10, [.ref tby, .int (nI kt), .ref tln, .ref tsp, .int kd12853, .int (nI ks12854), .int (nI kn12855), .int tf12856])), (tby, .inl (G.2.1, 240, .inl fby)), (tsp, .inr (8, [.int 120, .int 1, .ref tspc, .int (nI ksp12857)])), (tspc, .inl (G.2.1, 120, .inl gtsp2858))] H := hP
  have hD : va_D A [(h0, .inr (10, [.ref tby, .int (nI kt), .ref tln, .ref tsp, .int kd12853, .int (nI ks12854), .int (nI kn12855), .int tf12856])), (tby, .inl (G.2.1, 240, .inl fby)), (tsp, .inr (8, [.int 120, .int 1, .ref tspc, .int (nI ksp12857)])), (tspc, .inl (G.2.1, 120, .inl gtsp2858))] := hD
  obtain ⟨hr2851, w2859⟩ := hr2851
  rcases hr2851 with rfl | rfl
  · refine lv_if_ne (tgt := 10) hx hb dX10_takesCond_5 (by decide) (fun _ => ?_) (fun c9 => absurd c9 (by decide))
    refine lv_iconst (v := 0) hx hb dX10_takesCond_10 (by decide) ?_
    refine lv_istore_n (lv' := [(2, .int 0), (0, .ref h0), (1, .int 4)]) hx hb dX10_takesCond_11 rfl hl (by decide) rfl (fun ls hl => ?_)
    have keyP : ∀ (nP kP : Nat) (vkd : Int32) (vtf : Int32) (vtsp : Nat → Int32) (vks : Nat) (vkn : Nat) (vksp : Nat) (H : Heap) (locs : List Loc) (ls : Array Slot), kP + nP = 240 → (vks ≤ 240) → (vkn ≤ 240) → (vksp ≤ 120) → va_P G.1 vwCl [(h0, .inr (10, [.ref tby, .int (nI kt), .ref tln, .ref tsp, .int vkd, .int (nI vks), .int (nI vkn), .int vtf])), (tby, .inl (G.2.1, 240, .inl fby)), (tsp, .inr (8, [.int 120, .int 1, .ref tspc, .int (nI vksp)])), (tspc, .inl (G.2.1, 120, .inl vtsp))] H → va_D A [(h0, .inr (10, [.ref tby, .int (nI kt), .ref tln, .ref tsp, .int vkd, .int (nI vks), .int (nI vkn), .int vtf])), (tby, .inl (G.2.1, 240, .inl fby)), (tsp, .inr (8, [.int 120, .int 1, .ref tspc, .int (nI vksp)])), (tspc, .inl (G.2.1, 120, .inl vtsp))] → va_S A s.heap H locs → lv_has ls 3 [(2, .int (nI kP)), (0, .ref h0), (1, .int 4)] → W p l e (RM 11 0 0) s m ([.ref h0, .int 4] : List Value).toArray below meth c H locs 0 0 (MQ below (QI G (fun (r : Int32) (u : Int32 × Nat × Nat × Int32 × Nat × (Nat → Int32)) => (r = 1 ∨ r = 0) ∧ (u.2.1 ≤ 240 ∧ u.2.2.1 ≤ 240 ∧ u.2.2.2.2.1 ≤ 120)) (fun u : Int32 × Nat × Nat × Int32 × Nat × (Nat → Int32) => [(h0, .inr (10, [.ref tby, .int (nI kt), .ref tln, .ref tsp, .int u.1, .int (nI u.2.1), .int (nI u.2.2.1), .int u.2.2.2.1])), (tby, .inl (G.2.1, 240, .inl fby)), (tsp, .inr (8, [.int 120, .int 1, .ref tspc, .int (nI u.2.2.2.2.1)])), (tspc, .inl (G.2.1, 120, .inl u.2.2.2.2.2))]) A) ([.ref h0, .int 4] : List Value).toArray s 0 0 A) (F0 m 12 ls []) := by
      intro nP
      induction nP with
      | zero =>
        intro kP vkd vtf vtsp vks vkn vksp H locs ls hkP hvks hvkn hvksp hP hD hS hl
        obtain rfl : 240 = kP := by omega
        have hl : lv_has ls 3 [(2, .int 240), (0, .ref h0), (1, .int 4)] := hl
        refine lv_iload_n hx hb dX10_takesCond_12 rfl (lv_at hl 0 rfl) ?_
        refine lv_sipush (v := 240) hx hb dX10_takesCond_13 (by decide) ?_
        refine lv_icmp_ge (tgt := 54) hx hb dX10_takesCond_16 (by decide) (fun _ => ?_) (fun c9 => absurd (by decide) c9)
        refine lv_iconst (v := 1) hx hb dX10_takesCond_54 (by decide) ?_
        exact RI (v := 1) hC hP hD hS [0, 1, 2, 3] (vkd, vks, vkn, vtf, vksp, vtsp) rfl rfl (by decide) (⟨Or.inl (rfl), by dsimp only; omega⟩) (by decide +kernel) dX10_takesCond_55
      | succ nP ihP =>
        intro kP vkd vtf vtsp vks vkn vksp H locs ls hkP hvks hvkn hvksp hP hD hS hl
        refine lv_iload_n hx hb dX10_takesCond_12 rfl (lv_at hl 0 rfl) ?_
        refine lv_sipush (v := 240) hx hb dX10_takesCond_13 (by decide) ?_
        refine lv_icmp_ge (tgt := 54) hx hb dX10_takesCond_16 (by decide) (fun c9 => absurd c9 (nI_ge (a := kP) (b := 240) (by omega) (by omega))) (fun _ => ?_)
        refine lv_aload_n hx hb dX10_takesCond_19 rfl (lv_at hl 1 rfl) ?_
        refine va_ldcS (index := 150) (tx := "o\x72") hx hb hown (hO.2.1 8 (by decide)) dX10_takesCond_20 ?_
        refine pVo hO hS hC hK hl hP hD (t_isName l G K 8 h0 tby kt tln tsp vkd vks vkn vtf fby (by omega) (by omega) (by omega) ((by decide))) si_X10_102 [0, 1] rfl rfl (by decide) rfl rfl rfl rfl rfl (Nat.le_of_ble_eq_true rfl) ⟨Nat.le_of_ble_eq_true rfl, Nat.le_of_ble_eq_true rfl⟩ ⟨by first | exact Nat.le_of_ble_eq_true rfl | exact Nat.zero_le _, by first | exact Nat.le_of_ble_eq_true rfl | exact Nat.zero_le _⟩ dX10_takesCond_22 (fun r2861 hr2861 => ?_)
        rcases hr2861 with rfl | rfl
        · refine lv_if_eq (tgt := 54) hx hb dX10_takesCond_25 (by decide) (fun c9 => absurd c9 (by decide)) (fun _ => ?_)
          refine lv_aload_n hx hb dX10_takesCond_28 rfl (lv_at hl 1 rfl) ?_
          refine vV (wr := [(tsp, .inr (8, [.int 120, .int 1, .ref tspc, .int (nI vksp)])), (tspc, .inl (G.2.1, 120, .inl vtsp))]) hC hK hl hP hD hS hA (t_advance l G h0 tby kt tln tsp vkd vks vkn vtf fby (by omega) (by omega) (by omega)) si_X10_47 [0, 1] [2, 3] rfl rfl (by decide) rfl (by decide) (by decide) rfl rfl rfl rfl rfl (Nat.le_of_ble_eq_true rfl) ⟨Nat.le_of_ble_eq_true rfl, Nat.le_of_ble_eq_true rfl⟩ ⟨Nat.le_of_ble_eq_true rfl, Nat.le_of_ble_eq_true rfl⟩ dX10_takesCond_29 (fun u2864 H locs hr2863 hP hD hS => ?_)
          obtain ⟨kd12865, ks12866, kn12867⟩ := u2864
          try dsimp only at hr2863
          have hP : va_P G.1 vwCl [(tsp, .inr (8, [.int 120, .int 1, .ref tspc, .int (nI vksp)])), (tspc, .inl (G.2.1, 120, .inl vtsp)), (h0, .inr (10, [.ref tby, .int (nI kt), .ref tln, .ref tsp, .int kd12865, .int (nI ks12866), .int (nI kn12867), .int vtf])), (tby, .inl (G.2.1, 240, .inl fby))] H := hP
          have hD : va_D A [(tsp, .inr (8, [.int 120, .int 1, .ref tspc, .int (nI vksp)])), (tspc, .inl (G.2.1, 120, .inl vtsp)), (h0, .inr (10, [.ref tby, .int (nI kt), .ref tln, .ref tsp, .int kd12865, .int (nI ks12866), .int (nI kn12867), .int vtf])), (tby, .inl (G.2.1, 240, .inl fby))] := hD
          have w2868 := hr2863
          refine lv_aload_n hx hb dX10_takesCond_32 rfl (lv_at hl 1 rfl) ?_
          refine lv_iload_n hx hb dX10_takesCond_33 rfl (lv_at hl 2 rfl) ?_
          refine iVo (wr := []) hO hC hK hl hP hD hS hA (t_all4 l G K h0 tby kt tln tsp kd12865 ks12866 kn12867 vtf fby tspc vksp vtsp (by omega) (by omega) (by omega) (by omega)) si_X10_147 [2, 3, 0, 1] [] rfl rfl (by decide) rfl (by decide) (by decide) rfl rfl rfl rfl rfl (Nat.le_of_ble_eq_true rfl) ⟨Nat.le_of_ble_eq_true rfl, Nat.le_of_ble_eq_true rfl⟩ ⟨Nat.le_of_ble_eq_true rfl, Nat.le_of_ble_eq_true rfl⟩ dX10_takesCond_34 (fun r2869 u2870 H locs hr2869 hP hD hS => ?_)
          obtain ⟨kd12871, ks12872, kn12873, tf12874, ksp12875, gtsp2876⟩ := u2870
          try dsimp only at hr2869
          have hP : va_P G.1 vwCl [(h0, .inr (10, [.ref tby, .int (nI kt), .ref tln, .ref tsp, .int kd12871, .int (nI ks12872), .int (nI kn12873), .int tf12874])), (tby, .inl (G.2.1, 240, .inl fby)), (tsp, .inr (8, [.int 120, .int 1, .ref tspc, .int (nI ksp12875)])), (tspc, .inl (G.2.1, 120, .inl gtsp2876))] H := hP
          have hD : va_D A [(h0, .inr (10, [.ref tby, .int (nI kt), .ref tln, .ref tsp, .int kd12871, .int (nI ks12872), .int (nI kn12873), .int tf12874])), (tby, .inl (G.2.1, 240, .inl fby)), (tsp, .inr (8, [.int 120, .int 1, .ref tspc, .int (nI ksp12875)])), (tspc, .inl (G.2.1, 120, .inl gtsp2876))] := hD
          obtain ⟨hr2869, w2877⟩ := hr2869
          rcases hr2869 with rfl | rfl
          · refine lv_if_ne (tgt := 42) hx hb dX10_takesCond_37 (by decide) (fun _ => ?_) (fun c9 => absurd c9 (by decide))
            refine lv_aload_n hx hb dX10_takesCond_42 rfl (lv_at hl 1 rfl) ?_
            refine lv_bipush (v := (-3)) hx hb dX10_takesCond_43 (by decide) ?_
            refine vV (wr := [(tby, .inl (G.2.1, 240, .inl fby))]) hC hK hl hP hD hS hA (t_addStep l G h0 (-3) tby kt tln tsp kd12871 ks12872 kn12873 tf12874 tspc ksp12875 gtsp2876 (by omega)) si_X10_152 [0, 2, 3] [1] rfl rfl (by decide) rfl (by decide) (by decide) rfl rfl rfl rfl rfl (Nat.le_of_ble_eq_true rfl) ⟨Nat.le_of_ble_eq_true rfl, Nat.le_of_ble_eq_true rfl⟩ ⟨Nat.le_of_ble_eq_true rfl, Nat.le_of_ble_eq_true rfl⟩ dX10_takesCond_45 (fun u2880 H locs hr2879 hP hD hS => ?_)
            obtain ⟨ksp12881, gtsp2882⟩ := u2880
            try dsimp only at hr2879
            have hP : va_P G.1 vwCl [(tby, .inl (G.2.1, 240, .inl fby)), (h0, .inr (10, [.ref tby, .int (nI kt), .ref tln, .ref tsp, .int kd12871, .int (nI ks12872), .int (nI kn12873), .int tf12874])), (tsp, .inr (8, [.int 120, .int 1, .ref tspc, .int (nI ksp12881)])), (tspc, .inl (G.2.1, 120, .inl gtsp2882))] H := hP
            have hD : va_D A [(tby, .inl (G.2.1, 240, .inl fby)), (h0, .inr (10, [.ref tby, .int (nI kt), .ref tln, .ref tsp, .int kd12871, .int (nI ks12872), .int (nI kn12873), .int tf12874])), (tsp, .inr (8, [.int 120, .int 1, .ref tspc, .int (nI ksp12881)])), (tspc, .inl (G.2.1, 120, .inl gtsp2882))] := hD
            have w2883 := hr2879
            refine lv_iinc (v := nI (kP + 1)) (lv' := [(2, .int (nI (kP + 1))), (0, .ref h0), (1, .int 4)]) hx hb dX10_takesCond_48 hl (k := 0) rfl (nI_1 _) (by decide) rfl (fun ls hl => ?_)
            refine lv_goto (tgt := 12) hx hb dX10_takesCond_51 (by decide) ?_
            have hP := hP.sub (ws' := [(h0, .inr (10, [.ref tby, .int (nI kt), .ref tln, .ref tsp, .int kd12871, .int (nI ks12872), .int (nI kn12873), .int tf12874])), (tby, .inl (G.2.1, 240, .inl fby)), (tsp, .inr (8, [.int 120, .int 1, .ref tspc, .int (nI ksp12881)])), (tspc, .inl (G.2.1, 120, .inl gtsp2882))]) [1, 0, 2, 3] rfl
            have hD := hD.sub (ws' := [(h0, .inr (10, [.ref tby, .int (nI kt), .ref tln, .ref tsp, .int kd12871, .int (nI ks12872), .int (nI kn12873), .int tf12874])), (tby, .inl (G.2.1, 240, .inl fby)), (tsp, .inr (8, [.int 120, .int 1, .ref tspc, .int (nI ksp12881)])), (tspc, .inl (G.2.1, 120, .inl gtsp2882))]) [1, 0, 2, 3] (by decide) rfl
            exact ihP (kP + 1) kd12871 tf12874 gtsp2882 ks12872 kn12873 ksp12881 _ _ _ (by omega) (by first | assumption | exact Or.inl rfl | exact Or.inr rfl | omega) (by first | assumption | exact Or.inl rfl | exact Or.inr rfl | omega) (by first | assumption | exact Or.inl rfl | exact Or.inr rfl | omega) hP hD hS (lv_sub hl [0, 1, 2] rfl)
          · refine lv_if_ne (tgt := 42) hx hb dX10_takesCond_37 (by decide) (fun c9 => absurd (by decide) c9) (fun _ => ?_)
            refine lv_iconst (v := 0) hx hb dX10_takesCond_40 (by decide) ?_
            exact RI (v := 0) hC hP hD hS [0, 1, 2, 3] (kd12871, ks12872, kn12873, tf12874, ksp12875, gtsp2876) rfl rfl (by decide) (⟨Or.inr (rfl), by dsimp only; omega⟩) (by decide +kernel) dX10_takesCond_41
        · refine lv_if_eq (tgt := 54) hx hb dX10_takesCond_25 (by decide) (fun _ => ?_) (fun c9 => absurd (by decide) c9)
          refine lv_iconst (v := 1) hx hb dX10_takesCond_54 (by decide) ?_
          exact RI (v := 1) hC hP hD hS [0, 1, 2, 3] (vkd, vks, vkn, vtf, vksp, vtsp) rfl rfl (by decide) (⟨Or.inl (rfl), by dsimp only; omega⟩) (by decide +kernel) dX10_takesCond_55
    exact keyP 240 0 kd12853 tf12856 gtsp2858 ks12854 kn12855 ksp12857 _ _ _ (by omega) (by first | assumption | exact Or.inl rfl | exact Or.inr rfl | omega) (by first | assumption | exact Or.inl rfl | exact Or.inr rfl | omega) (by first | assumption | exact Or.inl rfl | exact Or.inr rfl | omega) hP hD hS (lv_sub hl [0, 1, 2] rfl)
  · refine lv_if_ne (tgt := 10) hx hb dX10_takesCond_5 (by decide) (fun c9 => absurd (by decide) c9) (fun _ => ?_)
    refine lv_iconst (v := 0) hx hb dX10_takesCond_8 (by decide) ?_
    exact RI (v := 0) hC hP hD hS [0, 1, 2, 3] (kd12853, ks12854, kn12855, tf12856, ksp12857, gtsp2858) rfl rfl (by decide) (⟨Or.inr (rfl), by dsimp only; omega⟩) (by decide +kernel) dX10_takesCond_9
set_option maxHeartbeats 4000000 in
set_option maxRecDepth 100000 in
theorem t_one3 (l : Launch) (G : GG) (K : OO) (h0 : Nat) (tby : Nat) (kt : Nat) (tln : Nat) (tsp : Nat) (tkd : Int32) (ks : Nat) (kn : Nat) (tf9 : Int32) (fby : Nat → Int32) (tspc : Nat) (ksp : Nat) (ftsp : Nat → Int32) (hkt : kt ≤ 240) (hks : ks ≤ 240) (hkn : kn ≤ 240) (hksp : ksp ≤ 120) : MIo l G K yX10_takesOne cX10_takesOne 4 (some .boolean) 13 0 0 [.ref h0, .int 3] [(h0, .inr (10, [.ref tby, .int (nI kt), .ref tln, .ref tsp, .int tkd, .int (nI ks), .int (nI kn), .int tf9])), (tby, .inl (G.2.1, 240, .inl fby)), (tsp, .inr (8, [.int 120, .int 1, .ref tspc, .int (nI ksp)])), (tspc, .inl (G.2.1, 120, .inl ftsp))] (fun (r : Int32) (u : Int32 × Nat × Nat × Int32 × Nat × (Nat → Int32)) => (r = 1 ∨ r = 0) ∧ (u.2.1 ≤ 240 ∧ u.2.2.1 ≤ 240 ∧ u.2.2.2.2.1 ≤ 120)) (fun u : Int32 × Nat × Nat × Int32 × Nat × (Nat → Int32) => [(h0, .inr (10, [.ref tby, .int (nI kt), .ref tln, .ref tsp, .int u.1, .int (nI u.2.1), .int (nI u.2.2.1), .int u.2.2.2.1])), (tby, .inl (G.2.1, 240, .inl fby)), (tsp, .inr (8, [.int 120, .int 1, .ref tspc, .int (nI u.2.2.2.2.1)])), (tspc, .inl (G.2.1, 120, .inl u.2.2.2.2.2))]) := by
  refine MIo.start (by decide +kernel) (Nat.le_of_ble_eq_true rfl) ?_
  intro p e s m below meth c A ls hC hK hP hD hS hA hl hO
  have hl : lv_has ls 4 [(0, .ref h0), (1, .int 3)] := hl
  obtain ⟨hx, hb, hr, hml, hB, hown, hlocks, hnm⟩ := id hC
  refine lv_iconst (v := 0) hx hb dX10_takesOne_0 (by decide) ?_
  refine lv_istore_n (lv' := [(2, .int 0), (0, .ref h0), (1, .int 3)]) hx hb dX10_takesOne_1 rfl hl (by decide) rfl (fun ls hl => ?_)
  refine lv_iconst (v := 0) hx hb dX10_takesOne_2 (by decide) ?_
  refine lv_istore_n (lv' := [(3, .int 0), (2, .int 0), (0, .ref h0), (1, .int 3)]) hx hb dX10_takesOne_3 rfl hl (by decide) rfl (fun ls hl => ?_)
  have keyP : ∀ (nP kP : Nat) (tu : Int32) (vkd : Int32) (vtf : Int32) (vks : Nat) (vkn : Nat) (H : Heap) (locs : List Loc) (ls : Array Slot), kP + nP = 240 → (vks ≤ 240) → (vkn ≤ 240) → va_P G.1 vwCl [(h0, .inr (10, [.ref tby, .int (nI kt), .ref tln, .ref tsp, .int vkd, .int (nI vks), .int (nI vkn), .int vtf])), (tby, .inl (G.2.1, 240, .inl fby)), (tsp, .inr (8, [.int 120, .int 1, .ref tspc, .int (nI ksp)])), (tspc, .inl (G.2.1, 120, .inl ftsp))] H → va_D A [(h0, .inr (10, [.ref tby, .int (nI kt), .ref tln, .ref tsp, .int vkd, .int (nI vks), .int (nI vkn), .int vtf])), (tby, .inl (G.2.1, 240, .inl fby)), (tsp, .inr (8, [.int 120, .int 1, .ref tspc, .int (nI ksp)])), (tspc, .inl (G.2.1, 120, .inl ftsp))] → va_S A s.heap H locs → lv_has ls 4 [(3, .int (nI kP)), (2, .int tu), (0, .ref h0), (1, .int 3)] → W p l e (RM 13 0 0) s m ([.ref h0, .int 3] : List Value).toArray below meth c H locs 0 0 (MQ below (QI G (fun (r : Int32) (u : Int32 × Nat × Nat × Int32 × Nat × (Nat → Int32)) => (r = 1 ∨ r = 0) ∧ (u.2.1 ≤ 240 ∧ u.2.2.1 ≤ 240 ∧ u.2.2.2.2.1 ≤ 120)) (fun u : Int32 × Nat × Nat × Int32 × Nat × (Nat → Int32) => [(h0, .inr (10, [.ref tby, .int (nI kt), .ref tln, .ref tsp, .int u.1, .int (nI u.2.1), .int (nI u.2.2.1), .int u.2.2.2.1])), (tby, .inl (G.2.1, 240, .inl fby)), (tsp, .inr (8, [.int 120, .int 1, .ref tspc, .int (nI u.2.2.2.2.1)])), (tspc, .inl (G.2.1, 120, .inl u.2.2.2.2.2))]) A) ([.ref h0, .int 3] : List Value).toArray s 0 0 A) (F0 m 4 ls []) := by
    intro nP
    induction nP with
    | zero =>
      intro kP tu vkd vtf vks vkn H locs ls hkP hvks hvkn hP hD hS hl
      obtain rfl : 240 = kP := by omega
      have hl : lv_has ls 4 [(3, .int 240), (2, .int tu), (0, .ref h0), (1, .int 3)] := hl
      refine lv_iload_n hx hb dX10_takesOne_4 rfl (lv_at hl 0 rfl) ?_
      refine lv_sipush (v := 240) hx hb dX10_takesOne_5 (by decide) ?_
      refine lv_icmp_ge (tgt := 40) hx hb dX10_takesOne_8 (by decide) (fun _ => ?_) (fun c9 => absurd (by decide) c9)
      refine lv_aload_n hx hb dX10_takesOne_40 rfl (lv_at hl 2 rfl) ?_
      refine gf_X10_31 hC rfl hK hP 0 rfl rfl dX10_takesOne_41 ?_
      refine lv_bipush (v := 40) hx hb dX10_takesOne_44 (by decide) ?_
      refine lv_icmp_eq (tgt := 58) hx hb dX10_takesOne_46 (by decide) (fun c_46_2884 => ?_) (fun c_46_2884 => ?_)
      · refine lv_iload_n hx hb dX10_takesOne_58 rfl (lv_at hl 3 rfl) ?_
        refine lv_iconst (v := 4) hx hb dX10_takesOne_59 (by decide) ?_
        refine lv_icmp_lt (tgt := 68) hx hb dX10_takesOne_60 (by decide) (fun _ => ?_) (fun c9 => absurd (by decide) c9)
        refine lv_aload_n hx hb dX10_takesOne_68 rfl (lv_at hl 2 rfl) ?_
        refine vV (wr := [(tsp, .inr (8, [.int 120, .int 1, .ref tspc, .int (nI ksp)])), (tspc, .inl (G.2.1, 120, .inl ftsp))]) hC hK hl hP hD hS hA (t_advance l G h0 tby kt tln tsp vkd vks vkn vtf fby (by omega) (by omega) (by omega)) si_X10_47 [0, 1] [2, 3] rfl rfl (by decide) rfl (by decide) (by decide) rfl rfl rfl rfl rfl (Nat.le_of_ble_eq_true rfl) ⟨Nat.le_of_ble_eq_true rfl, Nat.le_of_ble_eq_true rfl⟩ ⟨Nat.le_of_ble_eq_true rfl, Nat.le_of_ble_eq_true rfl⟩ dX10_takesOne_69 (fun u2886 H locs hr2885 hP hD hS => ?_)
        obtain ⟨kd12887, ks12888, kn12889⟩ := u2886
        try dsimp only at hr2885
        have hP : va_P G.1 vwCl [(tsp, .inr (8, [.int 120, .int 1, .ref tspc, .int (nI ksp)])), (tspc, .inl (G.2.1, 120, .inl ftsp)), (h0, .inr (10, [.ref tby, .int (nI kt), .ref tln, .ref tsp, .int kd12887, .int (nI ks12888), .int (nI kn12889), .int vtf])), (tby, .inl (G.2.1, 240, .inl fby))] H := hP
        have hD : va_D A [(tsp, .inr (8, [.int 120, .int 1, .ref tspc, .int (nI ksp)])), (tspc, .inl (G.2.1, 120, .inl ftsp)), (h0, .inr (10, [.ref tby, .int (nI kt), .ref tln, .ref tsp, .int kd12887, .int (nI ks12888), .int (nI kn12889), .int vtf])), (tby, .inl (G.2.1, 240, .inl fby))] := hD
        have w2890 := hr2885
        refine lv_aload_n hx hb dX10_takesOne_72 rfl (lv_at hl 2 rfl) ?_
        refine lv_iload_n hx hb dX10_takesOne_73 rfl (lv_at hl 3 rfl) ?_
        refine lv_iconst (v := 1) hx hb dX10_takesOne_74 (by decide) ?_
        refine lv_iadd hx hb dX10_takesOne_75 ?_
        refine eqi (x1 := 4) (by decide) ?_
        refine iVo (wr := []) hO hC hK hl hP hD hS hA (t_cond4 l G K h0 tby kt tln tsp kd12887 ks12888 kn12889 vtf fby tspc ksp ftsp (by omega) (by omega) (by omega) (by omega)) si_X10_121 [2, 3, 0, 1] [] rfl rfl (by decide) rfl (by decide) (by decide) rfl rfl rfl rfl rfl (Nat.le_of_ble_eq_true rfl) ⟨Nat.le_of_ble_eq_true rfl, Nat.le_of_ble_eq_true rfl⟩ ⟨Nat.le_of_ble_eq_true rfl, Nat.le_of_ble_eq_true rfl⟩ dX10_takesOne_76 (fun r2891 u2892 H locs hr2891 hP hD hS => ?_)
        obtain ⟨kd12893, ks12894, kn12895, tf12896, ksp12897, gtsp2898⟩ := u2892
        try dsimp only at hr2891
        have hP : va_P G.1 vwCl [(h0, .inr (10, [.ref tby, .int (nI kt), .ref tln, .ref tsp, .int kd12893, .int (nI ks12894), .int (nI kn12895), .int tf12896])), (tby, .inl (G.2.1, 240, .inl fby)), (tsp, .inr (8, [.int 120, .int 1, .ref tspc, .int (nI ksp12897)])), (tspc, .inl (G.2.1, 120, .inl gtsp2898))] H := hP
        have hD : va_D A [(h0, .inr (10, [.ref tby, .int (nI kt), .ref tln, .ref tsp, .int kd12893, .int (nI ks12894), .int (nI kn12895), .int tf12896])), (tby, .inl (G.2.1, 240, .inl fby)), (tsp, .inr (8, [.int 120, .int 1, .ref tspc, .int (nI ksp12897)])), (tspc, .inl (G.2.1, 120, .inl gtsp2898))] := hD
        obtain ⟨hr2891, w2899⟩ := hr2891
        rcases hr2891 with rfl | rfl
        · refine lv_if_eq (tgt := 91) hx hb dX10_takesOne_79 (by decide) (fun c9 => absurd c9 (by decide)) (fun _ => ?_)
          refine lv_aload_n hx hb dX10_takesOne_82 rfl (lv_at hl 2 rfl) ?_
          refine lv_bipush (v := 41) hx hb dX10_takesOne_83 (by decide) ?_
          refine iV (wr := [(tsp, .inr (8, [.int 120, .int 1, .ref tspc, .int (nI ksp12897)])), (tspc, .inl (G.2.1, 120, .inl gtsp2898))]) hC hK hl hP hD hS hA (t_takesByte l G h0 41 tby kt tln tsp kd12893 ks12894 kn12895 tf12896 fby (by omega) (by omega) (by omega)) si_X10_124 [0, 1] [2, 3] rfl rfl (by decide) rfl (by decide) (by decide) rfl rfl rfl rfl rfl (Nat.le_of_ble_eq_true rfl) ⟨Nat.le_of_ble_eq_true rfl, Nat.le_of_ble_eq_true rfl⟩ ⟨Nat.le_of_ble_eq_true rfl, Nat.le_of_ble_eq_true rfl⟩ dX10_takesOne_85 (fun r2901 u2902 H locs hr2901 hP hD hS => ?_)
          obtain ⟨kd12903, ks12904, kn12905, tf12906⟩ := u2902
          try dsimp only at hr2901
          have hP : va_P G.1 vwCl [(tsp, .inr (8, [.int 120, .int 1, .ref tspc, .int (nI ksp12897)])), (tspc, .inl (G.2.1, 120, .inl gtsp2898)), (h0, .inr (10, [.ref tby, .int (nI kt), .ref tln, .ref tsp, .int kd12903, .int (nI ks12904), .int (nI kn12905), .int tf12906])), (tby, .inl (G.2.1, 240, .inl fby))] H := hP
          have hD : va_D A [(tsp, .inr (8, [.int 120, .int 1, .ref tspc, .int (nI ksp12897)])), (tspc, .inl (G.2.1, 120, .inl gtsp2898)), (h0, .inr (10, [.ref tby, .int (nI kt), .ref tln, .ref tsp, .int kd12903, .int (nI ks12904), .int (nI kn12905), .int tf12906])), (tby, .inl (G.2.1, 240, .inl fby))] := hD
          obtain ⟨hr2901, w2907⟩ := hr2901
          rcases hr2901 with rfl | rfl
          · refine lv_if_ne (tgt := 93) hx hb dX10_takesOne_88 (by decide) (fun _ => ?_) (fun c9 => absurd c9 (by decide))
            refine lv_iload_n hx hb dX10_takesOne_93 rfl (lv_at hl 1 rfl) ?_
            refine lv_if_eq (tgt := 102) hx hb dX10_takesOne_94 (by decide) (fun c_94_2909 => ?_) (fun c_94_2909 => ?_)
            · refine lv_iconst (v := 1) hx hb dX10_takesOne_102 (by decide) ?_
              exact RI (v := 1) hC hP hD hS [2, 3, 0, 1] (kd12903, ks12904, kn12905, tf12906, ksp12897, gtsp2898) rfl rfl (by decide) (⟨Or.inl (rfl), by dsimp only; omega⟩) (by decide +kernel) dX10_takesOne_103
            · refine lv_aload_n hx hb dX10_takesOne_97 rfl (lv_at hl 2 rfl) ?_
              refine lv_iconst (v := (-1)) hx hb dX10_takesOne_98 (by decide) ?_
              refine vV (wr := [(tby, .inl (G.2.1, 240, .inl fby))]) hC hK hl hP hD hS hA (t_addStep l G h0 (-1) tby kt tln tsp kd12903 ks12904 kn12905 tf12906 tspc ksp12897 gtsp2898 (by omega)) si_X10_152 [2, 0, 1] [3] rfl rfl (by decide) rfl (by decide) (by decide) rfl rfl rfl rfl rfl (Nat.le_of_ble_eq_true rfl) ⟨Nat.le_of_ble_eq_true rfl, Nat.le_of_ble_eq_true rfl⟩ ⟨Nat.le_of_ble_eq_true rfl, Nat.le_of_ble_eq_true rfl⟩ dX10_takesOne_99 (fun u2911 H locs hr2910 hP hD hS => ?_)
              obtain ⟨ksp12912, gtsp2913⟩ := u2911
              try dsimp only at hr2910
              have hP : va_P G.1 vwCl [(tby, .inl (G.2.1, 240, .inl fby)), (h0, .inr (10, [.ref tby, .int (nI kt), .ref tln, .ref tsp, .int kd12903, .int (nI ks12904), .int (nI kn12905), .int tf12906])), (tsp, .inr (8, [.int 120, .int 1, .ref tspc, .int (nI ksp12912)])), (tspc, .inl (G.2.1, 120, .inl gtsp2913))] H := hP
              have hD : va_D A [(tby, .inl (G.2.1, 240, .inl fby)), (h0, .inr (10, [.ref tby, .int (nI kt), .ref tln, .ref tsp, .int kd12903, .int (nI ks12904), .int (nI kn12905), .int tf12906])), (tsp, .inr (8, [.int 120, .int 1, .ref tspc, .int (nI ksp12912)])), (tspc, .inl (G.2.1, 120, .inl gtsp2913))] := hD
              have w2914 := hr2910
              refine lv_iconst (v := 1) hx hb dX10_takesOne_102 (by decide) ?_
              exact RI (v := 1) hC hP hD hS [1, 0, 2, 3] (kd12903, ks12904, kn12905, tf12906, ksp12912, gtsp2913) rfl rfl (by decide) (⟨Or.inl (rfl), by dsimp only; omega⟩) (by decide +kernel) dX10_takesOne_103
          · refine lv_if_ne (tgt := 93) hx hb dX10_takesOne_88 (by decide) (fun c9 => absurd (by decide) c9) (fun _ => ?_)
            refine lv_iconst (v := 0) hx hb dX10_takesOne_91 (by decide) ?_
            exact RI (v := 0) hC hP hD hS [2, 3, 0, 1] (kd12903, ks12904, kn12905, tf12906, ksp12897, gtsp2898) rfl rfl (by decide) (⟨Or.inr (rfl), by dsimp only; omega⟩) (by decide +kernel) dX10_takesOne_92
        · refine lv_if_eq (tgt := 91) hx hb dX10_takesOne_79 (by decide) (fun _ => ?_) (fun c9 => absurd (by decide) c9)
          refine lv_iconst (v := 0) hx hb dX10_takesOne_91 (by decide) ?_
          exact RI (v := 0) hC hP hD hS [0, 1, 2, 3] (kd12893, ks12894, kn12895, tf12896, ksp12897, gtsp2898) rfl rfl (by decide) (⟨Or.inr (rfl), by dsimp only; omega⟩) (by decide +kernel) dX10_takesOne_92
      · refine lv_aload_n hx hb dX10_takesOne_49 rfl (lv_at hl 2 rfl) ?_
        refine iVo (wr := []) hO hC hK hl hP hD hS hA (t_takesComparison l G K h0 tby kt tln tsp vkd vks vkn vtf fby tspc ksp ftsp (by omega) (by omega) (by omega) (by omega)) si_X10_162 [0, 1, 2, 3] [] rfl rfl (by decide) rfl (by decide) (by decide) rfl rfl rfl rfl rfl (Nat.le_of_ble_eq_true rfl) ⟨Nat.le_of_ble_eq_true rfl, Nat.le_of_ble_eq_true rfl⟩ ⟨Nat.le_of_ble_eq_true rfl, Nat.le_of_ble_eq_true rfl⟩ dX10_takesOne_50 (fun r2915 u2916 H locs hr2915 hP hD hS => ?_)
        obtain ⟨kd12917, ks12918, kn12919, tf12920, ksp12921, gtsp2922⟩ := u2916
        try dsimp only at hr2915
        have hP : va_P G.1 vwCl [(h0, .inr (10, [.ref tby, .int (nI kt), .ref tln, .ref tsp, .int kd12917, .int (nI ks12918), .int (nI kn12919), .int tf12920])), (tby, .inl (G.2.1, 240, .inl fby)), (tsp, .inr (8, [.int 120, .int 1, .ref tspc, .int (nI ksp12921)])), (tspc, .inl (G.2.1, 120, .inl gtsp2922))] H := hP
        have hD : va_D A [(h0, .inr (10, [.ref tby, .int (nI kt), .ref tln, .ref tsp, .int kd12917, .int (nI ks12918), .int (nI kn12919), .int tf12920])), (tby, .inl (G.2.1, 240, .inl fby)), (tsp, .inr (8, [.int 120, .int 1, .ref tspc, .int (nI ksp12921)])), (tspc, .inl (G.2.1, 120, .inl gtsp2922))] := hD
        obtain ⟨hr2915, w2923⟩ := hr2915
        rcases hr2915 with rfl | rfl
        · refine lv_if_ne (tgt := 93) hx hb dX10_takesOne_53 (by decide) (fun _ => ?_) (fun c9 => absurd c9 (by decide))
          refine lv_iload_n hx hb dX10_takesOne_93 rfl (lv_at hl 1 rfl) ?_
          refine lv_if_eq (tgt := 102) hx hb dX10_takesOne_94 (by decide) (fun c_94_2925 => ?_) (fun c_94_2925 => ?_)
          · refine lv_iconst (v := 1) hx hb dX10_takesOne_102 (by decide) ?_
            exact RI (v := 1) hC hP hD hS [0, 1, 2, 3] (kd12917, ks12918, kn12919, tf12920, ksp12921, gtsp2922) rfl rfl (by decide) (⟨Or.inl (rfl), by dsimp only; omega⟩) (by decide +kernel) dX10_takesOne_103
          · refine lv_aload_n hx hb dX10_takesOne_97 rfl (lv_at hl 2 rfl) ?_
            refine lv_iconst (v := (-1)) hx hb dX10_takesOne_98 (by decide) ?_
            refine vV (wr := [(tby, .inl (G.2.1, 240, .inl fby))]) hC hK hl hP hD hS hA (t_addStep l G h0 (-1) tby kt tln tsp kd12917 ks12918 kn12919 tf12920 tspc ksp12921 gtsp2922 (by omega)) si_X10_152 [0, 2, 3] [1] rfl rfl (by decide) rfl (by decide) (by decide) rfl rfl rfl rfl rfl (Nat.le_of_ble_eq_true rfl) ⟨Nat.le_of_ble_eq_true rfl, Nat.le_of_ble_eq_true rfl⟩ ⟨Nat.le_of_ble_eq_true rfl, Nat.le_of_ble_eq_true rfl⟩ dX10_takesOne_99 (fun u2927 H locs hr2926 hP hD hS => ?_)
            obtain ⟨ksp12928, gtsp2929⟩ := u2927
            try dsimp only at hr2926
            have hP : va_P G.1 vwCl [(tby, .inl (G.2.1, 240, .inl fby)), (h0, .inr (10, [.ref tby, .int (nI kt), .ref tln, .ref tsp, .int kd12917, .int (nI ks12918), .int (nI kn12919), .int tf12920])), (tsp, .inr (8, [.int 120, .int 1, .ref tspc, .int (nI ksp12928)])), (tspc, .inl (G.2.1, 120, .inl gtsp2929))] H := hP
            have hD : va_D A [(tby, .inl (G.2.1, 240, .inl fby)), (h0, .inr (10, [.ref tby, .int (nI kt), .ref tln, .ref tsp, .int kd12917, .int (nI ks12918), .int (nI kn12919), .int tf12920])), (tsp, .inr (8, [.int 120, .int 1, .ref tspc, .int (nI ksp12928)])), (tspc, .inl (G.2.1, 120, .inl gtsp2929))] := hD
            have w2930 := hr2926
            refine lv_iconst (v := 1) hx hb dX10_takesOne_102 (by decide) ?_
            exact RI (v := 1) hC hP hD hS [1, 0, 2, 3] (kd12917, ks12918, kn12919, tf12920, ksp12928, gtsp2929) rfl rfl (by decide) (⟨Or.inl (rfl), by dsimp only; omega⟩) (by decide +kernel) dX10_takesOne_103
        · refine lv_if_ne (tgt := 93) hx hb dX10_takesOne_53 (by decide) (fun c9 => absurd (by decide) c9) (fun _ => ?_)
          refine lv_iconst (v := 0) hx hb dX10_takesOne_56 (by decide) ?_
          exact RI (v := 0) hC hP hD hS [0, 1, 2, 3] (kd12917, ks12918, kn12919, tf12920, ksp12921, gtsp2922) rfl rfl (by decide) (⟨Or.inr (rfl), by dsimp only; omega⟩) (by decide +kernel) dX10_takesOne_57
    | succ nP ihP =>
      intro kP tu vkd vtf vks vkn H locs ls hkP hvks hvkn hP hD hS hl
      refine lv_iload_n hx hb dX10_takesOne_4 rfl (lv_at hl 0 rfl) ?_
      refine lv_sipush (v := 240) hx hb dX10_takesOne_5 (by decide) ?_
      refine lv_icmp_ge (tgt := 40) hx hb dX10_takesOne_8 (by decide) (fun c9 => absurd c9 (nI_ge (a := kP) (b := 240) (by omega) (by omega))) (fun _ => ?_)
      refine lv_aload_n hx hb dX10_takesOne_11 rfl (lv_at hl 2 rfl) ?_
      refine va_ldcS (index := 160) (tx := "not") hx hb hown (hO.2.1 10 (by decide)) dX10_takesOne_12 ?_
      refine pVo hO hS hC hK hl hP hD (t_isName l G K 10 h0 tby kt tln tsp vkd vks vkn vtf fby (by omega) (by omega) (by omega) ((by decide))) si_X10_102 [0, 1] rfl rfl (by decide) rfl rfl rfl rfl rfl (Nat.le_of_ble_eq_true rfl) ⟨Nat.le_of_ble_eq_true rfl, Nat.le_of_ble_eq_true rfl⟩ ⟨by first | exact Nat.le_of_ble_eq_true rfl | exact Nat.zero_le _, by first | exact Nat.le_of_ble_eq_true rfl | exact Nat.zero_le _⟩ dX10_takesOne_14 (fun r2931 hr2931 => ?_)
      rcases hr2931 with rfl | rfl
      · refine lv_if_eq (tgt := 40) hx hb dX10_takesOne_17 (by decide) (fun c9 => absurd c9 (by decide)) (fun _ => ?_)
        refine lv_aload_n hx hb dX10_takesOne_20 rfl (lv_at hl 2 rfl) ?_
        refine vV (wr := [(tsp, .inr (8, [.int 120, .int 1, .ref tspc, .int (nI ksp)])), (tspc, .inl (G.2.1, 120, .inl ftsp))]) hC hK hl hP hD hS hA (t_advance l G h0 tby kt tln tsp vkd vks vkn vtf fby (by omega) (by omega) (by omega)) si_X10_47 [0, 1] [2, 3] rfl rfl (by decide) rfl (by decide) (by decide) rfl rfl rfl rfl rfl (Nat.le_of_ble_eq_true rfl) ⟨Nat.le_of_ble_eq_true rfl, Nat.le_of_ble_eq_true rfl⟩ ⟨Nat.le_of_ble_eq_true rfl, Nat.le_of_ble_eq_true rfl⟩ dX10_takesOne_21 (fun u2934 H locs hr2933 hP hD hS => ?_)
        obtain ⟨kd12935, ks12936, kn12937⟩ := u2934
        try dsimp only at hr2933
        have hP : va_P G.1 vwCl [(tsp, .inr (8, [.int 120, .int 1, .ref tspc, .int (nI ksp)])), (tspc, .inl (G.2.1, 120, .inl ftsp)), (h0, .inr (10, [.ref tby, .int (nI kt), .ref tln, .ref tsp, .int kd12935, .int (nI ks12936), .int (nI kn12937), .int vtf])), (tby, .inl (G.2.1, 240, .inl fby))] H := hP
        have hD : va_D A [(tsp, .inr (8, [.int 120, .int 1, .ref tspc, .int (nI ksp)])), (tspc, .inl (G.2.1, 120, .inl ftsp)), (h0, .inr (10, [.ref tby, .int (nI kt), .ref tln, .ref tsp, .int kd12935, .int (nI ks12936), .int (nI kn12937), .int vtf])), (tby, .inl (G.2.1, 240, .inl fby))] := hD
        have w2938 := hr2933
        refine lv_iload_n hx hb dX10_takesOne_24 rfl (lv_at hl 1 rfl) ?_
        refine lv_if_ne (tgt := 32) hx hb dX10_takesOne_25 (by decide) (fun c_25_2939 => ?_) (fun c_25_2939 => ?_)
        · refine lv_iconst (v := 0) hx hb dX10_takesOne_32 (by decide) ?_
          refine lv_istore_n (lv' := [(2, .int 0), (3, .int (nI kP)), (0, .ref h0), (1, .int 3)]) hx hb dX10_takesOne_33 rfl hl (by decide) rfl (fun ls hl => ?_)
          refine lv_iinc (v := nI (kP + 1)) (lv' := [(3, .int (nI (kP + 1))), (2, .int 0), (0, .ref h0), (1, .int 3)]) hx hb dX10_takesOne_34 hl (k := 1) rfl (nI_1 _) (by decide) rfl (fun ls hl => ?_)
          refine lv_goto (tgt := 4) hx hb dX10_takesOne_37 (by decide) ?_
          have hP := hP.sub (ws' := [(h0, .inr (10, [.ref tby, .int (nI kt), .ref tln, .ref tsp, .int kd12935, .int (nI ks12936), .int (nI kn12937), .int vtf])), (tby, .inl (G.2.1, 240, .inl fby)), (tsp, .inr (8, [.int 120, .int 1, .ref tspc, .int (nI ksp)])), (tspc, .inl (G.2.1, 120, .inl ftsp))]) [2, 3, 0, 1] rfl
          have hD := hD.sub (ws' := [(h0, .inr (10, [.ref tby, .int (nI kt), .ref tln, .ref tsp, .int kd12935, .int (nI ks12936), .int (nI kn12937), .int vtf])), (tby, .inl (G.2.1, 240, .inl fby)), (tsp, .inr (8, [.int 120, .int 1, .ref tspc, .int (nI ksp)])), (tspc, .inl (G.2.1, 120, .inl ftsp))]) [2, 3, 0, 1] (by decide) rfl
          exact ihP (kP + 1) 0 kd12935 vtf ks12936 kn12937 _ _ _ (by omega) (by first | assumption | exact Or.inl rfl | exact Or.inr rfl | omega) (by first | assumption | exact Or.inl rfl | exact Or.inr rfl | omega) hP hD hS (lv_sub hl [0, 1, 2, 3] rfl)
        · refine lv_iconst (v := 1) hx hb dX10_takesOne_28 (by decide) ?_
          refine lv_goto (tgt := 33) hx hb dX10_takesOne_29 (by decide) ?_
          refine lv_istore_n (lv' := [(2, .int 1), (3, .int (nI kP)), (0, .ref h0), (1, .int 3)]) hx hb dX10_takesOne_33 rfl hl (by decide) rfl (fun ls hl => ?_)
          refine lv_iinc (v := nI (kP + 1)) (lv' := [(3, .int (nI (kP + 1))), (2, .int 1), (0, .ref h0), (1, .int 3)]) hx hb dX10_takesOne_34 hl (k := 1) rfl (nI_1 _) (by decide) rfl (fun ls hl => ?_)
          refine lv_goto (tgt := 4) hx hb dX10_takesOne_37 (by decide) ?_
          have hP := hP.sub (ws' := [(h0, .inr (10, [.ref tby, .int (nI kt), .ref tln, .ref tsp, .int kd12935, .int (nI ks12936), .int (nI kn12937), .int vtf])), (tby, .inl (G.2.1, 240, .inl fby)), (tsp, .inr (8, [.int 120, .int 1, .ref tspc, .int (nI ksp)])), (tspc, .inl (G.2.1, 120, .inl ftsp))]) [2, 3, 0, 1] rfl
          have hD := hD.sub (ws' := [(h0, .inr (10, [.ref tby, .int (nI kt), .ref tln, .ref tsp, .int kd12935, .int (nI ks12936), .int (nI kn12937), .int vtf])), (tby, .inl (G.2.1, 240, .inl fby)), (tsp, .inr (8, [.int 120, .int 1, .ref tspc, .int (nI ksp)])), (tspc, .inl (G.2.1, 120, .inl ftsp))]) [2, 3, 0, 1] (by decide) rfl
          exact ihP (kP + 1) 1 kd12935 vtf ks12936 kn12937 _ _ _ (by omega) (by first | assumption | exact Or.inl rfl | exact Or.inr rfl | omega) (by first | assumption | exact Or.inl rfl | exact Or.inr rfl | omega) hP hD hS (lv_sub hl [0, 1, 2, 3] rfl)
      · refine lv_if_eq (tgt := 40) hx hb dX10_takesOne_17 (by decide) (fun _ => ?_) (fun c9 => absurd (by decide) c9)
        refine lv_aload_n hx hb dX10_takesOne_40 rfl (lv_at hl 2 rfl) ?_
        refine gf_X10_31 hC rfl hK hP 0 rfl rfl dX10_takesOne_41 ?_
        refine lv_bipush (v := 40) hx hb dX10_takesOne_44 (by decide) ?_
        refine lv_icmp_eq (tgt := 58) hx hb dX10_takesOne_46 (by decide) (fun c_46_2940 => ?_) (fun c_46_2940 => ?_)
        · refine lv_iload_n hx hb dX10_takesOne_58 rfl (lv_at hl 3 rfl) ?_
          refine lv_iconst (v := 4) hx hb dX10_takesOne_59 (by decide) ?_
          refine lv_icmp_lt (tgt := 68) hx hb dX10_takesOne_60 (by decide) (fun _ => ?_) (fun c9 => absurd (by decide) c9)
          refine lv_aload_n hx hb dX10_takesOne_68 rfl (lv_at hl 2 rfl) ?_
          refine vV (wr := [(tsp, .inr (8, [.int 120, .int 1, .ref tspc, .int (nI ksp)])), (tspc, .inl (G.2.1, 120, .inl ftsp))]) hC hK hl hP hD hS hA (t_advance l G h0 tby kt tln tsp vkd vks vkn vtf fby (by omega) (by omega) (by omega)) si_X10_47 [0, 1] [2, 3] rfl rfl (by decide) rfl (by decide) (by decide) rfl rfl rfl rfl rfl (Nat.le_of_ble_eq_true rfl) ⟨Nat.le_of_ble_eq_true rfl, Nat.le_of_ble_eq_true rfl⟩ ⟨Nat.le_of_ble_eq_true rfl, Nat.le_of_ble_eq_true rfl⟩ dX10_takesOne_69 (fun u2942 H locs hr2941 hP hD hS => ?_)
          obtain ⟨kd12943, ks12944, kn12945⟩ := u2942
          try dsimp only at hr2941
          have hP : va_P G.1 vwCl [(tsp, .inr (8, [.int 120, .int 1, .ref tspc, .int (nI ksp)])), (tspc, .inl (G.2.1, 120, .inl ftsp)), (h0, .inr (10, [.ref tby, .int (nI kt), .ref tln, .ref tsp, .int kd12943, .int (nI ks12944), .int (nI kn12945), .int vtf])), (tby, .inl (G.2.1, 240, .inl fby))] H := hP
          have hD : va_D A [(tsp, .inr (8, [.int 120, .int 1, .ref tspc, .int (nI ksp)])), (tspc, .inl (G.2.1, 120, .inl ftsp)), (h0, .inr (10, [.ref tby, .int (nI kt), .ref tln, .ref tsp, .int kd12943, .int (nI ks12944), .int (nI kn12945), .int vtf])), (tby, .inl (G.2.1, 240, .inl fby))] := hD
          have w2946 := hr2941
          refine lv_aload_n hx hb dX10_takesOne_72 rfl (lv_at hl 2 rfl) ?_
          refine lv_iload_n hx hb dX10_takesOne_73 rfl (lv_at hl 3 rfl) ?_
          refine lv_iconst (v := 1) hx hb dX10_takesOne_74 (by decide) ?_
          refine lv_iadd hx hb dX10_takesOne_75 ?_
          refine eqi (x1 := 4) (by decide) ?_
          refine iVo (wr := []) hO hC hK hl hP hD hS hA (t_cond4 l G K h0 tby kt tln tsp kd12943 ks12944 kn12945 vtf fby tspc ksp ftsp (by omega) (by omega) (by omega) (by omega)) si_X10_121 [2, 3, 0, 1] [] rfl rfl (by decide) rfl (by decide) (by decide) rfl rfl rfl rfl rfl (Nat.le_of_ble_eq_true rfl) ⟨Nat.le_of_ble_eq_true rfl, Nat.le_of_ble_eq_true rfl⟩ ⟨Nat.le_of_ble_eq_true rfl, Nat.le_of_ble_eq_true rfl⟩ dX10_takesOne_76 (fun r2947 u2948 H locs hr2947 hP hD hS => ?_)
          obtain ⟨kd12949, ks12950, kn12951, tf12952, ksp12953, gtsp2954⟩ := u2948
          try dsimp only at hr2947
          have hP : va_P G.1 vwCl [(h0, .inr (10, [.ref tby, .int (nI kt), .ref tln, .ref tsp, .int kd12949, .int (nI ks12950), .int (nI kn12951), .int tf12952])), (tby, .inl (G.2.1, 240, .inl fby)), (tsp, .inr (8, [.int 120, .int 1, .ref tspc, .int (nI ksp12953)])), (tspc, .inl (G.2.1, 120, .inl gtsp2954))] H := hP
          have hD : va_D A [(h0, .inr (10, [.ref tby, .int (nI kt), .ref tln, .ref tsp, .int kd12949, .int (nI ks12950), .int (nI kn12951), .int tf12952])), (tby, .inl (G.2.1, 240, .inl fby)), (tsp, .inr (8, [.int 120, .int 1, .ref tspc, .int (nI ksp12953)])), (tspc, .inl (G.2.1, 120, .inl gtsp2954))] := hD
          obtain ⟨hr2947, w2955⟩ := hr2947
          rcases hr2947 with rfl | rfl
          · refine lv_if_eq (tgt := 91) hx hb dX10_takesOne_79 (by decide) (fun c9 => absurd c9 (by decide)) (fun _ => ?_)
            refine lv_aload_n hx hb dX10_takesOne_82 rfl (lv_at hl 2 rfl) ?_
            refine lv_bipush (v := 41) hx hb dX10_takesOne_83 (by decide) ?_
            refine iV (wr := [(tsp, .inr (8, [.int 120, .int 1, .ref tspc, .int (nI ksp12953)])), (tspc, .inl (G.2.1, 120, .inl gtsp2954))]) hC hK hl hP hD hS hA (t_takesByte l G h0 41 tby kt tln tsp kd12949 ks12950 kn12951 tf12952 fby (by omega) (by omega) (by omega)) si_X10_124 [0, 1] [2, 3] rfl rfl (by decide) rfl (by decide) (by decide) rfl rfl rfl rfl rfl (Nat.le_of_ble_eq_true rfl) ⟨Nat.le_of_ble_eq_true rfl, Nat.le_of_ble_eq_true rfl⟩ ⟨Nat.le_of_ble_eq_true rfl, Nat.le_of_ble_eq_true rfl⟩ dX10_takesOne_85 (fun r2957 u2958 H locs hr2957 hP hD hS => ?_)
            obtain ⟨kd12959, ks12960, kn12961, tf12962⟩ := u2958
            try dsimp only at hr2957
            have hP : va_P G.1 vwCl [(tsp, .inr (8, [.int 120, .int 1, .ref tspc, .int (nI ksp12953)])), (tspc, .inl (G.2.1, 120, .inl gtsp2954)), (h0, .inr (10, [.ref tby, .int (nI kt), .ref tln, .ref tsp, .int kd12959, .int (nI ks12960), .int (nI kn12961), .int tf12962])), (tby, .inl (G.2.1, 240, .inl fby))] H := hP
            have hD : va_D A [(tsp, .inr (8, [.int 120, .int 1, .ref tspc, .int (nI ksp12953)])), (tspc, .inl (G.2.1, 120, .inl gtsp2954)), (h0, .inr (10, [.ref tby, .int (nI kt), .ref tln, .ref tsp, .int kd12959, .int (nI ks12960), .int (nI kn12961), .int tf12962])), (tby, .inl (G.2.1, 240, .inl fby))] := hD
            obtain ⟨hr2957, w2963⟩ := hr2957
            rcases hr2957 with rfl | rfl
            · refine lv_if_ne (tgt := 93) hx hb dX10_takesOne_88 (by decide) (fun _ => ?_) (fun c9 => absurd c9 (by decide))
              refine lv_iload_n hx hb dX10_takesOne_93 rfl (lv_at hl 1 rfl) ?_
              refine lv_if_eq (tgt := 102) hx hb dX10_takesOne_94 (by decide) (fun c_94_2965 => ?_) (fun c_94_2965 => ?_)
              · refine lv_iconst (v := 1) hx hb dX10_takesOne_102 (by decide) ?_
                exact RI (v := 1) hC hP hD hS [2, 3, 0, 1] (kd12959, ks12960, kn12961, tf12962, ksp12953, gtsp2954) rfl rfl (by decide) (⟨Or.inl (rfl), by dsimp only; omega⟩) (by decide +kernel) dX10_takesOne_103
              · refine lv_aload_n hx hb dX10_takesOne_97 rfl (lv_at hl 2 rfl) ?_
                refine lv_iconst (v := (-1)) hx hb dX10_takesOne_98 (by decide) ?_
                refine vV (wr := [(tby, .inl (G.2.1, 240, .inl fby))]) hC hK hl hP hD hS hA (t_addStep l G h0 (-1) tby kt tln tsp kd12959 ks12960 kn12961 tf12962 tspc ksp12953 gtsp2954 (by omega)) si_X10_152 [2, 0, 1] [3] rfl rfl (by decide) rfl (by decide) (by decide) rfl rfl rfl rfl rfl (Nat.le_of_ble_eq_true rfl) ⟨Nat.le_of_ble_eq_true rfl, Nat.le_of_ble_eq_true rfl⟩ ⟨Nat.le_of_ble_eq_true rfl, Nat.le_of_ble_eq_true rfl⟩ dX10_takesOne_99 (fun u2967 H locs hr2966 hP hD hS => ?_)
                obtain ⟨ksp12968, gtsp2969⟩ := u2967
                try dsimp only at hr2966
                have hP : va_P G.1 vwCl [(tby, .inl (G.2.1, 240, .inl fby)), (h0, .inr (10, [.ref tby, .int (nI kt), .ref tln, .ref tsp, .int kd12959, .int (nI ks12960), .int (nI kn12961), .int tf12962])), (tsp, .inr (8, [.int 120, .int 1, .ref tspc, .int (nI ksp12968)])), (tspc, .inl (G.2.1, 120, .inl gtsp2969))] H := hP
                have hD : va_D A [(tby, .inl (G.2.1, 240, .inl fby)), (h0, .inr (10, [.ref tby, .int (nI kt), .ref tln, .ref tsp, .int kd12959, .int (nI ks12960), .int (nI kn12961), .int tf12962])), (tsp, .inr (8, [.int 120, .int 1, .ref tspc, .int (nI ksp12968)])), (tspc, .inl (G.2.1, 120, .inl gtsp2969))] := hD
                have w2970 := hr2966
                refine lv_iconst (v := 1) hx hb dX10_takesOne_102 (by decide) ?_
                exact RI (v := 1) hC hP hD hS [1, 0, 2, 3] (kd12959, ks12960, kn12961, tf12962, ksp12968, gtsp2969) rfl rfl (by decide) (⟨Or.inl (rfl), by dsimp only; omega⟩) (by decide +kernel) dX10_takesOne_103
            · refine lv_if_ne (tgt := 93) hx hb dX10_takesOne_88 (by decide) (fun c9 => absurd (by decide) c9) (fun _ => ?_)
              refine lv_iconst (v := 0) hx hb dX10_takesOne_91 (by decide) ?_
              exact RI (v := 0) hC hP hD hS [2, 3, 0, 1] (kd12959, ks12960, kn12961, tf12962, ksp12953, gtsp2954) rfl rfl (by decide) (⟨Or.inr (rfl), by dsimp only; omega⟩) (by decide +kernel) dX10_takesOne_92
          · refine lv_if_eq (tgt := 91) hx hb dX10_takesOne_79 (by decide) (fun _ => ?_) (fun c9 => absurd (by decide) c9)
            refine lv_iconst (v := 0) hx hb dX10_takesOne_91 (by decide) ?_
            exact RI (v := 0) hC hP hD hS [0, 1, 2, 3] (kd12949, ks12950, kn12951, tf12952, ksp12953, gtsp2954) rfl rfl (by decide) (⟨Or.inr (rfl), by dsimp only; omega⟩) (by decide +kernel) dX10_takesOne_92
        · refine lv_aload_n hx hb dX10_takesOne_49 rfl (lv_at hl 2 rfl) ?_
          refine iVo (wr := []) hO hC hK hl hP hD hS hA (t_takesComparison l G K h0 tby kt tln tsp vkd vks vkn vtf fby tspc ksp ftsp (by omega) (by omega) (by omega) (by omega)) si_X10_162 [0, 1, 2, 3] [] rfl rfl (by decide) rfl (by decide) (by decide) rfl rfl rfl rfl rfl (Nat.le_of_ble_eq_true rfl) ⟨Nat.le_of_ble_eq_true rfl, Nat.le_of_ble_eq_true rfl⟩ ⟨Nat.le_of_ble_eq_true rfl, Nat.le_of_ble_eq_true rfl⟩ dX10_takesOne_50 (fun r2971 u2972 H locs hr2971 hP hD hS => ?_)
          obtain ⟨kd12973, ks12974, kn12975, tf12976, ksp12977, gtsp2978⟩ := u2972
          try dsimp only at hr2971
          have hP : va_P G.1 vwCl [(h0, .inr (10, [.ref tby, .int (nI kt), .ref tln, .ref tsp, .int kd12973, .int (nI ks12974), .int (nI kn12975), .int tf12976])), (tby, .inl (G.2.1, 240, .inl fby)), (tsp, .inr (8, [.int 120, .int 1, .ref tspc, .int (nI ksp12977)])), (tspc, .inl (G.2.1, 120, .inl gtsp2978))] H := hP
          have hD : va_D A [(h0, .inr (10, [.ref tby, .int (nI kt), .ref tln, .ref tsp, .int kd12973, .int (nI ks12974), .int (nI kn12975), .int tf12976])), (tby, .inl (G.2.1, 240, .inl fby)), (tsp, .inr (8, [.int 120, .int 1, .ref tspc, .int (nI ksp12977)])), (tspc, .inl (G.2.1, 120, .inl gtsp2978))] := hD
          obtain ⟨hr2971, w2979⟩ := hr2971
          rcases hr2971 with rfl | rfl
          · refine lv_if_ne (tgt := 93) hx hb dX10_takesOne_53 (by decide) (fun _ => ?_) (fun c9 => absurd c9 (by decide))
            refine lv_iload_n hx hb dX10_takesOne_93 rfl (lv_at hl 1 rfl) ?_
            refine lv_if_eq (tgt := 102) hx hb dX10_takesOne_94 (by decide) (fun c_94_2981 => ?_) (fun c_94_2981 => ?_)
            · refine lv_iconst (v := 1) hx hb dX10_takesOne_102 (by decide) ?_
              exact RI (v := 1) hC hP hD hS [0, 1, 2, 3] (kd12973, ks12974, kn12975, tf12976, ksp12977, gtsp2978) rfl rfl (by decide) (⟨Or.inl (rfl), by dsimp only; omega⟩) (by decide +kernel) dX10_takesOne_103
            · refine lv_aload_n hx hb dX10_takesOne_97 rfl (lv_at hl 2 rfl) ?_
              refine lv_iconst (v := (-1)) hx hb dX10_takesOne_98 (by decide) ?_
              refine vV (wr := [(tby, .inl (G.2.1, 240, .inl fby))]) hC hK hl hP hD hS hA (t_addStep l G h0 (-1) tby kt tln tsp kd12973 ks12974 kn12975 tf12976 tspc ksp12977 gtsp2978 (by omega)) si_X10_152 [0, 2, 3] [1] rfl rfl (by decide) rfl (by decide) (by decide) rfl rfl rfl rfl rfl (Nat.le_of_ble_eq_true rfl) ⟨Nat.le_of_ble_eq_true rfl, Nat.le_of_ble_eq_true rfl⟩ ⟨Nat.le_of_ble_eq_true rfl, Nat.le_of_ble_eq_true rfl⟩ dX10_takesOne_99 (fun u2983 H locs hr2982 hP hD hS => ?_)
              obtain ⟨ksp12984, gtsp2985⟩ := u2983
              try dsimp only at hr2982
              have hP : va_P G.1 vwCl [(tby, .inl (G.2.1, 240, .inl fby)), (h0, .inr (10, [.ref tby, .int (nI kt), .ref tln, .ref tsp, .int kd12973, .int (nI ks12974), .int (nI kn12975), .int tf12976])), (tsp, .inr (8, [.int 120, .int 1, .ref tspc, .int (nI ksp12984)])), (tspc, .inl (G.2.1, 120, .inl gtsp2985))] H := hP
              have hD : va_D A [(tby, .inl (G.2.1, 240, .inl fby)), (h0, .inr (10, [.ref tby, .int (nI kt), .ref tln, .ref tsp, .int kd12973, .int (nI ks12974), .int (nI kn12975), .int tf12976])), (tsp, .inr (8, [.int 120, .int 1, .ref tspc, .int (nI ksp12984)])), (tspc, .inl (G.2.1, 120, .inl gtsp2985))] := hD
              have w2986 := hr2982
              refine lv_iconst (v := 1) hx hb dX10_takesOne_102 (by decide) ?_
              exact RI (v := 1) hC hP hD hS [1, 0, 2, 3] (kd12973, ks12974, kn12975, tf12976, ksp12984, gtsp2985) rfl rfl (by decide) (⟨Or.inl (rfl), by dsimp only; omega⟩) (by decide +kernel) dX10_takesOne_103
          · refine lv_if_ne (tgt := 93) hx hb dX10_takesOne_53 (by decide) (fun c9 => absurd (by decide) c9) (fun _ => ?_)
            refine lv_iconst (v := 0) hx hb dX10_takesOne_56 (by decide) ?_
            exact RI (v := 0) hC hP hD hS [0, 1, 2, 3] (kd12973, ks12974, kn12975, tf12976, ksp12977, gtsp2978) rfl rfl (by decide) (⟨Or.inr (rfl), by dsimp only; omega⟩) (by decide +kernel) dX10_takesOne_57
  exact keyP 240 0 0 tkd tf9 ks kn _ _ _ (by omega) (by first | assumption | exact Or.inl rfl | exact Or.inr rfl | omega) (by first | assumption | exact Or.inl rfl | exact Or.inr rfl | omega) hP hD hS (lv_sub hl [0, 1, 2, 3] rfl)
set_option maxHeartbeats 4000000 in
set_option maxRecDepth 100000 in
theorem t_all3 (l : Launch) (G : GG) (K : OO) (h0 : Nat) (tby : Nat) (kt : Nat) (tln : Nat) (tsp : Nat) (tkd : Int32) (ks : Nat) (kn : Nat) (tf9 : Int32) (fby : Nat → Int32) (tspc : Nat) (ksp : Nat) (ftsp : Nat → Int32) (hkt : kt ≤ 240) (hks : ks ≤ 240) (hkn : kn ≤ 240) (hksp : ksp ≤ 120) : MIo l G K yX10_takesAll cX10_takesAll 3 (some .boolean) 14 0 0 [.ref h0, .int 3] [(h0, .inr (10, [.ref tby, .int (nI kt), .ref tln, .ref tsp, .int tkd, .int (nI ks), .int (nI kn), .int tf9])), (tby, .inl (G.2.1, 240, .inl fby)), (tsp, .inr (8, [.int 120, .int 1, .ref tspc, .int (nI ksp)])), (tspc, .inl (G.2.1, 120, .inl ftsp))] (fun (r : Int32) (u : Int32 × Nat × Nat × Int32 × Nat × (Nat → Int32)) => (r = 1 ∨ r = 0) ∧ (u.2.1 ≤ 240 ∧ u.2.2.1 ≤ 240 ∧ u.2.2.2.2.1 ≤ 120)) (fun u : Int32 × Nat × Nat × Int32 × Nat × (Nat → Int32) => [(h0, .inr (10, [.ref tby, .int (nI kt), .ref tln, .ref tsp, .int u.1, .int (nI u.2.1), .int (nI u.2.2.1), .int u.2.2.2.1])), (tby, .inl (G.2.1, 240, .inl fby)), (tsp, .inr (8, [.int 120, .int 1, .ref tspc, .int (nI u.2.2.2.2.1)])), (tspc, .inl (G.2.1, 120, .inl u.2.2.2.2.2))]) := by
  refine MIo.start (by decide +kernel) (Nat.le_of_ble_eq_true rfl) ?_
  intro p e s m below meth c A ls hC hK hP hD hS hA hl hO
  have hl : lv_has ls 3 [(0, .ref h0), (1, .int 3)] := hl
  obtain ⟨hx, hb, hr, hml, hB, hown, hlocks, hnm⟩ := id hC
  refine lv_aload_n hx hb dX10_takesAll_0 rfl (lv_at hl 0 rfl) ?_
  refine lv_iload_n hx hb dX10_takesAll_1 rfl (lv_at hl 1 rfl) ?_
  refine iVo (wr := []) hO hC hK hl hP hD hS hA (t_one3 l G K h0 tby kt tln tsp tkd ks kn tf9 fby tspc ksp ftsp (by omega) (by omega) (by omega) (by omega)) si_X10_155 [0, 1, 2, 3] [] rfl rfl (by decide) rfl (by decide) (by decide) rfl rfl rfl rfl rfl (Nat.le_of_ble_eq_true rfl) ⟨Nat.le_of_ble_eq_true rfl, Nat.le_of_ble_eq_true rfl⟩ ⟨Nat.le_of_ble_eq_true rfl, Nat.le_of_ble_eq_true rfl⟩ dX10_takesAll_2 (fun r2987 u2988 H locs hr2987 hP hD hS => ?_)
  obtain ⟨kd12989, ks12990, kn12991, tf12992, ksp12993, gtsp2994⟩ := u2988
  try dsimp only at hr2987
  have hP : va_P G.1 vwCl [(h0, .inr (10, [.ref tby, .int (nI kt), .ref tln, .ref tsp, .int kd12989, .int (nI ks12990), .int (nI kn12991), .int tf12992])), (tby, .inl (G.2.1, 240, .inl fby)), (tsp, .inr (8, [.int 120, .int 1, .ref tspc, .int (nI ksp12993)])), (tspc, .inl (G.2.1, 120, .inl gtsp2994))] H := hP
  have hD : va_D A [(h0, .inr (10, [.ref tby, .int (nI kt), .ref tln, .ref tsp, .int kd12989, .int (nI ks12990), .int (nI kn12991), .int tf12992])), (tby, .inl (G.2.1, 240, .inl fby)), (tsp, .inr (8, [.int 120, .int 1, .ref tspc, .int (nI ksp12993)])), (tspc, .inl (G.2.1, 120, .inl gtsp2994))] := hD
  obtain ⟨hr2987, w2995⟩ := hr2987
  rcases hr2987 with rfl | rfl
  · refine lv_if_ne (tgt := 10) hx hb dX10_takesAll_5 (by decide) (fun _ => ?_) (fun c9 => absurd c9 (by decide))
    refine lv_iconst (v := 0) hx hb dX10_takesAll_10 (by decide) ?_
    refine lv_istore_n (lv' := [(2, .int 0), (0, .ref h0), (1, .int 3)]) hx hb dX10_takesAll_11 rfl hl (by decide) rfl (fun ls hl => ?_)
    have keyP : ∀ (nP kP : Nat) (vkd : Int32) (vtf : Int32) (vtsp : Nat → Int32) (vks : Nat) (vkn : Nat) (vksp : Nat) (H : Heap) (locs : List Loc) (ls : Array Slot), kP + nP = 240 → (vks ≤ 240) → (vkn ≤ 240) → (vksp ≤ 120) → va_P G.1 vwCl [(h0, .inr (10, [.ref tby, .int (nI kt), .ref tln, .ref tsp, .int vkd, .int (nI vks), .int (nI vkn), .int vtf])), (tby, .inl (G.2.1, 240, .inl fby)), (tsp, .inr (8, [.int 120, .int 1, .ref tspc, .int (nI vksp)])), (tspc, .inl (G.2.1, 120, .inl vtsp))] H → va_D A [(h0, .inr (10, [.ref tby, .int (nI kt), .ref tln, .ref tsp, .int vkd, .int (nI vks), .int (nI vkn), .int vtf])), (tby, .inl (G.2.1, 240, .inl fby)), (tsp, .inr (8, [.int 120, .int 1, .ref tspc, .int (nI vksp)])), (tspc, .inl (G.2.1, 120, .inl vtsp))] → va_S A s.heap H locs → lv_has ls 3 [(2, .int (nI kP)), (0, .ref h0), (1, .int 3)] → W p l e (RM 14 0 0) s m ([.ref h0, .int 3] : List Value).toArray below meth c H locs 0 0 (MQ below (QI G (fun (r : Int32) (u : Int32 × Nat × Nat × Int32 × Nat × (Nat → Int32)) => (r = 1 ∨ r = 0) ∧ (u.2.1 ≤ 240 ∧ u.2.2.1 ≤ 240 ∧ u.2.2.2.2.1 ≤ 120)) (fun u : Int32 × Nat × Nat × Int32 × Nat × (Nat → Int32) => [(h0, .inr (10, [.ref tby, .int (nI kt), .ref tln, .ref tsp, .int u.1, .int (nI u.2.1), .int (nI u.2.2.1), .int u.2.2.2.1])), (tby, .inl (G.2.1, 240, .inl fby)), (tsp, .inr (8, [.int 120, .int 1, .ref tspc, .int (nI u.2.2.2.2.1)])), (tspc, .inl (G.2.1, 120, .inl u.2.2.2.2.2))]) A) ([.ref h0, .int 3] : List Value).toArray s 0 0 A) (F0 m 12 ls []) := by
      intro nP
      induction nP with
      | zero =>
        intro kP vkd vtf vtsp vks vkn vksp H locs ls hkP hvks hvkn hvksp hP hD hS hl
        obtain rfl : 240 = kP := by omega
        have hl : lv_has ls 3 [(2, .int 240), (0, .ref h0), (1, .int 3)] := hl
        refine lv_iload_n hx hb dX10_takesAll_12 rfl (lv_at hl 0 rfl) ?_
        refine lv_sipush (v := 240) hx hb dX10_takesAll_13 (by decide) ?_
        refine lv_icmp_ge (tgt := 54) hx hb dX10_takesAll_16 (by decide) (fun _ => ?_) (fun c9 => absurd (by decide) c9)
        refine lv_iconst (v := 1) hx hb dX10_takesAll_54 (by decide) ?_
        exact RI (v := 1) hC hP hD hS [0, 1, 2, 3] (vkd, vks, vkn, vtf, vksp, vtsp) rfl rfl (by decide) (⟨Or.inl (rfl), by dsimp only; omega⟩) (by decide +kernel) dX10_takesAll_55
      | succ nP ihP =>
        intro kP vkd vtf vtsp vks vkn vksp H locs ls hkP hvks hvkn hvksp hP hD hS hl
        refine lv_iload_n hx hb dX10_takesAll_12 rfl (lv_at hl 0 rfl) ?_
        refine lv_sipush (v := 240) hx hb dX10_takesAll_13 (by decide) ?_
        refine lv_icmp_ge (tgt := 54) hx hb dX10_takesAll_16 (by decide) (fun c9 => absurd c9 (nI_ge (a := kP) (b := 240) (by omega) (by omega))) (fun _ => ?_)
        refine lv_aload_n hx hb dX10_takesAll_19 rfl (lv_at hl 1 rfl) ?_
        refine va_ldcS (index := 158) (tx := "and") hx hb hown (hO.2.1 9 (by decide)) dX10_takesAll_20 ?_
        refine pVo hO hS hC hK hl hP hD (t_isName l G K 9 h0 tby kt tln tsp vkd vks vkn vtf fby (by omega) (by omega) (by omega) ((by decide))) si_X10_102 [0, 1] rfl rfl (by decide) rfl rfl rfl rfl rfl (Nat.le_of_ble_eq_true rfl) ⟨Nat.le_of_ble_eq_true rfl, Nat.le_of_ble_eq_true rfl⟩ ⟨by first | exact Nat.le_of_ble_eq_true rfl | exact Nat.zero_le _, by first | exact Nat.le_of_ble_eq_true rfl | exact Nat.zero_le _⟩ dX10_takesAll_22 (fun r2997 hr2997 => ?_)
        rcases hr2997 with rfl | rfl
        · refine lv_if_eq (tgt := 54) hx hb dX10_takesAll_25 (by decide) (fun c9 => absurd c9 (by decide)) (fun _ => ?_)
          refine lv_aload_n hx hb dX10_takesAll_28 rfl (lv_at hl 1 rfl) ?_
          refine vV (wr := [(tsp, .inr (8, [.int 120, .int 1, .ref tspc, .int (nI vksp)])), (tspc, .inl (G.2.1, 120, .inl vtsp))]) hC hK hl hP hD hS hA (t_advance l G h0 tby kt tln tsp vkd vks vkn vtf fby (by omega) (by omega) (by omega)) si_X10_47 [0, 1] [2, 3] rfl rfl (by decide) rfl (by decide) (by decide) rfl rfl rfl rfl rfl (Nat.le_of_ble_eq_true rfl) ⟨Nat.le_of_ble_eq_true rfl, Nat.le_of_ble_eq_true rfl⟩ ⟨Nat.le_of_ble_eq_true rfl, Nat.le_of_ble_eq_true rfl⟩ dX10_takesAll_29 (fun u3000 H locs hr2999 hP hD hS => ?_)
          obtain ⟨kd13001, ks13002, kn13003⟩ := u3000
          try dsimp only at hr2999
          have hP : va_P G.1 vwCl [(tsp, .inr (8, [.int 120, .int 1, .ref tspc, .int (nI vksp)])), (tspc, .inl (G.2.1, 120, .inl vtsp)), (h0, .inr (10, [.ref tby, .int (nI kt), .ref tln, .ref tsp, .int kd13001, .int (nI ks13002), .int (nI kn13003), .int vtf])), (tby, .inl (G.2.1, 240, .inl fby))] H := hP
          have hD : va_D A [(tsp, .inr (8, [.int 120, .int 1, .ref tspc, .int (nI vksp)])), (tspc, .inl (G.2.1, 120, .inl vtsp)), (h0, .inr (10, [.ref tby, .int (nI kt), .ref tln, .ref tsp, .int kd13001, .int (nI ks13002), .int (nI kn13003), .int vtf])), (tby, .inl (G.2.1, 240, .inl fby))] := hD
          have w3004 := hr2999
          refine lv_aload_n hx hb dX10_takesAll_32 rfl (lv_at hl 1 rfl) ?_
          refine lv_iload_n hx hb dX10_takesAll_33 rfl (lv_at hl 2 rfl) ?_
          refine iVo (wr := []) hO hC hK hl hP hD hS hA (t_one3 l G K h0 tby kt tln tsp kd13001 ks13002 kn13003 vtf fby tspc vksp vtsp (by omega) (by omega) (by omega) (by omega)) si_X10_155 [2, 3, 0, 1] [] rfl rfl (by decide) rfl (by decide) (by decide) rfl rfl rfl rfl rfl (Nat.le_of_ble_eq_true rfl) ⟨Nat.le_of_ble_eq_true rfl, Nat.le_of_ble_eq_true rfl⟩ ⟨Nat.le_of_ble_eq_true rfl, Nat.le_of_ble_eq_true rfl⟩ dX10_takesAll_34 (fun r3005 u3006 H locs hr3005 hP hD hS => ?_)
          obtain ⟨kd13007, ks13008, kn13009, tf13010, ksp13011, gtsp3012⟩ := u3006
          try dsimp only at hr3005
          have hP : va_P G.1 vwCl [(h0, .inr (10, [.ref tby, .int (nI kt), .ref tln, .ref tsp, .int kd13007, .int (nI ks13008), .int (nI kn13009), .int tf13010])), (tby, .inl (G.2.1, 240, .inl fby)), (tsp, .inr (8, [.int 120, .int 1, .ref tspc, .int (nI ksp13011)])), (tspc, .inl (G.2.1, 120, .inl gtsp3012))] H := hP
          have hD : va_D A [(h0, .inr (10, [.ref tby, .int (nI kt), .ref tln, .ref tsp, .int kd13007, .int (nI ks13008), .int (nI kn13009), .int tf13010])), (tby, .inl (G.2.1, 240, .inl fby)), (tsp, .inr (8, [.int 120, .int 1, .ref tspc, .int (nI ksp13011)])), (tspc, .inl (G.2.1, 120, .inl gtsp3012))] := hD
          obtain ⟨hr3005, w3013⟩ := hr3005
          rcases hr3005 with rfl | rfl
          · refine lv_if_ne (tgt := 42) hx hb dX10_takesAll_37 (by decide) (fun _ => ?_) (fun c9 => absurd c9 (by decide))
            refine lv_aload_n hx hb dX10_takesAll_42 rfl (lv_at hl 1 rfl) ?_
            refine lv_bipush (v := (-2)) hx hb dX10_takesAll_43 (by decide) ?_
            refine vV (wr := [(tby, .inl (G.2.1, 240, .inl fby))]) hC hK hl hP hD hS hA (t_addStep l G h0 (-2) tby kt tln tsp kd13007 ks13008 kn13009 tf13010 tspc ksp13011 gtsp3012 (by omega)) si_X10_152 [0, 2, 3] [1] rfl rfl (by decide) rfl (by decide) (by decide) rfl rfl rfl rfl rfl (Nat.le_of_ble_eq_true rfl) ⟨Nat.le_of_ble_eq_true rfl, Nat.le_of_ble_eq_true rfl⟩ ⟨Nat.le_of_ble_eq_true rfl, Nat.le_of_ble_eq_true rfl⟩ dX10_takesAll_45 (fun u3016 H locs hr3015 hP hD hS => ?_)
            obtain ⟨ksp13017, gtsp3018⟩ := u3016
            try dsimp only at hr3015
            have hP : va_P G.1 vwCl [(tby, .inl (G.2.1, 240, .inl fby)), (h0, .inr (10, [.ref tby, .int (nI kt), .ref tln, .ref tsp, .int kd13007, .int (nI ks13008), .int (nI kn13009), .int tf13010])), (tsp, .inr (8, [.int 120, .int 1, .ref tspc, .int (nI ksp13017)])), (tspc, .inl (G.2.1, 120, .inl gtsp3018))] H := hP
            have hD : va_D A [(tby, .inl (G.2.1, 240, .inl fby)), (h0, .inr (10, [.ref tby, .int (nI kt), .ref tln, .ref tsp, .int kd13007, .int (nI ks13008), .int (nI kn13009), .int tf13010])), (tsp, .inr (8, [.int 120, .int 1, .ref tspc, .int (nI ksp13017)])), (tspc, .inl (G.2.1, 120, .inl gtsp3018))] := hD
            have w3019 := hr3015
            refine lv_iinc (v := nI (kP + 1)) (lv' := [(2, .int (nI (kP + 1))), (0, .ref h0), (1, .int 3)]) hx hb dX10_takesAll_48 hl (k := 0) rfl (nI_1 _) (by decide) rfl (fun ls hl => ?_)
            refine lv_goto (tgt := 12) hx hb dX10_takesAll_51 (by decide) ?_
            have hP := hP.sub (ws' := [(h0, .inr (10, [.ref tby, .int (nI kt), .ref tln, .ref tsp, .int kd13007, .int (nI ks13008), .int (nI kn13009), .int tf13010])), (tby, .inl (G.2.1, 240, .inl fby)), (tsp, .inr (8, [.int 120, .int 1, .ref tspc, .int (nI ksp13017)])), (tspc, .inl (G.2.1, 120, .inl gtsp3018))]) [1, 0, 2, 3] rfl
            have hD := hD.sub (ws' := [(h0, .inr (10, [.ref tby, .int (nI kt), .ref tln, .ref tsp, .int kd13007, .int (nI ks13008), .int (nI kn13009), .int tf13010])), (tby, .inl (G.2.1, 240, .inl fby)), (tsp, .inr (8, [.int 120, .int 1, .ref tspc, .int (nI ksp13017)])), (tspc, .inl (G.2.1, 120, .inl gtsp3018))]) [1, 0, 2, 3] (by decide) rfl
            exact ihP (kP + 1) kd13007 tf13010 gtsp3018 ks13008 kn13009 ksp13017 _ _ _ (by omega) (by first | assumption | exact Or.inl rfl | exact Or.inr rfl | omega) (by first | assumption | exact Or.inl rfl | exact Or.inr rfl | omega) (by first | assumption | exact Or.inl rfl | exact Or.inr rfl | omega) hP hD hS (lv_sub hl [0, 1, 2] rfl)
          · refine lv_if_ne (tgt := 42) hx hb dX10_takesAll_37 (by decide) (fun c9 => absurd (by decide) c9) (fun _ => ?_)
            refine lv_iconst (v := 0) hx hb dX10_takesAll_40 (by decide) ?_
            exact RI (v := 0) hC hP hD hS [0, 1, 2, 3] (kd13007, ks13008, kn13009, tf13010, ksp13011, gtsp3012) rfl rfl (by decide) (⟨Or.inr (rfl), by dsimp only; omega⟩) (by decide +kernel) dX10_takesAll_41
        · refine lv_if_eq (tgt := 54) hx hb dX10_takesAll_25 (by decide) (fun _ => ?_) (fun c9 => absurd (by decide) c9)
          refine lv_iconst (v := 1) hx hb dX10_takesAll_54 (by decide) ?_
          exact RI (v := 1) hC hP hD hS [0, 1, 2, 3] (vkd, vks, vkn, vtf, vksp, vtsp) rfl rfl (by decide) (⟨Or.inl (rfl), by dsimp only; omega⟩) (by decide +kernel) dX10_takesAll_55
    exact keyP 240 0 kd12989 tf12992 gtsp2994 ks12990 kn12991 ksp12993 _ _ _ (by omega) (by first | assumption | exact Or.inl rfl | exact Or.inr rfl | omega) (by first | assumption | exact Or.inl rfl | exact Or.inr rfl | omega) (by first | assumption | exact Or.inl rfl | exact Or.inr rfl | omega) hP hD hS (lv_sub hl [0, 1, 2] rfl)
  · refine lv_if_ne (tgt := 10) hx hb dX10_takesAll_5 (by decide) (fun c9 => absurd (by decide) c9) (fun _ => ?_)
    refine lv_iconst (v := 0) hx hb dX10_takesAll_8 (by decide) ?_
    exact RI (v := 0) hC hP hD hS [0, 1, 2, 3] (kd12989, ks12990, kn12991, tf12992, ksp12993, gtsp2994) rfl rfl (by decide) (⟨Or.inr (rfl), by dsimp only; omega⟩) (by decide +kernel) dX10_takesAll_9
set_option maxHeartbeats 4000000 in
set_option maxRecDepth 100000 in
theorem t_cond3 (l : Launch) (G : GG) (K : OO) (h0 : Nat) (tby : Nat) (kt : Nat) (tln : Nat) (tsp : Nat) (tkd : Int32) (ks : Nat) (kn : Nat) (tf9 : Int32) (fby : Nat → Int32) (tspc : Nat) (ksp : Nat) (ftsp : Nat → Int32) (hkt : kt ≤ 240) (hks : ks ≤ 240) (hkn : kn ≤ 240) (hksp : ksp ≤ 120) : MIo l G K yX10_takesCond cX10_takesCond 3 (some .boolean) 15 0 0 [.ref h0, .int 3] [(h0, .inr (10, [.ref tby, .int (nI kt), .ref tln, .ref tsp, .int tkd, .int (nI ks), .int (nI kn), .int tf9])), (tby, .inl (G.2.1, 240, .inl fby)), (tsp, .inr (8, [.int 120, .int 1, .ref tspc, .int (nI ksp)])), (tspc, .inl (G.2.1, 120, .inl ftsp))] (fun (r : Int32) (u : Int32 × Nat × Nat × Int32 × Nat × (Nat → Int32)) => (r = 1 ∨ r = 0) ∧ (u.2.1 ≤ 240 ∧ u.2.2.1 ≤ 240 ∧ u.2.2.2.2.1 ≤ 120)) (fun u : Int32 × Nat × Nat × Int32 × Nat × (Nat → Int32) => [(h0, .inr (10, [.ref tby, .int (nI kt), .ref tln, .ref tsp, .int u.1, .int (nI u.2.1), .int (nI u.2.2.1), .int u.2.2.2.1])), (tby, .inl (G.2.1, 240, .inl fby)), (tsp, .inr (8, [.int 120, .int 1, .ref tspc, .int (nI u.2.2.2.2.1)])), (tspc, .inl (G.2.1, 120, .inl u.2.2.2.2.2))]) := by
  refine MIo.start (by decide +kernel) (Nat.le_of_ble_eq_true rfl) ?_
  intro p e s m below meth c A ls hC hK hP hD hS hA hl hO
  have hl : lv_has ls 3 [(0, .ref h0), (1, .int 3)] := hl
  obtain ⟨hx, hb, hr, hml, hB, hown, hlocks, hnm⟩ := id hC
  refine lv_aload_n hx hb dX10_takesCond_0 rfl (lv_at hl 0 rfl) ?_
  refine lv_iload_n hx hb dX10_takesCond_1 rfl (lv_at hl 1 rfl) ?_
  refine iVo (wr := []) hO hC hK hl hP hD hS hA (t_all3 l G K h0 tby kt tln tsp tkd ks kn tf9 fby tspc ksp ftsp (by omega) (by omega) (by omega) (by omega)) si_X10_147 [0, 1, 2, 3] [] rfl rfl (by decide) rfl (by decide) (by decide) rfl rfl rfl rfl rfl (Nat.le_of_ble_eq_true rfl) ⟨Nat.le_of_ble_eq_true rfl, Nat.le_of_ble_eq_true rfl⟩ ⟨Nat.le_of_ble_eq_true rfl, Nat.le_of_ble_eq_true rfl⟩ dX10_takesCond_2 (fun r3020 u3021 H locs hr3020 hP hD hS => ?_)
  obtain ⟨kd13022, ks13023, kn13024, tf13025, ksp13026, gtsp3027⟩ := u3021
  try dsimp only at hr3020
  have hP : va_P G.1 vwCl [(h0, .inr (10, [.ref tby, .int (nI kt), .ref tln, .ref tsp, .int kd13022, .int (nI ks13023), .int (nI kn13024), .int tf13025])), (tby, .inl (G.2.1, 240, .inl fby)), (tsp, .inr (8, [.int 120, .int 1, .ref tspc, .int (nI ksp13026)])), (tspc, .inl (G.2.1, 120, .inl gtsp3027))] H := hP
  have hD : va_D A [(h0, .inr (10, [.ref tby, .int (nI kt), .ref tln, .ref tsp, .int kd13022, .int (nI ks13023), .int (nI kn13024), .int tf13025])), (tby, .inl (G.2.1, 240, .inl fby)), (tsp, .inr (8, [.int 120, .int 1, .ref tspc, .int (nI ksp13026)])), (tspc, .inl (G.2.1, 120, .inl gtsp3027))] := hD
  obtain ⟨hr3020, w3028⟩ := hr3020
  rcases hr3020 with rfl | rfl
  · refine lv_if_ne (tgt := 10) hx hb dX10_takesCond_5 (by decide) (fun _ => ?_) (fun c9 => absurd c9 (by decide))
    refine lv_iconst (v := 0) hx hb dX10_takesCond_10 (by decide) ?_
    refine lv_istore_n (lv' := [(2, .int 0), (0, .ref h0), (1, .int 3)]) hx hb dX10_takesCond_11 rfl hl (by decide) rfl (fun ls hl => ?_)
    have keyP : ∀ (nP kP : Nat) (vkd : Int32) (vtf : Int32) (vtsp : Nat → Int32) (vks : Nat) (vkn : Nat) (vksp : Nat) (H : Heap) (locs : List Loc) (ls : Array Slot), kP + nP = 240 → (vks ≤ 240) → (vkn ≤ 240) → (vksp ≤ 120) → va_P G.1 vwCl [(h0, .inr (10, [.ref tby, .int (nI kt), .ref tln, .ref tsp, .int vkd, .int (nI vks), .int (nI vkn), .int vtf])), (tby, .inl (G.2.1, 240, .inl fby)), (tsp, .inr (8, [.int 120, .int 1, .ref tspc, .int (nI vksp)])), (tspc, .inl (G.2.1, 120, .inl vtsp))] H → va_D A [(h0, .inr (10, [.ref tby, .int (nI kt), .ref tln, .ref tsp, .int vkd, .int (nI vks), .int (nI vkn), .int vtf])), (tby, .inl (G.2.1, 240, .inl fby)), (tsp, .inr (8, [.int 120, .int 1, .ref tspc, .int (nI vksp)])), (tspc, .inl (G.2.1, 120, .inl vtsp))] → va_S A s.heap H locs → lv_has ls 3 [(2, .int (nI kP)), (0, .ref h0), (1, .int 3)] → W p l e (RM 15 0 0) s m ([.ref h0, .int 3] : List Value).toArray below meth c H locs 0 0 (MQ below (QI G (fun (r : Int32) (u : Int32 × Nat × Nat × Int32 × Nat × (Nat → Int32)) => (r = 1 ∨ r = 0) ∧ (u.2.1 ≤ 240 ∧ u.2.2.1 ≤ 240 ∧ u.2.2.2.2.1 ≤ 120)) (fun u : Int32 × Nat × Nat × Int32 × Nat × (Nat → Int32) => [(h0, .inr (10, [.ref tby, .int (nI kt), .ref tln, .ref tsp, .int u.1, .int (nI u.2.1), .int (nI u.2.2.1), .int u.2.2.2.1])), (tby, .inl (G.2.1, 240, .inl fby)), (tsp, .inr (8, [.int 120, .int 1, .ref tspc, .int (nI u.2.2.2.2.1)])), (tspc, .inl (G.2.1, 120, .inl u.2.2.2.2.2))]) A) ([.ref h0, .int 3] : List Value).toArray s 0 0 A) (F0 m 12 ls []) := by
      intro nP
      induction nP with
      | zero =>
        intro kP vkd vtf vtsp vks vkn vksp H locs ls hkP hvks hvkn hvksp hP hD hS hl
        obtain rfl : 240 = kP := by omega
        have hl : lv_has ls 3 [(2, .int 240), (0, .ref h0), (1, .int 3)] := hl
        refine lv_iload_n hx hb dX10_takesCond_12 rfl (lv_at hl 0 rfl) ?_
        refine lv_sipush (v := 240) hx hb dX10_takesCond_13 (by decide) ?_
        refine lv_icmp_ge (tgt := 54) hx hb dX10_takesCond_16 (by decide) (fun _ => ?_) (fun c9 => absurd (by decide) c9)
        refine lv_iconst (v := 1) hx hb dX10_takesCond_54 (by decide) ?_
        exact RI (v := 1) hC hP hD hS [0, 1, 2, 3] (vkd, vks, vkn, vtf, vksp, vtsp) rfl rfl (by decide) (⟨Or.inl (rfl), by dsimp only; omega⟩) (by decide +kernel) dX10_takesCond_55
      | succ nP ihP =>
        intro kP vkd vtf vtsp vks vkn vksp H locs ls hkP hvks hvkn hvksp hP hD hS hl
        refine lv_iload_n hx hb dX10_takesCond_12 rfl (lv_at hl 0 rfl) ?_
        refine lv_sipush (v := 240) hx hb dX10_takesCond_13 (by decide) ?_
        refine lv_icmp_ge (tgt := 54) hx hb dX10_takesCond_16 (by decide) (fun c9 => absurd c9 (nI_ge (a := kP) (b := 240) (by omega) (by omega))) (fun _ => ?_)
        refine lv_aload_n hx hb dX10_takesCond_19 rfl (lv_at hl 1 rfl) ?_
        refine va_ldcS (index := 150) (tx := "o\x72") hx hb hown (hO.2.1 8 (by decide)) dX10_takesCond_20 ?_
        refine pVo hO hS hC hK hl hP hD (t_isName l G K 8 h0 tby kt tln tsp vkd vks vkn vtf fby (by omega) (by omega) (by omega) ((by decide))) si_X10_102 [0, 1] rfl rfl (by decide) rfl rfl rfl rfl rfl (Nat.le_of_ble_eq_true rfl) ⟨Nat.le_of_ble_eq_true rfl, Nat.le_of_ble_eq_true rfl⟩ ⟨by first | exact Nat.le_of_ble_eq_true rfl | exact Nat.zero_le _, by first | exact Nat.le_of_ble_eq_true rfl | exact Nat.zero_le _⟩ dX10_takesCond_22 (fun r3030 hr3030 => ?_)
        rcases hr3030 with rfl | rfl
        · refine lv_if_eq (tgt := 54) hx hb dX10_takesCond_25 (by decide) (fun c9 => absurd c9 (by decide)) (fun _ => ?_)
          refine lv_aload_n hx hb dX10_takesCond_28 rfl (lv_at hl 1 rfl) ?_
          refine vV (wr := [(tsp, .inr (8, [.int 120, .int 1, .ref tspc, .int (nI vksp)])), (tspc, .inl (G.2.1, 120, .inl vtsp))]) hC hK hl hP hD hS hA (t_advance l G h0 tby kt tln tsp vkd vks vkn vtf fby (by omega) (by omega) (by omega)) si_X10_47 [0, 1] [2, 3] rfl rfl (by decide) rfl (by decide) (by decide) rfl rfl rfl rfl rfl (Nat.le_of_ble_eq_true rfl) ⟨Nat.le_of_ble_eq_true rfl, Nat.le_of_ble_eq_true rfl⟩ ⟨Nat.le_of_ble_eq_true rfl, Nat.le_of_ble_eq_true rfl⟩ dX10_takesCond_29 (fun u3033 H locs hr3032 hP hD hS => ?_)
          obtain ⟨kd13034, ks13035, kn13036⟩ := u3033
          try dsimp only at hr3032
          have hP : va_P G.1 vwCl [(tsp, .inr (8, [.int 120, .int 1, .ref tspc, .int (nI vksp)])), (tspc, .inl (G.2.1, 120, .inl vtsp)), (h0, .inr (10, [.ref tby, .int (nI kt), .ref tln, .ref tsp, .int kd13034, .int (nI ks13035), .int (nI kn13036), .int vtf])), (tby, .inl (G.2.1, 240, .inl fby))] H := hP
          have hD : va_D A [(tsp, .inr (8, [.int 120, .int 1, .ref tspc, .int (nI vksp)])), (tspc, .inl (G.2.1, 120, .inl vtsp)), (h0, .inr (10, [.ref tby, .int (nI kt), .ref tln, .ref tsp, .int kd13034, .int (nI ks13035), .int (nI kn13036), .int vtf])), (tby, .inl (G.2.1, 240, .inl fby))] := hD
          have w3037 := hr3032
          refine lv_aload_n hx hb dX10_takesCond_32 rfl (lv_at hl 1 rfl) ?_
          refine lv_iload_n hx hb dX10_takesCond_33 rfl (lv_at hl 2 rfl) ?_
          refine iVo (wr := []) hO hC hK hl hP hD hS hA (t_all3 l G K h0 tby kt tln tsp kd13034 ks13035 kn13036 vtf fby tspc vksp vtsp (by omega) (by omega) (by omega) (by omega)) si_X10_147 [2, 3, 0, 1] [] rfl rfl (by decide) rfl (by decide) (by decide) rfl rfl rfl rfl rfl (Nat.le_of_ble_eq_true rfl) ⟨Nat.le_of_ble_eq_true rfl, Nat.le_of_ble_eq_true rfl⟩ ⟨Nat.le_of_ble_eq_true rfl, Nat.le_of_ble_eq_true rfl⟩ dX10_takesCond_34 (fun r3038 u3039 H locs hr3038 hP hD hS => ?_)
          obtain ⟨kd13040, ks13041, kn13042, tf13043, ksp13044, gtsp3045⟩ := u3039
          try dsimp only at hr3038
          have hP : va_P G.1 vwCl [(h0, .inr (10, [.ref tby, .int (nI kt), .ref tln, .ref tsp, .int kd13040, .int (nI ks13041), .int (nI kn13042), .int tf13043])), (tby, .inl (G.2.1, 240, .inl fby)), (tsp, .inr (8, [.int 120, .int 1, .ref tspc, .int (nI ksp13044)])), (tspc, .inl (G.2.1, 120, .inl gtsp3045))] H := hP
          have hD : va_D A [(h0, .inr (10, [.ref tby, .int (nI kt), .ref tln, .ref tsp, .int kd13040, .int (nI ks13041), .int (nI kn13042), .int tf13043])), (tby, .inl (G.2.1, 240, .inl fby)), (tsp, .inr (8, [.int 120, .int 1, .ref tspc, .int (nI ksp13044)])), (tspc, .inl (G.2.1, 120, .inl gtsp3045))] := hD
          obtain ⟨hr3038, w3046⟩ := hr3038
          rcases hr3038 with rfl | rfl
          · refine lv_if_ne (tgt := 42) hx hb dX10_takesCond_37 (by decide) (fun _ => ?_) (fun c9 => absurd c9 (by decide))
            refine lv_aload_n hx hb dX10_takesCond_42 rfl (lv_at hl 1 rfl) ?_
            refine lv_bipush (v := (-3)) hx hb dX10_takesCond_43 (by decide) ?_
            refine vV (wr := [(tby, .inl (G.2.1, 240, .inl fby))]) hC hK hl hP hD hS hA (t_addStep l G h0 (-3) tby kt tln tsp kd13040 ks13041 kn13042 tf13043 tspc ksp13044 gtsp3045 (by omega)) si_X10_152 [0, 2, 3] [1] rfl rfl (by decide) rfl (by decide) (by decide) rfl rfl rfl rfl rfl (Nat.le_of_ble_eq_true rfl) ⟨Nat.le_of_ble_eq_true rfl, Nat.le_of_ble_eq_true rfl⟩ ⟨Nat.le_of_ble_eq_true rfl, Nat.le_of_ble_eq_true rfl⟩ dX10_takesCond_45 (fun u3049 H locs hr3048 hP hD hS => ?_)
            obtain ⟨ksp13050, gtsp3051⟩ := u3049
            try dsimp only at hr3048
            have hP : va_P G.1 vwCl [(tby, .inl (G.2.1, 240, .inl fby)), (h0, .inr (10, [.ref tby, .int (nI kt), .ref tln, .ref tsp, .int kd13040, .int (nI ks13041), .int (nI kn13042), .int tf13043])), (tsp, .inr (8, [.int 120, .int 1, .ref tspc, .int (nI ksp13050)])), (tspc, .inl (G.2.1, 120, .inl gtsp3051))] H := hP
            have hD : va_D A [(tby, .inl (G.2.1, 240, .inl fby)), (h0, .inr (10, [.ref tby, .int (nI kt), .ref tln, .ref tsp, .int kd13040, .int (nI ks13041), .int (nI kn13042), .int tf13043])), (tsp, .inr (8, [.int 120, .int 1, .ref tspc, .int (nI ksp13050)])), (tspc, .inl (G.2.1, 120, .inl gtsp3051))] := hD
            have w3052 := hr3048
            refine lv_iinc (v := nI (kP + 1)) (lv' := [(2, .int (nI (kP + 1))), (0, .ref h0), (1, .int 3)]) hx hb dX10_takesCond_48 hl (k := 0) rfl (nI_1 _) (by decide) rfl (fun ls hl => ?_)
            refine lv_goto (tgt := 12) hx hb dX10_takesCond_51 (by decide) ?_
            have hP := hP.sub (ws' := [(h0, .inr (10, [.ref tby, .int (nI kt), .ref tln, .ref tsp, .int kd13040, .int (nI ks13041), .int (nI kn13042), .int tf13043])), (tby, .inl (G.2.1, 240, .inl fby)), (tsp, .inr (8, [.int 120, .int 1, .ref tspc, .int (nI ksp13050)])), (tspc, .inl (G.2.1, 120, .inl gtsp3051))]) [1, 0, 2, 3] rfl
            have hD := hD.sub (ws' := [(h0, .inr (10, [.ref tby, .int (nI kt), .ref tln, .ref tsp, .int kd13040, .int (nI ks13041), .int (nI kn13042), .int tf13043])), (tby, .inl (G.2.1, 240, .inl fby)), (tsp, .inr (8, [.int 120, .int 1, .ref tspc, .int (nI ksp13050)])), (tspc, .inl (G.2.1, 120, .inl gtsp3051))]) [1, 0, 2, 3] (by decide) rfl
            exact ihP (kP + 1) kd13040 tf13043 gtsp3051 ks13041 kn13042 ksp13050 _ _ _ (by omega) (by first | assumption | exact Or.inl rfl | exact Or.inr rfl | omega) (by first | assumption | exact Or.inl rfl | exact Or.inr rfl | omega) (by first | assumption | exact Or.inl rfl | exact Or.inr rfl | omega) hP hD hS (lv_sub hl [0, 1, 2] rfl)
          · refine lv_if_ne (tgt := 42) hx hb dX10_takesCond_37 (by decide) (fun c9 => absurd (by decide) c9) (fun _ => ?_)
            refine lv_iconst (v := 0) hx hb dX10_takesCond_40 (by decide) ?_
            exact RI (v := 0) hC hP hD hS [0, 1, 2, 3] (kd13040, ks13041, kn13042, tf13043, ksp13044, gtsp3045) rfl rfl (by decide) (⟨Or.inr (rfl), by dsimp only; omega⟩) (by decide +kernel) dX10_takesCond_41
        · refine lv_if_eq (tgt := 54) hx hb dX10_takesCond_25 (by decide) (fun _ => ?_) (fun c9 => absurd (by decide) c9)
          refine lv_iconst (v := 1) hx hb dX10_takesCond_54 (by decide) ?_
          exact RI (v := 1) hC hP hD hS [0, 1, 2, 3] (vkd, vks, vkn, vtf, vksp, vtsp) rfl rfl (by decide) (⟨Or.inl (rfl), by dsimp only; omega⟩) (by decide +kernel) dX10_takesCond_55
    exact keyP 240 0 kd13022 tf13025 gtsp3027 ks13023 kn13024 ksp13026 _ _ _ (by omega) (by first | assumption | exact Or.inl rfl | exact Or.inr rfl | omega) (by first | assumption | exact Or.inl rfl | exact Or.inr rfl | omega) (by first | assumption | exact Or.inl rfl | exact Or.inr rfl | omega) hP hD hS (lv_sub hl [0, 1, 2] rfl)
  · refine lv_if_ne (tgt := 10) hx hb dX10_takesCond_5 (by decide) (fun c9 => absurd (by decide) c9) (fun _ => ?_)
    refine lv_iconst (v := 0) hx hb dX10_takesCond_8 (by decide) ?_
    exact RI (v := 0) hC hP hD hS [0, 1, 2, 3] (kd13022, ks13023, kn13024, tf13025, ksp13026, gtsp3027) rfl rfl (by decide) (⟨Or.inr (rfl), by dsimp only; omega⟩) (by decide +kernel) dX10_takesCond_9
set_option maxHeartbeats 4000000 in
set_option maxRecDepth 100000 in
theorem t_one2 (l : Launch) (G : GG) (K : OO) (h0 : Nat) (tby : Nat) (kt : Nat) (tln : Nat) (tsp : Nat) (tkd : Int32) (ks : Nat) (kn : Nat) (tf9 : Int32) (fby : Nat → Int32) (tspc : Nat) (ksp : Nat) (ftsp : Nat → Int32) (hkt : kt ≤ 240) (hks : ks ≤ 240) (hkn : kn ≤ 240) (hksp : ksp ≤ 120) : MIo l G K yX10_takesOne cX10_takesOne 4 (some .boolean) 17 0 0 [.ref h0, .int 2] [(h0, .inr (10, [.ref tby, .int (nI kt), .ref tln, .ref tsp, .int tkd, .int (nI ks), .int (nI kn), .int tf9])), (tby, .inl (G.2.1, 240, .inl fby)), (tsp, .inr (8, [.int 120, .int 1, .ref tspc, .int (nI ksp)])), (tspc, .inl (G.2.1, 120, .inl ftsp))] (fun (r : Int32) (u : Int32 × Nat × Nat × Int32 × Nat × (Nat → Int32)) => (r = 1 ∨ r = 0) ∧ (u.2.1 ≤ 240 ∧ u.2.2.1 ≤ 240 ∧ u.2.2.2.2.1 ≤ 120)) (fun u : Int32 × Nat × Nat × Int32 × Nat × (Nat → Int32) => [(h0, .inr (10, [.ref tby, .int (nI kt), .ref tln, .ref tsp, .int u.1, .int (nI u.2.1), .int (nI u.2.2.1), .int u.2.2.2.1])), (tby, .inl (G.2.1, 240, .inl fby)), (tsp, .inr (8, [.int 120, .int 1, .ref tspc, .int (nI u.2.2.2.2.1)])), (tspc, .inl (G.2.1, 120, .inl u.2.2.2.2.2))]) := by
  refine MIo.start (by decide +kernel) (Nat.le_of_ble_eq_true rfl) ?_
  intro p e s m below meth c A ls hC hK hP hD hS hA hl hO
  have hl : lv_has ls 4 [(0, .ref h0), (1, .int 2)] := hl
  obtain ⟨hx, hb, hr, hml, hB, hown, hlocks, hnm⟩ := id hC
  refine lv_iconst (v := 0) hx hb dX10_takesOne_0 (by decide) ?_
  refine lv_istore_n (lv' := [(2, .int 0), (0, .ref h0), (1, .int 2)]) hx hb dX10_takesOne_1 rfl hl (by decide) rfl (fun ls hl => ?_)
  refine lv_iconst (v := 0) hx hb dX10_takesOne_2 (by decide) ?_
  refine lv_istore_n (lv' := [(3, .int 0), (2, .int 0), (0, .ref h0), (1, .int 2)]) hx hb dX10_takesOne_3 rfl hl (by decide) rfl (fun ls hl => ?_)
  have keyP : ∀ (nP kP : Nat) (tu : Int32) (vkd : Int32) (vtf : Int32) (vks : Nat) (vkn : Nat) (H : Heap) (locs : List Loc) (ls : Array Slot), kP + nP = 240 → (vks ≤ 240) → (vkn ≤ 240) → va_P G.1 vwCl [(h0, .inr (10, [.ref tby, .int (nI kt), .ref tln, .ref tsp, .int vkd, .int (nI vks), .int (nI vkn), .int vtf])), (tby, .inl (G.2.1, 240, .inl fby)), (tsp, .inr (8, [.int 120, .int 1, .ref tspc, .int (nI ksp)])), (tspc, .inl (G.2.1, 120, .inl ftsp))] H → va_D A [(h0, .inr (10, [.ref tby, .int (nI kt), .ref tln, .ref tsp, .int vkd, .int (nI vks), .int (nI vkn), .int vtf])), (tby, .inl (G.2.1, 240, .inl fby)), (tsp, .inr (8, [.int 120, .int 1, .ref tspc, .int (nI ksp)])), (tspc, .inl (G.2.1, 120, .inl ftsp))] → va_S A s.heap H locs → lv_has ls 4 [(3, .int (nI kP)), (2, .int tu), (0, .ref h0), (1, .int 2)] → W p l e (RM 17 0 0) s m ([.ref h0, .int 2] : List Value).toArray below meth c H locs 0 0 (MQ below (QI G (fun (r : Int32) (u : Int32 × Nat × Nat × Int32 × Nat × (Nat → Int32)) => (r = 1 ∨ r = 0) ∧ (u.2.1 ≤ 240 ∧ u.2.2.1 ≤ 240 ∧ u.2.2.2.2.1 ≤ 120)) (fun u : Int32 × Nat × Nat × Int32 × Nat × (Nat → Int32) => [(h0, .inr (10, [.ref tby, .int (nI kt), .ref tln, .ref tsp, .int u.1, .int (nI u.2.1), .int (nI u.2.2.1), .int u.2.2.2.1])), (tby, .inl (G.2.1, 240, .inl fby)), (tsp, .inr (8, [.int 120, .int 1, .ref tspc, .int (nI u.2.2.2.2.1)])), (tspc, .inl (G.2.1, 120, .inl u.2.2.2.2.2))]) A) ([.ref h0, .int 2] : List Value).toArray s 0 0 A) (F0 m 4 ls []) := by
    intro nP
    induction nP with
    | zero =>
      intro kP tu vkd vtf vks vkn H locs ls hkP hvks hvkn hP hD hS hl
      obtain rfl : 240 = kP := by omega
      have hl : lv_has ls 4 [(3, .int 240), (2, .int tu), (0, .ref h0), (1, .int 2)] := hl
      refine lv_iload_n hx hb dX10_takesOne_4 rfl (lv_at hl 0 rfl) ?_
      refine lv_sipush (v := 240) hx hb dX10_takesOne_5 (by decide) ?_
      refine lv_icmp_ge (tgt := 40) hx hb dX10_takesOne_8 (by decide) (fun _ => ?_) (fun c9 => absurd (by decide) c9)
      refine lv_aload_n hx hb dX10_takesOne_40 rfl (lv_at hl 2 rfl) ?_
      refine gf_X10_31 hC rfl hK hP 0 rfl rfl dX10_takesOne_41 ?_
      refine lv_bipush (v := 40) hx hb dX10_takesOne_44 (by decide) ?_
      refine lv_icmp_eq (tgt := 58) hx hb dX10_takesOne_46 (by decide) (fun c_46_3053 => ?_) (fun c_46_3053 => ?_)
      · refine lv_iload_n hx hb dX10_takesOne_58 rfl (lv_at hl 3 rfl) ?_
        refine lv_iconst (v := 4) hx hb dX10_takesOne_59 (by decide) ?_
        refine lv_icmp_lt (tgt := 68) hx hb dX10_takesOne_60 (by decide) (fun _ => ?_) (fun c9 => absurd (by decide) c9)
        refine lv_aload_n hx hb dX10_takesOne_68 rfl (lv_at hl 2 rfl) ?_
        refine vV (wr := [(tsp, .inr (8, [.int 120, .int 1, .ref tspc, .int (nI ksp)])), (tspc, .inl (G.2.1, 120, .inl ftsp))]) hC hK hl hP hD hS hA (t_advance l G h0 tby kt tln tsp vkd vks vkn vtf fby (by omega) (by omega) (by omega)) si_X10_47 [0, 1] [2, 3] rfl rfl (by decide) rfl (by decide) (by decide) rfl rfl rfl rfl rfl (Nat.le_of_ble_eq_true rfl) ⟨Nat.le_of_ble_eq_true rfl, Nat.le_of_ble_eq_true rfl⟩ ⟨Nat.le_of_ble_eq_true rfl, Nat.le_of_ble_eq_true rfl⟩ dX10_takesOne_69 (fun u3055 H locs hr3054 hP hD hS => ?_)
        obtain ⟨kd13056, ks13057, kn13058⟩ := u3055
        try dsimp only at hr3054
        have hP : va_P G.1 vwCl [(tsp, .inr (8, [.int 120, .int 1, .ref tspc, .int (nI ksp)])), (tspc, .inl (G.2.1, 120, .inl ftsp)), (h0, .inr (10, [.ref tby, .int (nI kt), .ref tln, .ref tsp, .int kd13056, .int (nI ks13057), .int (nI kn13058), .int vtf])), (tby, .inl (G.2.1, 240, .inl fby))] H := hP
        have hD : va_D A [(tsp, .inr (8, [.int 120, .int 1, .ref tspc, .int (nI ksp)])), (tspc, .inl (G.2.1, 120, .inl ftsp)), (h0, .inr (10, [.ref tby, .int (nI kt), .ref tln, .ref tsp, .int kd13056, .int (nI ks13057), .int (nI kn13058), .int vtf])), (tby, .inl (G.2.1, 240, .inl fby))] := hD
        have w3059 := hr3054
        refine lv_aload_n hx hb dX10_takesOne_72 rfl (lv_at hl 2 rfl) ?_
        refine lv_iload_n hx hb dX10_takesOne_73 rfl (lv_at hl 3 rfl) ?_
        refine lv_iconst (v := 1) hx hb dX10_takesOne_74 (by decide) ?_
        refine lv_iadd hx hb dX10_takesOne_75 ?_
        refine eqi (x1 := 3) (by decide) ?_
        refine iVo (wr := []) hO hC hK hl hP hD hS hA (t_cond3 l G K h0 tby kt tln tsp kd13056 ks13057 kn13058 vtf fby tspc ksp ftsp (by omega) (by omega) (by omega) (by omega)) si_X10_121 [2, 3, 0, 1] [] rfl rfl (by decide) rfl (by decide) (by decide) rfl rfl rfl rfl rfl (Nat.le_of_ble_eq_true rfl) ⟨Nat.le_of_ble_eq_true rfl, Nat.le_of_ble_eq_true rfl⟩ ⟨Nat.le_of_ble_eq_true rfl, Nat.le_of_ble_eq_true rfl⟩ dX10_takesOne_76 (fun r3060 u3061 H locs hr3060 hP hD hS => ?_)
        obtain ⟨kd13062, ks13063, kn13064, tf13065, ksp13066, gtsp3067⟩ := u3061
        try dsimp only at hr3060
        have hP : va_P G.1 vwCl [(h0, .inr (10, [.ref tby, .int (nI kt), .ref tln, .ref tsp, .int kd13062, .int (nI ks13063), .int (nI kn13064), .int tf13065])), (tby, .inl (G.2.1, 240, .inl fby)), (tsp, .inr (8, [.int 120, .int 1, .ref tspc, .int (nI ksp13066)])), (tspc, .inl (G.2.1, 120, .inl gtsp3067))] H := hP
        have hD : va_D A [(h0, .inr (10, [.ref tby, .int (nI kt), .ref tln, .ref tsp, .int kd13062, .int (nI ks13063), .int (nI kn13064), .int tf13065])), (tby, .inl (G.2.1, 240, .inl fby)), (tsp, .inr (8, [.int 120, .int 1, .ref tspc, .int (nI ksp13066)])), (tspc, .inl (G.2.1, 120, .inl gtsp3067))] := hD
        obtain ⟨hr3060, w3068⟩ := hr3060
        rcases hr3060 with rfl | rfl
        · refine lv_if_eq (tgt := 91) hx hb dX10_takesOne_79 (by decide) (fun c9 => absurd c9 (by decide)) (fun _ => ?_)
          refine lv_aload_n hx hb dX10_takesOne_82 rfl (lv_at hl 2 rfl) ?_
          refine lv_bipush (v := 41) hx hb dX10_takesOne_83 (by decide) ?_
          refine iV (wr := [(tsp, .inr (8, [.int 120, .int 1, .ref tspc, .int (nI ksp13066)])), (tspc, .inl (G.2.1, 120, .inl gtsp3067))]) hC hK hl hP hD hS hA (t_takesByte l G h0 41 tby kt tln tsp kd13062 ks13063 kn13064 tf13065 fby (by omega) (by omega) (by omega)) si_X10_124 [0, 1] [2, 3] rfl rfl (by decide) rfl (by decide) (by decide) rfl rfl rfl rfl rfl (Nat.le_of_ble_eq_true rfl) ⟨Nat.le_of_ble_eq_true rfl, Nat.le_of_ble_eq_true rfl⟩ ⟨Nat.le_of_ble_eq_true rfl, Nat.le_of_ble_eq_true rfl⟩ dX10_takesOne_85 (fun r3070 u3071 H locs hr3070 hP hD hS => ?_)
          obtain ⟨kd13072, ks13073, kn13074, tf13075⟩ := u3071
          try dsimp only at hr3070
          have hP : va_P G.1 vwCl [(tsp, .inr (8, [.int 120, .int 1, .ref tspc, .int (nI ksp13066)])), (tspc, .inl (G.2.1, 120, .inl gtsp3067)), (h0, .inr (10, [.ref tby, .int (nI kt), .ref tln, .ref tsp, .int kd13072, .int (nI ks13073), .int (nI kn13074), .int tf13075])), (tby, .inl (G.2.1, 240, .inl fby))] H := hP
          have hD : va_D A [(tsp, .inr (8, [.int 120, .int 1, .ref tspc, .int (nI ksp13066)])), (tspc, .inl (G.2.1, 120, .inl gtsp3067)), (h0, .inr (10, [.ref tby, .int (nI kt), .ref tln, .ref tsp, .int kd13072, .int (nI ks13073), .int (nI kn13074), .int tf13075])), (tby, .inl (G.2.1, 240, .inl fby))] := hD
          obtain ⟨hr3070, w3076⟩ := hr3070
          rcases hr3070 with rfl | rfl
          · refine lv_if_ne (tgt := 93) hx hb dX10_takesOne_88 (by decide) (fun _ => ?_) (fun c9 => absurd c9 (by decide))
            refine lv_iload_n hx hb dX10_takesOne_93 rfl (lv_at hl 1 rfl) ?_
            refine lv_if_eq (tgt := 102) hx hb dX10_takesOne_94 (by decide) (fun c_94_3078 => ?_) (fun c_94_3078 => ?_)
            · refine lv_iconst (v := 1) hx hb dX10_takesOne_102 (by decide) ?_
              exact RI (v := 1) hC hP hD hS [2, 3, 0, 1] (kd13072, ks13073, kn13074, tf13075, ksp13066, gtsp3067) rfl rfl (by decide) (⟨Or.inl (rfl), by dsimp only; omega⟩) (by decide +kernel) dX10_takesOne_103
            · refine lv_aload_n hx hb dX10_takesOne_97 rfl (lv_at hl 2 rfl) ?_
              refine lv_iconst (v := (-1)) hx hb dX10_takesOne_98 (by decide) ?_
              refine vV (wr := [(tby, .inl (G.2.1, 240, .inl fby))]) hC hK hl hP hD hS hA (t_addStep l G h0 (-1) tby kt tln tsp kd13072 ks13073 kn13074 tf13075 tspc ksp13066 gtsp3067 (by omega)) si_X10_152 [2, 0, 1] [3] rfl rfl (by decide) rfl (by decide) (by decide) rfl rfl rfl rfl rfl (Nat.le_of_ble_eq_true rfl) ⟨Nat.le_of_ble_eq_true rfl, Nat.le_of_ble_eq_true rfl⟩ ⟨Nat.le_of_ble_eq_true rfl, Nat.le_of_ble_eq_true rfl⟩ dX10_takesOne_99 (fun u3080 H locs hr3079 hP hD hS => ?_)
              obtain ⟨ksp13081, gtsp3082⟩ := u3080
              try dsimp only at hr3079
              have hP : va_P G.1 vwCl [(tby, .inl (G.2.1, 240, .inl fby)), (h0, .inr (10, [.ref tby, .int (nI kt), .ref tln, .ref tsp, .int kd13072, .int (nI ks13073), .int (nI kn13074), .int tf13075])), (tsp, .inr (8, [.int 120, .int 1, .ref tspc, .int (nI ksp13081)])), (tspc, .inl (G.2.1, 120, .inl gtsp3082))] H := hP
              have hD : va_D A [(tby, .inl (G.2.1, 240, .inl fby)), (h0, .inr (10, [.ref tby, .int (nI kt), .ref tln, .ref tsp, .int kd13072, .int (nI ks13073), .int (nI kn13074), .int tf13075])), (tsp, .inr (8, [.int 120, .int 1, .ref tspc, .int (nI ksp13081)])), (tspc, .inl (G.2.1, 120, .inl gtsp3082))] := hD
              have w3083 := hr3079
              refine lv_iconst (v := 1) hx hb dX10_takesOne_102 (by decide) ?_
              exact RI (v := 1) hC hP hD hS [1, 0, 2, 3] (kd13072, ks13073, kn13074, tf13075, ksp13081, gtsp3082) rfl rfl (by decide) (⟨Or.inl (rfl), by dsimp only; omega⟩) (by decide +kernel) dX10_takesOne_103
          · refine lv_if_ne (tgt := 93) hx hb dX10_takesOne_88 (by decide) (fun c9 => absurd (by decide) c9) (fun _ => ?_)
            refine lv_iconst (v := 0) hx hb dX10_takesOne_91 (by decide) ?_
            exact RI (v := 0) hC hP hD hS [2, 3, 0, 1] (kd13072, ks13073, kn13074, tf13075, ksp13066, gtsp3067) rfl rfl (by decide) (⟨Or.inr (rfl), by dsimp only; omega⟩) (by decide +kernel) dX10_takesOne_92
        · refine lv_if_eq (tgt := 91) hx hb dX10_takesOne_79 (by decide) (fun _ => ?_) (fun c9 => absurd (by decide) c9)
          refine lv_iconst (v := 0) hx hb dX10_takesOne_91 (by decide) ?_
          exact RI (v := 0) hC hP hD hS [0, 1, 2, 3] (kd13062, ks13063, kn13064, tf13065, ksp13066, gtsp3067) rfl rfl (by decide) (⟨Or.inr (rfl), by dsimp only; omega⟩) (by decide +kernel) dX10_takesOne_92
      · refine lv_aload_n hx hb dX10_takesOne_49 rfl (lv_at hl 2 rfl) ?_
        refine iVo (wr := []) hO hC hK hl hP hD hS hA (t_takesComparison l G K h0 tby kt tln tsp vkd vks vkn vtf fby tspc ksp ftsp (by omega) (by omega) (by omega) (by omega)) si_X10_162 [0, 1, 2, 3] [] rfl rfl (by decide) rfl (by decide) (by decide) rfl rfl rfl rfl rfl (Nat.le_of_ble_eq_true rfl) ⟨Nat.le_of_ble_eq_true rfl, Nat.le_of_ble_eq_true rfl⟩ ⟨Nat.le_of_ble_eq_true rfl, Nat.le_of_ble_eq_true rfl⟩ dX10_takesOne_50 (fun r3084 u3085 H locs hr3084 hP hD hS => ?_)
        obtain ⟨kd13086, ks13087, kn13088, tf13089, ksp13090, gtsp3091⟩ := u3085
        try dsimp only at hr3084
        have hP : va_P G.1 vwCl [(h0, .inr (10, [.ref tby, .int (nI kt), .ref tln, .ref tsp, .int kd13086, .int (nI ks13087), .int (nI kn13088), .int tf13089])), (tby, .inl (G.2.1, 240, .inl fby)), (tsp, .inr (8, [.int 120, .int 1, .ref tspc, .int (nI ksp13090)])), (tspc, .inl (G.2.1, 120, .inl gtsp3091))] H := hP
        have hD : va_D A [(h0, .inr (10, [.ref tby, .int (nI kt), .ref tln, .ref tsp, .int kd13086, .int (nI ks13087), .int (nI kn13088), .int tf13089])), (tby, .inl (G.2.1, 240, .inl fby)), (tsp, .inr (8, [.int 120, .int 1, .ref tspc, .int (nI ksp13090)])), (tspc, .inl (G.2.1, 120, .inl gtsp3091))] := hD
        obtain ⟨hr3084, w3092⟩ := hr3084
        rcases hr3084 with rfl | rfl
        · refine lv_if_ne (tgt := 93) hx hb dX10_takesOne_53 (by decide) (fun _ => ?_) (fun c9 => absurd c9 (by decide))
          refine lv_iload_n hx hb dX10_takesOne_93 rfl (lv_at hl 1 rfl) ?_
          refine lv_if_eq (tgt := 102) hx hb dX10_takesOne_94 (by decide) (fun c_94_3094 => ?_) (fun c_94_3094 => ?_)
          · refine lv_iconst (v := 1) hx hb dX10_takesOne_102 (by decide) ?_
            exact RI (v := 1) hC hP hD hS [0, 1, 2, 3] (kd13086, ks13087, kn13088, tf13089, ksp13090, gtsp3091) rfl rfl (by decide) (⟨Or.inl (rfl), by dsimp only; omega⟩) (by decide +kernel) dX10_takesOne_103
          · refine lv_aload_n hx hb dX10_takesOne_97 rfl (lv_at hl 2 rfl) ?_
            refine lv_iconst (v := (-1)) hx hb dX10_takesOne_98 (by decide) ?_
            refine vV (wr := [(tby, .inl (G.2.1, 240, .inl fby))]) hC hK hl hP hD hS hA (t_addStep l G h0 (-1) tby kt tln tsp kd13086 ks13087 kn13088 tf13089 tspc ksp13090 gtsp3091 (by omega)) si_X10_152 [0, 2, 3] [1] rfl rfl (by decide) rfl (by decide) (by decide) rfl rfl rfl rfl rfl (Nat.le_of_ble_eq_true rfl) ⟨Nat.le_of_ble_eq_true rfl, Nat.le_of_ble_eq_true rfl⟩ ⟨Nat.le_of_ble_eq_true rfl, Nat.le_of_ble_eq_true rfl⟩ dX10_takesOne_99 (fun u3096 H locs hr3095 hP hD hS => ?_)
            obtain ⟨ksp13097, gtsp3098⟩ := u3096
            try dsimp only at hr3095
            have hP : va_P G.1 vwCl [(tby, .inl (G.2.1, 240, .inl fby)), (h0, .inr (10, [.ref tby, .int (nI kt), .ref tln, .ref tsp, .int kd13086, .int (nI ks13087), .int (nI kn13088), .int tf13089])), (tsp, .inr (8, [.int 120, .int 1, .ref tspc, .int (nI ksp13097)])), (tspc, .inl (G.2.1, 120, .inl gtsp3098))] H := hP
            have hD : va_D A [(tby, .inl (G.2.1, 240, .inl fby)), (h0, .inr (10, [.ref tby, .int (nI kt), .ref tln, .ref tsp, .int kd13086, .int (nI ks13087), .int (nI kn13088), .int tf13089])), (tsp, .inr (8, [.int 120, .int 1, .ref tspc, .int (nI ksp13097)])), (tspc, .inl (G.2.1, 120, .inl gtsp3098))] := hD
            have w3099 := hr3095
            refine lv_iconst (v := 1) hx hb dX10_takesOne_102 (by decide) ?_
            exact RI (v := 1) hC hP hD hS [1, 0, 2, 3] (kd13086, ks13087, kn13088, tf13089, ksp13097, gtsp3098) rfl rfl (by decide) (⟨Or.inl (rfl), by dsimp only; omega⟩) (by decide +kernel) dX10_takesOne_103
        · refine lv_if_ne (tgt := 93) hx hb dX10_takesOne_53 (by decide) (fun c9 => absurd (by decide) c9) (fun _ => ?_)
          refine lv_iconst (v := 0) hx hb dX10_takesOne_56 (by decide) ?_
          exact RI (v := 0) hC hP hD hS [0, 1, 2, 3] (kd13086, ks13087, kn13088, tf13089, ksp13090, gtsp3091) rfl rfl (by decide) (⟨Or.inr (rfl), by dsimp only; omega⟩) (by decide +kernel) dX10_takesOne_57
    | succ nP ihP =>
      intro kP tu vkd vtf vks vkn H locs ls hkP hvks hvkn hP hD hS hl
      refine lv_iload_n hx hb dX10_takesOne_4 rfl (lv_at hl 0 rfl) ?_
      refine lv_sipush (v := 240) hx hb dX10_takesOne_5 (by decide) ?_
      refine lv_icmp_ge (tgt := 40) hx hb dX10_takesOne_8 (by decide) (fun c9 => absurd c9 (nI_ge (a := kP) (b := 240) (by omega) (by omega))) (fun _ => ?_)
      refine lv_aload_n hx hb dX10_takesOne_11 rfl (lv_at hl 2 rfl) ?_
      refine va_ldcS (index := 160) (tx := "not") hx hb hown (hO.2.1 10 (by decide)) dX10_takesOne_12 ?_
      refine pVo hO hS hC hK hl hP hD (t_isName l G K 10 h0 tby kt tln tsp vkd vks vkn vtf fby (by omega) (by omega) (by omega) ((by decide))) si_X10_102 [0, 1] rfl rfl (by decide) rfl rfl rfl rfl rfl (Nat.le_of_ble_eq_true rfl) ⟨Nat.le_of_ble_eq_true rfl, Nat.le_of_ble_eq_true rfl⟩ ⟨by first | exact Nat.le_of_ble_eq_true rfl | exact Nat.zero_le _, by first | exact Nat.le_of_ble_eq_true rfl | exact Nat.zero_le _⟩ dX10_takesOne_14 (fun r3100 hr3100 => ?_)
      rcases hr3100 with rfl | rfl
      · refine lv_if_eq (tgt := 40) hx hb dX10_takesOne_17 (by decide) (fun c9 => absurd c9 (by decide)) (fun _ => ?_)
        refine lv_aload_n hx hb dX10_takesOne_20 rfl (lv_at hl 2 rfl) ?_
        refine vV (wr := [(tsp, .inr (8, [.int 120, .int 1, .ref tspc, .int (nI ksp)])), (tspc, .inl (G.2.1, 120, .inl ftsp))]) hC hK hl hP hD hS hA (t_advance l G h0 tby kt tln tsp vkd vks vkn vtf fby (by omega) (by omega) (by omega)) si_X10_47 [0, 1] [2, 3] rfl rfl (by decide) rfl (by decide) (by decide) rfl rfl rfl rfl rfl (Nat.le_of_ble_eq_true rfl) ⟨Nat.le_of_ble_eq_true rfl, Nat.le_of_ble_eq_true rfl⟩ ⟨Nat.le_of_ble_eq_true rfl, Nat.le_of_ble_eq_true rfl⟩ dX10_takesOne_21 (fun u3103 H locs hr3102 hP hD hS => ?_)
        obtain ⟨kd13104, ks13105, kn13106⟩ := u3103
        try dsimp only at hr3102
        have hP : va_P G.1 vwCl [(tsp, .inr (8, [.int 120, .int 1, .ref tspc, .int (nI ksp)])), (tspc, .inl (G.2.1, 120, .inl ftsp)), (h0, .inr (10, [.ref tby, .int (nI kt), .ref tln, .ref tsp, .int kd13104, .int (nI ks13105), .int (nI kn13106), .int vtf])), (tby, .inl (G.2.1, 240, .inl fby))] H := hP
        have hD : va_D A [(tsp, .inr (8, [.int 120, .int 1, .ref tspc, .int (nI ksp)])), (tspc, .inl (G.2.1, 120, .inl ftsp)), (h0, .inr (10, [.ref tby, .int (nI kt), .ref tln, .ref tsp, .int kd13104, .int (nI ks13105), .int (nI kn13106), .int vtf])), (tby, .inl (G.2.1, 240, .inl fby))] := hD
        have w3107 := hr3102
        refine lv_iload_n hx hb dX10_takesOne_24 rfl (lv_at hl 1 rfl) ?_
        refine lv_if_ne (tgt := 32) hx hb dX10_takesOne_25 (by decide) (fun c_25_3108 => ?_) (fun c_25_3108 => ?_)
        · refine lv_iconst (v := 0) hx hb dX10_takesOne_32 (by decide) ?_
          refine lv_istore_n (lv' := [(2, .int 0), (3, .int (nI kP)), (0, .ref h0), (1, .int 2)]) hx hb dX10_takesOne_33 rfl hl (by decide) rfl (fun ls hl => ?_)
          refine lv_iinc (v := nI (kP + 1)) (lv' := [(3, .int (nI (kP + 1))), (2, .int 0), (0, .ref h0), (1, .int 2)]) hx hb dX10_takesOne_34 hl (k := 1) rfl (nI_1 _) (by decide) rfl (fun ls hl => ?_)
          refine lv_goto (tgt := 4) hx hb dX10_takesOne_37 (by decide) ?_
          have hP := hP.sub (ws' := [(h0, .inr (10, [.ref tby, .int (nI kt), .ref tln, .ref tsp, .int kd13104, .int (nI ks13105), .int (nI kn13106), .int vtf])), (tby, .inl (G.2.1, 240, .inl fby)), (tsp, .inr (8, [.int 120, .int 1, .ref tspc, .int (nI ksp)])), (tspc, .inl (G.2.1, 120, .inl ftsp))]) [2, 3, 0, 1] rfl
          have hD := hD.sub (ws' := [(h0, .inr (10, [.ref tby, .int (nI kt), .ref tln, .ref tsp, .int kd13104, .int (nI ks13105), .int (nI kn13106), .int vtf])), (tby, .inl (G.2.1, 240, .inl fby)), (tsp, .inr (8, [.int 120, .int 1, .ref tspc, .int (nI ksp)])), (tspc, .inl (G.2.1, 120, .inl ftsp))]) [2, 3, 0, 1] (by decide) rfl
          exact ihP (kP + 1) 0 kd13104 vtf ks13105 kn13106 _ _ _ (by omega) (by first | assumption | exact Or.inl rfl | exact Or.inr rfl | omega) (by first | assumption | exact Or.inl rfl | exact Or.inr rfl | omega) hP hD hS (lv_sub hl [0, 1, 2, 3] rfl)
        · refine lv_iconst (v := 1) hx hb dX10_takesOne_28 (by decide) ?_
          refine lv_goto (tgt := 33) hx hb dX10_takesOne_29 (by decide) ?_
          refine lv_istore_n (lv' := [(2, .int 1), (3, .int (nI kP)), (0, .ref h0), (1, .int 2)]) hx hb dX10_takesOne_33 rfl hl (by decide) rfl (fun ls hl => ?_)
          refine lv_iinc (v := nI (kP + 1)) (lv' := [(3, .int (nI (kP + 1))), (2, .int 1), (0, .ref h0), (1, .int 2)]) hx hb dX10_takesOne_34 hl (k := 1) rfl (nI_1 _) (by decide) rfl (fun ls hl => ?_)
          refine lv_goto (tgt := 4) hx hb dX10_takesOne_37 (by decide) ?_
          have hP := hP.sub (ws' := [(h0, .inr (10, [.ref tby, .int (nI kt), .ref tln, .ref tsp, .int kd13104, .int (nI ks13105), .int (nI kn13106), .int vtf])), (tby, .inl (G.2.1, 240, .inl fby)), (tsp, .inr (8, [.int 120, .int 1, .ref tspc, .int (nI ksp)])), (tspc, .inl (G.2.1, 120, .inl ftsp))]) [2, 3, 0, 1] rfl
          have hD := hD.sub (ws' := [(h0, .inr (10, [.ref tby, .int (nI kt), .ref tln, .ref tsp, .int kd13104, .int (nI ks13105), .int (nI kn13106), .int vtf])), (tby, .inl (G.2.1, 240, .inl fby)), (tsp, .inr (8, [.int 120, .int 1, .ref tspc, .int (nI ksp)])), (tspc, .inl (G.2.1, 120, .inl ftsp))]) [2, 3, 0, 1] (by decide) rfl
          exact ihP (kP + 1) 1 kd13104 vtf ks13105 kn13106 _ _ _ (by omega) (by first | assumption | exact Or.inl rfl | exact Or.inr rfl | omega) (by first | assumption | exact Or.inl rfl | exact Or.inr rfl | omega) hP hD hS (lv_sub hl [0, 1, 2, 3] rfl)
      · refine lv_if_eq (tgt := 40) hx hb dX10_takesOne_17 (by decide) (fun _ => ?_) (fun c9 => absurd (by decide) c9)
        refine lv_aload_n hx hb dX10_takesOne_40 rfl (lv_at hl 2 rfl) ?_
        refine gf_X10_31 hC rfl hK hP 0 rfl rfl dX10_takesOne_41 ?_
        refine lv_bipush (v := 40) hx hb dX10_takesOne_44 (by decide) ?_
        refine lv_icmp_eq (tgt := 58) hx hb dX10_takesOne_46 (by decide) (fun c_46_3109 => ?_) (fun c_46_3109 => ?_)
        · refine lv_iload_n hx hb dX10_takesOne_58 rfl (lv_at hl 3 rfl) ?_
          refine lv_iconst (v := 4) hx hb dX10_takesOne_59 (by decide) ?_
          refine lv_icmp_lt (tgt := 68) hx hb dX10_takesOne_60 (by decide) (fun _ => ?_) (fun c9 => absurd (by decide) c9)
          refine lv_aload_n hx hb dX10_takesOne_68 rfl (lv_at hl 2 rfl) ?_
          refine vV (wr := [(tsp, .inr (8, [.int 120, .int 1, .ref tspc, .int (nI ksp)])), (tspc, .inl (G.2.1, 120, .inl ftsp))]) hC hK hl hP hD hS hA (t_advance l G h0 tby kt tln tsp vkd vks vkn vtf fby (by omega) (by omega) (by omega)) si_X10_47 [0, 1] [2, 3] rfl rfl (by decide) rfl (by decide) (by decide) rfl rfl rfl rfl rfl (Nat.le_of_ble_eq_true rfl) ⟨Nat.le_of_ble_eq_true rfl, Nat.le_of_ble_eq_true rfl⟩ ⟨Nat.le_of_ble_eq_true rfl, Nat.le_of_ble_eq_true rfl⟩ dX10_takesOne_69 (fun u3111 H locs hr3110 hP hD hS => ?_)
          obtain ⟨kd13112, ks13113, kn13114⟩ := u3111
          try dsimp only at hr3110
          have hP : va_P G.1 vwCl [(tsp, .inr (8, [.int 120, .int 1, .ref tspc, .int (nI ksp)])), (tspc, .inl (G.2.1, 120, .inl ftsp)), (h0, .inr (10, [.ref tby, .int (nI kt), .ref tln, .ref tsp, .int kd13112, .int (nI ks13113), .int (nI kn13114), .int vtf])), (tby, .inl (G.2.1, 240, .inl fby))] H := hP
          have hD : va_D A [(tsp, .inr (8, [.int 120, .int 1, .ref tspc, .int (nI ksp)])), (tspc, .inl (G.2.1, 120, .inl ftsp)), (h0, .inr (10, [.ref tby, .int (nI kt), .ref tln, .ref tsp, .int kd13112, .int (nI ks13113), .int (nI kn13114), .int vtf])), (tby, .inl (G.2.1, 240, .inl fby))] := hD
          have w3115 := hr3110
          refine lv_aload_n hx hb dX10_takesOne_72 rfl (lv_at hl 2 rfl) ?_
          refine lv_iload_n hx hb dX10_takesOne_73 rfl (lv_at hl 3 rfl) ?_
          refine lv_iconst (v := 1) hx hb dX10_takesOne_74 (by decide) ?_
          refine lv_iadd hx hb dX10_takesOne_75 ?_
          refine eqi (x1 := 3) (by decide) ?_
          refine iVo (wr := []) hO hC hK hl hP hD hS hA (t_cond3 l G K h0 tby kt tln tsp kd13112 ks13113 kn13114 vtf fby tspc ksp ftsp (by omega) (by omega) (by omega) (by omega)) si_X10_121 [2, 3, 0, 1] [] rfl rfl (by decide) rfl (by decide) (by decide) rfl rfl rfl rfl rfl (Nat.le_of_ble_eq_true rfl) ⟨Nat.le_of_ble_eq_true rfl, Nat.le_of_ble_eq_true rfl⟩ ⟨Nat.le_of_ble_eq_true rfl, Nat.le_of_ble_eq_true rfl⟩ dX10_takesOne_76 (fun r3116 u3117 H locs hr3116 hP hD hS => ?_)
          obtain ⟨kd13118, ks13119, kn13120, tf13121, ksp13122, gtsp3123⟩ := u3117
          try dsimp only at hr3116
          have hP : va_P G.1 vwCl [(h0, .inr (10, [.ref tby, .int (nI kt), .ref tln, .ref tsp, .int kd13118, .int (nI ks13119), .int (nI kn13120), .int tf13121])), (tby, .inl (G.2.1, 240, .inl fby)), (tsp, .inr (8, [.int 120, .int 1, .ref tspc, .int (nI ksp13122)])), (tspc, .inl (G.2.1, 120, .inl gtsp3123))] H := hP
          have hD : va_D A [(h0, .inr (10, [.ref tby, .int (nI kt), .ref tln, .ref tsp, .int kd13118, .int (nI ks13119), .int (nI kn13120), .int tf13121])), (tby, .inl (G.2.1, 240, .inl fby)), (tsp, .inr (8, [.int 120, .int 1, .ref tspc, .int (nI ksp13122)])), (tspc, .inl (G.2.1, 120, .inl gtsp3123))] := hD
          obtain ⟨hr3116, w3124⟩ := hr3116
          rcases hr3116 with rfl | rfl
          · refine lv_if_eq (tgt := 91) hx hb dX10_takesOne_79 (by decide) (fun c9 => absurd c9 (by decide)) (fun _ => ?_)
            refine lv_aload_n hx hb dX10_takesOne_82 rfl (lv_at hl 2 rfl) ?_
            refine lv_bipush (v := 41) hx hb dX10_takesOne_83 (by decide) ?_
            refine iV (wr := [(tsp, .inr (8, [.int 120, .int 1, .ref tspc, .int (nI ksp13122)])), (tspc, .inl (G.2.1, 120, .inl gtsp3123))]) hC hK hl hP hD hS hA (t_takesByte l G h0 41 tby kt tln tsp kd13118 ks13119 kn13120 tf13121 fby (by omega) (by omega) (by omega)) si_X10_124 [0, 1] [2, 3] rfl rfl (by decide) rfl (by decide) (by decide) rfl rfl rfl rfl rfl (Nat.le_of_ble_eq_true rfl) ⟨Nat.le_of_ble_eq_true rfl, Nat.le_of_ble_eq_true rfl⟩ ⟨Nat.le_of_ble_eq_true rfl, Nat.le_of_ble_eq_true rfl⟩ dX10_takesOne_85 (fun r3126 u3127 H locs hr3126 hP hD hS => ?_)
            obtain ⟨kd13128, ks13129, kn13130, tf13131⟩ := u3127
            try dsimp only at hr3126
            have hP : va_P G.1 vwCl [(tsp, .inr (8, [.int 120, .int 1, .ref tspc, .int (nI ksp13122)])), (tspc, .inl (G.2.1, 120, .inl gtsp3123)), (h0, .inr (10, [.ref tby, .int (nI kt), .ref tln, .ref tsp, .int kd13128, .int (nI ks13129), .int (nI kn13130), .int tf13131])), (tby, .inl (G.2.1, 240, .inl fby))] H := hP
            have hD : va_D A [(tsp, .inr (8, [.int 120, .int 1, .ref tspc, .int (nI ksp13122)])), (tspc, .inl (G.2.1, 120, .inl gtsp3123)), (h0, .inr (10, [.ref tby, .int (nI kt), .ref tln, .ref tsp, .int kd13128, .int (nI ks13129), .int (nI kn13130), .int tf13131])), (tby, .inl (G.2.1, 240, .inl fby))] := hD
            obtain ⟨hr3126, w3132⟩ := hr3126
            rcases hr3126 with rfl | rfl
            · refine lv_if_ne (tgt := 93) hx hb dX10_takesOne_88 (by decide) (fun _ => ?_) (fun c9 => absurd c9 (by decide))
              refine lv_iload_n hx hb dX10_takesOne_93 rfl (lv_at hl 1 rfl) ?_
              refine lv_if_eq (tgt := 102) hx hb dX10_takesOne_94 (by decide) (fun c_94_3134 => ?_) (fun c_94_3134 => ?_)
              · refine lv_iconst (v := 1) hx hb dX10_takesOne_102 (by decide) ?_
                exact RI (v := 1) hC hP hD hS [2, 3, 0, 1] (kd13128, ks13129, kn13130, tf13131, ksp13122, gtsp3123) rfl rfl (by decide) (⟨Or.inl (rfl), by dsimp only; omega⟩) (by decide +kernel) dX10_takesOne_103
              · refine lv_aload_n hx hb dX10_takesOne_97 rfl (lv_at hl 2 rfl) ?_
                refine lv_iconst (v := (-1)) hx hb dX10_takesOne_98 (by decide) ?_
                refine vV (wr := [(tby, .inl (G.2.1, 240, .inl fby))]) hC hK hl hP hD hS hA (t_addStep l G h0 (-1) tby kt tln tsp kd13128 ks13129 kn13130 tf13131 tspc ksp13122 gtsp3123 (by omega)) si_X10_152 [2, 0, 1] [3] rfl rfl (by decide) rfl (by decide) (by decide) rfl rfl rfl rfl rfl (Nat.le_of_ble_eq_true rfl) ⟨Nat.le_of_ble_eq_true rfl, Nat.le_of_ble_eq_true rfl⟩ ⟨Nat.le_of_ble_eq_true rfl, Nat.le_of_ble_eq_true rfl⟩ dX10_takesOne_99 (fun u3136 H locs hr3135 hP hD hS => ?_)
                obtain ⟨ksp13137, gtsp3138⟩ := u3136
                try dsimp only at hr3135
                have hP : va_P G.1 vwCl [(tby, .inl (G.2.1, 240, .inl fby)), (h0, .inr (10, [.ref tby, .int (nI kt), .ref tln, .ref tsp, .int kd13128, .int (nI ks13129), .int (nI kn13130), .int tf13131])), (tsp, .inr (8, [.int 120, .int 1, .ref tspc, .int (nI ksp13137)])), (tspc, .inl (G.2.1, 120, .inl gtsp3138))] H := hP
                have hD : va_D A [(tby, .inl (G.2.1, 240, .inl fby)), (h0, .inr (10, [.ref tby, .int (nI kt), .ref tln, .ref tsp, .int kd13128, .int (nI ks13129), .int (nI kn13130), .int tf13131])), (tsp, .inr (8, [.int 120, .int 1, .ref tspc, .int (nI ksp13137)])), (tspc, .inl (G.2.1, 120, .inl gtsp3138))] := hD
                have w3139 := hr3135
                refine lv_iconst (v := 1) hx hb dX10_takesOne_102 (by decide) ?_
                exact RI (v := 1) hC hP hD hS [1, 0, 2, 3] (kd13128, ks13129, kn13130, tf13131, ksp13137, gtsp3138) rfl rfl (by decide) (⟨Or.inl (rfl), by dsimp only; omega⟩) (by decide +kernel) dX10_takesOne_103
            · refine lv_if_ne (tgt := 93) hx hb dX10_takesOne_88 (by decide) (fun c9 => absurd (by decide) c9) (fun _ => ?_)
              refine lv_iconst (v := 0) hx hb dX10_takesOne_91 (by decide) ?_
              exact RI (v := 0) hC hP hD hS [2, 3, 0, 1] (kd13128, ks13129, kn13130, tf13131, ksp13122, gtsp3123) rfl rfl (by decide) (⟨Or.inr (rfl), by dsimp only; omega⟩) (by decide +kernel) dX10_takesOne_92
          · refine lv_if_eq (tgt := 91) hx hb dX10_takesOne_79 (by decide) (fun _ => ?_) (fun c9 => absurd (by decide) c9)
            refine lv_iconst (v := 0) hx hb dX10_takesOne_91 (by decide) ?_
            exact RI (v := 0) hC hP hD hS [0, 1, 2, 3] (kd13118, ks13119, kn13120, tf13121, ksp13122, gtsp3123) rfl rfl (by decide) (⟨Or.inr (rfl), by dsimp only; omega⟩) (by decide +kernel) dX10_takesOne_92
        · refine lv_aload_n hx hb dX10_takesOne_49 rfl (lv_at hl 2 rfl) ?_
          refine iVo (wr := []) hO hC hK hl hP hD hS hA (t_takesComparison l G K h0 tby kt tln tsp vkd vks vkn vtf fby tspc ksp ftsp (by omega) (by omega) (by omega) (by omega)) si_X10_162 [0, 1, 2, 3] [] rfl rfl (by decide) rfl (by decide) (by decide) rfl rfl rfl rfl rfl (Nat.le_of_ble_eq_true rfl) ⟨Nat.le_of_ble_eq_true rfl, Nat.le_of_ble_eq_true rfl⟩ ⟨Nat.le_of_ble_eq_true rfl, Nat.le_of_ble_eq_true rfl⟩ dX10_takesOne_50 (fun r3140 u3141 H locs hr3140 hP hD hS => ?_)
          obtain ⟨kd13142, ks13143, kn13144, tf13145, ksp13146, gtsp3147⟩ := u3141
          try dsimp only at hr3140
          have hP : va_P G.1 vwCl [(h0, .inr (10, [.ref tby, .int (nI kt), .ref tln, .ref tsp, .int kd13142, .int (nI ks13143), .int (nI kn13144), .int tf13145])), (tby, .inl (G.2.1, 240, .inl fby)), (tsp, .inr (8, [.int 120, .int 1, .ref tspc, .int (nI ksp13146)])), (tspc, .inl (G.2.1, 120, .inl gtsp3147))] H := hP
          have hD : va_D A [(h0, .inr (10, [.ref tby, .int (nI kt), .ref tln, .ref tsp, .int kd13142, .int (nI ks13143), .int (nI kn13144), .int tf13145])), (tby, .inl (G.2.1, 240, .inl fby)), (tsp, .inr (8, [.int 120, .int 1, .ref tspc, .int (nI ksp13146)])), (tspc, .inl (G.2.1, 120, .inl gtsp3147))] := hD
          obtain ⟨hr3140, w3148⟩ := hr3140
          rcases hr3140 with rfl | rfl
          · refine lv_if_ne (tgt := 93) hx hb dX10_takesOne_53 (by decide) (fun _ => ?_) (fun c9 => absurd c9 (by decide))
            refine lv_iload_n hx hb dX10_takesOne_93 rfl (lv_at hl 1 rfl) ?_
            refine lv_if_eq (tgt := 102) hx hb dX10_takesOne_94 (by decide) (fun c_94_3150 => ?_) (fun c_94_3150 => ?_)
            · refine lv_iconst (v := 1) hx hb dX10_takesOne_102 (by decide) ?_
              exact RI (v := 1) hC hP hD hS [0, 1, 2, 3] (kd13142, ks13143, kn13144, tf13145, ksp13146, gtsp3147) rfl rfl (by decide) (⟨Or.inl (rfl), by dsimp only; omega⟩) (by decide +kernel) dX10_takesOne_103
            · refine lv_aload_n hx hb dX10_takesOne_97 rfl (lv_at hl 2 rfl) ?_
              refine lv_iconst (v := (-1)) hx hb dX10_takesOne_98 (by decide) ?_
              refine vV (wr := [(tby, .inl (G.2.1, 240, .inl fby))]) hC hK hl hP hD hS hA (t_addStep l G h0 (-1) tby kt tln tsp kd13142 ks13143 kn13144 tf13145 tspc ksp13146 gtsp3147 (by omega)) si_X10_152 [0, 2, 3] [1] rfl rfl (by decide) rfl (by decide) (by decide) rfl rfl rfl rfl rfl (Nat.le_of_ble_eq_true rfl) ⟨Nat.le_of_ble_eq_true rfl, Nat.le_of_ble_eq_true rfl⟩ ⟨Nat.le_of_ble_eq_true rfl, Nat.le_of_ble_eq_true rfl⟩ dX10_takesOne_99 (fun u3152 H locs hr3151 hP hD hS => ?_)
              obtain ⟨ksp13153, gtsp3154⟩ := u3152
              try dsimp only at hr3151
              have hP : va_P G.1 vwCl [(tby, .inl (G.2.1, 240, .inl fby)), (h0, .inr (10, [.ref tby, .int (nI kt), .ref tln, .ref tsp, .int kd13142, .int (nI ks13143), .int (nI kn13144), .int tf13145])), (tsp, .inr (8, [.int 120, .int 1, .ref tspc, .int (nI ksp13153)])), (tspc, .inl (G.2.1, 120, .inl gtsp3154))] H := hP
              have hD : va_D A [(tby, .inl (G.2.1, 240, .inl fby)), (h0, .inr (10, [.ref tby, .int (nI kt), .ref tln, .ref tsp, .int kd13142, .int (nI ks13143), .int (nI kn13144), .int tf13145])), (tsp, .inr (8, [.int 120, .int 1, .ref tspc, .int (nI ksp13153)])), (tspc, .inl (G.2.1, 120, .inl gtsp3154))] := hD
              have w3155 := hr3151
              refine lv_iconst (v := 1) hx hb dX10_takesOne_102 (by decide) ?_
              exact RI (v := 1) hC hP hD hS [1, 0, 2, 3] (kd13142, ks13143, kn13144, tf13145, ksp13153, gtsp3154) rfl rfl (by decide) (⟨Or.inl (rfl), by dsimp only; omega⟩) (by decide +kernel) dX10_takesOne_103
          · refine lv_if_ne (tgt := 93) hx hb dX10_takesOne_53 (by decide) (fun c9 => absurd (by decide) c9) (fun _ => ?_)
            refine lv_iconst (v := 0) hx hb dX10_takesOne_56 (by decide) ?_
            exact RI (v := 0) hC hP hD hS [0, 1, 2, 3] (kd13142, ks13143, kn13144, tf13145, ksp13146, gtsp3147) rfl rfl (by decide) (⟨Or.inr (rfl), by dsimp only; omega⟩) (by decide +kernel) dX10_takesOne_57
  exact keyP 240 0 0 tkd tf9 ks kn _ _ _ (by omega) (by first | assumption | exact Or.inl rfl | exact Or.inr rfl | omega) (by first | assumption | exact Or.inl rfl | exact Or.inr rfl | omega) hP hD hS (lv_sub hl [0, 1, 2, 3] rfl)
set_option maxHeartbeats 4000000 in
set_option maxRecDepth 100000 in
theorem t_all2 (l : Launch) (G : GG) (K : OO) (h0 : Nat) (tby : Nat) (kt : Nat) (tln : Nat) (tsp : Nat) (tkd : Int32) (ks : Nat) (kn : Nat) (tf9 : Int32) (fby : Nat → Int32) (tspc : Nat) (ksp : Nat) (ftsp : Nat → Int32) (hkt : kt ≤ 240) (hks : ks ≤ 240) (hkn : kn ≤ 240) (hksp : ksp ≤ 120) : MIo l G K yX10_takesAll cX10_takesAll 3 (some .boolean) 18 0 0 [.ref h0, .int 2] [(h0, .inr (10, [.ref tby, .int (nI kt), .ref tln, .ref tsp, .int tkd, .int (nI ks), .int (nI kn), .int tf9])), (tby, .inl (G.2.1, 240, .inl fby)), (tsp, .inr (8, [.int 120, .int 1, .ref tspc, .int (nI ksp)])), (tspc, .inl (G.2.1, 120, .inl ftsp))] (fun (r : Int32) (u : Int32 × Nat × Nat × Int32 × Nat × (Nat → Int32)) => (r = 1 ∨ r = 0) ∧ (u.2.1 ≤ 240 ∧ u.2.2.1 ≤ 240 ∧ u.2.2.2.2.1 ≤ 120)) (fun u : Int32 × Nat × Nat × Int32 × Nat × (Nat → Int32) => [(h0, .inr (10, [.ref tby, .int (nI kt), .ref tln, .ref tsp, .int u.1, .int (nI u.2.1), .int (nI u.2.2.1), .int u.2.2.2.1])), (tby, .inl (G.2.1, 240, .inl fby)), (tsp, .inr (8, [.int 120, .int 1, .ref tspc, .int (nI u.2.2.2.2.1)])), (tspc, .inl (G.2.1, 120, .inl u.2.2.2.2.2))]) := by
  refine MIo.start (by decide +kernel) (Nat.le_of_ble_eq_true rfl) ?_
  intro p e s m below meth c A ls hC hK hP hD hS hA hl hO
  have hl : lv_has ls 3 [(0, .ref h0), (1, .int 2)] := hl
  obtain ⟨hx, hb, hr, hml, hB, hown, hlocks, hnm⟩ := id hC
  refine lv_aload_n hx hb dX10_takesAll_0 rfl (lv_at hl 0 rfl) ?_
  refine lv_iload_n hx hb dX10_takesAll_1 rfl (lv_at hl 1 rfl) ?_
  refine iVo (wr := []) hO hC hK hl hP hD hS hA (t_one2 l G K h0 tby kt tln tsp tkd ks kn tf9 fby tspc ksp ftsp (by omega) (by omega) (by omega) (by omega)) si_X10_155 [0, 1, 2, 3] [] rfl rfl (by decide) rfl (by decide) (by decide) rfl rfl rfl rfl rfl (Nat.le_of_ble_eq_true rfl) ⟨Nat.le_of_ble_eq_true rfl, Nat.le_of_ble_eq_true rfl⟩ ⟨Nat.le_of_ble_eq_true rfl, Nat.le_of_ble_eq_true rfl⟩ dX10_takesAll_2 (fun r3156 u3157 H locs hr3156 hP hD hS => ?_)
  obtain ⟨kd13158, ks13159, kn13160, tf13161, ksp13162, gtsp3163⟩ := u3157
  try dsimp only at hr3156
  have hP : va_P G.1 vwCl [(h0, .inr (10, [.ref tby, .int (nI kt), .ref tln, .ref tsp, .int kd13158, .int (nI ks13159), .int (nI kn13160), .int tf13161])), (tby, .inl (G.2.1, 240, .inl fby)), (tsp, .inr (8, [.int 120, .int 1, .ref tspc, .int (nI ksp13162)])), (tspc, .inl (G.2.1, 120, .inl gtsp3163))] H := hP
  have hD : va_D A [(h0, .inr (10, [.ref tby, .int (nI kt), .ref tln, .ref tsp, .int kd13158, .int (nI ks13159), .int (nI kn13160), .int tf13161])), (tby, .inl (G.2.1, 240, .inl fby)), (tsp, .inr (8, [.int 120, .int 1, .ref tspc, .int (nI ksp13162)])), (tspc, .inl (G.2.1, 120, .inl gtsp3163))] := hD
  obtain ⟨hr3156, w3164⟩ := hr3156
  rcases hr3156 with rfl | rfl
  · refine lv_if_ne (tgt := 10) hx hb dX10_takesAll_5 (by decide) (fun _ => ?_) (fun c9 => absurd c9 (by decide))
    refine lv_iconst (v := 0) hx hb dX10_takesAll_10 (by decide) ?_
    refine lv_istore_n (lv' := [(2, .int 0), (0, .ref h0), (1, .int 2)]) hx hb dX10_takesAll_11 rfl hl (by decide) rfl (fun ls hl => ?_)
    have keyP : ∀ (nP kP : Nat) (vkd : Int32) (vtf : Int32) (vtsp : Nat → Int32) (vks : Nat) (vkn : Nat) (vksp : Nat) (H : Heap) (locs : List Loc) (ls : Array Slot), kP + nP = 240 → (vks ≤ 240) → (vkn ≤ 240) → (vksp ≤ 120) → va_P G.1 vwCl [(h0, .inr (10, [.ref tby, .int (nI kt), .ref tln, .ref tsp, .int vkd, .int (nI vks), .int (nI vkn), .int vtf])), (tby, .inl (G.2.1, 240, .inl fby)), (tsp, .inr (8, [.int 120, .int 1, .ref tspc, .int (nI vksp)])), (tspc, .inl (G.2.1, 120, .inl vtsp))] H → va_D A [(h0, .inr (10, [.ref tby, .int (nI kt), .ref tln, .ref tsp, .int vkd, .int (nI vks), .int (nI vkn), .int vtf])), (tby, .inl (G.2.1, 240, .inl fby)), (tsp, .inr (8, [.int 120, .int 1, .ref tspc, .int (nI vksp)])), (tspc, .inl (G.2.1, 120, .inl vtsp))] → va_S A s.heap H locs → lv_has ls 3 [(2, .int (nI kP)), (0, .ref h0), (1, .int 2)] → W p l e (RM 18 0 0) s m ([.ref h0, .int 2] : List Value).toArray below meth c H locs 0 0 (MQ below (QI G (fun (r : Int32) (u : Int32 × Nat × Nat × Int32 × Nat × (Nat → Int32)) => (r = 1 ∨ r = 0) ∧ (u.2.1 ≤ 240 ∧ u.2.2.1 ≤ 240 ∧ u.2.2.2.2.1 ≤ 120)) (fun u : Int32 × Nat × Nat × Int32 × Nat × (Nat → Int32) => [(h0, .inr (10, [.ref tby, .int (nI kt), .ref tln, .ref tsp, .int u.1, .int (nI u.2.1), .int (nI u.2.2.1), .int u.2.2.2.1])), (tby, .inl (G.2.1, 240, .inl fby)), (tsp, .inr (8, [.int 120, .int 1, .ref tspc, .int (nI u.2.2.2.2.1)])), (tspc, .inl (G.2.1, 120, .inl u.2.2.2.2.2))]) A) ([.ref h0, .int 2] : List Value).toArray s 0 0 A) (F0 m 12 ls []) := by
      intro nP
      induction nP with
      | zero =>
        intro kP vkd vtf vtsp vks vkn vksp H locs ls hkP hvks hvkn hvksp hP hD hS hl
        obtain rfl : 240 = kP := by omega
        have hl : lv_has ls 3 [(2, .int 240), (0, .ref h0), (1, .int 2)] := hl
        refine lv_iload_n hx hb dX10_takesAll_12 rfl (lv_at hl 0 rfl) ?_
        refine lv_sipush (v := 240) hx hb dX10_takesAll_13 (by decide) ?_
        refine lv_icmp_ge (tgt := 54) hx hb dX10_takesAll_16 (by decide) (fun _ => ?_) (fun c9 => absurd (by decide) c9)
        refine lv_iconst (v := 1) hx hb dX10_takesAll_54 (by decide) ?_
        exact RI (v := 1) hC hP hD hS [0, 1, 2, 3] (vkd, vks, vkn, vtf, vksp, vtsp) rfl rfl (by decide) (⟨Or.inl (rfl), by dsimp only; omega⟩) (by decide +kernel) dX10_takesAll_55
      | succ nP ihP =>
        intro kP vkd vtf vtsp vks vkn vksp H locs ls hkP hvks hvkn hvksp hP hD hS hl
        refine lv_iload_n hx hb dX10_takesAll_12 rfl (lv_at hl 0 rfl) ?_
        refine lv_sipush (v := 240) hx hb dX10_takesAll_13 (by decide) ?_
        refine lv_icmp_ge (tgt := 54) hx hb dX10_takesAll_16 (by decide) (fun c9 => absurd c9 (nI_ge (a := kP) (b := 240) (by omega) (by omega))) (fun _ => ?_)
        refine lv_aload_n hx hb dX10_takesAll_19 rfl (lv_at hl 1 rfl) ?_
        refine va_ldcS (index := 158) (tx := "and") hx hb hown (hO.2.1 9 (by decide)) dX10_takesAll_20 ?_
        refine pVo hO hS hC hK hl hP hD (t_isName l G K 9 h0 tby kt tln tsp vkd vks vkn vtf fby (by omega) (by omega) (by omega) ((by decide))) si_X10_102 [0, 1] rfl rfl (by decide) rfl rfl rfl rfl rfl (Nat.le_of_ble_eq_true rfl) ⟨Nat.le_of_ble_eq_true rfl, Nat.le_of_ble_eq_true rfl⟩ ⟨by first | exact Nat.le_of_ble_eq_true rfl | exact Nat.zero_le _, by first | exact Nat.le_of_ble_eq_true rfl | exact Nat.zero_le _⟩ dX10_takesAll_22 (fun r3166 hr3166 => ?_)
        rcases hr3166 with rfl | rfl
        · refine lv_if_eq (tgt := 54) hx hb dX10_takesAll_25 (by decide) (fun c9 => absurd c9 (by decide)) (fun _ => ?_)
          refine lv_aload_n hx hb dX10_takesAll_28 rfl (lv_at hl 1 rfl) ?_
          refine vV (wr := [(tsp, .inr (8, [.int 120, .int 1, .ref tspc, .int (nI vksp)])), (tspc, .inl (G.2.1, 120, .inl vtsp))]) hC hK hl hP hD hS hA (t_advance l G h0 tby kt tln tsp vkd vks vkn vtf fby (by omega) (by omega) (by omega)) si_X10_47 [0, 1] [2, 3] rfl rfl (by decide) rfl (by decide) (by decide) rfl rfl rfl rfl rfl (Nat.le_of_ble_eq_true rfl) ⟨Nat.le_of_ble_eq_true rfl, Nat.le_of_ble_eq_true rfl⟩ ⟨Nat.le_of_ble_eq_true rfl, Nat.le_of_ble_eq_true rfl⟩ dX10_takesAll_29 (fun u3169 H locs hr3168 hP hD hS => ?_)
          obtain ⟨kd13170, ks13171, kn13172⟩ := u3169
          try dsimp only at hr3168
          have hP : va_P G.1 vwCl [(tsp, .inr (8, [.int 120, .int 1, .ref tspc, .int (nI vksp)])), (tspc, .inl (G.2.1, 120, .inl vtsp)), (h0, .inr (10, [.ref tby, .int (nI kt), .ref tln, .ref tsp, .int kd13170, .int (nI ks13171), .int (nI kn13172), .int vtf])), (tby, .inl (G.2.1, 240, .inl fby))] H := hP
          have hD : va_D A [(tsp, .inr (8, [.int 120, .int 1, .ref tspc, .int (nI vksp)])), (tspc, .inl (G.2.1, 120, .inl vtsp)), (h0, .inr (10, [.ref tby, .int (nI kt), .ref tln, .ref tsp, .int kd13170, .int (nI ks13171), .int (nI kn13172), .int vtf])), (tby, .inl (G.2.1, 240, .inl fby))] := hD
          have w3173 := hr3168
          refine lv_aload_n hx hb dX10_takesAll_32 rfl (lv_at hl 1 rfl) ?_
          refine lv_iload_n hx hb dX10_takesAll_33 rfl (lv_at hl 2 rfl) ?_
          refine iVo (wr := []) hO hC hK hl hP hD hS hA (t_one2 l G K h0 tby kt tln tsp kd13170 ks13171 kn13172 vtf fby tspc vksp vtsp (by omega) (by omega) (by omega) (by omega)) si_X10_155 [2, 3, 0, 1] [] rfl rfl (by decide) rfl (by decide) (by decide) rfl rfl rfl rfl rfl (Nat.le_of_ble_eq_true rfl) ⟨Nat.le_of_ble_eq_true rfl, Nat.le_of_ble_eq_true rfl⟩ ⟨Nat.le_of_ble_eq_true rfl, Nat.le_of_ble_eq_true rfl⟩ dX10_takesAll_34 (fun r3174 u3175 H locs hr3174 hP hD hS => ?_)
          obtain ⟨kd13176, ks13177, kn13178, tf13179, ksp13180, gtsp3181⟩ := u3175
          try dsimp only at hr3174
          have hP : va_P G.1 vwCl [(h0, .inr (10, [.ref tby, .int (nI kt), .ref tln, .ref tsp, .int kd13176, .int (nI ks13177), .int (nI kn13178), .int tf13179])), (tby, .inl (G.2.1, 240, .inl fby)), (tsp, .inr (8, [.int 120, .int 1, .ref tspc, .int (nI ksp13180)])), (tspc, .inl (G.2.1, 120, .inl gtsp3181))] H := hP
          have hD : va_D A [(h0, .inr (10, [.ref tby, .int (nI kt), .ref tln, .ref tsp, .int kd13176, .int (nI ks13177), .int (nI kn13178), .int tf13179])), (tby, .inl (G.2.1, 240, .inl fby)), (tsp, .inr (8, [.int 120, .int 1, .ref tspc, .int (nI ksp13180)])), (tspc, .inl (G.2.1, 120, .inl gtsp3181))] := hD
          obtain ⟨hr3174, w3182⟩ := hr3174
          rcases hr3174 with rfl | rfl
          · refine lv_if_ne (tgt := 42) hx hb dX10_takesAll_37 (by decide) (fun _ => ?_) (fun c9 => absurd c9 (by decide))
            refine lv_aload_n hx hb dX10_takesAll_42 rfl (lv_at hl 1 rfl) ?_
            refine lv_bipush (v := (-2)) hx hb dX10_takesAll_43 (by decide) ?_
            refine vV (wr := [(tby, .inl (G.2.1, 240, .inl fby))]) hC hK hl hP hD hS hA (t_addStep l G h0 (-2) tby kt tln tsp kd13176 ks13177 kn13178 tf13179 tspc ksp13180 gtsp3181 (by omega)) si_X10_152 [0, 2, 3] [1] rfl rfl (by decide) rfl (by decide) (by decide) rfl rfl rfl rfl rfl (Nat.le_of_ble_eq_true rfl) ⟨Nat.le_of_ble_eq_true rfl, Nat.le_of_ble_eq_true rfl⟩ ⟨Nat.le_of_ble_eq_true rfl, Nat.le_of_ble_eq_true rfl⟩ dX10_takesAll_45 (fun u3185 H locs hr3184 hP hD hS => ?_)
            obtain ⟨ksp13186, gtsp3187⟩ := u3185
            try dsimp only at hr3184
            have hP : va_P G.1 vwCl [(tby, .inl (G.2.1, 240, .inl fby)), (h0, .inr (10, [.ref tby, .int (nI kt), .ref tln, .ref tsp, .int kd13176, .int (nI ks13177), .int (nI kn13178), .int tf13179])), (tsp, .inr (8, [.int 120, .int 1, .ref tspc, .int (nI ksp13186)])), (tspc, .inl (G.2.1, 120, .inl gtsp3187))] H := hP
            have hD : va_D A [(tby, .inl (G.2.1, 240, .inl fby)), (h0, .inr (10, [.ref tby, .int (nI kt), .ref tln, .ref tsp, .int kd13176, .int (nI ks13177), .int (nI kn13178), .int tf13179])), (tsp, .inr (8, [.int 120, .int 1, .ref tspc, .int (nI ksp13186)])), (tspc, .inl (G.2.1, 120, .inl gtsp3187))] := hD
            have w3188 := hr3184
            refine lv_iinc (v := nI (kP + 1)) (lv' := [(2, .int (nI (kP + 1))), (0, .ref h0), (1, .int 2)]) hx hb dX10_takesAll_48 hl (k := 0) rfl (nI_1 _) (by decide) rfl (fun ls hl => ?_)
            refine lv_goto (tgt := 12) hx hb dX10_takesAll_51 (by decide) ?_
            have hP := hP.sub (ws' := [(h0, .inr (10, [.ref tby, .int (nI kt), .ref tln, .ref tsp, .int kd13176, .int (nI ks13177), .int (nI kn13178), .int tf13179])), (tby, .inl (G.2.1, 240, .inl fby)), (tsp, .inr (8, [.int 120, .int 1, .ref tspc, .int (nI ksp13186)])), (tspc, .inl (G.2.1, 120, .inl gtsp3187))]) [1, 0, 2, 3] rfl
            have hD := hD.sub (ws' := [(h0, .inr (10, [.ref tby, .int (nI kt), .ref tln, .ref tsp, .int kd13176, .int (nI ks13177), .int (nI kn13178), .int tf13179])), (tby, .inl (G.2.1, 240, .inl fby)), (tsp, .inr (8, [.int 120, .int 1, .ref tspc, .int (nI ksp13186)])), (tspc, .inl (G.2.1, 120, .inl gtsp3187))]) [1, 0, 2, 3] (by decide) rfl
            exact ihP (kP + 1) kd13176 tf13179 gtsp3187 ks13177 kn13178 ksp13186 _ _ _ (by omega) (by first | assumption | exact Or.inl rfl | exact Or.inr rfl | omega) (by first | assumption | exact Or.inl rfl | exact Or.inr rfl | omega) (by first | assumption | exact Or.inl rfl | exact Or.inr rfl | omega) hP hD hS (lv_sub hl [0, 1, 2] rfl)
          · refine lv_if_ne (tgt := 42) hx hb dX10_takesAll_37 (by decide) (fun c9 => absurd (by decide) c9) (fun _ => ?_)
            refine lv_iconst (v := 0) hx hb dX10_takesAll_40 (by decide) ?_
            exact RI (v := 0) hC hP hD hS [0, 1, 2, 3] (kd13176, ks13177, kn13178, tf13179, ksp13180, gtsp3181) rfl rfl (by decide) (⟨Or.inr (rfl), by dsimp only; omega⟩) (by decide +kernel) dX10_takesAll_41
        · refine lv_if_eq (tgt := 54) hx hb dX10_takesAll_25 (by decide) (fun _ => ?_) (fun c9 => absurd (by decide) c9)
          refine lv_iconst (v := 1) hx hb dX10_takesAll_54 (by decide) ?_
          exact RI (v := 1) hC hP hD hS [0, 1, 2, 3] (vkd, vks, vkn, vtf, vksp, vtsp) rfl rfl (by decide) (⟨Or.inl (rfl), by dsimp only; omega⟩) (by decide +kernel) dX10_takesAll_55
    exact keyP 240 0 kd13158 tf13161 gtsp3163 ks13159 kn13160 ksp13162 _ _ _ (by omega) (by first | assumption | exact Or.inl rfl | exact Or.inr rfl | omega) (by first | assumption | exact Or.inl rfl | exact Or.inr rfl | omega) (by first | assumption | exact Or.inl rfl | exact Or.inr rfl | omega) hP hD hS (lv_sub hl [0, 1, 2] rfl)
  · refine lv_if_ne (tgt := 10) hx hb dX10_takesAll_5 (by decide) (fun c9 => absurd (by decide) c9) (fun _ => ?_)
    refine lv_iconst (v := 0) hx hb dX10_takesAll_8 (by decide) ?_
    exact RI (v := 0) hC hP hD hS [0, 1, 2, 3] (kd13158, ks13159, kn13160, tf13161, ksp13162, gtsp3163) rfl rfl (by decide) (⟨Or.inr (rfl), by dsimp only; omega⟩) (by decide +kernel) dX10_takesAll_9
set_option maxHeartbeats 4000000 in
set_option maxRecDepth 100000 in
theorem t_cond2 (l : Launch) (G : GG) (K : OO) (h0 : Nat) (tby : Nat) (kt : Nat) (tln : Nat) (tsp : Nat) (tkd : Int32) (ks : Nat) (kn : Nat) (tf9 : Int32) (fby : Nat → Int32) (tspc : Nat) (ksp : Nat) (ftsp : Nat → Int32) (hkt : kt ≤ 240) (hks : ks ≤ 240) (hkn : kn ≤ 240) (hksp : ksp ≤ 120) : MIo l G K yX10_takesCond cX10_takesCond 3 (some .boolean) 19 0 0 [.ref h0, .int 2] [(h0, .inr (10, [.ref tby, .int (nI kt), .ref tln, .ref tsp, .int tkd, .int (nI ks), .int (nI kn), .int tf9])), (tby, .inl (G.2.1, 240, .inl fby)), (tsp, .inr (8, [.int 120, .int 1, .ref tspc, .int (nI ksp)])), (tspc, .inl (G.2.1, 120, .inl ftsp))] (fun (r : Int32) (u : Int32 × Nat × Nat × Int32 × Nat × (Nat → Int32)) => (r = 1 ∨ r = 0) ∧ (u.2.1 ≤ 240 ∧ u.2.2.1 ≤ 240 ∧ u.2.2.2.2.1 ≤ 120)) (fun u : Int32 × Nat × Nat × Int32 × Nat × (Nat → Int32) => [(h0, .inr (10, [.ref tby, .int (nI kt), .ref tln, .ref tsp, .int u.1, .int (nI u.2.1), .int (nI u.2.2.1), .int u.2.2.2.1])), (tby, .inl (G.2.1, 240, .inl fby)), (tsp, .inr (8, [.int 120, .int 1, .ref tspc, .int (nI u.2.2.2.2.1)])), (tspc, .inl (G.2.1, 120, .inl u.2.2.2.2.2))]) := by
  refine MIo.start (by decide +kernel) (Nat.le_of_ble_eq_true rfl) ?_
  intro p e s m below meth c A ls hC hK hP hD hS hA hl hO
  have hl : lv_has ls 3 [(0, .ref h0), (1, .int 2)] := hl
  obtain ⟨hx, hb, hr, hml, hB, hown, hlocks, hnm⟩ := id hC
  refine lv_aload_n hx hb dX10_takesCond_0 rfl (lv_at hl 0 rfl) ?_
  refine lv_iload_n hx hb dX10_takesCond_1 rfl (lv_at hl 1 rfl) ?_
  refine iVo (wr := []) hO hC hK hl hP hD hS hA (t_all2 l G K h0 tby kt tln tsp tkd ks kn tf9 fby tspc ksp ftsp (by omega) (by omega) (by omega) (by omega)) si_X10_147 [0, 1, 2, 3] [] rfl rfl (by decide) rfl (by decide) (by decide) rfl rfl rfl rfl rfl (Nat.le_of_ble_eq_true rfl) ⟨Nat.le_of_ble_eq_true rfl, Nat.le_of_ble_eq_true rfl⟩ ⟨Nat.le_of_ble_eq_true rfl, Nat.le_of_ble_eq_true rfl⟩ dX10_takesCond_2 (fun r3189 u3190 H locs hr3189 hP hD hS => ?_)
  obtain ⟨kd13191, ks13192, kn13193, tf13194, ksp13195, gtsp3196⟩ := u3190
  try dsimp only at hr3189
  have hP : va_P G.1 vwCl [(h0, .inr (10, [.ref tby, .int (nI kt), .ref tln, .ref tsp, .int kd13191, .int (nI ks13192), .int (nI kn13193), .int tf13194])), (tby, .inl (G.2.1, 240, .inl fby)), (tsp, .inr (8, [.int 120, .int 1, .ref tspc, .int (nI ksp13195)])), (tspc, .inl (G.2.1, 120, .inl gtsp3196))] H := hP
  have hD : va_D A [(h0, .inr (10, [.ref tby, .int (nI kt), .ref tln, .ref tsp, .int kd13191, .int (nI ks13192), .int (nI kn13193), .int tf13194])), (tby, .inl (G.2.1, 240, .inl fby)), (tsp, .inr (8, [.int 120, .int 1, .ref tspc, .int (nI ksp13195)])), (tspc, .inl (G.2.1, 120, .inl gtsp3196))] := hD
  obtain ⟨hr3189, w3197⟩ := hr3189
  rcases hr3189 with rfl | rfl
  · refine lv_if_ne (tgt := 10) hx hb dX10_takesCond_5 (by decide) (fun _ => ?_) (fun c9 => absurd c9 (by decide))
    refine lv_iconst (v := 0) hx hb dX10_takesCond_10 (by decide) ?_
    refine lv_istore_n (lv' := [(2, .int 0), (0, .ref h0), (1, .int 2)]) hx hb dX10_takesCond_11 rfl hl (by decide) rfl (fun ls hl => ?_)
    have keyP : ∀ (nP kP : Nat) (vkd : Int32) (vtf : Int32) (vtsp : Nat → Int32) (vks : Nat) (vkn : Nat) (vksp : Nat) (H : Heap) (locs : List Loc) (ls : Array Slot), kP + nP = 240 → (vks ≤ 240) → (vkn ≤ 240) → (vksp ≤ 120) → va_P G.1 vwCl [(h0, .inr (10, [.ref tby, .int (nI kt), .ref tln, .ref tsp, .int vkd, .int (nI vks), .int (nI vkn), .int vtf])), (tby, .inl (G.2.1, 240, .inl fby)), (tsp, .inr (8, [.int 120, .int 1, .ref tspc, .int (nI vksp)])), (tspc, .inl (G.2.1, 120, .inl vtsp))] H → va_D A [(h0, .inr (10, [.ref tby, .int (nI kt), .ref tln, .ref tsp, .int vkd, .int (nI vks), .int (nI vkn), .int vtf])), (tby, .inl (G.2.1, 240, .inl fby)), (tsp, .inr (8, [.int 120, .int 1, .ref tspc, .int (nI vksp)])), (tspc, .inl (G.2.1, 120, .inl vtsp))] → va_S A s.heap H locs → lv_has ls 3 [(2, .int (nI kP)), (0, .ref h0), (1, .int 2)] → W p l e (RM 19 0 0) s m ([.ref h0, .int 2] : List Value).toArray below meth c H locs 0 0 (MQ below (QI G (fun (r : Int32) (u : Int32 × Nat × Nat × Int32 × Nat × (Nat → Int32)) => (r = 1 ∨ r = 0) ∧ (u.2.1 ≤ 240 ∧ u.2.2.1 ≤ 240 ∧ u.2.2.2.2.1 ≤ 120)) (fun u : Int32 × Nat × Nat × Int32 × Nat × (Nat → Int32) => [(h0, .inr (10, [.ref tby, .int (nI kt), .ref tln, .ref tsp, .int u.1, .int (nI u.2.1), .int (nI u.2.2.1), .int u.2.2.2.1])), (tby, .inl (G.2.1, 240, .inl fby)), (tsp, .inr (8, [.int 120, .int 1, .ref tspc, .int (nI u.2.2.2.2.1)])), (tspc, .inl (G.2.1, 120, .inl u.2.2.2.2.2))]) A) ([.ref h0, .int 2] : List Value).toArray s 0 0 A) (F0 m 12 ls []) := by
      intro nP
      induction nP with
      | zero =>
        intro kP vkd vtf vtsp vks vkn vksp H locs ls hkP hvks hvkn hvksp hP hD hS hl
        obtain rfl : 240 = kP := by omega
        have hl : lv_has ls 3 [(2, .int 240), (0, .ref h0), (1, .int 2)] := hl
        refine lv_iload_n hx hb dX10_takesCond_12 rfl (lv_at hl 0 rfl) ?_
        refine lv_sipush (v := 240) hx hb dX10_takesCond_13 (by decide) ?_
        refine lv_icmp_ge (tgt := 54) hx hb dX10_takesCond_16 (by decide) (fun _ => ?_) (fun c9 => absurd (by decide) c9)
        refine lv_iconst (v := 1) hx hb dX10_takesCond_54 (by decide) ?_
        exact RI (v := 1) hC hP hD hS [0, 1, 2, 3] (vkd, vks, vkn, vtf, vksp, vtsp) rfl rfl (by decide) (⟨Or.inl (rfl), by dsimp only; omega⟩) (by decide +kernel) dX10_takesCond_55
      | succ nP ihP =>
        intro kP vkd vtf vtsp vks vkn vksp H locs ls hkP hvks hvkn hvksp hP hD hS hl
        refine lv_iload_n hx hb dX10_takesCond_12 rfl (lv_at hl 0 rfl) ?_
        refine lv_sipush (v := 240) hx hb dX10_takesCond_13 (by decide) ?_
        refine lv_icmp_ge (tgt := 54) hx hb dX10_takesCond_16 (by decide) (fun c9 => absurd c9 (nI_ge (a := kP) (b := 240) (by omega) (by omega))) (fun _ => ?_)
        refine lv_aload_n hx hb dX10_takesCond_19 rfl (lv_at hl 1 rfl) ?_
        refine va_ldcS (index := 150) (tx := "o\x72") hx hb hown (hO.2.1 8 (by decide)) dX10_takesCond_20 ?_
        refine pVo hO hS hC hK hl hP hD (t_isName l G K 8 h0 tby kt tln tsp vkd vks vkn vtf fby (by omega) (by omega) (by omega) ((by decide))) si_X10_102 [0, 1] rfl rfl (by decide) rfl rfl rfl rfl rfl (Nat.le_of_ble_eq_true rfl) ⟨Nat.le_of_ble_eq_true rfl, Nat.le_of_ble_eq_true rfl⟩ ⟨by first | exact Nat.le_of_ble_eq_true rfl | exact Nat.zero_le _, by first | exact Nat.le_of_ble_eq_true rfl | exact Nat.zero_le _⟩ dX10_takesCond_22 (fun r3199 hr3199 => ?_)
        rcases hr3199 with rfl | rfl
        · refine lv_if_eq (tgt := 54) hx hb dX10_takesCond_25 (by decide) (fun c9 => absurd c9 (by decide)) (fun _ => ?_)
          refine lv_aload_n hx hb dX10_takesCond_28 rfl (lv_at hl 1 rfl) ?_
          refine vV (wr := [(tsp, .inr (8, [.int 120, .int 1, .ref tspc, .int (nI vksp)])), (tspc, .inl (G.2.1, 120, .inl vtsp))]) hC hK hl hP hD hS hA (t_advance l G h0 tby kt tln tsp vkd vks vkn vtf fby (by omega) (by omega) (by omega)) si_X10_47 [0, 1] [2, 3] rfl rfl (by decide) rfl (by decide) (by decide) rfl rfl rfl rfl rfl (Nat.le_of_ble_eq_true rfl) ⟨Nat.le_of_ble_eq_true rfl, Nat.le_of_ble_eq_true rfl⟩ ⟨Nat.le_of_ble_eq_true rfl, Nat.le_of_ble_eq_true rfl⟩ dX10_takesCond_29 (fun u3202 H locs hr3201 hP hD hS => ?_)
          obtain ⟨kd13203, ks13204, kn13205⟩ := u3202
          try dsimp only at hr3201
          have hP : va_P G.1 vwCl [(tsp, .inr (8, [.int 120, .int 1, .ref tspc, .int (nI vksp)])), (tspc, .inl (G.2.1, 120, .inl vtsp)), (h0, .inr (10, [.ref tby, .int (nI kt), .ref tln, .ref tsp, .int kd13203, .int (nI ks13204), .int (nI kn13205), .int vtf])), (tby, .inl (G.2.1, 240, .inl fby))] H := hP
          have hD : va_D A [(tsp, .inr (8, [.int 120, .int 1, .ref tspc, .int (nI vksp)])), (tspc, .inl (G.2.1, 120, .inl vtsp)), (h0, .inr (10, [.ref tby, .int (nI kt), .ref tln, .ref tsp, .int kd13203, .int (nI ks13204), .int (nI kn13205), .int vtf])), (tby, .inl (G.2.1, 240, .inl fby))] := hD
          have w3206 := hr3201
          refine lv_aload_n hx hb dX10_takesCond_32 rfl (lv_at hl 1 rfl) ?_
          refine lv_iload_n hx hb dX10_takesCond_33 rfl (lv_at hl 2 rfl) ?_
          refine iVo (wr := []) hO hC hK hl hP hD hS hA (t_all2 l G K h0 tby kt tln tsp kd13203 ks13204 kn13205 vtf fby tspc vksp vtsp (by omega) (by omega) (by omega) (by omega)) si_X10_147 [2, 3, 0, 1] [] rfl rfl (by decide) rfl (by decide) (by decide) rfl rfl rfl rfl rfl (Nat.le_of_ble_eq_true rfl) ⟨Nat.le_of_ble_eq_true rfl, Nat.le_of_ble_eq_true rfl⟩ ⟨Nat.le_of_ble_eq_true rfl, Nat.le_of_ble_eq_true rfl⟩ dX10_takesCond_34 (fun r3207 u3208 H locs hr3207 hP hD hS => ?_)
          obtain ⟨kd13209, ks13210, kn13211, tf13212, ksp13213, gtsp3214⟩ := u3208
          try dsimp only at hr3207
          have hP : va_P G.1 vwCl [(h0, .inr (10, [.ref tby, .int (nI kt), .ref tln, .ref tsp, .int kd13209, .int (nI ks13210), .int (nI kn13211), .int tf13212])), (tby, .inl (G.2.1, 240, .inl fby)), (tsp, .inr (8, [.int 120, .int 1, .ref tspc, .int (nI ksp13213)])), (tspc, .inl (G.2.1, 120, .inl gtsp3214))] H := hP
          have hD : va_D A [(h0, .inr (10, [.ref tby, .int (nI kt), .ref tln, .ref tsp, .int kd13209, .int (nI ks13210), .int (nI kn13211), .int tf13212])), (tby, .inl (G.2.1, 240, .inl fby)), (tsp, .inr (8, [.int 120, .int 1, .ref tspc, .int (nI ksp13213)])), (tspc, .inl (G.2.1, 120, .inl gtsp3214))] := hD
          obtain ⟨hr3207, w3215⟩ := hr3207
          rcases hr3207 with rfl | rfl
          · refine lv_if_ne (tgt := 42) hx hb dX10_takesCond_37 (by decide) (fun _ => ?_) (fun c9 => absurd c9 (by decide))
            refine lv_aload_n hx hb dX10_takesCond_42 rfl (lv_at hl 1 rfl) ?_
            refine lv_bipush (v := (-3)) hx hb dX10_takesCond_43 (by decide) ?_
            refine vV (wr := [(tby, .inl (G.2.1, 240, .inl fby))]) hC hK hl hP hD hS hA (t_addStep l G h0 (-3) tby kt tln tsp kd13209 ks13210 kn13211 tf13212 tspc ksp13213 gtsp3214 (by omega)) si_X10_152 [0, 2, 3] [1] rfl rfl (by decide) rfl (by decide) (by decide) rfl rfl rfl rfl rfl (Nat.le_of_ble_eq_true rfl) ⟨Nat.le_of_ble_eq_true rfl, Nat.le_of_ble_eq_true rfl⟩ ⟨Nat.le_of_ble_eq_true rfl, Nat.le_of_ble_eq_true rfl⟩ dX10_takesCond_45 (fun u3218 H locs hr3217 hP hD hS => ?_)
            obtain ⟨ksp13219, gtsp3220⟩ := u3218
            try dsimp only at hr3217
            have hP : va_P G.1 vwCl [(tby, .inl (G.2.1, 240, .inl fby)), (h0, .inr (10, [.ref tby, .int (nI kt), .ref tln, .ref tsp, .int kd13209, .int (nI ks13210), .int (nI kn13211), .int tf13212])), (tsp, .inr (8, [.int 120, .int 1, .ref tspc, .int (nI ksp13219)])), (tspc, .inl (G.2.1, 120, .inl gtsp3220))] H := hP
            have hD : va_D A [(tby, .inl (G.2.1, 240, .inl fby)), (h0, .inr (10, [.ref tby, .int (nI kt), .ref tln, .ref tsp, .int kd13209, .int (nI ks13210), .int (nI kn13211), .int tf13212])), (tsp, .inr (8, [.int 120, .int 1, .ref tspc, .int (nI ksp13219)])), (tspc, .inl (G.2.1, 120, .inl gtsp3220))] := hD
            have w3221 := hr3217
            refine lv_iinc (v := nI (kP + 1)) (lv' := [(2, .int (nI (kP + 1))), (0, .ref h0), (1, .int 2)]) hx hb dX10_takesCond_48 hl (k := 0) rfl (nI_1 _) (by decide) rfl (fun ls hl => ?_)
            refine lv_goto (tgt := 12) hx hb dX10_takesCond_51 (by decide) ?_
            have hP := hP.sub (ws' := [(h0, .inr (10, [.ref tby, .int (nI kt), .ref tln, .ref tsp, .int kd13209, .int (nI ks13210), .int (nI kn13211), .int tf13212])), (tby, .inl (G.2.1, 240, .inl fby)), (tsp, .inr (8, [.int 120, .int 1, .ref tspc, .int (nI ksp13219)])), (tspc, .inl (G.2.1, 120, .inl gtsp3220))]) [1, 0, 2, 3] rfl
            have hD := hD.sub (ws' := [(h0, .inr (10, [.ref tby, .int (nI kt), .ref tln, .ref tsp, .int kd13209, .int (nI ks13210), .int (nI kn13211), .int tf13212])), (tby, .inl (G.2.1, 240, .inl fby)), (tsp, .inr (8, [.int 120, .int 1, .ref tspc, .int (nI ksp13219)])), (tspc, .inl (G.2.1, 120, .inl gtsp3220))]) [1, 0, 2, 3] (by decide) rfl
            exact ihP (kP + 1) kd13209 tf13212 gtsp3220 ks13210 kn13211 ksp13219 _ _ _ (by omega) (by first | assumption | exact Or.inl rfl | exact Or.inr rfl | omega) (by first | assumption | exact Or.inl rfl | exact Or.inr rfl | omega) (by first | assumption | exact Or.inl rfl | exact Or.inr rfl | omega) hP hD hS (lv_sub hl [0, 1, 2] rfl)
          · refine lv_if_ne (tgt := 42) hx hb dX10_takesCond_37 (by decide) (fun c9 => absurd (by decide) c9) (fun _ => ?_)
            refine lv_iconst (v := 0) hx hb dX10_takesCond_40 (by decide) ?_
            exact RI (v := 0) hC hP hD hS [0, 1, 2, 3] (kd13209, ks13210, kn13211, tf13212, ksp13213, gtsp3214) rfl rfl (by decide) (⟨Or.inr (rfl), by dsimp only; omega⟩) (by decide +kernel) dX10_takesCond_41
        · refine lv_if_eq (tgt := 54) hx hb dX10_takesCond_25 (by decide) (fun _ => ?_) (fun c9 => absurd (by decide) c9)
          refine lv_iconst (v := 1) hx hb dX10_takesCond_54 (by decide) ?_
          exact RI (v := 1) hC hP hD hS [0, 1, 2, 3] (vkd, vks, vkn, vtf, vksp, vtsp) rfl rfl (by decide) (⟨Or.inl (rfl), by dsimp only; omega⟩) (by decide +kernel) dX10_takesCond_55
    exact keyP 240 0 kd13191 tf13194 gtsp3196 ks13192 kn13193 ksp13195 _ _ _ (by omega) (by first | assumption | exact Or.inl rfl | exact Or.inr rfl | omega) (by first | assumption | exact Or.inl rfl | exact Or.inr rfl | omega) (by first | assumption | exact Or.inl rfl | exact Or.inr rfl | omega) hP hD hS (lv_sub hl [0, 1, 2] rfl)
  · refine lv_if_ne (tgt := 10) hx hb dX10_takesCond_5 (by decide) (fun c9 => absurd (by decide) c9) (fun _ => ?_)
    refine lv_iconst (v := 0) hx hb dX10_takesCond_8 (by decide) ?_
    exact RI (v := 0) hC hP hD hS [0, 1, 2, 3] (kd13191, ks13192, kn13193, tf13194, ksp13195, gtsp3196) rfl rfl (by decide) (⟨Or.inr (rfl), by dsimp only; omega⟩) (by decide +kernel) dX10_takesCond_9
set_option maxHeartbeats 4000000 in
set_option maxRecDepth 100000 in
theorem t_one1 (l : Launch) (G : GG) (K : OO) (h0 : Nat) (tby : Nat) (kt : Nat) (tln : Nat) (tsp : Nat) (tkd : Int32) (ks : Nat) (kn : Nat) (tf9 : Int32) (fby : Nat → Int32) (tspc : Nat) (ksp : Nat) (ftsp : Nat → Int32) (hkt : kt ≤ 240) (hks : ks ≤ 240) (hkn : kn ≤ 240) (hksp : ksp ≤ 120) : MIo l G K yX10_takesOne cX10_takesOne 4 (some .boolean) 21 0 0 [.ref h0, .int 1] [(h0, .inr (10, [.ref tby, .int (nI kt), .ref tln, .ref tsp, .int tkd, .int (nI ks), .int (nI kn), .int tf9])), (tby, .inl (G.2.1, 240, .inl fby)), (tsp, .inr (8, [.int 120, .int 1, .ref tspc, .int (nI ksp)])), (tspc, .inl (G.2.1, 120, .inl ftsp))] (fun (r : Int32) (u : Int32 × Nat × Nat × Int32 × Nat × (Nat → Int32)) => (r = 1 ∨ r = 0) ∧ (u.2.1 ≤ 240 ∧ u.2.2.1 ≤ 240 ∧ u.2.2.2.2.1 ≤ 120)) (fun u : Int32 × Nat × Nat × Int32 × Nat × (Nat → Int32) => [(h0, .inr (10, [.ref tby, .int (nI kt), .ref tln, .ref tsp, .int u.1, .int (nI u.2.1), .int (nI u.2.2.1), .int u.2.2.2.1])), (tby, .inl (G.2.1, 240, .inl fby)), (tsp, .inr (8, [.int 120, .int 1, .ref tspc, .int (nI u.2.2.2.2.1)])), (tspc, .inl (G.2.1, 120, .inl u.2.2.2.2.2))]) := by
  refine MIo.start (by decide +kernel) (Nat.le_of_ble_eq_true rfl) ?_
  intro p e s m below meth c A ls hC hK hP hD hS hA hl hO
  have hl : lv_has ls 4 [(0, .ref h0), (1, .int 1)] := hl
  obtain ⟨hx, hb, hr, hml, hB, hown, hlocks, hnm⟩ := id hC
  refine lv_iconst (v := 0) hx hb dX10_takesOne_0 (by decide) ?_
  refine lv_istore_n (lv' := [(2, .int 0), (0, .ref h0), (1, .int 1)]) hx hb dX10_takesOne_1 rfl hl (by decide) rfl (fun ls hl => ?_)
  refine lv_iconst (v := 0) hx hb dX10_takesOne_2 (by decide) ?_
  refine lv_istore_n (lv' := [(3, .int 0), (2, .int 0), (0, .ref h0), (1, .int 1)]) hx hb dX10_takesOne_3 rfl hl (by decide) rfl (fun ls hl => ?_)
  have keyP : ∀ (nP kP : Nat) (tu : Int32) (vkd : Int32) (vtf : Int32) (vks : Nat) (vkn : Nat) (H : Heap) (locs : List Loc) (ls : Array Slot), kP + nP = 240 → (vks ≤ 240) → (vkn ≤ 240) → va_P G.1 vwCl [(h0, .inr (10, [.ref tby, .int (nI kt), .ref tln, .ref tsp, .int vkd, .int (nI vks), .int (nI vkn), .int vtf])), (tby, .inl (G.2.1, 240, .inl fby)), (tsp, .inr (8, [.int 120, .int 1, .ref tspc, .int (nI ksp)])), (tspc, .inl (G.2.1, 120, .inl ftsp))] H → va_D A [(h0, .inr (10, [.ref tby, .int (nI kt), .ref tln, .ref tsp, .int vkd, .int (nI vks), .int (nI vkn), .int vtf])), (tby, .inl (G.2.1, 240, .inl fby)), (tsp, .inr (8, [.int 120, .int 1, .ref tspc, .int (nI ksp)])), (tspc, .inl (G.2.1, 120, .inl ftsp))] → va_S A s.heap H locs → lv_has ls 4 [(3, .int (nI kP)), (2, .int tu), (0, .ref h0), (1, .int 1)] → W p l e (RM 21 0 0) s m ([.ref h0, .int 1] : List Value).toArray below meth c H locs 0 0 (MQ below (QI G (fun (r : Int32) (u : Int32 × Nat × Nat × Int32 × Nat × (Nat → Int32)) => (r = 1 ∨ r = 0) ∧ (u.2.1 ≤ 240 ∧ u.2.2.1 ≤ 240 ∧ u.2.2.2.2.1 ≤ 120)) (fun u : Int32 × Nat × Nat × Int32 × Nat × (Nat → Int32) => [(h0, .inr (10, [.ref tby, .int (nI kt), .ref tln, .ref tsp, .int u.1, .int (nI u.2.1), .int (nI u.2.2.1), .int u.2.2.2.1])), (tby, .inl (G.2.1, 240, .inl fby)), (tsp, .inr (8, [.int 120, .int 1, .ref tspc, .int (nI u.2.2.2.2.1)])), (tspc, .inl (G.2.1, 120, .inl u.2.2.2.2.2))]) A) ([.ref h0, .int 1] : List Value).toArray s 0 0 A) (F0 m 4 ls []) := by
    intro nP
    induction nP with
    | zero =>
      intro kP tu vkd vtf vks vkn H locs ls hkP hvks hvkn hP hD hS hl
      obtain rfl : 240 = kP := by omega
      have hl : lv_has ls 4 [(3, .int 240), (2, .int tu), (0, .ref h0), (1, .int 1)] := hl
      refine lv_iload_n hx hb dX10_takesOne_4 rfl (lv_at hl 0 rfl) ?_
      refine lv_sipush (v := 240) hx hb dX10_takesOne_5 (by decide) ?_
      refine lv_icmp_ge (tgt := 40) hx hb dX10_takesOne_8 (by decide) (fun _ => ?_) (fun c9 => absurd (by decide) c9)
      refine lv_aload_n hx hb dX10_takesOne_40 rfl (lv_at hl 2 rfl) ?_
      refine gf_X10_31 hC rfl hK hP 0 rfl rfl dX10_takesOne_41 ?_
      refine lv_bipush (v := 40) hx hb dX10_takesOne_44 (by decide) ?_
      refine lv_icmp_eq (tgt := 58) hx hb dX10_takesOne_46 (by decide) (fun c_46_3222 => ?_) (fun c_46_3222 => ?_)
      · refine lv_iload_n hx hb dX10_takesOne_58 rfl (lv_at hl 3 rfl) ?_
        refine lv_iconst (v := 4) hx hb dX10_takesOne_59 (by decide) ?_
        refine lv_icmp_lt (tgt := 68) hx hb dX10_takesOne_60 (by decide) (fun _ => ?_) (fun c9 => absurd (by decide) c9)
        refine lv_aload_n hx hb dX10_takesOne_68 rfl (lv_at hl 2 rfl) ?_
        refine vV (wr := [(tsp, .inr (8, [.int 120, .int 1, .ref tspc, .int (nI ksp)])), (tspc, .inl (G.2.1, 120, .inl ftsp))]) hC hK hl hP hD hS hA (t_advance l G h0 tby kt tln tsp vkd vks vkn vtf fby (by omega) (by omega) (by omega)) si_X10_47 [0, 1] [2, 3] rfl rfl (by decide) rfl (by decide) (by decide) rfl rfl rfl rfl rfl (Nat.le_of_ble_eq_true rfl) ⟨Nat.le_of_ble_eq_true rfl, Nat.le_of_ble_eq_true rfl⟩ ⟨Nat.le_of_ble_eq_true rfl, Nat.le_of_ble_eq_true rfl⟩ dX10_takesOne_69 (fun u3224 H locs hr3223 hP hD hS => ?_)
        obtain ⟨kd13225, ks13226, kn13227⟩ := u3224
        try dsimp only at hr3223
        have hP : va_P G.1 vwCl [(tsp, .inr (8, [.int 120, .int 1, .ref tspc, .int (nI ksp)])), (tspc, .inl (G.2.1, 120, .inl ftsp)), (h0, .inr (10, [.ref tby, .int (nI kt), .ref tln, .ref tsp, .int kd13225, .int (nI ks13226), .int (nI kn13227), .int vtf])), (tby, .inl (G.2.1, 240, .inl fby))] H := hP
        have hD : va_D A [(tsp, .inr (8, [.int 120, .int 1, .ref tspc, .int (nI ksp)])), (tspc, .inl (G.2.1, 120, .inl ftsp)), (h0, .inr (10, [.ref tby, .int (nI kt), .ref tln, .ref tsp, .int kd13225, .int (nI ks13226), .int (nI kn13227), .int vtf])), (tby, .inl (G.2.1, 240, .inl fby))] := hD
        have w3228 := hr3223
        refine lv_aload_n hx hb dX10_takesOne_72 rfl (lv_at hl 2 rfl) ?_
        refine lv_iload_n hx hb dX10_takesOne_73 rfl (lv_at hl 3 rfl) ?_
        refine lv_iconst (v := 1) hx hb dX10_takesOne_74 (by decide) ?_
        refine lv_iadd hx hb dX10_takesOne_75 ?_
        refine eqi (x1 := 2) (by decide) ?_
        refine iVo (wr := []) hO hC hK hl hP hD hS hA (t_cond2 l G K h0 tby kt tln tsp kd13225 ks13226 kn13227 vtf fby tspc ksp ftsp (by omega) (by omega) (by omega) (by omega)) si_X10_121 [2, 3, 0, 1] [] rfl rfl (by decide) rfl (by decide) (by decide) rfl rfl rfl rfl rfl (Nat.le_of_ble_eq_true rfl) ⟨Nat.le_of_ble_eq_true rfl, Nat.le_of_ble_eq_true rfl⟩ ⟨Nat.le_of_ble_eq_true rfl, Nat.le_of_ble_eq_true rfl⟩ dX10_takesOne_76 (fun r3229 u3230 H locs hr3229 hP hD hS => ?_)
        obtain ⟨kd13231, ks13232, kn13233, tf13234, ksp13235, gtsp3236⟩ := u3230
        try dsimp only at hr3229
        have hP : va_P G.1 vwCl [(h0, .inr (10, [.ref tby, .int (nI kt), .ref tln, .ref tsp, .int kd13231, .int (nI ks13232), .int (nI kn13233), .int tf13234])), (tby, .inl (G.2.1, 240, .inl fby)), (tsp, .inr (8, [.int 120, .int 1, .ref tspc, .int (nI ksp13235)])), (tspc, .inl (G.2.1, 120, .inl gtsp3236))] H := hP
        have hD : va_D A [(h0, .inr (10, [.ref tby, .int (nI kt), .ref tln, .ref tsp, .int kd13231, .int (nI ks13232), .int (nI kn13233), .int tf13234])), (tby, .inl (G.2.1, 240, .inl fby)), (tsp, .inr (8, [.int 120, .int 1, .ref tspc, .int (nI ksp13235)])), (tspc, .inl (G.2.1, 120, .inl gtsp3236))] := hD
        obtain ⟨hr3229, w3237⟩ := hr3229
        rcases hr3229 with rfl | rfl
        · refine lv_if_eq (tgt := 91) hx hb dX10_takesOne_79 (by decide) (fun c9 => absurd c9 (by decide)) (fun _ => ?_)
          refine lv_aload_n hx hb dX10_takesOne_82 rfl (lv_at hl 2 rfl) ?_
          refine lv_bipush (v := 41) hx hb dX10_takesOne_83 (by decide) ?_
          refine iV (wr := [(tsp, .inr (8, [.int 120, .int 1, .ref tspc, .int (nI ksp13235)])), (tspc, .inl (G.2.1, 120, .inl gtsp3236))]) hC hK hl hP hD hS hA (t_takesByte l G h0 41 tby kt tln tsp kd13231 ks13232 kn13233 tf13234 fby (by omega) (by omega) (by omega)) si_X10_124 [0, 1] [2, 3] rfl rfl (by decide) rfl (by decide) (by decide) rfl rfl rfl rfl rfl (Nat.le_of_ble_eq_true rfl) ⟨Nat.le_of_ble_eq_true rfl, Nat.le_of_ble_eq_true rfl⟩ ⟨Nat.le_of_ble_eq_true rfl, Nat.le_of_ble_eq_true rfl⟩ dX10_takesOne_85 (fun r3239 u3240 H locs hr3239 hP hD hS => ?_)
          obtain ⟨kd13241, ks13242, kn13243, tf13244⟩ := u3240
          try dsimp only at hr3239
          have hP : va_P G.1 vwCl [(tsp, .inr (8, [.int 120, .int 1, .ref tspc, .int (nI ksp13235)])), (tspc, .inl (G.2.1, 120, .inl gtsp3236)), (h0, .inr (10, [.ref tby, .int (nI kt), .ref tln, .ref tsp, .int kd13241, .int (nI ks13242), .int (nI kn13243), .int tf13244])), (tby, .inl (G.2.1, 240, .inl fby))] H := hP
          have hD : va_D A [(tsp, .inr (8, [.int 120, .int 1, .ref tspc, .int (nI ksp13235)])), (tspc, .inl (G.2.1, 120, .inl gtsp3236)), (h0, .inr (10, [.ref tby, .int (nI kt), .ref tln, .ref tsp, .int kd13241, .int (nI ks13242), .int (nI kn13243), .int tf13244])), (tby, .inl (G.2.1, 240, .inl fby))] := hD
          obtain ⟨hr3239, w3245⟩ := hr3239
          rcases hr3239 with rfl | rfl
          · refine lv_if_ne (tgt := 93) hx hb dX10_takesOne_88 (by decide) (fun _ => ?_) (fun c9 => absurd c9 (by decide))
            refine lv_iload_n hx hb dX10_takesOne_93 rfl (lv_at hl 1 rfl) ?_
            refine lv_if_eq (tgt := 102) hx hb dX10_takesOne_94 (by decide) (fun c_94_3247 => ?_) (fun c_94_3247 => ?_)
            · refine lv_iconst (v := 1) hx hb dX10_takesOne_102 (by decide) ?_
              exact RI (v := 1) hC hP hD hS [2, 3, 0, 1] (kd13241, ks13242, kn13243, tf13244, ksp13235, gtsp3236) rfl rfl (by decide) (⟨Or.inl (rfl), by dsimp only; omega⟩) (by decide +kernel) dX10_takesOne_103
            · refine lv_aload_n hx hb dX10_takesOne_97 rfl (lv_at hl 2 rfl) ?_
              refine lv_iconst (v := (-1)) hx hb dX10_takesOne_98 (by decide) ?_
              refine vV (wr := [(tby, .inl (G.2.1, 240, .inl fby))]) hC hK hl hP hD hS hA (t_addStep l G h0 (-1) tby kt tln tsp kd13241 ks13242 kn13243 tf13244 tspc ksp13235 gtsp3236 (by omega)) si_X10_152 [2, 0, 1] [3] rfl rfl (by decide) rfl (by decide) (by decide) rfl rfl rfl rfl rfl (Nat.le_of_ble_eq_true rfl) ⟨Nat.le_of_ble_eq_true rfl, Nat.le_of_ble_eq_true rfl⟩ ⟨Nat.le_of_ble_eq_true rfl, Nat.le_of_ble_eq_true rfl⟩ dX10_takesOne_99 (fun u3249 H locs hr3248 hP hD hS => ?_)
              obtain ⟨ksp13250, gtsp3251⟩ := u3249
              try dsimp only at hr3248
              have hP : va_P G.1 vwCl [(tby, .inl (G.2.1, 240, .inl fby)), (h0, .inr (10, [.ref tby, .int (nI kt), .ref tln, .ref tsp, .int kd13241, .int (nI ks13242), .int (nI kn13243), .int tf13244])), (tsp, .inr (8, [.int 120, .int 1, .ref tspc, .int (nI ksp13250)])), (tspc, .inl (G.2.1, 120, .inl gtsp3251))] H := hP
              have hD : va_D A [(tby, .inl (G.2.1, 240, .inl fby)), (h0, .inr (10, [.ref tby, .int (nI kt), .ref tln, .ref tsp, .int kd13241, .int (nI ks13242), .int (nI kn13243), .int tf13244])), (tsp, .inr (8, [.int 120, .int 1, .ref tspc, .int (nI ksp13250)])), (tspc, .inl (G.2.1, 120, .inl gtsp3251))] := hD
              have w3252 := hr3248
              refine lv_iconst (v := 1) hx hb dX10_takesOne_102 (by decide) ?_
              exact RI (v := 1) hC hP hD hS [1, 0, 2, 3] (kd13241, ks13242, kn13243, tf13244, ksp13250, gtsp3251) rfl rfl (by decide) (⟨Or.inl (rfl), by dsimp only; omega⟩) (by decide +kernel) dX10_takesOne_103
          · refine lv_if_ne (tgt := 93) hx hb dX10_takesOne_88 (by decide) (fun c9 => absurd (by decide) c9) (fun _ => ?_)
            refine lv_iconst (v := 0) hx hb dX10_takesOne_91 (by decide) ?_
            exact RI (v := 0) hC hP hD hS [2, 3, 0, 1] (kd13241, ks13242, kn13243, tf13244, ksp13235, gtsp3236) rfl rfl (by decide) (⟨Or.inr (rfl), by dsimp only; omega⟩) (by decide +kernel) dX10_takesOne_92
        · refine lv_if_eq (tgt := 91) hx hb dX10_takesOne_79 (by decide) (fun _ => ?_) (fun c9 => absurd (by decide) c9)
          refine lv_iconst (v := 0) hx hb dX10_takesOne_91 (by decide) ?_
          exact RI (v := 0) hC hP hD hS [0, 1, 2, 3] (kd13231, ks13232, kn13233, tf13234, ksp13235, gtsp3236) rfl rfl (by decide) (⟨Or.inr (rfl), by dsimp only; omega⟩) (by decide +kernel) dX10_takesOne_92
      · refine lv_aload_n hx hb dX10_takesOne_49 rfl (lv_at hl 2 rfl) ?_
        refine iVo (wr := []) hO hC hK hl hP hD hS hA (t_takesComparison l G K h0 tby kt tln tsp vkd vks vkn vtf fby tspc ksp ftsp (by omega) (by omega) (by omega) (by omega)) si_X10_162 [0, 1, 2, 3] [] rfl rfl (by decide) rfl (by decide) (by decide) rfl rfl rfl rfl rfl (Nat.le_of_ble_eq_true rfl) ⟨Nat.le_of_ble_eq_true rfl, Nat.le_of_ble_eq_true rfl⟩ ⟨Nat.le_of_ble_eq_true rfl, Nat.le_of_ble_eq_true rfl⟩ dX10_takesOne_50 (fun r3253 u3254 H locs hr3253 hP hD hS => ?_)
        obtain ⟨kd13255, ks13256, kn13257, tf13258, ksp13259, gtsp3260⟩ := u3254
        try dsimp only at hr3253
        have hP : va_P G.1 vwCl [(h0, .inr (10, [.ref tby, .int (nI kt), .ref tln, .ref tsp, .int kd13255, .int (nI ks13256), .int (nI kn13257), .int tf13258])), (tby, .inl (G.2.1, 240, .inl fby)), (tsp, .inr (8, [.int 120, .int 1, .ref tspc, .int (nI ksp13259)])), (tspc, .inl (G.2.1, 120, .inl gtsp3260))] H := hP
        have hD : va_D A [(h0, .inr (10, [.ref tby, .int (nI kt), .ref tln, .ref tsp, .int kd13255, .int (nI ks13256), .int (nI kn13257), .int tf13258])), (tby, .inl (G.2.1, 240, .inl fby)), (tsp, .inr (8, [.int 120, .int 1, .ref tspc, .int (nI ksp13259)])), (tspc, .inl (G.2.1, 120, .inl gtsp3260))] := hD
        obtain ⟨hr3253, w3261⟩ := hr3253
        rcases hr3253 with rfl | rfl
        · refine lv_if_ne (tgt := 93) hx hb dX10_takesOne_53 (by decide) (fun _ => ?_) (fun c9 => absurd c9 (by decide))
          refine lv_iload_n hx hb dX10_takesOne_93 rfl (lv_at hl 1 rfl) ?_
          refine lv_if_eq (tgt := 102) hx hb dX10_takesOne_94 (by decide) (fun c_94_3263 => ?_) (fun c_94_3263 => ?_)
          · refine lv_iconst (v := 1) hx hb dX10_takesOne_102 (by decide) ?_
            exact RI (v := 1) hC hP hD hS [0, 1, 2, 3] (kd13255, ks13256, kn13257, tf13258, ksp13259, gtsp3260) rfl rfl (by decide) (⟨Or.inl (rfl), by dsimp only; omega⟩) (by decide +kernel) dX10_takesOne_103
          · refine lv_aload_n hx hb dX10_takesOne_97 rfl (lv_at hl 2 rfl) ?_
            refine lv_iconst (v := (-1)) hx hb dX10_takesOne_98 (by decide) ?_
            refine vV (wr := [(tby, .inl (G.2.1, 240, .inl fby))]) hC hK hl hP hD hS hA (t_addStep l G h0 (-1) tby kt tln tsp kd13255 ks13256 kn13257 tf13258 tspc ksp13259 gtsp3260 (by omega)) si_X10_152 [0, 2, 3] [1] rfl rfl (by decide) rfl (by decide) (by decide) rfl rfl rfl rfl rfl (Nat.le_of_ble_eq_true rfl) ⟨Nat.le_of_ble_eq_true rfl, Nat.le_of_ble_eq_true rfl⟩ ⟨Nat.le_of_ble_eq_true rfl, Nat.le_of_ble_eq_true rfl⟩ dX10_takesOne_99 (fun u3265 H locs hr3264 hP hD hS => ?_)
            obtain ⟨ksp13266, gtsp3267⟩ := u3265
            try dsimp only at hr3264
            have hP : va_P G.1 vwCl [(tby, .inl (G.2.1, 240, .inl fby)), (h0, .inr (10, [.ref tby, .int (nI kt), .ref tln, .ref tsp, .int kd13255, .int (nI ks13256), .int (nI kn13257), .int tf13258])), (tsp, .inr (8, [.int 120, .int 1, .ref tspc, .int (nI ksp13266)])), (tspc, .inl (G.2.1, 120, .inl gtsp3267))] H := hP
            have hD : va_D A [(tby, .inl (G.2.1, 240, .inl fby)), (h0, .inr (10, [.ref tby, .int (nI kt), .ref tln, .ref tsp, .int kd13255, .int (nI ks13256), .int (nI kn13257), .int tf13258])), (tsp, .inr (8, [.int 120, .int 1, .ref tspc, .int (nI ksp13266)])), (tspc, .inl (G.2.1, 120, .inl gtsp3267))] := hD
            have w3268 := hr3264
            refine lv_iconst (v := 1) hx hb dX10_takesOne_102 (by decide) ?_
            exact RI (v := 1) hC hP hD hS [1, 0, 2, 3] (kd13255, ks13256, kn13257, tf13258, ksp13266, gtsp3267) rfl rfl (by decide) (⟨Or.inl (rfl), by dsimp only; omega⟩) (by decide +kernel) dX10_takesOne_103
        · refine lv_if_ne (tgt := 93) hx hb dX10_takesOne_53 (by decide) (fun c9 => absurd (by decide) c9) (fun _ => ?_)
          refine lv_iconst (v := 0) hx hb dX10_takesOne_56 (by decide) ?_
          exact RI (v := 0) hC hP hD hS [0, 1, 2, 3] (kd13255, ks13256, kn13257, tf13258, ksp13259, gtsp3260) rfl rfl (by decide) (⟨Or.inr (rfl), by dsimp only; omega⟩) (by decide +kernel) dX10_takesOne_57
    | succ nP ihP =>
      intro kP tu vkd vtf vks vkn H locs ls hkP hvks hvkn hP hD hS hl
      refine lv_iload_n hx hb dX10_takesOne_4 rfl (lv_at hl 0 rfl) ?_
      refine lv_sipush (v := 240) hx hb dX10_takesOne_5 (by decide) ?_
      refine lv_icmp_ge (tgt := 40) hx hb dX10_takesOne_8 (by decide) (fun c9 => absurd c9 (nI_ge (a := kP) (b := 240) (by omega) (by omega))) (fun _ => ?_)
      refine lv_aload_n hx hb dX10_takesOne_11 rfl (lv_at hl 2 rfl) ?_
      refine va_ldcS (index := 160) (tx := "not") hx hb hown (hO.2.1 10 (by decide)) dX10_takesOne_12 ?_
      refine pVo hO hS hC hK hl hP hD (t_isName l G K 10 h0 tby kt tln tsp vkd vks vkn vtf fby (by omega) (by omega) (by omega) ((by decide))) si_X10_102 [0, 1] rfl rfl (by decide) rfl rfl rfl rfl rfl (Nat.le_of_ble_eq_true rfl) ⟨Nat.le_of_ble_eq_true rfl, Nat.le_of_ble_eq_true rfl⟩ ⟨by first | exact Nat.le_of_ble_eq_true rfl | exact Nat.zero_le _, by first | exact Nat.le_of_ble_eq_true rfl | exact Nat.zero_le _⟩ dX10_takesOne_14 (fun r3269 hr3269 => ?_)
      rcases hr3269 with rfl | rfl
      · refine lv_if_eq (tgt := 40) hx hb dX10_takesOne_17 (by decide) (fun c9 => absurd c9 (by decide)) (fun _ => ?_)
        refine lv_aload_n hx hb dX10_takesOne_20 rfl (lv_at hl 2 rfl) ?_
        refine vV (wr := [(tsp, .inr (8, [.int 120, .int 1, .ref tspc, .int (nI ksp)])), (tspc, .inl (G.2.1, 120, .inl ftsp))]) hC hK hl hP hD hS hA (t_advance l G h0 tby kt tln tsp vkd vks vkn vtf fby (by omega) (by omega) (by omega)) si_X10_47 [0, 1] [2, 3] rfl rfl (by decide) rfl (by decide) (by decide) rfl rfl rfl rfl rfl (Nat.le_of_ble_eq_true rfl) ⟨Nat.le_of_ble_eq_true rfl, Nat.le_of_ble_eq_true rfl⟩ ⟨Nat.le_of_ble_eq_true rfl, Nat.le_of_ble_eq_true rfl⟩ dX10_takesOne_21 (fun u3272 H locs hr3271 hP hD hS => ?_)
        obtain ⟨kd13273, ks13274, kn13275⟩ := u3272
        try dsimp only at hr3271
        have hP : va_P G.1 vwCl [(tsp, .inr (8, [.int 120, .int 1, .ref tspc, .int (nI ksp)])), (tspc, .inl (G.2.1, 120, .inl ftsp)), (h0, .inr (10, [.ref tby, .int (nI kt), .ref tln, .ref tsp, .int kd13273, .int (nI ks13274), .int (nI kn13275), .int vtf])), (tby, .inl (G.2.1, 240, .inl fby))] H := hP
        have hD : va_D A [(tsp, .inr (8, [.int 120, .int 1, .ref tspc, .int (nI ksp)])), (tspc, .inl (G.2.1, 120, .inl ftsp)), (h0, .inr (10, [.ref tby, .int (nI kt), .ref tln, .ref tsp, .int kd13273, .int (nI ks13274), .int (nI kn13275), .int vtf])), (tby, .inl (G.2.1, 240, .inl fby))] := hD
        have w3276 := hr3271
        refine lv_iload_n hx hb dX10_takesOne_24 rfl (lv_at hl 1 rfl) ?_
        refine lv_if_ne (tgt := 32) hx hb dX10_takesOne_25 (by decide) (fun c_25_3277 => ?_) (fun c_25_3277 => ?_)
        · refine lv_iconst (v := 0) hx hb dX10_takesOne_32 (by decide) ?_
          refine lv_istore_n (lv' := [(2, .int 0), (3, .int (nI kP)), (0, .ref h0), (1, .int 1)]) hx hb dX10_takesOne_33 rfl hl (by decide) rfl (fun ls hl => ?_)
          refine lv_iinc (v := nI (kP + 1)) (lv' := [(3, .int (nI (kP + 1))), (2, .int 0), (0, .ref h0), (1, .int 1)]) hx hb dX10_takesOne_34 hl (k := 1) rfl (nI_1 _) (by decide) rfl (fun ls hl => ?_)
          refine lv_goto (tgt := 4) hx hb dX10_takesOne_37 (by decide) ?_
          have hP := hP.sub (ws' := [(h0, .inr (10, [.ref tby, .int (nI kt), .ref tln, .ref tsp, .int kd13273, .int (nI ks13274), .int (nI kn13275), .int vtf])), (tby, .inl (G.2.1, 240, .inl fby)), (tsp, .inr (8, [.int 120, .int 1, .ref tspc, .int (nI ksp)])), (tspc, .inl (G.2.1, 120, .inl ftsp))]) [2, 3, 0, 1] rfl
          have hD := hD.sub (ws' := [(h0, .inr (10, [.ref tby, .int (nI kt), .ref tln, .ref tsp, .int kd13273, .int (nI ks13274), .int (nI kn13275), .int vtf])), (tby, .inl (G.2.1, 240, .inl fby)), (tsp, .inr (8, [.int 120, .int 1, .ref tspc, .int (nI ksp)])), (tspc, .inl (G.2.1, 120, .inl ftsp))]) [2, 3, 0, 1] (by decide) rfl
          exact ihP (kP + 1) 0 kd13273 vtf ks13274 kn13275 _ _ _ (by omega) (by first | assumption | exact Or.inl rfl | exact Or.inr rfl | omega) (by first | assumption | exact Or.inl rfl | exact Or.inr rfl | omega) hP hD hS (lv_sub hl [0, 1, 2, 3] rfl)
        · refine lv_iconst (v := 1) hx hb dX10_takesOne_28 (by decide) ?_
          refine lv_goto (tgt := 33) hx hb dX10_takesOne_29 (by decide) ?_
          refine lv_istore_n (lv' := [(2, .int 1), (3, .int (nI kP)), (0, .ref h0), (1, .int 1)]) hx hb dX10_takesOne_33 rfl hl (by decide) rfl (fun ls hl => ?_)
          refine lv_iinc (v := nI (kP + 1)) (lv' := [(3, .int (nI (kP + 1))), (2, .int 1), (0, .ref h0), (1, .int 1)]) hx hb dX10_takesOne_34 hl (k := 1) rfl (nI_1 _) (by decide) rfl (fun ls hl => ?_)
          refine lv_goto (tgt := 4) hx hb dX10_takesOne_37 (by decide) ?_
          have hP := hP.sub (ws' := [(h0, .inr (10, [.ref tby, .int (nI kt), .ref tln, .ref tsp, .int kd13273, .int (nI ks13274), .int (nI kn13275), .int vtf])), (tby, .inl (G.2.1, 240, .inl fby)), (tsp, .inr (8, [.int 120, .int 1, .ref tspc, .int (nI ksp)])), (tspc, .inl (G.2.1, 120, .inl ftsp))]) [2, 3, 0, 1] rfl
          have hD := hD.sub (ws' := [(h0, .inr (10, [.ref tby, .int (nI kt), .ref tln, .ref tsp, .int kd13273, .int (nI ks13274), .int (nI kn13275), .int vtf])), (tby, .inl (G.2.1, 240, .inl fby)), (tsp, .inr (8, [.int 120, .int 1, .ref tspc, .int (nI ksp)])), (tspc, .inl (G.2.1, 120, .inl ftsp))]) [2, 3, 0, 1] (by decide) rfl
          exact ihP (kP + 1) 1 kd13273 vtf ks13274 kn13275 _ _ _ (by omega) (by first | assumption | exact Or.inl rfl | exact Or.inr rfl | omega) (by first | assumption | exact Or.inl rfl | exact Or.inr rfl | omega) hP hD hS (lv_sub hl [0, 1, 2, 3] rfl)
      · refine lv_if_eq (tgt := 40) hx hb dX10_takesOne_17 (by decide) (fun _ => ?_) (fun c9 => absurd (by decide) c9)
        refine lv_aload_n hx hb dX10_takesOne_40 rfl (lv_at hl 2 rfl) ?_
        refine gf_X10_31 hC rfl hK hP 0 rfl rfl dX10_takesOne_41 ?_
        refine lv_bipush (v := 40) hx hb dX10_takesOne_44 (by decide) ?_
        refine lv_icmp_eq (tgt := 58) hx hb dX10_takesOne_46 (by decide) (fun c_46_3278 => ?_) (fun c_46_3278 => ?_)
        · refine lv_iload_n hx hb dX10_takesOne_58 rfl (lv_at hl 3 rfl) ?_
          refine lv_iconst (v := 4) hx hb dX10_takesOne_59 (by decide) ?_
          refine lv_icmp_lt (tgt := 68) hx hb dX10_takesOne_60 (by decide) (fun _ => ?_) (fun c9 => absurd (by decide) c9)
          refine lv_aload_n hx hb dX10_takesOne_68 rfl (lv_at hl 2 rfl) ?_
          refine vV (wr := [(tsp, .inr (8, [.int 120, .int 1, .ref tspc, .int (nI ksp)])), (tspc, .inl (G.2.1, 120, .inl ftsp))]) hC hK hl hP hD hS hA (t_advance l G h0 tby kt tln tsp vkd vks vkn vtf fby (by omega) (by omega) (by omega)) si_X10_47 [0, 1] [2, 3] rfl rfl (by decide) rfl (by decide) (by decide) rfl rfl rfl rfl rfl (Nat.le_of_ble_eq_true rfl) ⟨Nat.le_of_ble_eq_true rfl, Nat.le_of_ble_eq_true rfl⟩ ⟨Nat.le_of_ble_eq_true rfl, Nat.le_of_ble_eq_true rfl⟩ dX10_takesOne_69 (fun u3280 H locs hr3279 hP hD hS => ?_)
          obtain ⟨kd13281, ks13282, kn13283⟩ := u3280
          try dsimp only at hr3279
          have hP : va_P G.1 vwCl [(tsp, .inr (8, [.int 120, .int 1, .ref tspc, .int (nI ksp)])), (tspc, .inl (G.2.1, 120, .inl ftsp)), (h0, .inr (10, [.ref tby, .int (nI kt), .ref tln, .ref tsp, .int kd13281, .int (nI ks13282), .int (nI kn13283), .int vtf])), (tby, .inl (G.2.1, 240, .inl fby))] H := hP
          have hD : va_D A [(tsp, .inr (8, [.int 120, .int 1, .ref tspc, .int (nI ksp)])), (tspc, .inl (G.2.1, 120, .inl ftsp)), (h0, .inr (10, [.ref tby, .int (nI kt), .ref tln, .ref tsp, .int kd13281, .int (nI ks13282), .int (nI kn13283), .int vtf])), (tby, .inl (G.2.1, 240, .inl fby))] := hD
          have w3284 := hr3279
          refine lv_aload_n hx hb dX10_takesOne_72 rfl (lv_at hl 2 rfl) ?_
          refine lv_iload_n hx hb dX10_takesOne_73 rfl (lv_at hl 3 rfl) ?_
          refine lv_iconst (v := 1) hx hb dX10_takesOne_74 (by decide) ?_
          refine lv_iadd hx hb dX10_takesOne_75 ?_
          refine eqi (x1 := 2) (by decide) ?_
          refine iVo (wr := []) hO hC hK hl hP hD hS hA (t_cond2 l G K h0 tby kt tln tsp kd13281 ks13282 kn13283 vtf fby tspc ksp ftsp (by omega) (by omega) (by omega) (by omega)) si_X10_121 [2, 3, 0, 1] [] rfl rfl (by decide) rfl (by decide) (by decide) rfl rfl rfl rfl rfl (Nat.le_of_ble_eq_true rfl) ⟨Nat.le_of_ble_eq_true rfl, Nat.le_of_ble_eq_true rfl⟩ ⟨Nat.le_of_ble_eq_true rfl, Nat.le_of_ble_eq_true rfl⟩ dX10_takesOne_76 (fun r3285 u3286 H locs hr3285 hP hD hS => ?_)
          obtain ⟨kd13287, ks13288, kn13289, tf13290, ksp13291, gtsp3292⟩ := u3286
          try dsimp only at hr3285
          have hP : va_P G.1 vwCl [(h0, .inr (10, [.ref tby, .int (nI kt), .ref tln, .ref tsp, .int kd13287, .int (nI ks13288), .int (nI kn13289), .int tf13290])), (tby, .inl (G.2.1, 240, .inl fby)), (tsp, .inr (8, [.int 120, .int 1, .ref tspc, .int (nI ksp13291)])), (tspc, .inl (G.2.1, 120, .inl gtsp3292))] H := hP
          have hD : va_D A [(h0, .inr (10, [.ref tby, .int (nI kt), .ref tln, .ref tsp, .int kd13287, .int (nI ks13288), .int (nI kn13289), .int tf13290])), (tby, .inl (G.2.1, 240, .inl fby)), (tsp, .inr (8, [.int 120, .int 1, .ref tspc, .int (nI ksp13291)])), (tspc, .inl (G.2.1, 120, .inl gtsp3292))] := hD
          obtain ⟨hr3285, w3293⟩ := hr3285
          rcases hr3285 with rfl | rfl
          · refine lv_if_eq (tgt := 91) hx hb dX10_takesOne_79 (by decide) (fun c9 => absurd c9 (by decide)) (fun _ => ?_)
            refine lv_aload_n hx hb dX10_takesOne_82 rfl (lv_at hl 2 rfl) ?_
            refine lv_bipush (v := 41) hx hb dX10_takesOne_83 (by decide) ?_
            refine iV (wr := [(tsp, .inr (8, [.int 120, .int 1, .ref tspc, .int (nI ksp13291)])), (tspc, .inl (G.2.1, 120, .inl gtsp3292))]) hC hK hl hP hD hS hA (t_takesByte l G h0 41 tby kt tln tsp kd13287 ks13288 kn13289 tf13290 fby (by omega) (by omega) (by omega)) si_X10_124 [0, 1] [2, 3] rfl rfl (by decide) rfl (by decide) (by decide) rfl rfl rfl rfl rfl (Nat.le_of_ble_eq_true rfl) ⟨Nat.le_of_ble_eq_true rfl, Nat.le_of_ble_eq_true rfl⟩ ⟨Nat.le_of_ble_eq_true rfl, Nat.le_of_ble_eq_true rfl⟩ dX10_takesOne_85 (fun r3295 u3296 H locs hr3295 hP hD hS => ?_)
            obtain ⟨kd13297, ks13298, kn13299, tf13300⟩ := u3296
            try dsimp only at hr3295
            have hP : va_P G.1 vwCl [(tsp, .inr (8, [.int 120, .int 1, .ref tspc, .int (nI ksp13291)])), (tspc, .inl (G.2.1, 120, .inl gtsp3292)), (h0, .inr (10, [.ref tby, .int (nI kt), .ref tln, .ref tsp, .int kd13297, .int (nI ks13298), .int (nI kn13299), .int tf13300])), (tby, .inl (G.2.1, 240, .inl fby))] H := hP
            have hD : va_D A [(tsp, .inr (8, [.int 120, .int 1, .ref tspc, .int (nI ksp13291)])), (tspc, .inl (G.2.1, 120, .inl gtsp3292)), (h0, .inr (10, [.ref tby, .int (nI kt), .ref tln, .ref tsp, .int kd13297, .int (nI ks13298), .int (nI kn13299), .int tf13300])), (tby, .inl (G.2.1, 240, .inl fby))] := hD
            obtain ⟨hr3295, w3301⟩ := hr3295
            rcases hr3295 with rfl | rfl
            · refine lv_if_ne (tgt := 93) hx hb dX10_takesOne_88 (by decide) (fun _ => ?_) (fun c9 => absurd c9 (by decide))
              refine lv_iload_n hx hb dX10_takesOne_93 rfl (lv_at hl 1 rfl) ?_
              refine lv_if_eq (tgt := 102) hx hb dX10_takesOne_94 (by decide) (fun c_94_3303 => ?_) (fun c_94_3303 => ?_)
              · refine lv_iconst (v := 1) hx hb dX10_takesOne_102 (by decide) ?_
                exact RI (v := 1) hC hP hD hS [2, 3, 0, 1] (kd13297, ks13298, kn13299, tf13300, ksp13291, gtsp3292) rfl rfl (by decide) (⟨Or.inl (rfl), by dsimp only; omega⟩) (by decide +kernel) dX10_takesOne_103
              · refine lv_aload_n hx hb dX10_takesOne_97 rfl (lv_at hl 2 rfl) ?_
                refine lv_iconst (v := (-1)) hx hb dX10_takesOne_98 (by decide) ?_
                refine vV (wr := [(tby, .inl (G.2.1, 240, .inl fby))]) hC hK hl hP hD hS hA (t_addStep l G h0 (-1) tby kt tln tsp kd13297 ks13298 kn13299 tf13300 tspc ksp13291 gtsp3292 (by omega)) si_X10_152 [2, 0, 1] [3] rfl rfl (by decide) rfl (by decide) (by decide) rfl rfl rfl rfl rfl (Nat.le_of_ble_eq_true rfl) ⟨Nat.le_of_ble_eq_true rfl, Nat.le_of_ble_eq_true rfl⟩ ⟨Nat.le_of_ble_eq_true rfl, Nat.le_of_ble_eq_true rfl⟩ dX10_takesOne_99 (fun u3305 H locs hr3304 hP hD hS => ?_)
                obtain ⟨ksp13306, gtsp3307⟩ := u3305
                try dsimp only at hr3304
                have hP : va_P G.1 vwCl [(tby, .inl (G.2.1, 240, .inl fby)), (h0, .inr (10, [.ref tby, .int (nI kt), .ref tln, .ref tsp, .int kd13297, .int (nI ks13298), .int (nI kn13299), .int tf13300])), (tsp, .inr (8, [.int 120, .int 1, .ref tspc, .int (nI ksp13306)])), (tspc, .inl (G.2.1, 120, .inl gtsp3307))] H := hP
                have hD : va_D A [(tby, .inl (G.2.1, 240, .inl fby)), (h0, .inr (10, [.ref tby, .int (nI kt), .ref tln, .ref tsp, .int kd13297, .int (nI ks13298), .int (nI kn13299), .int tf13300])), (tsp, .inr (8, [.int 120, .int 1, .ref tspc, .int (nI ksp13306)])), (tspc, .inl (G.2.1, 120, .inl gtsp3307))] := hD
                have w3308 := hr3304
                refine lv_iconst (v := 1) hx hb dX10_takesOne_102 (by decide) ?_
                exact RI (v := 1) hC hP hD hS [1, 0, 2, 3] (kd13297, ks13298, kn13299, tf13300, ksp13306, gtsp3307) rfl rfl (by decide) (⟨Or.inl (rfl), by dsimp only; omega⟩) (by decide +kernel) dX10_takesOne_103
            · refine lv_if_ne (tgt := 93) hx hb dX10_takesOne_88 (by decide) (fun c9 => absurd (by decide) c9) (fun _ => ?_)
              refine lv_iconst (v := 0) hx hb dX10_takesOne_91 (by decide) ?_
              exact RI (v := 0) hC hP hD hS [2, 3, 0, 1] (kd13297, ks13298, kn13299, tf13300, ksp13291, gtsp3292) rfl rfl (by decide) (⟨Or.inr (rfl), by dsimp only; omega⟩) (by decide +kernel) dX10_takesOne_92
          · refine lv_if_eq (tgt := 91) hx hb dX10_takesOne_79 (by decide) (fun _ => ?_) (fun c9 => absurd (by decide) c9)
            refine lv_iconst (v := 0) hx hb dX10_takesOne_91 (by decide) ?_
            exact RI (v := 0) hC hP hD hS [0, 1, 2, 3] (kd13287, ks13288, kn13289, tf13290, ksp13291, gtsp3292) rfl rfl (by decide) (⟨Or.inr (rfl), by dsimp only; omega⟩) (by decide +kernel) dX10_takesOne_92
        · refine lv_aload_n hx hb dX10_takesOne_49 rfl (lv_at hl 2 rfl) ?_
          refine iVo (wr := []) hO hC hK hl hP hD hS hA (t_takesComparison l G K h0 tby kt tln tsp vkd vks vkn vtf fby tspc ksp ftsp (by omega) (by omega) (by omega) (by omega)) si_X10_162 [0, 1, 2, 3] [] rfl rfl (by decide) rfl (by decide) (by decide) rfl rfl rfl rfl rfl (Nat.le_of_ble_eq_true rfl) ⟨Nat.le_of_ble_eq_true rfl, Nat.le_of_ble_eq_true rfl⟩ ⟨Nat.le_of_ble_eq_true rfl, Nat.le_of_ble_eq_true rfl⟩ dX10_takesOne_50 (fun r3309 u3310 H locs hr3309 hP hD hS => ?_)
          obtain ⟨kd13311, ks13312, kn13313, tf13314, ksp13315, gtsp3316⟩ := u3310
          try dsimp only at hr3309
          have hP : va_P G.1 vwCl [(h0, .inr (10, [.ref tby, .int (nI kt), .ref tln, .ref tsp, .int kd13311, .int (nI ks13312), .int (nI kn13313), .int tf13314])), (tby, .inl (G.2.1, 240, .inl fby)), (tsp, .inr (8, [.int 120, .int 1, .ref tspc, .int (nI ksp13315)])), (tspc, .inl (G.2.1, 120, .inl gtsp3316))] H := hP
          have hD : va_D A [(h0, .inr (10, [.ref tby, .int (nI kt), .ref tln, .ref tsp, .int kd13311, .int (nI ks13312), .int (nI kn13313), .int tf13314])), (tby, .inl (G.2.1, 240, .inl fby)), (tsp, .inr (8, [.int 120, .int 1, .ref tspc, .int (nI ksp13315)])), (tspc, .inl (G.2.1, 120, .inl gtsp3316))] := hD
          obtain ⟨hr3309, w3317⟩ := hr3309
          rcases hr3309 with rfl | rfl
          · refine lv_if_ne (tgt := 93) hx hb dX10_takesOne_53 (by decide) (fun _ => ?_) (fun c9 => absurd c9 (by decide))
            refine lv_iload_n hx hb dX10_takesOne_93 rfl (lv_at hl 1 rfl) ?_
            refine lv_if_eq (tgt := 102) hx hb dX10_takesOne_94 (by decide) (fun c_94_3319 => ?_) (fun c_94_3319 => ?_)
            · refine lv_iconst (v := 1) hx hb dX10_takesOne_102 (by decide) ?_
              exact RI (v := 1) hC hP hD hS [0, 1, 2, 3] (kd13311, ks13312, kn13313, tf13314, ksp13315, gtsp3316) rfl rfl (by decide) (⟨Or.inl (rfl), by dsimp only; omega⟩) (by decide +kernel) dX10_takesOne_103
            · refine lv_aload_n hx hb dX10_takesOne_97 rfl (lv_at hl 2 rfl) ?_
              refine lv_iconst (v := (-1)) hx hb dX10_takesOne_98 (by decide) ?_
              refine vV (wr := [(tby, .inl (G.2.1, 240, .inl fby))]) hC hK hl hP hD hS hA (t_addStep l G h0 (-1) tby kt tln tsp kd13311 ks13312 kn13313 tf13314 tspc ksp13315 gtsp3316 (by omega)) si_X10_152 [0, 2, 3] [1] rfl rfl (by decide) rfl (by decide) (by decide) rfl rfl rfl rfl rfl (Nat.le_of_ble_eq_true rfl) ⟨Nat.le_of_ble_eq_true rfl, Nat.le_of_ble_eq_true rfl⟩ ⟨Nat.le_of_ble_eq_true rfl, Nat.le_of_ble_eq_true rfl⟩ dX10_takesOne_99 (fun u3321 H locs hr3320 hP hD hS => ?_)
              obtain ⟨ksp13322, gtsp3323⟩ := u3321
              try dsimp only at hr3320
              have hP : va_P G.1 vwCl [(tby, .inl (G.2.1, 240, .inl fby)), (h0, .inr (10, [.ref tby, .int (nI kt), .ref tln, .ref tsp, .int kd13311, .int (nI ks13312), .int (nI kn13313), .int tf13314])), (tsp, .inr (8, [.int 120, .int 1, .ref tspc, .int (nI ksp13322)])), (tspc, .inl (G.2.1, 120, .inl gtsp3323))] H := hP
              have hD : va_D A [(tby, .inl (G.2.1, 240, .inl fby)), (h0, .inr (10, [.ref tby, .int (nI kt), .ref tln, .ref tsp, .int kd13311, .int (nI ks13312), .int (nI kn13313), .int tf13314])), (tsp, .inr (8, [.int 120, .int 1, .ref tspc, .int (nI ksp13322)])), (tspc, .inl (G.2.1, 120, .inl gtsp3323))] := hD
              have w3324 := hr3320
              refine lv_iconst (v := 1) hx hb dX10_takesOne_102 (by decide) ?_
              exact RI (v := 1) hC hP hD hS [1, 0, 2, 3] (kd13311, ks13312, kn13313, tf13314, ksp13322, gtsp3323) rfl rfl (by decide) (⟨Or.inl (rfl), by dsimp only; omega⟩) (by decide +kernel) dX10_takesOne_103
          · refine lv_if_ne (tgt := 93) hx hb dX10_takesOne_53 (by decide) (fun c9 => absurd (by decide) c9) (fun _ => ?_)
            refine lv_iconst (v := 0) hx hb dX10_takesOne_56 (by decide) ?_
            exact RI (v := 0) hC hP hD hS [0, 1, 2, 3] (kd13311, ks13312, kn13313, tf13314, ksp13315, gtsp3316) rfl rfl (by decide) (⟨Or.inr (rfl), by dsimp only; omega⟩) (by decide +kernel) dX10_takesOne_57
  exact keyP 240 0 0 tkd tf9 ks kn _ _ _ (by omega) (by first | assumption | exact Or.inl rfl | exact Or.inr rfl | omega) (by first | assumption | exact Or.inl rfl | exact Or.inr rfl | omega) hP hD hS (lv_sub hl [0, 1, 2, 3] rfl)
set_option maxHeartbeats 4000000 in
set_option maxRecDepth 100000 in
theorem t_all1 (l : Launch) (G : GG) (K : OO) (h0 : Nat) (tby : Nat) (kt : Nat) (tln : Nat) (tsp : Nat) (tkd : Int32) (ks : Nat) (kn : Nat) (tf9 : Int32) (fby : Nat → Int32) (tspc : Nat) (ksp : Nat) (ftsp : Nat → Int32) (hkt : kt ≤ 240) (hks : ks ≤ 240) (hkn : kn ≤ 240) (hksp : ksp ≤ 120) : MIo l G K yX10_takesAll cX10_takesAll 3 (some .boolean) 22 0 0 [.ref h0, .int 1] [(h0, .inr (10, [.ref tby, .int (nI kt), .ref tln, .ref tsp, .int tkd, .int (nI ks), .int (nI kn), .int tf9])), (tby, .inl (G.2.1, 240, .inl fby)), (tsp, .inr (8, [.int 120, .int 1, .ref tspc, .int (nI ksp)])), (tspc, .inl (G.2.1, 120, .inl ftsp))] (fun (r : Int32) (u : Int32 × Nat × Nat × Int32 × Nat × (Nat → Int32)) => (r = 1 ∨ r = 0) ∧ (u.2.1 ≤ 240 ∧ u.2.2.1 ≤ 240 ∧ u.2.2.2.2.1 ≤ 120)) (fun u : Int32 × Nat × Nat × Int32 × Nat × (Nat → Int32) => [(h0, .inr (10, [.ref tby, .int (nI kt), .ref tln, .ref tsp, .int u.1, .int (nI u.2.1), .int (nI u.2.2.1), .int u.2.2.2.1])), (tby, .inl (G.2.1, 240, .inl fby)), (tsp, .inr (8, [.int 120, .int 1, .ref tspc, .int (nI u.2.2.2.2.1)])), (tspc, .inl (G.2.1, 120, .inl u.2.2.2.2.2))]) := by
  refine MIo.start (by decide +kernel) (Nat.le_of_ble_eq_true rfl) ?_
  intro p e s m below meth c A ls hC hK hP hD hS hA hl hO
  have hl : lv_has ls 3 [(0, .ref h0), (1, .int 1)] := hl
  obtain ⟨hx, hb, hr, hml, hB, hown, hlocks, hnm⟩ := id hC
  refine lv_aload_n hx hb dX10_takesAll_0 rfl (lv_at hl 0 rfl) ?_
  refine lv_iload_n hx hb dX10_takesAll_1 rfl (lv_at hl 1 rfl) ?_
  refine iVo (wr := []) hO hC hK hl hP hD hS hA (t_one1 l G K h0 tby kt tln tsp tkd ks kn tf9 fby tspc ksp ftsp (by omega) (by omega) (by omega) (by omega)) si_X10_155 [0, 1, 2, 3] [] rfl rfl (by decide) rfl (by decide) (by decide) rfl rfl rfl rfl rfl (Nat.le_of_ble_eq_true rfl) ⟨Nat.le_of_ble_eq_true rfl, Nat.le_of_ble_eq_true rfl⟩ ⟨Nat.le_of_ble_eq_true rfl, Nat.le_of_ble_eq_true rfl⟩ dX10_takesAll_2 (fun r3325 u3326 H locs hr3325 hP hD hS => ?_)
  obtain ⟨kd13327, ks13328, kn13329, tf13330, ksp13331, gtsp3332⟩ := u3326
  try dsimp only at hr3325
  have hP : va_P G.1 vwCl [(h0, .inr (10, [.ref tby, .int (nI kt), .ref tln, .ref tsp, .int kd13327, .int (nI ks13328), .int (nI kn13329), .int tf13330])), (tby, .inl (G.2.1, 240, .inl fby)), (tsp, .inr (8, [.int 120, .int 1, .ref tspc, .int (nI ksp13331)])), (tspc, .inl (G.2.1, 120, .inl gtsp3332))] H := hP
  have hD : va_D A [(h0, .inr (10, [.ref tby, .int (nI kt), .ref tln, .ref tsp, .int kd13327, .int (nI ks13328), .int (nI kn13329), .int tf13330])), (tby, .inl (G.2.1, 240, .inl fby)), (tsp, .inr (8, [.int 120, .int 1, .ref tspc, .int (nI ksp13331)])), (tspc, .inl (G.2.1, 120, .inl gtsp3332))] := hD
  obtain ⟨hr3325, w3333⟩ := hr3325
  rcases hr3325 with rfl | rfl
  · refine lv_if_ne (tgt := 10) hx hb dX10_takesAll_5 (by decide) (fun _ => ?_) (fun c9 => absurd c9 (by decide))
    refine lv_iconst (v := 0) hx hb dX10_takesAll_10 (by decide) ?_
    refine lv_istore_n (lv' := [(2, .int 0), (0, .ref h0), (1, .int 1)]) hx hb dX10_takesAll_11 rfl hl (by decide) rfl (fun ls hl => ?_)
    have keyP : ∀ (nP kP : Nat) (vkd : Int32) (vtf : Int32) (vtsp : Nat → Int32) (vks : Nat) (vkn : Nat) (vksp : Nat) (H : Heap) (locs : List Loc) (ls : Array Slot), kP + nP = 240 → (vks ≤ 240) → (vkn ≤ 240) → (vksp ≤ 120) → va_P G.1 vwCl [(h0, .inr (10, [.ref tby, .int (nI kt), .ref tln, .ref tsp, .int vkd, .int (nI vks), .int (nI vkn), .int vtf])), (tby, .inl (G.2.1, 240, .inl fby)), (tsp, .inr (8, [.int 120, .int 1, .ref tspc, .int (nI vksp)])), (tspc, .inl (G.2.1, 120, .inl vtsp))] H → va_D A [(h0, .inr (10, [.ref tby, .int (nI kt), .ref tln, .ref tsp, .int vkd, .int (nI vks), .int (nI vkn), .int vtf])), (tby, .inl (G.2.1, 240, .inl fby)), (tsp, .inr (8, [.int 120, .int 1, .ref tspc, .int (nI vksp)])), (tspc, .inl (G.2.1, 120, .inl vtsp))] → va_S A s.heap H locs → lv_has ls 3 [(2, .int (nI kP)), (0, .ref h0), (1, .int 1)] → W p l e (RM 22 0 0) s m ([.ref h0, .int 1] : List Value).toArray below meth c H locs 0 0 (MQ below (QI G (fun (r : Int32) (u : Int32 × Nat × Nat × Int32 × Nat × (Nat → Int32)) => (r = 1 ∨ r = 0) ∧ (u.2.1 ≤ 240 ∧ u.2.2.1 ≤ 240 ∧ u.2.2.2.2.1 ≤ 120)) (fun u : Int32 × Nat × Nat × Int32 × Nat × (Nat → Int32) => [(h0, .inr (10, [.ref tby, .int (nI kt), .ref tln, .ref tsp, .int u.1, .int (nI u.2.1), .int (nI u.2.2.1), .int u.2.2.2.1])), (tby, .inl (G.2.1, 240, .inl fby)), (tsp, .inr (8, [.int 120, .int 1, .ref tspc, .int (nI u.2.2.2.2.1)])), (tspc, .inl (G.2.1, 120, .inl u.2.2.2.2.2))]) A) ([.ref h0, .int 1] : List Value).toArray s 0 0 A) (F0 m 12 ls []) := by
      intro nP
      induction nP with
      | zero =>
        intro kP vkd vtf vtsp vks vkn vksp H locs ls hkP hvks hvkn hvksp hP hD hS hl
        obtain rfl : 240 = kP := by omega
        have hl : lv_has ls 3 [(2, .int 240), (0, .ref h0), (1, .int 1)] := hl
        refine lv_iload_n hx hb dX10_takesAll_12 rfl (lv_at hl 0 rfl) ?_
        refine lv_sipush (v := 240) hx hb dX10_takesAll_13 (by decide) ?_
        refine lv_icmp_ge (tgt := 54) hx hb dX10_takesAll_16 (by decide) (fun _ => ?_) (fun c9 => absurd (by decide) c9)
        refine lv_iconst (v := 1) hx hb dX10_takesAll_54 (by decide) ?_
        exact RI (v := 1) hC hP hD hS [0, 1, 2, 3] (vkd, vks, vkn, vtf, vksp, vtsp) rfl rfl (by decide) (⟨Or.inl (rfl), by dsimp only; omega⟩) (by decide +kernel) dX10_takesAll_55
      | succ nP ihP =>
        intro kP vkd vtf vtsp vks vkn vksp H locs ls hkP hvks hvkn hvksp hP hD hS hl
        refine lv_iload_n hx hb dX10_takesAll_12 rfl (lv_at hl 0 rfl) ?_
        refine lv_sipush (v := 240) hx hb dX10_takesAll_13 (by decide) ?_
        refine lv_icmp_ge (tgt := 54) hx hb dX10_takesAll_16 (by decide) (fun c9 => absurd c9 (nI_ge (a := kP) (b := 240) (by omega) (by omega))) (fun _ => ?_)
        refine lv_aload_n hx hb dX10_takesAll_19 rfl (lv_at hl 1 rfl) ?_
        refine va_ldcS (index := 158) (tx := "and") hx hb hown (hO.2.1 9 (by decide)) dX10_takesAll_20 ?_
        refine pVo hO hS hC hK hl hP hD (t_isName l G K 9 h0 tby kt tln tsp vkd vks vkn vtf fby (by omega) (by omega) (by omega) ((by decide))) si_X10_102 [0, 1] rfl rfl (by decide) rfl rfl rfl rfl rfl (Nat.le_of_ble_eq_true rfl) ⟨Nat.le_of_ble_eq_true rfl, Nat.le_of_ble_eq_true rfl⟩ ⟨by first | exact Nat.le_of_ble_eq_true rfl | exact Nat.zero_le _, by first | exact Nat.le_of_ble_eq_true rfl | exact Nat.zero_le _⟩ dX10_takesAll_22 (fun r3335 hr3335 => ?_)
        rcases hr3335 with rfl | rfl
        · refine lv_if_eq (tgt := 54) hx hb dX10_takesAll_25 (by decide) (fun c9 => absurd c9 (by decide)) (fun _ => ?_)
          refine lv_aload_n hx hb dX10_takesAll_28 rfl (lv_at hl 1 rfl) ?_
          refine vV (wr := [(tsp, .inr (8, [.int 120, .int 1, .ref tspc, .int (nI vksp)])), (tspc, .inl (G.2.1, 120, .inl vtsp))]) hC hK hl hP hD hS hA (t_advance l G h0 tby kt tln tsp vkd vks vkn vtf fby (by omega) (by omega) (by omega)) si_X10_47 [0, 1] [2, 3] rfl rfl (by decide) rfl (by decide) (by decide) rfl rfl rfl rfl rfl (Nat.le_of_ble_eq_true rfl) ⟨Nat.le_of_ble_eq_true rfl, Nat.le_of_ble_eq_true rfl⟩ ⟨Nat.le_of_ble_eq_true rfl, Nat.le_of_ble_eq_true rfl⟩ dX10_takesAll_29 (fun u3338 H locs hr3337 hP hD hS => ?_)
          obtain ⟨kd13339, ks13340, kn13341⟩ := u3338
          try dsimp only at hr3337
          have hP : va_P G.1 vwCl [(tsp, .inr (8, [.int 120, .int 1, .ref tspc, .int (nI vksp)])), (tspc, .inl (G.2.1, 120, .inl vtsp)), (h0, .inr (10, [.ref tby, .int (nI kt), .ref tln, .ref tsp, .int kd13339, .int (nI ks13340), .int (nI kn13341), .int vtf])), (tby, .inl (G.2.1, 240, .inl fby))] H := hP
          have hD : va_D A [(tsp, .inr (8, [.int 120, .int 1, .ref tspc, .int (nI vksp)])), (tspc, .inl (G.2.1, 120, .inl vtsp)), (h0, .inr (10, [.ref tby, .int (nI kt), .ref tln, .ref tsp, .int kd13339, .int (nI ks13340), .int (nI kn13341), .int vtf])), (tby, .inl (G.2.1, 240, .inl fby))] := hD
          have w3342 := hr3337
          refine lv_aload_n hx hb dX10_takesAll_32 rfl (lv_at hl 1 rfl) ?_
          refine lv_iload_n hx hb dX10_takesAll_33 rfl (lv_at hl 2 rfl) ?_
          refine iVo (wr := []) hO hC hK hl hP hD hS hA (t_one1 l G K h0 tby kt tln tsp kd13339 ks13340 kn13341 vtf fby tspc vksp vtsp (by omega) (by omega) (by omega) (by omega)) si_X10_155 [2, 3, 0, 1] [] rfl rfl (by decide) rfl (by decide) (by decide) rfl rfl rfl rfl rfl (Nat.le_of_ble_eq_true rfl) ⟨Nat.le_of_ble_eq_true rfl, Nat.le_of_ble_eq_true rfl⟩ ⟨Nat.le_of_ble_eq_true rfl, Nat.le_of_ble_eq_true rfl⟩ dX10_takesAll_34 (fun r3343 u3344 H locs hr3343 hP hD hS => ?_)
          obtain ⟨kd13345, ks13346, kn13347, tf13348, ksp13349, gtsp3350⟩ := u3344
          try dsimp only at hr3343
          have hP : va_P G.1 vwCl [(h0, .inr (10, [.ref tby, .int (nI kt), .ref tln, .ref tsp, .int kd13345, .int (nI ks13346), .int (nI kn13347), .int tf13348])), (tby, .inl (G.2.1, 240, .inl fby)), (tsp, .inr (8, [.int 120, .int 1, .ref tspc, .int (nI ksp13349)])), (tspc, .inl (G.2.1, 120, .inl gtsp3350))] H := hP
          have hD : va_D A [(h0, .inr (10, [.ref tby, .int (nI kt), .ref tln, .ref tsp, .int kd13345, .int (nI ks13346), .int (nI kn13347), .int tf13348])), (tby, .inl (G.2.1, 240, .inl fby)), (tsp, .inr (8, [.int 120, .int 1, .ref tspc, .int (nI ksp13349)])), (tspc, .inl (G.2.1, 120, .inl gtsp3350))] := hD
          obtain ⟨hr3343, w3351⟩ := hr3343
          rcases hr3343 with rfl | rfl
          · refine lv_if_ne (tgt := 42) hx hb dX10_takesAll_37 (by decide) (fun _ => ?_) (fun c9 => absurd c9 (by decide))
            refine lv_aload_n hx hb dX10_takesAll_42 rfl (lv_at hl 1 rfl) ?_
            refine lv_bipush (v := (-2)) hx hb dX10_takesAll_43 (by decide) ?_
            refine vV (wr := [(tby, .inl (G.2.1, 240, .inl fby))]) hC hK hl hP hD hS hA (t_addStep l G h0 (-2) tby kt tln tsp kd13345 ks13346 kn13347 tf13348 tspc ksp13349 gtsp3350 (by omega)) si_X10_152 [0, 2, 3] [1] rfl rfl (by decide) rfl (by decide) (by decide) rfl rfl rfl rfl rfl (Nat.le_of_ble_eq_true rfl) ⟨Nat.le_of_ble_eq_true rfl, Nat.le_of_ble_eq_true rfl⟩ ⟨Nat.le_of_ble_eq_true rfl, Nat.le_of_ble_eq_true rfl⟩ dX10_takesAll_45 (fun u3354 H locs hr3353 hP hD hS => ?_)
            obtain ⟨ksp13355, gtsp3356⟩ := u3354
            try dsimp only at hr3353
            have hP : va_P G.1 vwCl [(tby, .inl (G.2.1, 240, .inl fby)), (h0, .inr (10, [.ref tby, .int (nI kt), .ref tln, .ref tsp, .int kd13345, .int (nI ks13346), .int (nI kn13347), .int tf13348])), (tsp, .inr (8, [.int 120, .int 1, .ref tspc, .int (nI ksp13355)])), (tspc, .inl (G.2.1, 120, .inl gtsp3356))] H := hP
            have hD : va_D A [(tby, .inl (G.2.1, 240, .inl fby)), (h0, .inr (10, [.ref tby, .int (nI kt), .ref tln, .ref tsp, .int kd13345, .int (nI ks13346), .int (nI kn13347), .int tf13348])), (tsp, .inr (8, [.int 120, .int 1, .ref tspc, .int (nI ksp13355)])), (tspc, .inl (G.2.1, 120, .inl gtsp3356))] := hD
            have w3357 := hr3353
            refine lv_iinc (v := nI (kP + 1)) (lv' := [(2, .int (nI (kP + 1))), (0, .ref h0), (1, .int 1)]) hx hb dX10_takesAll_48 hl (k := 0) rfl (nI_1 _) (by decide) rfl (fun ls hl => ?_)
            refine lv_goto (tgt := 12) hx hb dX10_takesAll_51 (by decide) ?_
            have hP := hP.sub (ws' := [(h0, .inr (10, [.ref tby, .int (nI kt), .ref tln, .ref tsp, .int kd13345, .int (nI ks13346), .int (nI kn13347), .int tf13348])), (tby, .inl (G.2.1, 240, .inl fby)), (tsp, .inr (8, [.int 120, .int 1, .ref tspc, .int (nI ksp13355)])), (tspc, .inl (G.2.1, 120, .inl gtsp3356))]) [1, 0, 2, 3] rfl
            have hD := hD.sub (ws' := [(h0, .inr (10, [.ref tby, .int (nI kt), .ref tln, .ref tsp, .int kd13345, .int (nI ks13346), .int (nI kn13347), .int tf13348])), (tby, .inl (G.2.1, 240, .inl fby)), (tsp, .inr (8, [.int 120, .int 1, .ref tspc, .int (nI ksp13355)])), (tspc, .inl (G.2.1, 120, .inl gtsp3356))]) [1, 0, 2, 3] (by decide) rfl
            exact ihP (kP + 1) kd13345 tf13348 gtsp3356 ks13346 kn13347 ksp13355 _ _ _ (by omega) (by first | assumption | exact Or.inl rfl | exact Or.inr rfl | omega) (by first | assumption | exact Or.inl rfl | exact Or.inr rfl | omega) (by first | assumption | exact Or.inl rfl | exact Or.inr rfl | omega) hP hD hS (lv_sub hl [0, 1, 2] rfl)
          · refine lv_if_ne (tgt := 42) hx hb dX10_takesAll_37 (by decide) (fun c9 => absurd (by decide) c9) (fun _ => ?_)
            refine lv_iconst (v := 0) hx hb dX10_takesAll_40 (by decide) ?_
            exact RI (v := 0) hC hP hD hS [0, 1, 2, 3] (kd13345, ks13346, kn13347, tf13348, ksp13349, gtsp3350) rfl rfl (by decide) (⟨Or.inr (rfl), by dsimp only; omega⟩) (by decide +kernel) dX10_takesAll_41
        · refine lv_if_eq (tgt := 54) hx hb dX10_takesAll_25 (by decide) (fun _ => ?_) (fun c9 => absurd (by decide) c9)
          refine lv_iconst (v := 1) hx hb dX10_takesAll_54 (by decide) ?_
          exact RI (v := 1) hC hP hD hS [0, 1, 2, 3] (vkd, vks, vkn, vtf, vksp, vtsp) rfl rfl (by decide) (⟨Or.inl (rfl), by dsimp only; omega⟩) (by decide +kernel) dX10_takesAll_55
    exact keyP 240 0 kd13327 tf13330 gtsp3332 ks13328 kn13329 ksp13331 _ _ _ (by omega) (by first | assumption | exact Or.inl rfl | exact Or.inr rfl | omega) (by first | assumption | exact Or.inl rfl | exact Or.inr rfl | omega) (by first | assumption | exact Or.inl rfl | exact Or.inr rfl | omega) hP hD hS (lv_sub hl [0, 1, 2] rfl)
  · refine lv_if_ne (tgt := 10) hx hb dX10_takesAll_5 (by decide) (fun c9 => absurd (by decide) c9) (fun _ => ?_)
    refine lv_iconst (v := 0) hx hb dX10_takesAll_8 (by decide) ?_
    exact RI (v := 0) hC hP hD hS [0, 1, 2, 3] (kd13327, ks13328, kn13329, tf13330, ksp13331, gtsp3332) rfl rfl (by decide) (⟨Or.inr (rfl), by dsimp only; omega⟩) (by decide +kernel) dX10_takesAll_9
set_option maxHeartbeats 4000000 in
set_option maxRecDepth 100000 in
theorem t_cond1 (l : Launch) (G : GG) (K : OO) (h0 : Nat) (tby : Nat) (kt : Nat) (tln : Nat) (tsp : Nat) (tkd : Int32) (ks : Nat) (kn : Nat) (tf9 : Int32) (fby : Nat → Int32) (tspc : Nat) (ksp : Nat) (ftsp : Nat → Int32) (hkt : kt ≤ 240) (hks : ks ≤ 240) (hkn : kn ≤ 240) (hksp : ksp ≤ 120) : MIo l G K yX10_takesCond cX10_takesCond 3 (some .boolean) 23 0 0 [.ref h0, .int 1] [(h0, .inr (10, [.ref tby, .int (nI kt), .ref tln, .ref tsp, .int tkd, .int (nI ks), .int (nI kn), .int tf9])), (tby, .inl (G.2.1, 240, .inl fby)), (tsp, .inr (8, [.int 120, .int 1, .ref tspc, .int (nI ksp)])), (tspc, .inl (G.2.1, 120, .inl ftsp))] (fun (r : Int32) (u : Int32 × Nat × Nat × Int32 × Nat × (Nat → Int32)) => (r = 1 ∨ r = 0) ∧ (u.2.1 ≤ 240 ∧ u.2.2.1 ≤ 240 ∧ u.2.2.2.2.1 ≤ 120)) (fun u : Int32 × Nat × Nat × Int32 × Nat × (Nat → Int32) => [(h0, .inr (10, [.ref tby, .int (nI kt), .ref tln, .ref tsp, .int u.1, .int (nI u.2.1), .int (nI u.2.2.1), .int u.2.2.2.1])), (tby, .inl (G.2.1, 240, .inl fby)), (tsp, .inr (8, [.int 120, .int 1, .ref tspc, .int (nI u.2.2.2.2.1)])), (tspc, .inl (G.2.1, 120, .inl u.2.2.2.2.2))]) := by
  refine MIo.start (by decide +kernel) (Nat.le_of_ble_eq_true rfl) ?_
  intro p e s m below meth c A ls hC hK hP hD hS hA hl hO
  have hl : lv_has ls 3 [(0, .ref h0), (1, .int 1)] := hl
  obtain ⟨hx, hb, hr, hml, hB, hown, hlocks, hnm⟩ := id hC
  refine lv_aload_n hx hb dX10_takesCond_0 rfl (lv_at hl 0 rfl) ?_
  refine lv_iload_n hx hb dX10_takesCond_1 rfl (lv_at hl 1 rfl) ?_
  refine iVo (wr := []) hO hC hK hl hP hD hS hA (t_all1 l G K h0 tby kt tln tsp tkd ks kn tf9 fby tspc ksp ftsp (by omega) (by omega) (by omega) (by omega)) si_X10_147 [0, 1, 2, 3] [] rfl rfl (by decide) rfl (by decide) (by decide) rfl rfl rfl rfl rfl (Nat.le_of_ble_eq_true rfl) ⟨Nat.le_of_ble_eq_true rfl, Nat.le_of_ble_eq_true rfl⟩ ⟨Nat.le_of_ble_eq_true rfl, Nat.le_of_ble_eq_true rfl⟩ dX10_takesCond_2 (fun r3358 u3359 H locs hr3358 hP hD hS => ?_)
  obtain ⟨kd13360, ks13361, kn13362, tf13363, ksp13364, gtsp3365⟩ := u3359
  try dsimp only at hr3358
  have hP : va_P G.1 vwCl [(h0, .inr (10, [.ref tby, .int (nI kt), .ref tln, .ref tsp, .int kd13360, .int (nI ks13361), .int (nI kn13362), .int tf13363])), (tby, .inl (G.2.1, 240, .inl fby)), (tsp, .inr (8, [.int 120, .int 1, .ref tspc, .int (nI ksp13364)])), (tspc, .inl (G.2.1, 120, .inl gtsp3365))] H := hP
  have hD : va_D A [(h0, .inr (10, [.ref tby, .int (nI kt), .ref tln, .ref tsp, .int kd13360, .int (nI ks13361), .int (nI kn13362), .int tf13363])), (tby, .inl (G.2.1, 240, .inl fby)), (tsp, .inr (8, [.int 120, .int 1, .ref tspc, .int (nI ksp13364)])), (tspc, .inl (G.2.1, 120, .inl gtsp3365))] := hD
  obtain ⟨hr3358, w3366⟩ := hr3358
  rcases hr3358 with rfl | rfl
  · refine lv_if_ne (tgt := 10) hx hb dX10_takesCond_5 (by decide) (fun _ => ?_) (fun c9 => absurd c9 (by decide))
    refine lv_iconst (v := 0) hx hb dX10_takesCond_10 (by decide) ?_
    refine lv_istore_n (lv' := [(2, .int 0), (0, .ref h0), (1, .int 1)]) hx hb dX10_takesCond_11 rfl hl (by decide) rfl (fun ls hl => ?_)
    have keyP : ∀ (nP kP : Nat) (vkd : Int32) (vtf : Int32) (vtsp : Nat → Int32) (vks : Nat) (vkn : Nat) (vksp : Nat) (H : Heap) (locs : List Loc) (ls : Array Slot), kP + nP = 240 → (vks ≤ 240) → (vkn ≤ 240) → (vksp ≤ 120) → va_P G.1 vwCl [(h0, .inr (10, [.ref tby, .int (nI kt), .ref tln, .ref tsp, .int vkd, .int (nI vks), .int (nI vkn), .int vtf])), (tby, .inl (G.2.1, 240, .inl fby)), (tsp, .inr (8, [.int 120, .int 1, .ref tspc, .int (nI vksp)])), (tspc, .inl (G.2.1, 120, .inl vtsp))] H → va_D A [(h0, .inr (10, [.ref tby, .int (nI kt), .ref tln, .ref tsp, .int vkd, .int (nI vks), .int (nI vkn), .int vtf])), (tby, .inl (G.2.1, 240, .inl fby)), (tsp, .inr (8, [.int 120, .int 1, .ref tspc, .int (nI vksp)])), (tspc, .inl (G.2.1, 120, .inl vtsp))] → va_S A s.heap H locs → lv_has ls 3 [(2, .int (nI kP)), (0, .ref h0), (1, .int 1)] → W p l e (RM 23 0 0) s m ([.ref h0, .int 1] : List Value).toArray below meth c H locs 0 0 (MQ below (QI G (fun (r : Int32) (u : Int32 × Nat × Nat × Int32 × Nat × (Nat → Int32)) => (r = 1 ∨ r = 0) ∧ (u.2.1 ≤ 240 ∧ u.2.2.1 ≤ 240 ∧ u.2.2.2.2.1 ≤ 120)) (fun u : Int32 × Nat × Nat × Int32 × Nat × (Nat → Int32) => [(h0, .inr (10, [.ref tby, .int (nI kt), .ref tln, .ref tsp, .int u.1, .int (nI u.2.1), .int (nI u.2.2.1), .int u.2.2.2.1])), (tby, .inl (G.2.1, 240, .inl fby)), (tsp, .inr (8, [.int 120, .int 1, .ref tspc, .int (nI u.2.2.2.2.1)])), (tspc, .inl (G.2.1, 120, .inl u.2.2.2.2.2))]) A) ([.ref h0, .int 1] : List Value).toArray s 0 0 A) (F0 m 12 ls []) := by
      intro nP
      induction nP with
      | zero =>
        intro kP vkd vtf vtsp vks vkn vksp H locs ls hkP hvks hvkn hvksp hP hD hS hl
        obtain rfl : 240 = kP := by omega
        have hl : lv_has ls 3 [(2, .int 240), (0, .ref h0), (1, .int 1)] := hl
        refine lv_iload_n hx hb dX10_takesCond_12 rfl (lv_at hl 0 rfl) ?_
        refine lv_sipush (v := 240) hx hb dX10_takesCond_13 (by decide) ?_
        refine lv_icmp_ge (tgt := 54) hx hb dX10_takesCond_16 (by decide) (fun _ => ?_) (fun c9 => absurd (by decide) c9)
        refine lv_iconst (v := 1) hx hb dX10_takesCond_54 (by decide) ?_
        exact RI (v := 1) hC hP hD hS [0, 1, 2, 3] (vkd, vks, vkn, vtf, vksp, vtsp) rfl rfl (by decide) (⟨Or.inl (rfl), by dsimp only; omega⟩) (by decide +kernel) dX10_takesCond_55
      | succ nP ihP =>
        intro kP vkd vtf vtsp vks vkn vksp H locs ls hkP hvks hvkn hvksp hP hD hS hl
        refine lv_iload_n hx hb dX10_takesCond_12 rfl (lv_at hl 0 rfl) ?_
        refine lv_sipush (v := 240) hx hb dX10_takesCond_13 (by decide) ?_
        refine lv_icmp_ge (tgt := 54) hx hb dX10_takesCond_16 (by decide) (fun c9 => absurd c9 (nI_ge (a := kP) (b := 240) (by omega) (by omega))) (fun _ => ?_)
        refine lv_aload_n hx hb dX10_takesCond_19 rfl (lv_at hl 1 rfl) ?_
        refine va_ldcS (index := 150) (tx := "o\x72") hx hb hown (hO.2.1 8 (by decide)) dX10_takesCond_20 ?_
        refine pVo hO hS hC hK hl hP hD (t_isName l G K 8 h0 tby kt tln tsp vkd vks vkn vtf fby (by omega) (by omega) (by omega) ((by decide))) si_X10_102 [0, 1] rfl rfl (by decide) rfl rfl rfl rfl rfl (Nat.le_of_ble_eq_true rfl) ⟨Nat.le_of_ble_eq_true rfl, Nat.le_of_ble_eq_true rfl⟩ ⟨by first | exact Nat.le_of_ble_eq_true rfl | exact Nat.zero_le _, by first | exact Nat.le_of_ble_eq_true rfl | exact Nat.zero_le _⟩ dX10_takesCond_22 (fun r3368 hr3368 => ?_)
        rcases hr3368 with rfl | rfl
        · refine lv_if_eq (tgt := 54) hx hb dX10_takesCond_25 (by decide) (fun c9 => absurd c9 (by decide)) (fun _ => ?_)
          refine lv_aload_n hx hb dX10_takesCond_28 rfl (lv_at hl 1 rfl) ?_
          refine vV (wr := [(tsp, .inr (8, [.int 120, .int 1, .ref tspc, .int (nI vksp)])), (tspc, .inl (G.2.1, 120, .inl vtsp))]) hC hK hl hP hD hS hA (t_advance l G h0 tby kt tln tsp vkd vks vkn vtf fby (by omega) (by omega) (by omega)) si_X10_47 [0, 1] [2, 3] rfl rfl (by decide) rfl (by decide) (by decide) rfl rfl rfl rfl rfl (Nat.le_of_ble_eq_true rfl) ⟨Nat.le_of_ble_eq_true rfl, Nat.le_of_ble_eq_true rfl⟩ ⟨Nat.le_of_ble_eq_true rfl, Nat.le_of_ble_eq_true rfl⟩ dX10_takesCond_29 (fun u3371 H locs hr3370 hP hD hS => ?_)
          obtain ⟨kd13372, ks13373, kn13374⟩ := u3371
          try dsimp only at hr3370
          have hP : va_P G.1 vwCl [(tsp, .inr (8, [.int 120, .int 1, .ref tspc, .int (nI vksp)])), (tspc, .inl (G.2.1, 120, .inl vtsp)), (h0, .inr (10, [.ref tby, .int (nI kt), .ref tln, .ref tsp, .int kd13372, .int (nI ks13373), .int (nI kn13374), .int vtf])), (tby, .inl (G.2.1, 240, .inl fby))] H := hP
          have hD : va_D A [(tsp, .inr (8, [.int 120, .int 1, .ref tspc, .int (nI vksp)])), (tspc, .inl (G.2.1, 120, .inl vtsp)), (h0, .inr (10, [.ref tby, .int (nI kt), .ref tln, .ref tsp, .int kd13372, .int (nI ks13373), .int (nI kn13374), .int vtf])), (tby, .inl (G.2.1, 240, .inl fby))] := hD
          have w3375 := hr3370
          refine lv_aload_n hx hb dX10_takesCond_32 rfl (lv_at hl 1 rfl) ?_
          refine lv_iload_n hx hb dX10_takesCond_33 rfl (lv_at hl 2 rfl) ?_
          refine iVo (wr := []) hO hC hK hl hP hD hS hA (t_all1 l G K h0 tby kt tln tsp kd13372 ks13373 kn13374 vtf fby tspc vksp vtsp (by omega) (by omega) (by omega) (by omega)) si_X10_147 [2, 3, 0, 1] [] rfl rfl (by decide) rfl (by decide) (by decide) rfl rfl rfl rfl rfl (Nat.le_of_ble_eq_true rfl) ⟨Nat.le_of_ble_eq_true rfl, Nat.le_of_ble_eq_true rfl⟩ ⟨Nat.le_of_ble_eq_true rfl, Nat.le_of_ble_eq_true rfl⟩ dX10_takesCond_34 (fun r3376 u3377 H locs hr3376 hP hD hS => ?_)
          obtain ⟨kd13378, ks13379, kn13380, tf13381, ksp13382, gtsp3383⟩ := u3377
          try dsimp only at hr3376
          have hP : va_P G.1 vwCl [(h0, .inr (10, [.ref tby, .int (nI kt), .ref tln, .ref tsp, .int kd13378, .int (nI ks13379), .int (nI kn13380), .int tf13381])), (tby, .inl (G.2.1, 240, .inl fby)), (tsp, .inr (8, [.int 120, .int 1, .ref tspc, .int (nI ksp13382)])), (tspc, .inl (G.2.1, 120, .inl gtsp3383))] H := hP
          have hD : va_D A [(h0, .inr (10, [.ref tby, .int (nI kt), .ref tln, .ref tsp, .int kd13378, .int (nI ks13379), .int (nI kn13380), .int tf13381])), (tby, .inl (G.2.1, 240, .inl fby)), (tsp, .inr (8, [.int 120, .int 1, .ref tspc, .int (nI ksp13382)])), (tspc, .inl (G.2.1, 120, .inl gtsp3383))] := hD
          obtain ⟨hr3376, w3384⟩ := hr3376
          rcases hr3376 with rfl | rfl
          · refine lv_if_ne (tgt := 42) hx hb dX10_takesCond_37 (by decide) (fun _ => ?_) (fun c9 => absurd c9 (by decide))
            refine lv_aload_n hx hb dX10_takesCond_42 rfl (lv_at hl 1 rfl) ?_
            refine lv_bipush (v := (-3)) hx hb dX10_takesCond_43 (by decide) ?_
            refine vV (wr := [(tby, .inl (G.2.1, 240, .inl fby))]) hC hK hl hP hD hS hA (t_addStep l G h0 (-3) tby kt tln tsp kd13378 ks13379 kn13380 tf13381 tspc ksp13382 gtsp3383 (by omega)) si_X10_152 [0, 2, 3] [1] rfl rfl (by decide) rfl (by decide) (by decide) rfl rfl rfl rfl rfl (Nat.le_of_ble_eq_true rfl) ⟨Nat.le_of_ble_eq_true rfl, Nat.le_of_ble_eq_true rfl⟩ ⟨Nat.le_of_ble_eq_true rfl, Nat.le_of_ble_eq_true rfl⟩ dX10_takesCond_45 (fun u3387 H locs hr3386 hP hD hS => ?_)
            obtain ⟨ksp13388, gtsp3389⟩ := u3387
            try dsimp only at hr3386
            have hP : va_P G.1 vwCl [(tby, .inl (G.2.1, 240, .inl fby)), (h0, .inr (10, [.ref tby, .int (nI kt), .ref tln, .ref tsp, .int kd13378, .int (nI ks13379), .int (nI kn13380), .int tf13381])), (tsp, .inr (8, [.int 120, .int 1, .ref tspc, .int (nI ksp13388)])), (tspc, .inl (G.2.1, 120, .inl gtsp3389))] H := hP
            have hD : va_D A [(tby, .inl (G.2.1, 240, .inl fby)), (h0, .inr (10, [.ref tby, .int (nI kt), .ref tln, .ref tsp, .int kd13378, .int (nI ks13379), .int (nI kn13380), .int tf13381])), (tsp, .inr (8, [.int 120, .int 1, .ref tspc, .int (nI ksp13388)])), (tspc, .inl (G.2.1, 120, .inl gtsp3389))] := hD
            have w3390 := hr3386
            refine lv_iinc (v := nI (kP + 1)) (lv' := [(2, .int (nI (kP + 1))), (0, .ref h0), (1, .int 1)]) hx hb dX10_takesCond_48 hl (k := 0) rfl (nI_1 _) (by decide) rfl (fun ls hl => ?_)
            refine lv_goto (tgt := 12) hx hb dX10_takesCond_51 (by decide) ?_
            have hP := hP.sub (ws' := [(h0, .inr (10, [.ref tby, .int (nI kt), .ref tln, .ref tsp, .int kd13378, .int (nI ks13379), .int (nI kn13380), .int tf13381])), (tby, .inl (G.2.1, 240, .inl fby)), (tsp, .inr (8, [.int 120, .int 1, .ref tspc, .int (nI ksp13388)])), (tspc, .inl (G.2.1, 120, .inl gtsp3389))]) [1, 0, 2, 3] rfl
            have hD := hD.sub (ws' := [(h0, .inr (10, [.ref tby, .int (nI kt), .ref tln, .ref tsp, .int kd13378, .int (nI ks13379), .int (nI kn13380), .int tf13381])), (tby, .inl (G.2.1, 240, .inl fby)), (tsp, .inr (8, [.int 120, .int 1, .ref tspc, .int (nI ksp13388)])), (tspc, .inl (G.2.1, 120, .inl gtsp3389))]) [1, 0, 2, 3] (by decide) rfl
            exact ihP (kP + 1) kd13378 tf13381 gtsp3389 ks13379 kn13380 ksp13388 _ _ _ (by omega) (by first | assumption | exact Or.inl rfl | exact Or.inr rfl | omega) (by first | assumption | exact Or.inl rfl | exact Or.inr rfl | omega) (by first | assumption | exact Or.inl rfl | exact Or.inr rfl | omega) hP hD hS (lv_sub hl [0, 1, 2] rfl)
          · refine lv_if_ne (tgt := 42) hx hb dX10_takesCond_37 (by decide) (fun c9 => absurd (by decide) c9) (fun _ => ?_)
            refine lv_iconst (v := 0) hx hb dX10_takesCond_40 (by decide) ?_
            exact RI (v := 0) hC hP hD hS [0, 1, 2, 3] (kd13378, ks13379, kn13380, tf13381, ksp13382, gtsp3383) rfl rfl (by decide) (⟨Or.inr (rfl), by dsimp only; omega⟩) (by decide +kernel) dX10_takesCond_41
        · refine lv_if_eq (tgt := 54) hx hb dX10_takesCond_25 (by decide) (fun _ => ?_) (fun c9 => absurd (by decide) c9)
          refine lv_iconst (v := 1) hx hb dX10_takesCond_54 (by decide) ?_
          exact RI (v := 1) hC hP hD hS [0, 1, 2, 3] (vkd, vks, vkn, vtf, vksp, vtsp) rfl rfl (by decide) (⟨Or.inl (rfl), by dsimp only; omega⟩) (by decide +kernel) dX10_takesCond_55
    exact keyP 240 0 kd13360 tf13363 gtsp3365 ks13361 kn13362 ksp13364 _ _ _ (by omega) (by first | assumption | exact Or.inl rfl | exact Or.inr rfl | omega) (by first | assumption | exact Or.inl rfl | exact Or.inr rfl | omega) (by first | assumption | exact Or.inl rfl | exact Or.inr rfl | omega) hP hD hS (lv_sub hl [0, 1, 2] rfl)
  · refine lv_if_ne (tgt := 10) hx hb dX10_takesCond_5 (by decide) (fun c9 => absurd (by decide) c9) (fun _ => ?_)
    refine lv_iconst (v := 0) hx hb dX10_takesCond_8 (by decide) ?_
    exact RI (v := 0) hC hP hD hS [0, 1, 2, 3] (kd13360, ks13361, kn13362, tf13363, ksp13364, gtsp3365) rfl rfl (by decide) (⟨Or.inr (rfl), by dsimp only; omega⟩) (by decide +kernel) dX10_takesCond_9
set_option maxHeartbeats 4000000 in
set_option maxRecDepth 100000 in
theorem t_one0 (l : Launch) (G : GG) (K : OO) (h0 : Nat) (tby : Nat) (kt : Nat) (tln : Nat) (tsp : Nat) (tkd : Int32) (ks : Nat) (kn : Nat) (tf9 : Int32) (fby : Nat → Int32) (tspc : Nat) (ksp : Nat) (ftsp : Nat → Int32) (hkt : kt ≤ 240) (hks : ks ≤ 240) (hkn : kn ≤ 240) (hksp : ksp ≤ 120) : MIo l G K yX10_takesOne cX10_takesOne 4 (some .boolean) 25 0 0 [.ref h0, .int 0] [(h0, .inr (10, [.ref tby, .int (nI kt), .ref tln, .ref tsp, .int tkd, .int (nI ks), .int (nI kn), .int tf9])), (tby, .inl (G.2.1, 240, .inl fby)), (tsp, .inr (8, [.int 120, .int 1, .ref tspc, .int (nI ksp)])), (tspc, .inl (G.2.1, 120, .inl ftsp))] (fun (r : Int32) (u : Int32 × Nat × Nat × Int32 × Nat × (Nat → Int32)) => (r = 1 ∨ r = 0) ∧ (u.2.1 ≤ 240 ∧ u.2.2.1 ≤ 240 ∧ u.2.2.2.2.1 ≤ 120)) (fun u : Int32 × Nat × Nat × Int32 × Nat × (Nat → Int32) => [(h0, .inr (10, [.ref tby, .int (nI kt), .ref tln, .ref tsp, .int u.1, .int (nI u.2.1), .int (nI u.2.2.1), .int u.2.2.2.1])), (tby, .inl (G.2.1, 240, .inl fby)), (tsp, .inr (8, [.int 120, .int 1, .ref tspc, .int (nI u.2.2.2.2.1)])), (tspc, .inl (G.2.1, 120, .inl u.2.2.2.2.2))]) := by
  refine MIo.start (by decide +kernel) (Nat.le_of_ble_eq_true rfl) ?_
  intro p e s m below meth c A ls hC hK hP hD hS hA hl hO
  have hl : lv_has ls 4 [(0, .ref h0), (1, .int 0)] := hl
  obtain ⟨hx, hb, hr, hml, hB, hown, hlocks, hnm⟩ := id hC
  refine lv_iconst (v := 0) hx hb dX10_takesOne_0 (by decide) ?_
  refine lv_istore_n (lv' := [(2, .int 0), (0, .ref h0), (1, .int 0)]) hx hb dX10_takesOne_1 rfl hl (by decide) rfl (fun ls hl => ?_)
  refine lv_iconst (v := 0) hx hb dX10_takesOne_2 (by decide) ?_
  refine lv_istore_n (lv' := [(3, .int 0), (2, .int 0), (0, .ref h0), (1, .int 0)]) hx hb dX10_takesOne_3 rfl hl (by decide) rfl (fun ls hl => ?_)
  have keyP : ∀ (nP kP : Nat) (tu : Int32) (vkd : Int32) (vtf : Int32) (vks : Nat) (vkn : Nat) (H : Heap) (locs : List Loc) (ls : Array Slot), kP + nP = 240 → (vks ≤ 240) → (vkn ≤ 240) → va_P G.1 vwCl [(h0, .inr (10, [.ref tby, .int (nI kt), .ref tln, .ref tsp, .int vkd, .int (nI vks), .int (nI vkn), .int vtf])), (tby, .inl (G.2.1, 240, .inl fby)), (tsp, .inr (8, [.int 120, .int 1, .ref tspc, .int (nI ksp)])), (tspc, .inl (G.2.1, 120, .inl ftsp))] H → va_D A [(h0, .inr (10, [.ref tby, .int (nI kt), .ref tln, .ref tsp, .int vkd, .int (nI vks), .int (nI vkn), .int vtf])), (tby, .inl (G.2.1, 240, .inl fby)), (tsp, .inr (8, [.int 120, .int 1, .ref tspc, .int (nI ksp)])), (tspc, .inl (G.2.1, 120, .inl ftsp))] → va_S A s.heap H locs → lv_has ls 4 [(3, .int (nI kP)), (2, .int tu), (0, .ref h0), (1, .int 0)] → W p l e (RM 25 0 0) s m ([.ref h0, .int 0] : List Value).toArray below meth c H locs 0 0 (MQ below (QI G (fun (r : Int32) (u : Int32 × Nat × Nat × Int32 × Nat × (Nat → Int32)) => (r = 1 ∨ r = 0) ∧ (u.2.1 ≤ 240 ∧ u.2.2.1 ≤ 240 ∧ u.2.2.2.2.1 ≤ 120)) (fun u : Int32 × Nat × Nat × Int32 × Nat × (Nat → Int32) => [(h0, .inr (10, [.ref tby, .int (nI kt), .ref tln, .ref tsp, .int u.1, .int (nI u.2.1), .int (nI u.2.2.1), .int u.2.2.2.1])), (tby, .inl (G.2.1, 240, .inl fby)), (tsp, .inr (8, [.int 120, .int 1, .ref tspc, .int (nI u.2.2.2.2.1)])), (tspc, .inl (G.2.1, 120, .inl u.2.2.2.2.2))]) A) ([.ref h0, .int 0] : List Value).toArray s 0 0 A) (F0 m 4 ls []) := by
    intro nP
    induction nP with
    | zero =>
      intro kP tu vkd vtf vks vkn H locs ls hkP hvks hvkn hP hD hS hl
      obtain rfl : 240 = kP := by omega
      have hl : lv_has ls 4 [(3, .int 240), (2, .int tu), (0, .ref h0), (1, .int 0)] := hl
      refine lv_iload_n hx hb dX10_takesOne_4 rfl (lv_at hl 0 rfl) ?_
      refine lv_sipush (v := 240) hx hb dX10_takesOne_5 (by decide) ?_
      refine lv_icmp_ge (tgt := 40) hx hb dX10_takesOne_8 (by decide) (fun _ => ?_) (fun c9 => absurd (by decide) c9)
      refine lv_aload_n hx hb dX10_takesOne_40 rfl (lv_at hl 2 rfl) ?_
      refine gf_X10_31 hC rfl hK hP 0 rfl rfl dX10_takesOne_41 ?_
      refine lv_bipush (v := 40) hx hb dX10_takesOne_44 (by decide) ?_
      refine lv_icmp_eq (tgt := 58) hx hb dX10_takesOne_46 (by decide) (fun c_46_3391 => ?_) (fun c_46_3391 => ?_)
      · refine lv_iload_n hx hb dX10_takesOne_58 rfl (lv_at hl 3 rfl) ?_
        refine lv_iconst (v := 4) hx hb dX10_takesOne_59 (by decide) ?_
        refine lv_icmp_lt (tgt := 68) hx hb dX10_takesOne_60 (by decide) (fun _ => ?_) (fun c9 => absurd (by decide) c9)
        refine lv_aload_n hx hb dX10_takesOne_68 rfl (lv_at hl 2 rfl) ?_
        refine vV (wr := [(tsp, .inr (8, [.int 120, .int 1, .ref tspc, .int (nI ksp)])), (tspc, .inl (G.2.1, 120, .inl ftsp))]) hC hK hl hP hD hS hA (t_advance l G h0 tby kt tln tsp vkd vks vkn vtf fby (by omega) (by omega) (by omega)) si_X10_47 [0, 1] [2, 3] rfl rfl (by decide) rfl (by decide) (by decide) rfl rfl rfl rfl rfl (Nat.le_of_ble_eq_true rfl) ⟨Nat.le_of_ble_eq_true rfl, Nat.le_of_ble_eq_true rfl⟩ ⟨Nat.le_of_ble_eq_true rfl, Nat.le_of_ble_eq_true rfl⟩ dX10_takesOne_69 (fun u3393 H locs hr3392 hP hD hS => ?_)
        obtain ⟨kd13394, ks13395, kn13396⟩ := u3393
        try dsimp only at hr3392
        have hP : va_P G.1 vwCl [(tsp, .inr (8, [.int 120, .int 1, .ref tspc, .int (nI ksp)])), (tspc, .inl (G.2.1, 120, .inl ftsp)), (h0, .inr (10, [.ref tby, .int (nI kt), .ref tln, .ref tsp, .int kd13394, .int (nI ks13395), .int (nI kn13396), .int vtf])), (tby, .inl (G.2.1, 240, .inl fby))] H := hP
        have hD : va_D A [(tsp, .inr (8, [.int 120, .int 1, .ref tspc, .int (nI ksp)])), (tspc, .inl (G.2.1, 120, .inl ftsp)), (h0, .inr (10, [.ref tby, .int (nI kt), .ref tln, .ref tsp, .int kd13394, .int (nI ks13395), .int (nI kn13396), .int vtf])), (tby, .inl (G.2.1, 240, .inl fby))] := hD
        have w3397 := hr3392
        refine lv_aload_n hx hb dX10_takesOne_72 rfl (lv_at hl 2 rfl) ?_
        refine lv_iload_n hx hb dX10_takesOne_73 rfl (lv_at hl 3 rfl) ?_
        refine lv_iconst (v := 1) hx hb dX10_takesOne_74 (by decide) ?_
        refine lv_iadd hx hb dX10_takesOne_75 ?_
        refine eqi (x1 := 1) (by decide) ?_
        refine iVo (wr := []) hO hC hK hl hP hD hS hA (t_cond1 l G K h0 tby kt tln tsp kd13394 ks13395 kn13396 vtf fby tspc ksp ftsp (by omega) (by omega) (by omega) (by omega)) si_X10_121 [2, 3, 0, 1] [] rfl rfl (by decide) rfl (by decide) (by decide) rfl rfl rfl rfl rfl (Nat.le_of_ble_eq_true rfl) ⟨Nat.le_of_ble_eq_true rfl, Nat.le_of_ble_eq_true rfl⟩ ⟨Nat.le_of_ble_eq_true rfl, Nat.le_of_ble_eq_true rfl⟩ dX10_takesOne_76 (fun r3398 u3399 H locs hr3398 hP hD hS => ?_)
        obtain ⟨kd13400, ks13401, kn13402, tf13403, ksp13404, gtsp3405⟩ := u3399
        try dsimp only at hr3398
        have hP : va_P G.1 vwCl [(h0, .inr (10, [.ref tby, .int (nI kt), .ref tln, .ref tsp, .int kd13400, .int (nI ks13401), .int (nI kn13402), .int tf13403])), (tby, .inl (G.2.1, 240, .inl fby)), (tsp, .inr (8, [.int 120, .int 1, .ref tspc, .int (nI ksp13404)])), (tspc, .inl (G.2.1, 120, .inl gtsp3405))] H := hP
        have hD : va_D A [(h0, .inr (10, [.ref tby, .int (nI kt), .ref tln, .ref tsp, .int kd13400, .int (nI ks13401), .int (nI kn13402), .int tf13403])), (tby, .inl (G.2.1, 240, .inl fby)), (tsp, .inr (8, [.int 120, .int 1, .ref tspc, .int (nI ksp13404)])), (tspc, .inl (G.2.1, 120, .inl gtsp3405))] := hD
        obtain ⟨hr3398, w3406⟩ := hr3398
        rcases hr3398 with rfl | rfl
        · refine lv_if_eq (tgt := 91) hx hb dX10_takesOne_79 (by decide) (fun c9 => absurd c9 (by decide)) (fun _ => ?_)
          refine lv_aload_n hx hb dX10_takesOne_82 rfl (lv_at hl 2 rfl) ?_
          refine lv_bipush (v := 41) hx hb dX10_takesOne_83 (by decide) ?_
          refine iV (wr := [(tsp, .inr (8, [.int 120, .int 1, .ref tspc, .int (nI ksp13404)])), (tspc, .inl (G.2.1, 120, .inl gtsp3405))]) hC hK hl hP hD hS hA (t_takesByte l G h0 41 tby kt tln tsp kd13400 ks13401 kn13402 tf13403 fby (by omega) (by omega) (by omega)) si_X10_124 [0, 1] [2, 3] rfl rfl (by decide) rfl (by decide) (by decide) rfl rfl rfl rfl rfl (Nat.le_of_ble_eq_true rfl) ⟨Nat.le_of_ble_eq_true rfl, Nat.le_of_ble_eq_true rfl⟩ ⟨Nat.le_of_ble_eq_true rfl, Nat.le_of_ble_eq_true rfl⟩ dX10_takesOne_85 (fun r3408 u3409 H locs hr3408 hP hD hS => ?_)
          obtain ⟨kd13410, ks13411, kn13412, tf13413⟩ := u3409
          try dsimp only at hr3408
          have hP : va_P G.1 vwCl [(tsp, .inr (8, [.int 120, .int 1, .ref tspc, .int (nI ksp13404)])), (tspc, .inl (G.2.1, 120, .inl gtsp3405)), (h0, .inr (10, [.ref tby, .int (nI kt), .ref tln, .ref tsp, .int kd13410, .int (nI ks13411), .int (nI kn13412), .int tf13413])), (tby, .inl (G.2.1, 240, .inl fby))] H := hP
          have hD : va_D A [(tsp, .inr (8, [.int 120, .int 1, .ref tspc, .int (nI ksp13404)])), (tspc, .inl (G.2.1, 120, .inl gtsp3405)), (h0, .inr (10, [.ref tby, .int (nI kt), .ref tln, .ref tsp, .int kd13410, .int (nI ks13411), .int (nI kn13412), .int tf13413])), (tby, .inl (G.2.1, 240, .inl fby))] := hD
          obtain ⟨hr3408, w3414⟩ := hr3408
          rcases hr3408 with rfl | rfl
          · refine lv_if_ne (tgt := 93) hx hb dX10_takesOne_88 (by decide) (fun _ => ?_) (fun c9 => absurd c9 (by decide))
            refine lv_iload_n hx hb dX10_takesOne_93 rfl (lv_at hl 1 rfl) ?_
            refine lv_if_eq (tgt := 102) hx hb dX10_takesOne_94 (by decide) (fun c_94_3416 => ?_) (fun c_94_3416 => ?_)
            · refine lv_iconst (v := 1) hx hb dX10_takesOne_102 (by decide) ?_
              exact RI (v := 1) hC hP hD hS [2, 3, 0, 1] (kd13410, ks13411, kn13412, tf13413, ksp13404, gtsp3405) rfl rfl (by decide) (⟨Or.inl (rfl), by dsimp only; omega⟩) (by decide +kernel) dX10_takesOne_103
            · refine lv_aload_n hx hb dX10_takesOne_97 rfl (lv_at hl 2 rfl) ?_
              refine lv_iconst (v := (-1)) hx hb dX10_takesOne_98 (by decide) ?_
              refine vV (wr := [(tby, .inl (G.2.1, 240, .inl fby))]) hC hK hl hP hD hS hA (t_addStep l G h0 (-1) tby kt tln tsp kd13410 ks13411 kn13412 tf13413 tspc ksp13404 gtsp3405 (by omega)) si_X10_152 [2, 0, 1] [3] rfl rfl (by decide) rfl (by decide) (by decide) rfl rfl rfl rfl rfl (Nat.le_of_ble_eq_true rfl) ⟨Nat.le_of_ble_eq_true rfl, Nat.le_of_ble_eq_true rfl⟩ ⟨Nat.le_of_ble_eq_true rfl, Nat.le_of_ble_eq_true rfl⟩ dX10_takesOne_99 (fun u3418 H locs hr3417 hP hD hS => ?_)
              obtain ⟨ksp13419, gtsp3420⟩ := u3418
              try dsimp only at hr3417
              have hP : va_P G.1 vwCl [(tby, .inl (G.2.1, 240, .inl fby)), (h0, .inr (10, [.ref tby, .int (nI kt), .ref tln, .ref tsp, .int kd13410, .int (nI ks13411), .int (nI kn13412), .int tf13413])), (tsp, .inr (8, [.int 120, .int 1, .ref tspc, .int (nI ksp13419)])), (tspc, .inl (G.2.1, 120, .inl gtsp3420))] H := hP
              have hD : va_D A [(tby, .inl (G.2.1, 240, .inl fby)), (h0, .inr (10, [.ref tby, .int (nI kt), .ref tln, .ref tsp, .int kd13410, .int (nI ks13411), .int (nI kn13412), .int tf13413])), (tsp, .inr (8, [.int 120, .int 1, .ref tspc, .int (nI ksp13419)])), (tspc, .inl (G.2.1, 120, .inl gtsp3420))] := hD
              have w3421 := hr3417
              refine lv_iconst (v := 1) hx hb dX10_takesOne_102 (by decide) ?_
              exact RI (v := 1) hC hP hD hS [1, 0, 2, 3] (kd13410, ks13411, kn13412, tf13413, ksp13419, gtsp3420) rfl rfl (by decide) (⟨Or.inl (rfl), by dsimp only; omega⟩) (by decide +kernel) dX10_takesOne_103
          · refine lv_if_ne (tgt := 93) hx hb dX10_takesOne_88 (by decide) (fun c9 => absurd (by decide) c9) (fun _ => ?_)
            refine lv_iconst (v := 0) hx hb dX10_takesOne_91 (by decide) ?_
            exact RI (v := 0) hC hP hD hS [2, 3, 0, 1] (kd13410, ks13411, kn13412, tf13413, ksp13404, gtsp3405) rfl rfl (by decide) (⟨Or.inr (rfl), by dsimp only; omega⟩) (by decide +kernel) dX10_takesOne_92
        · refine lv_if_eq (tgt := 91) hx hb dX10_takesOne_79 (by decide) (fun _ => ?_) (fun c9 => absurd (by decide) c9)
          refine lv_iconst (v := 0) hx hb dX10_takesOne_91 (by decide) ?_
          exact RI (v := 0) hC hP hD hS [0, 1, 2, 3] (kd13400, ks13401, kn13402, tf13403, ksp13404, gtsp3405) rfl rfl (by decide) (⟨Or.inr (rfl), by dsimp only; omega⟩) (by decide +kernel) dX10_takesOne_92
      · refine lv_aload_n hx hb dX10_takesOne_49 rfl (lv_at hl 2 rfl) ?_
        refine iVo (wr := []) hO hC hK hl hP hD hS hA (t_takesComparison l G K h0 tby kt tln tsp vkd vks vkn vtf fby tspc ksp ftsp (by omega) (by omega) (by omega) (by omega)) si_X10_162 [0, 1, 2, 3] [] rfl rfl (by decide) rfl (by decide) (by decide) rfl rfl rfl rfl rfl (Nat.le_of_ble_eq_true rfl) ⟨Nat.le_of_ble_eq_true rfl, Nat.le_of_ble_eq_true rfl⟩ ⟨Nat.le_of_ble_eq_true rfl, Nat.le_of_ble_eq_true rfl⟩ dX10_takesOne_50 (fun r3422 u3423 H locs hr3422 hP hD hS => ?_)
        obtain ⟨kd13424, ks13425, kn13426, tf13427, ksp13428, gtsp3429⟩ := u3423
        try dsimp only at hr3422
        have hP : va_P G.1 vwCl [(h0, .inr (10, [.ref tby, .int (nI kt), .ref tln, .ref tsp, .int kd13424, .int (nI ks13425), .int (nI kn13426), .int tf13427])), (tby, .inl (G.2.1, 240, .inl fby)), (tsp, .inr (8, [.int 120, .int 1, .ref tspc, .int (nI ksp13428)])), (tspc, .inl (G.2.1, 120, .inl gtsp3429))] H := hP
        have hD : va_D A [(h0, .inr (10, [.ref tby, .int (nI kt), .ref tln, .ref tsp, .int kd13424, .int (nI ks13425), .int (nI kn13426), .int tf13427])), (tby, .inl (G.2.1, 240, .inl fby)), (tsp, .inr (8, [.int 120, .int 1, .ref tspc, .int (nI ksp13428)])), (tspc, .inl (G.2.1, 120, .inl gtsp3429))] := hD
        obtain ⟨hr3422, w3430⟩ := hr3422
        rcases hr3422 with rfl | rfl
        · refine lv_if_ne (tgt := 93) hx hb dX10_takesOne_53 (by decide) (fun _ => ?_) (fun c9 => absurd c9 (by decide))
          refine lv_iload_n hx hb dX10_takesOne_93 rfl (lv_at hl 1 rfl) ?_
          refine lv_if_eq (tgt := 102) hx hb dX10_takesOne_94 (by decide) (fun c_94_3432 => ?_) (fun c_94_3432 => ?_)
          · refine lv_iconst (v := 1) hx hb dX10_takesOne_102 (by decide) ?_
            exact RI (v := 1) hC hP hD hS [0, 1, 2, 3] (kd13424, ks13425, kn13426, tf13427, ksp13428, gtsp3429) rfl rfl (by decide) (⟨Or.inl (rfl), by dsimp only; omega⟩) (by decide +kernel) dX10_takesOne_103
          · refine lv_aload_n hx hb dX10_takesOne_97 rfl (lv_at hl 2 rfl) ?_
            refine lv_iconst (v := (-1)) hx hb dX10_takesOne_98 (by decide) ?_
            refine vV (wr := [(tby, .inl (G.2.1, 240, .inl fby))]) hC hK hl hP hD hS hA (t_addStep l G h0 (-1) tby kt tln tsp kd13424 ks13425 kn13426 tf13427 tspc ksp13428 gtsp3429 (by omega)) si_X10_152 [0, 2, 3] [1] rfl rfl (by decide) rfl (by decide) (by decide) rfl rfl rfl rfl rfl (Nat.le_of_ble_eq_true rfl) ⟨Nat.le_of_ble_eq_true rfl, Nat.le_of_ble_eq_true rfl⟩ ⟨Nat.le_of_ble_eq_true rfl, Nat.le_of_ble_eq_true rfl⟩ dX10_takesOne_99 (fun u3434 H locs hr3433 hP hD hS => ?_)
            obtain ⟨ksp13435, gtsp3436⟩ := u3434
            try dsimp only at hr3433
            have hP : va_P G.1 vwCl [(tby, .inl (G.2.1, 240, .inl fby)), (h0, .inr (10, [.ref tby, .int (nI kt), .ref tln, .ref tsp, .int kd13424, .int (nI ks13425), .int (nI kn13426), .int tf13427])), (tsp, .inr (8, [.int 120, .int 1, .ref tspc, .int (nI ksp13435)])), (tspc, .inl (G.2.1, 120, .inl gtsp3436))] H := hP
            have hD : va_D A [(tby, .inl (G.2.1, 240, .inl fby)), (h0, .inr (10, [.ref tby, .int (nI kt), .ref tln, .ref tsp, .int kd13424, .int (nI ks13425), .int (nI kn13426), .int tf13427])), (tsp, .inr (8, [.int 120, .int 1, .ref tspc, .int (nI ksp13435)])), (tspc, .inl (G.2.1, 120, .inl gtsp3436))] := hD
            have w3437 := hr3433
            refine lv_iconst (v := 1) hx hb dX10_takesOne_102 (by decide) ?_
            exact RI (v := 1) hC hP hD hS [1, 0, 2, 3] (kd13424, ks13425, kn13426, tf13427, ksp13435, gtsp3436) rfl rfl (by decide) (⟨Or.inl (rfl), by dsimp only; omega⟩) (by decide +kernel) dX10_takesOne_103
        · refine lv_if_ne (tgt := 93) hx hb dX10_takesOne_53 (by decide) (fun c9 => absurd (by decide) c9) (fun _ => ?_)
          refine lv_iconst (v := 0) hx hb dX10_takesOne_56 (by decide) ?_
          exact RI (v := 0) hC hP hD hS [0, 1, 2, 3] (kd13424, ks13425, kn13426, tf13427, ksp13428, gtsp3429) rfl rfl (by decide) (⟨Or.inr (rfl), by dsimp only; omega⟩) (by decide +kernel) dX10_takesOne_57
    | succ nP ihP =>
      intro kP tu vkd vtf vks vkn H locs ls hkP hvks hvkn hP hD hS hl
      refine lv_iload_n hx hb dX10_takesOne_4 rfl (lv_at hl 0 rfl) ?_
      refine lv_sipush (v := 240) hx hb dX10_takesOne_5 (by decide) ?_
      refine lv_icmp_ge (tgt := 40) hx hb dX10_takesOne_8 (by decide) (fun c9 => absurd c9 (nI_ge (a := kP) (b := 240) (by omega) (by omega))) (fun _ => ?_)
      refine lv_aload_n hx hb dX10_takesOne_11 rfl (lv_at hl 2 rfl) ?_
      refine va_ldcS (index := 160) (tx := "not") hx hb hown (hO.2.1 10 (by decide)) dX10_takesOne_12 ?_
      refine pVo hO hS hC hK hl hP hD (t_isName l G K 10 h0 tby kt tln tsp vkd vks vkn vtf fby (by omega) (by omega) (by omega) ((by decide))) si_X10_102 [0, 1] rfl rfl (by decide) rfl rfl rfl rfl rfl (Nat.le_of_ble_eq_true rfl) ⟨Nat.le_of_ble_eq_true rfl, Nat.le_of_ble_eq_true rfl⟩ ⟨by first | exact Nat.le_of_ble_eq_true rfl | exact Nat.zero_le _, by first | exact Nat.le_of_ble_eq_true rfl | exact Nat.zero_le _⟩ dX10_takesOne_14 (fun r3438 hr3438 => ?_)
      rcases hr3438 with rfl | rfl
      · refine lv_if_eq (tgt := 40) hx hb dX10_takesOne_17 (by decide) (fun c9 => absurd c9 (by decide)) (fun _ => ?_)
        refine lv_aload_n hx hb dX10_takesOne_20 rfl (lv_at hl 2 rfl) ?_
        refine vV (wr := [(tsp, .inr (8, [.int 120, .int 1, .ref tspc, .int (nI ksp)])), (tspc, .inl (G.2.1, 120, .inl ftsp))]) hC hK hl hP hD hS hA (t_advance l G h0 tby kt tln tsp vkd vks vkn vtf fby (by omega) (by omega) (by omega)) si_X10_47 [0, 1] [2, 3] rfl rfl (by decide) rfl (by decide) (by decide) rfl rfl rfl rfl rfl (Nat.le_of_ble_eq_true rfl) ⟨Nat.le_of_ble_eq_true rfl, Nat.le_of_ble_eq_true rfl⟩ ⟨Nat.le_of_ble_eq_true rfl, Nat.le_of_ble_eq_true rfl⟩ dX10_takesOne_21 (fun u3441 H locs hr3440 hP hD hS => ?_)
        obtain ⟨kd13442, ks13443, kn13444⟩ := u3441
        try dsimp only at hr3440
        have hP : va_P G.1 vwCl [(tsp, .inr (8, [.int 120, .int 1, .ref tspc, .int (nI ksp)])), (tspc, .inl (G.2.1, 120, .inl ftsp)), (h0, .inr (10, [.ref tby, .int (nI kt), .ref tln, .ref tsp, .int kd13442, .int (nI ks13443), .int (nI kn13444), .int vtf])), (tby, .inl (G.2.1, 240, .inl fby))] H := hP
        have hD : va_D A [(tsp, .inr (8, [.int 120, .int 1, .ref tspc, .int (nI ksp)])), (tspc, .inl (G.2.1, 120, .inl ftsp)), (h0, .inr (10, [.ref tby, .int (nI kt), .ref tln, .ref tsp, .int kd13442, .int (nI ks13443), .int (nI kn13444), .int vtf])), (tby, .inl (G.2.1, 240, .inl fby))] := hD
        have w3445 := hr3440
        refine lv_iload_n hx hb dX10_takesOne_24 rfl (lv_at hl 1 rfl) ?_
        refine lv_if_ne (tgt := 32) hx hb dX10_takesOne_25 (by decide) (fun c_25_3446 => ?_) (fun c_25_3446 => ?_)
        · refine lv_iconst (v := 0) hx hb dX10_takesOne_32 (by decide) ?_
          refine lv_istore_n (lv' := [(2, .int 0), (3, .int (nI kP)), (0, .ref h0), (1, .int 0)]) hx hb dX10_takesOne_33 rfl hl (by decide) rfl (fun ls hl => ?_)
          refine lv_iinc (v := nI (kP + 1)) (lv' := [(3, .int (nI (kP + 1))), (2, .int 0), (0, .ref h0), (1, .int 0)]) hx hb dX10_takesOne_34 hl (k := 1) rfl (nI_1 _) (by decide) rfl (fun ls hl => ?_)
          refine lv_goto (tgt := 4) hx hb dX10_takesOne_37 (by decide) ?_
          have hP := hP.sub (ws' := [(h0, .inr (10, [.ref tby, .int (nI kt), .ref tln, .ref tsp, .int kd13442, .int (nI ks13443), .int (nI kn13444), .int vtf])), (tby, .inl (G.2.1, 240, .inl fby)), (tsp, .inr (8, [.int 120, .int 1, .ref tspc, .int (nI ksp)])), (tspc, .inl (G.2.1, 120, .inl ftsp))]) [2, 3, 0, 1] rfl
          have hD := hD.sub (ws' := [(h0, .inr (10, [.ref tby, .int (nI kt), .ref tln, .ref tsp, .int kd13442, .int (nI ks13443), .int (nI kn13444), .int vtf])), (tby, .inl (G.2.1, 240, .inl fby)), (tsp, .inr (8, [.int 120, .int 1, .ref tspc, .int (nI ksp)])), (tspc, .inl (G.2.1, 120, .inl ftsp))]) [2, 3, 0, 1] (by decide) rfl
          exact ihP (kP + 1) 0 kd13442 vtf ks13443 kn13444 _ _ _ (by omega) (by first | assumption | exact Or.inl rfl | exact Or.inr rfl | omega) (by first | assumption | exact Or.inl rfl | exact Or.inr rfl | omega) hP hD hS (lv_sub hl [0, 1, 2, 3] rfl)
        · refine lv_iconst (v := 1) hx hb dX10_takesOne_28 (by decide) ?_
          refine lv_goto (tgt := 33) hx hb dX10_takesOne_29 (by decide) ?_
          refine lv_istore_n (lv' := [(2, .int 1), (3, .int (nI kP)), (0, .ref h0), (1, .int 0)]) hx hb dX10_takesOne_33 rfl hl (by decide) rfl (fun ls hl => ?_)
          refine lv_iinc (v := nI (kP + 1)) (lv' := [(3, .int (nI (kP + 1))), (2, .int 1), (0, .ref h0), (1, .int 0)]) hx hb dX10_takesOne_34 hl (k := 1) rfl (nI_1 _) (by decide) rfl (fun ls hl => ?_)
          refine lv_goto (tgt := 4) hx hb dX10_takesOne_37 (by decide) ?_
          have hP := hP.sub (ws' := [(h0, .inr (10, [.ref tby, .int (nI kt), .ref tln, .ref tsp, .int kd13442, .int (nI ks13443), .int (nI kn13444), .int vtf])), (tby, .inl (G.2.1, 240, .inl fby)), (tsp, .inr (8, [.int 120, .int 1, .ref tspc, .int (nI ksp)])), (tspc, .inl (G.2.1, 120, .inl ftsp))]) [2, 3, 0, 1] rfl
          have hD := hD.sub (ws' := [(h0, .inr (10, [.ref tby, .int (nI kt), .ref tln, .ref tsp, .int kd13442, .int (nI ks13443), .int (nI kn13444), .int vtf])), (tby, .inl (G.2.1, 240, .inl fby)), (tsp, .inr (8, [.int 120, .int 1, .ref tspc, .int (nI ksp)])), (tspc, .inl (G.2.1, 120, .inl ftsp))]) [2, 3, 0, 1] (by decide) rfl
          exact ihP (kP + 1) 1 kd13442 vtf ks13443 kn13444 _ _ _ (by omega) (by first | assumption | exact Or.inl rfl | exact Or.inr rfl | omega) (by first | assumption | exact Or.inl rfl | exact Or.inr rfl | omega) hP hD hS (lv_sub hl [0, 1, 2, 3] rfl)
      · refine lv_if_eq (tgt := 40) hx hb dX10_takesOne_17 (by decide) (fun _ => ?_) (fun c9 => absurd (by decide) c9)
        refine lv_aload_n hx hb dX10_takesOne_40 rfl (lv_at hl 2 rfl) ?_
        refine gf_X10_31 hC rfl hK hP 0 rfl rfl dX10_takesOne_41 ?_
        refine lv_bipush (v := 40) hx hb dX10_takesOne_44 (by decide) ?_
        refine lv_icmp_eq (tgt := 58) hx hb dX10_takesOne_46 (by decide) (fun c_46_3447 => ?_) (fun c_46_3447 => ?_)
        · refine lv_iload_n hx hb dX10_takesOne_58 rfl (lv_at hl 3 rfl) ?_
          refine lv_iconst (v := 4) hx hb dX10_takesOne_59 (by decide) ?_
          refine lv_icmp_lt (tgt := 68) hx hb dX10_takesOne_60 (by decide) (fun _ => ?_) (fun c9 => absurd (by decide) c9)
          refine lv_aload_n hx hb dX10_takesOne_68 rfl (lv_at hl 2 rfl) ?_
          refine vV (wr := [(tsp, .inr (8, [.int 120, .int 1, .ref tspc, .int (nI ksp)])), (tspc, .inl (G.2.1, 120, .inl ftsp))]) hC hK hl hP hD hS hA (t_advance l G h0 tby kt tln tsp vkd vks vkn vtf fby (by omega) (by omega) (by omega)) si_X10_47 [0, 1] [2, 3] rfl rfl (by decide) rfl (by decide) (by decide) rfl rfl rfl rfl rfl (Nat.le_of_ble_eq_true rfl) ⟨Nat.le_of_ble_eq_true rfl, Nat.le_of_ble_eq_true rfl⟩ ⟨Nat.le_of_ble_eq_true rfl, Nat.le_of_ble_eq_true rfl⟩ dX10_takesOne_69 (fun u3449 H locs hr3448 hP hD hS => ?_)
          obtain ⟨kd13450, ks13451, kn13452⟩ := u3449
          try dsimp only at hr3448
          have hP : va_P G.1 vwCl [(tsp, .inr (8, [.int 120, .int 1, .ref tspc, .int (nI ksp)])), (tspc, .inl (G.2.1, 120, .inl ftsp)), (h0, .inr (10, [.ref tby, .int (nI kt), .ref tln, .ref tsp, .int kd13450, .int (nI ks13451), .int (nI kn13452), .int vtf])), (tby, .inl (G.2.1, 240, .inl fby))] H := hP
          have hD : va_D A [(tsp, .inr (8, [.int 120, .int 1, .ref tspc, .int (nI ksp)])), (tspc, .inl (G.2.1, 120, .inl ftsp)), (h0, .inr (10, [.ref tby, .int (nI kt), .ref tln, .ref tsp, .int kd13450, .int (nI ks13451), .int (nI kn13452), .int vtf])), (tby, .inl (G.2.1, 240, .inl fby))] := hD
          have w3453 := hr3448
          refine lv_aload_n hx hb dX10_takesOne_72 rfl (lv_at hl 2 rfl) ?_
          refine lv_iload_n hx hb dX10_takesOne_73 rfl (lv_at hl 3 rfl) ?_
          refine lv_iconst (v := 1) hx hb dX10_takesOne_74 (by decide) ?_
          refine lv_iadd hx hb dX10_takesOne_75 ?_
          refine eqi (x1 := 1) (by decide) ?_
          refine iVo (wr := []) hO hC hK hl hP hD hS hA (t_cond1 l G K h0 tby kt tln tsp kd13450 ks13451 kn13452 vtf fby tspc ksp ftsp (by omega) (by omega) (by omega) (by omega)) si_X10_121 [2, 3, 0, 1] [] rfl rfl (by decide) rfl (by decide) (by decide) rfl rfl rfl rfl rfl (Nat.le_of_ble_eq_true rfl) ⟨Nat.le_of_ble_eq_true rfl, Nat.le_of_ble_eq_true rfl⟩ ⟨Nat.le_of_ble_eq_true rfl, Nat.le_of_ble_eq_true rfl⟩ dX10_takesOne_76 (fun r3454 u3455 H locs hr3454 hP hD hS => ?_)
          obtain ⟨kd13456, ks13457, kn13458, tf13459, ksp13460, gtsp3461⟩ := u3455
          try dsimp only at hr3454
          have hP : va_P G.1 vwCl [(h0, .inr (10, [.ref tby, .int (nI kt), .ref tln, .ref tsp, .int kd13456, .int (nI ks13457), .int (nI kn13458), .int tf13459])), (tby, .inl (G.2.1, 240, .inl fby)), (tsp, .inr (8, [.int 120, .int 1, .ref tspc, .int (nI ksp13460)])), (tspc, .inl (G.2.1, 120, .inl gtsp3461))] H := hP
          have hD : va_D A [(h0, .inr (10, [.ref tby, .int (nI kt), .ref tln, .ref tsp, .int kd13456, .int (nI ks13457), .int (nI kn13458), .int tf13459])), (tby, .inl (G.2.1, 240, .inl fby)), (tsp, .inr (8, [.int 120, .int 1, .ref tspc, .int (nI ksp13460)])), (tspc, .inl (G.2.1, 120, .inl gtsp3461))] := hD
          obtain ⟨hr3454, w3462⟩ := hr3454
          rcases hr3454 with rfl | rfl
          · refine lv_if_eq (tgt := 91) hx hb dX10_takesOne_79 (by decide) (fun c9 => absurd c9 (by decide)) (fun _ => ?_)
            refine lv_aload_n hx hb dX10_takesOne_82 rfl (lv_at hl 2 rfl) ?_
            refine lv_bipush (v := 41) hx hb dX10_takesOne_83 (by decide) ?_
            refine iV (wr := [(tsp, .inr (8, [.int 120, .int 1, .ref tspc, .int (nI ksp13460)])), (tspc, .inl (G.2.1, 120, .inl gtsp3461))]) hC hK hl hP hD hS hA (t_takesByte l G h0 41 tby kt tln tsp kd13456 ks13457 kn13458 tf13459 fby (by omega) (by omega) (by omega)) si_X10_124 [0, 1] [2, 3] rfl rfl (by decide) rfl (by decide) (by decide) rfl rfl rfl rfl rfl (Nat.le_of_ble_eq_true rfl) ⟨Nat.le_of_ble_eq_true rfl, Nat.le_of_ble_eq_true rfl⟩ ⟨Nat.le_of_ble_eq_true rfl, Nat.le_of_ble_eq_true rfl⟩ dX10_takesOne_85 (fun r3464 u3465 H locs hr3464 hP hD hS => ?_)
            obtain ⟨kd13466, ks13467, kn13468, tf13469⟩ := u3465
            try dsimp only at hr3464
            have hP : va_P G.1 vwCl [(tsp, .inr (8, [.int 120, .int 1, .ref tspc, .int (nI ksp13460)])), (tspc, .inl (G.2.1, 120, .inl gtsp3461)), (h0, .inr (10, [.ref tby, .int (nI kt), .ref tln, .ref tsp, .int kd13466, .int (nI ks13467), .int (nI kn13468), .int tf13469])), (tby, .inl (G.2.1, 240, .inl fby))] H := hP
            have hD : va_D A [(tsp, .inr (8, [.int 120, .int 1, .ref tspc, .int (nI ksp13460)])), (tspc, .inl (G.2.1, 120, .inl gtsp3461)), (h0, .inr (10, [.ref tby, .int (nI kt), .ref tln, .ref tsp, .int kd13466, .int (nI ks13467), .int (nI kn13468), .int tf13469])), (tby, .inl (G.2.1, 240, .inl fby))] := hD
            obtain ⟨hr3464, w3470⟩ := hr3464
            rcases hr3464 with rfl | rfl
            · refine lv_if_ne (tgt := 93) hx hb dX10_takesOne_88 (by decide) (fun _ => ?_) (fun c9 => absurd c9 (by decide))
              refine lv_iload_n hx hb dX10_takesOne_93 rfl (lv_at hl 1 rfl) ?_
              refine lv_if_eq (tgt := 102) hx hb dX10_takesOne_94 (by decide) (fun c_94_3472 => ?_) (fun c_94_3472 => ?_)
              · refine lv_iconst (v := 1) hx hb dX10_takesOne_102 (by decide) ?_
                exact RI (v := 1) hC hP hD hS [2, 3, 0, 1] (kd13466, ks13467, kn13468, tf13469, ksp13460, gtsp3461) rfl rfl (by decide) (⟨Or.inl (rfl), by dsimp only; omega⟩) (by decide +kernel) dX10_takesOne_103
              · refine lv_aload_n hx hb dX10_takesOne_97 rfl (lv_at hl 2 rfl) ?_
                refine lv_iconst (v := (-1)) hx hb dX10_takesOne_98 (by decide) ?_
                refine vV (wr := [(tby, .inl (G.2.1, 240, .inl fby))]) hC hK hl hP hD hS hA (t_addStep l G h0 (-1) tby kt tln tsp kd13466 ks13467 kn13468 tf13469 tspc ksp13460 gtsp3461 (by omega)) si_X10_152 [2, 0, 1] [3] rfl rfl (by decide) rfl (by decide) (by decide) rfl rfl rfl rfl rfl (Nat.le_of_ble_eq_true rfl) ⟨Nat.le_of_ble_eq_true rfl, Nat.le_of_ble_eq_true rfl⟩ ⟨Nat.le_of_ble_eq_true rfl, Nat.le_of_ble_eq_true rfl⟩ dX10_takesOne_99 (fun u3474 H locs hr3473 hP hD hS => ?_)
                obtain ⟨ksp13475, gtsp3476⟩ := u3474
                try dsimp only at hr3473
                have hP : va_P G.1 vwCl [(tby, .inl (G.2.1, 240, .inl fby)), (h0, .inr (10, [.ref tby, .int (nI kt), .ref tln, .ref tsp, .int kd13466, .int (nI ks13467), .int (nI kn13468), .int tf13469])), (tsp, .inr (8, [.int 120, .int 1, .ref tspc, .int (nI ksp13475)])), (tspc, .inl (G.2.1, 120, .inl gtsp3476))] H := hP
                have hD : va_D A [(tby, .inl (G.2.1, 240, .inl fby)), (h0, .inr (10, [.ref tby, .int (nI kt), .ref tln, .ref tsp, .int kd13466, .int (nI ks13467), .int (nI kn13468), .int tf13469])), (tsp, .inr (8, [.int 120, .int 1, .ref tspc, .int (nI ksp13475)])), (tspc, .inl (G.2.1, 120, .inl gtsp3476))] := hD
                have w3477 := hr3473
                refine lv_iconst (v := 1) hx hb dX10_takesOne_102 (by decide) ?_
                exact RI (v := 1) hC hP hD hS [1, 0, 2, 3] (kd13466, ks13467, kn13468, tf13469, ksp13475, gtsp3476) rfl rfl (by decide) (⟨Or.inl (rfl), by dsimp only; omega⟩) (by decide +kernel) dX10_takesOne_103
            · refine lv_if_ne (tgt := 93) hx hb dX10_takesOne_88 (by decide) (fun c9 => absurd (by decide) c9) (fun _ => ?_)
              refine lv_iconst (v := 0) hx hb dX10_takesOne_91 (by decide) ?_
              exact RI (v := 0) hC hP hD hS [2, 3, 0, 1] (kd13466, ks13467, kn13468, tf13469, ksp13460, gtsp3461) rfl rfl (by decide) (⟨Or.inr (rfl), by dsimp only; omega⟩) (by decide +kernel) dX10_takesOne_92
          · refine lv_if_eq (tgt := 91) hx hb dX10_takesOne_79 (by decide) (fun _ => ?_) (fun c9 => absurd (by decide) c9)
            refine lv_iconst (v := 0) hx hb dX10_takesOne_91 (by decide) ?_
            exact RI (v := 0) hC hP hD hS [0, 1, 2, 3] (kd13456, ks13457, kn13458, tf13459, ksp13460, gtsp3461) rfl rfl (by decide) (⟨Or.inr (rfl), by dsimp only; omega⟩) (by decide +kernel) dX10_takesOne_92
        · refine lv_aload_n hx hb dX10_takesOne_49 rfl (lv_at hl 2 rfl) ?_
          refine iVo (wr := []) hO hC hK hl hP hD hS hA (t_takesComparison l G K h0 tby kt tln tsp vkd vks vkn vtf fby tspc ksp ftsp (by omega) (by omega) (by omega) (by omega)) si_X10_162 [0, 1, 2, 3] [] rfl rfl (by decide) rfl (by decide) (by decide) rfl rfl rfl rfl rfl (Nat.le_of_ble_eq_true rfl) ⟨Nat.le_of_ble_eq_true rfl, Nat.le_of_ble_eq_true rfl⟩ ⟨Nat.le_of_ble_eq_true rfl, Nat.le_of_ble_eq_true rfl⟩ dX10_takesOne_50 (fun r3478 u3479 H locs hr3478 hP hD hS => ?_)
          obtain ⟨kd13480, ks13481, kn13482, tf13483, ksp13484, gtsp3485⟩ := u3479
          try dsimp only at hr3478
          have hP : va_P G.1 vwCl [(h0, .inr (10, [.ref tby, .int (nI kt), .ref tln, .ref tsp, .int kd13480, .int (nI ks13481), .int (nI kn13482), .int tf13483])), (tby, .inl (G.2.1, 240, .inl fby)), (tsp, .inr (8, [.int 120, .int 1, .ref tspc, .int (nI ksp13484)])), (tspc, .inl (G.2.1, 120, .inl gtsp3485))] H := hP
          have hD : va_D A [(h0, .inr (10, [.ref tby, .int (nI kt), .ref tln, .ref tsp, .int kd13480, .int (nI ks13481), .int (nI kn13482), .int tf13483])), (tby, .inl (G.2.1, 240, .inl fby)), (tsp, .inr (8, [.int 120, .int 1, .ref tspc, .int (nI ksp13484)])), (tspc, .inl (G.2.1, 120, .inl gtsp3485))] := hD
          obtain ⟨hr3478, w3486⟩ := hr3478
          rcases hr3478 with rfl | rfl
          · refine lv_if_ne (tgt := 93) hx hb dX10_takesOne_53 (by decide) (fun _ => ?_) (fun c9 => absurd c9 (by decide))
            refine lv_iload_n hx hb dX10_takesOne_93 rfl (lv_at hl 1 rfl) ?_
            refine lv_if_eq (tgt := 102) hx hb dX10_takesOne_94 (by decide) (fun c_94_3488 => ?_) (fun c_94_3488 => ?_)
            · refine lv_iconst (v := 1) hx hb dX10_takesOne_102 (by decide) ?_
              exact RI (v := 1) hC hP hD hS [0, 1, 2, 3] (kd13480, ks13481, kn13482, tf13483, ksp13484, gtsp3485) rfl rfl (by decide) (⟨Or.inl (rfl), by dsimp only; omega⟩) (by decide +kernel) dX10_takesOne_103
            · refine lv_aload_n hx hb dX10_takesOne_97 rfl (lv_at hl 2 rfl) ?_
              refine lv_iconst (v := (-1)) hx hb dX10_takesOne_98 (by decide) ?_
              refine vV (wr := [(tby, .inl (G.2.1, 240, .inl fby))]) hC hK hl hP hD hS hA (t_addStep l G h0 (-1) tby kt tln tsp kd13480 ks13481 kn13482 tf13483 tspc ksp13484 gtsp3485 (by omega)) si_X10_152 [0, 2, 3] [1] rfl rfl (by decide) rfl (by decide) (by decide) rfl rfl rfl rfl rfl (Nat.le_of_ble_eq_true rfl) ⟨Nat.le_of_ble_eq_true rfl, Nat.le_of_ble_eq_true rfl⟩ ⟨Nat.le_of_ble_eq_true rfl, Nat.le_of_ble_eq_true rfl⟩ dX10_takesOne_99 (fun u3490 H locs hr3489 hP hD hS => ?_)
              obtain ⟨ksp13491, gtsp3492⟩ := u3490
              try dsimp only at hr3489
              have hP : va_P G.1 vwCl [(tby, .inl (G.2.1, 240, .inl fby)), (h0, .inr (10, [.ref tby, .int (nI kt), .ref tln, .ref tsp, .int kd13480, .int (nI ks13481), .int (nI kn13482), .int tf13483])), (tsp, .inr (8, [.int 120, .int 1, .ref tspc, .int (nI ksp13491)])), (tspc, .inl (G.2.1, 120, .inl gtsp3492))] H := hP
              have hD : va_D A [(tby, .inl (G.2.1, 240, .inl fby)), (h0, .inr (10, [.ref tby, .int (nI kt), .ref tln, .ref tsp, .int kd13480, .int (nI ks13481), .int (nI kn13482), .int tf13483])), (tsp, .inr (8, [.int 120, .int 1, .ref tspc, .int (nI ksp13491)])), (tspc, .inl (G.2.1, 120, .inl gtsp3492))] := hD
              have w3493 := hr3489
              refine lv_iconst (v := 1) hx hb dX10_takesOne_102 (by decide) ?_
              exact RI (v := 1) hC hP hD hS [1, 0, 2, 3] (kd13480, ks13481, kn13482, tf13483, ksp13491, gtsp3492) rfl rfl (by decide) (⟨Or.inl (rfl), by dsimp only; omega⟩) (by decide +kernel) dX10_takesOne_103
          · refine lv_if_ne (tgt := 93) hx hb dX10_takesOne_53 (by decide) (fun c9 => absurd (by decide) c9) (fun _ => ?_)
            refine lv_iconst (v := 0) hx hb dX10_takesOne_56 (by decide) ?_
            exact RI (v := 0) hC hP hD hS [0, 1, 2, 3] (kd13480, ks13481, kn13482, tf13483, ksp13484, gtsp3485) rfl rfl (by decide) (⟨Or.inr (rfl), by dsimp only; omega⟩) (by decide +kernel) dX10_takesOne_57
  exact keyP 240 0 0 tkd tf9 ks kn _ _ _ (by omega) (by first | assumption | exact Or.inl rfl | exact Or.inr rfl | omega) (by first | assumption | exact Or.inl rfl | exact Or.inr rfl | omega) hP hD hS (lv_sub hl [0, 1, 2, 3] rfl)
set_option maxHeartbeats 4000000 in
set_option maxRecDepth 100000 in
theorem t_all0 (l : Launch) (G : GG) (K : OO) (h0 : Nat) (tby : Nat) (kt : Nat) (tln : Nat) (tsp : Nat) (tkd : Int32) (ks : Nat) (kn : Nat) (tf9 : Int32) (fby : Nat → Int32) (tspc : Nat) (ksp : Nat) (ftsp : Nat → Int32) (hkt : kt ≤ 240) (hks : ks ≤ 240) (hkn : kn ≤ 240) (hksp : ksp ≤ 120) : MIo l G K yX10_takesAll cX10_takesAll 3 (some .boolean) 26 0 0 [.ref h0, .int 0] [(h0, .inr (10, [.ref tby, .int (nI kt), .ref tln, .ref tsp, .int tkd, .int (nI ks), .int (nI kn), .int tf9])), (tby, .inl (G.2.1, 240, .inl fby)), (tsp, .inr (8, [.int 120, .int 1, .ref tspc, .int (nI ksp)])), (tspc, .inl (G.2.1, 120, .inl ftsp))] (fun (r : Int32) (u : Int32 × Nat × Nat × Int32 × Nat × (Nat → Int32)) => (r = 1 ∨ r = 0) ∧ (u.2.1 ≤ 240 ∧ u.2.2.1 ≤ 240 ∧ u.2.2.2.2.1 ≤ 120)) (fun u : Int32 × Nat × Nat × Int32 × Nat × (Nat → Int32) => [(h0, .inr (10, [.ref tby, .int (nI kt), .ref tln, .ref tsp, .int u.1, .int (nI u.2.1), .int (nI u.2.2.1), .int u.2.2.2.1])), (tby, .inl (G.2.1, 240, .inl fby)), (tsp, .inr (8, [.int 120, .int 1, .ref tspc, .int (nI u.2.2.2.2.1)])), (tspc, .inl (G.2.1, 120, .inl u.2.2.2.2.2))]) := by
  refine MIo.start (by decide +kernel) (Nat.le_of_ble_eq_true rfl) ?_
  intro p e s m below meth c A ls hC hK hP hD hS hA hl hO
  have hl : lv_has ls 3 [(0, .ref h0), (1, .int 0)] := hl
  obtain ⟨hx, hb, hr, hml, hB, hown, hlocks, hnm⟩ := id hC
  refine lv_aload_n hx hb dX10_takesAll_0 rfl (lv_at hl 0 rfl) ?_
  refine lv_iload_n hx hb dX10_takesAll_1 rfl (lv_at hl 1 rfl) ?_
  refine iVo (wr := []) hO hC hK hl hP hD hS hA (t_one0 l G K h0 tby kt tln tsp tkd ks kn tf9 fby tspc ksp ftsp (by omega) (by omega) (by omega) (by omega)) si_X10_155 [0, 1, 2, 3] [] rfl rfl (by decide) rfl (by decide) (by decide) rfl rfl rfl rfl rfl (Nat.le_of_ble_eq_true rfl) ⟨Nat.le_of_ble_eq_true rfl, Nat.le_of_ble_eq_true rfl⟩ ⟨Nat.le_of_ble_eq_true rfl, Nat.le_of_ble_eq_true rfl⟩ dX10_takesAll_2 (fun r3494 u3495 H locs hr3494 hP hD hS => ?_)
  obtain ⟨kd13496, ks13497, kn13498, tf13499, ksp13500, gtsp3501⟩ := u3495
  try dsimp only at hr3494
  have hP : va_P G.1 vwCl [(h0, .inr (10, [.ref tby, .int (nI kt), .ref tln, .ref tsp, .int kd13496, .int (nI ks13497), .int (nI kn13498), .int tf13499])), (tby, .inl (G.2.1, 240, .inl fby)), (tsp, .inr (8, [.int 120, .int 1, .ref tspc, .int (nI ksp13500)])), (tspc, .inl (G.2.1, 120, .inl gtsp3501))] H := hP
  have hD : va_D A [(h0, .inr (10, [.ref tby, .int (nI kt), .ref tln, .ref tsp, .int kd13496, .int (nI ks13497), .int (nI kn13498), .int tf13499])), (tby, .inl (G.2.1, 240, .inl fby)), (tsp, .inr (8, [.int 120, .int 1, .ref tspc, .int (nI ksp13500)])), (tspc, .inl (G.2.1, 120, .inl gtsp3501))] := hD
  obtain ⟨hr3494, w3502⟩ := hr3494
  rcases hr3494 with rfl | rfl
  · refine lv_if_ne (tgt := 10) hx hb dX10_takesAll_5 (by decide) (fun _ => ?_) (fun c9 => absurd c9 (by decide))
    refine lv_iconst (v := 0) hx hb dX10_takesAll_10 (by decide) ?_
    refine lv_istore_n (lv' := [(2, .int 0), (0, .ref h0), (1, .int 0)]) hx hb dX10_takesAll_11 rfl hl (by decide) rfl (fun ls hl => ?_)
    have keyP : ∀ (nP kP : Nat) (vkd : Int32) (vtf : Int32) (vtsp : Nat → Int32) (vks : Nat) (vkn : Nat) (vksp : Nat) (H : Heap) (locs : List Loc) (ls : Array Slot), kP + nP = 240 → (vks ≤ 240) → (vkn ≤ 240) → (vksp ≤ 120) → va_P G.1 vwCl [(h0, .inr (10, [.ref tby, .int (nI kt), .ref tln, .ref tsp, .int vkd, .int (nI vks), .int (nI vkn), .int vtf])), (tby, .inl (G.2.1, 240, .inl fby)), (tsp, .inr (8, [.int 120, .int 1, .ref tspc, .int (nI vksp)])), (tspc, .inl (G.2.1, 120, .inl vtsp))] H → va_D A [(h0, .inr (10, [.ref tby, .int (nI kt), .ref tln, .ref tsp, .int vkd, .int (nI vks), .int (nI vkn), .int vtf])), (tby, .inl (G.2.1, 240, .inl fby)), (tsp, .inr (8, [.int 120, .int 1, .ref tspc, .int (nI vksp)])), (tspc, .inl (G.2.1, 120, .inl vtsp))] → va_S A s.heap H locs → lv_has ls 3 [(2, .int (nI kP)), (0, .ref h0), (1, .int 0)] → W p l e (RM 26 0 0) s m ([.ref h0, .int 0] : List Value).toArray below meth c H locs 0 0 (MQ below (QI G (fun (r : Int32) (u : Int32 × Nat × Nat × Int32 × Nat × (Nat → Int32)) => (r = 1 ∨ r = 0) ∧ (u.2.1 ≤ 240 ∧ u.2.2.1 ≤ 240 ∧ u.2.2.2.2.1 ≤ 120)) (fun u : Int32 × Nat × Nat × Int32 × Nat × (Nat → Int32) => [(h0, .inr (10, [.ref tby, .int (nI kt), .ref tln, .ref tsp, .int u.1, .int (nI u.2.1), .int (nI u.2.2.1), .int u.2.2.2.1])), (tby, .inl (G.2.1, 240, .inl fby)), (tsp, .inr (8, [.int 120, .int 1, .ref tspc, .int (nI u.2.2.2.2.1)])), (tspc, .inl (G.2.1, 120, .inl u.2.2.2.2.2))]) A) ([.ref h0, .int 0] : List Value).toArray s 0 0 A) (F0 m 12 ls []) := by
      intro nP
      induction nP with
      | zero =>
        intro kP vkd vtf vtsp vks vkn vksp H locs ls hkP hvks hvkn hvksp hP hD hS hl
        obtain rfl : 240 = kP := by omega
        have hl : lv_has ls 3 [(2, .int 240), (0, .ref h0), (1, .int 0)] := hl
        refine lv_iload_n hx hb dX10_takesAll_12 rfl (lv_at hl 0 rfl) ?_
        refine lv_sipush (v := 240) hx hb dX10_takesAll_13 (by decide) ?_
        refine lv_icmp_ge (tgt := 54) hx hb dX10_takesAll_16 (by decide) (fun _ => ?_) (fun c9 => absurd (by decide) c9)
        refine lv_iconst (v := 1) hx hb dX10_takesAll_54 (by decide) ?_
        exact RI (v := 1) hC hP hD hS [0, 1, 2, 3] (vkd, vks, vkn, vtf, vksp, vtsp) rfl rfl (by decide) (⟨Or.inl (rfl), by dsimp only; omega⟩) (by decide +kernel) dX10_takesAll_55
      | succ nP ihP =>
        intro kP vkd vtf vtsp vks vkn vksp H locs ls hkP hvks hvkn hvksp hP hD hS hl
        refine lv_iload_n hx hb dX10_takesAll_12 rfl (lv_at hl 0 rfl) ?_
        refine lv_sipush (v := 240) hx hb dX10_takesAll_13 (by decide) ?_
        refine lv_icmp_ge (tgt := 54) hx hb dX10_takesAll_16 (by decide) (fun c9 => absurd c9 (nI_ge (a := kP) (b := 240) (by omega) (by omega))) (fun _ => ?_)
        refine lv_aload_n hx hb dX10_takesAll_19 rfl (lv_at hl 1 rfl) ?_
        refine va_ldcS (index := 158) (tx := "and") hx hb hown (hO.2.1 9 (by decide)) dX10_takesAll_20 ?_
        refine pVo hO hS hC hK hl hP hD (t_isName l G K 9 h0 tby kt tln tsp vkd vks vkn vtf fby (by omega) (by omega) (by omega) ((by decide))) si_X10_102 [0, 1] rfl rfl (by decide) rfl rfl rfl rfl rfl (Nat.le_of_ble_eq_true rfl) ⟨Nat.le_of_ble_eq_true rfl, Nat.le_of_ble_eq_true rfl⟩ ⟨by first | exact Nat.le_of_ble_eq_true rfl | exact Nat.zero_le _, by first | exact Nat.le_of_ble_eq_true rfl | exact Nat.zero_le _⟩ dX10_takesAll_22 (fun r3504 hr3504 => ?_)
        rcases hr3504 with rfl | rfl
        · refine lv_if_eq (tgt := 54) hx hb dX10_takesAll_25 (by decide) (fun c9 => absurd c9 (by decide)) (fun _ => ?_)
          refine lv_aload_n hx hb dX10_takesAll_28 rfl (lv_at hl 1 rfl) ?_
          refine vV (wr := [(tsp, .inr (8, [.int 120, .int 1, .ref tspc, .int (nI vksp)])), (tspc, .inl (G.2.1, 120, .inl vtsp))]) hC hK hl hP hD hS hA (t_advance l G h0 tby kt tln tsp vkd vks vkn vtf fby (by omega) (by omega) (by omega)) si_X10_47 [0, 1] [2, 3] rfl rfl (by decide) rfl (by decide) (by decide) rfl rfl rfl rfl rfl (Nat.le_of_ble_eq_true rfl) ⟨Nat.le_of_ble_eq_true rfl, Nat.le_of_ble_eq_true rfl⟩ ⟨Nat.le_of_ble_eq_true rfl, Nat.le_of_ble_eq_true rfl⟩ dX10_takesAll_29 (fun u3507 H locs hr3506 hP hD hS => ?_)
          obtain ⟨kd13508, ks13509, kn13510⟩ := u3507
          try dsimp only at hr3506
          have hP : va_P G.1 vwCl [(tsp, .inr (8, [.int 120, .int 1, .ref tspc, .int (nI vksp)])), (tspc, .inl (G.2.1, 120, .inl vtsp)), (h0, .inr (10, [.ref tby, .int (nI kt), .ref tln, .ref tsp, .int kd13508, .int (nI ks13509), .int (nI kn13510), .int vtf])), (tby, .inl (G.2.1, 240, .inl fby))] H := hP
          have hD : va_D A [(tsp, .inr (8, [.int 120, .int 1, .ref tspc, .int (nI vksp)])), (tspc, .inl (G.2.1, 120, .inl vtsp)), (h0, .inr (10, [.ref tby, .int (nI kt), .ref tln, .ref tsp, .int kd13508, .int (nI ks13509), .int (nI kn13510), .int vtf])), (tby, .inl (G.2.1, 240, .inl fby))] := hD
          have w3511 := hr3506
          refine lv_aload_n hx hb dX10_takesAll_32 rfl (lv_at hl 1 rfl) ?_
          refine lv_iload_n hx hb dX10_takesAll_33 rfl (lv_at hl 2 rfl) ?_
          refine iVo (wr := []) hO hC hK hl hP hD hS hA (t_one0 l G K h0 tby kt tln tsp kd13508 ks13509 kn13510 vtf fby tspc vksp vtsp (by omega) (by omega) (by omega) (by omega)) si_X10_155 [2, 3, 0, 1] [] rfl rfl (by decide) rfl (by decide) (by decide) rfl rfl rfl rfl rfl (Nat.le_of_ble_eq_true rfl) ⟨Nat.le_of_ble_eq_true rfl, Nat.le_of_ble_eq_true rfl⟩ ⟨Nat.le_of_ble_eq_true rfl, Nat.le_of_ble_eq_true rfl⟩ dX10_takesAll_34 (fun r3512 u3513 H locs hr3512 hP hD hS => ?_)
          obtain ⟨kd13514, ks13515, kn13516, tf13517, ksp13518, gtsp3519⟩ := u3513
          try dsimp only at hr3512
          have hP : va_P G.1 vwCl [(h0, .inr (10, [.ref tby, .int (nI kt), .ref tln, .ref tsp, .int kd13514, .int (nI ks13515), .int (nI kn13516), .int tf13517])), (tby, .inl (G.2.1, 240, .inl fby)), (tsp, .inr (8, [.int 120, .int 1, .ref tspc, .int (nI ksp13518)])), (tspc, .inl (G.2.1, 120, .inl gtsp3519))] H := hP
          have hD : va_D A [(h0, .inr (10, [.ref tby, .int (nI kt), .ref tln, .ref tsp, .int kd13514, .int (nI ks13515), .int (nI kn13516), .int tf13517])), (tby, .inl (G.2.1, 240, .inl fby)), (tsp, .inr (8, [.int 120, .int 1, .ref tspc, .int (nI ksp13518)])), (tspc, .inl (G.2.1, 120, .inl gtsp3519))] := hD
          obtain ⟨hr3512, w3520⟩ := hr3512
          rcases hr3512 with rfl | rfl
          · refine lv_if_ne (tgt := 42) hx hb dX10_takesAll_37 (by decide) (fun _ => ?_) (fun c9 => absurd c9 (by decide))
            refine lv_aload_n hx hb dX10_takesAll_42 rfl (lv_at hl 1 rfl) ?_
            refine lv_bipush (v := (-2)) hx hb dX10_takesAll_43 (by decide) ?_
            refine vV (wr := [(tby, .inl (G.2.1, 240, .inl fby))]) hC hK hl hP hD hS hA (t_addStep l G h0 (-2) tby kt tln tsp kd13514 ks13515 kn13516 tf13517 tspc ksp13518 gtsp3519 (by omega)) si_X10_152 [0, 2, 3] [1] rfl rfl (by decide) rfl (by decide) (by decide) rfl rfl rfl rfl rfl (Nat.le_of_ble_eq_true rfl) ⟨Nat.le_of_ble_eq_true rfl, Nat.le_of_ble_eq_true rfl⟩ ⟨Nat.le_of_ble_eq_true rfl, Nat.le_of_ble_eq_true rfl⟩ dX10_takesAll_45 (fun u3523 H locs hr3522 hP hD hS => ?_)
            obtain ⟨ksp13524, gtsp3525⟩ := u3523
            try dsimp only at hr3522
            have hP : va_P G.1 vwCl [(tby, .inl (G.2.1, 240, .inl fby)), (h0, .inr (10, [.ref tby, .int (nI kt), .ref tln, .ref tsp, .int kd13514, .int (nI ks13515), .int (nI kn13516), .int tf13517])), (tsp, .inr (8, [.int 120, .int 1, .ref tspc, .int (nI ksp13524)])), (tspc, .inl (G.2.1, 120, .inl gtsp3525))] H := hP
            have hD : va_D A [(tby, .inl (G.2.1, 240, .inl fby)), (h0, .inr (10, [.ref tby, .int (nI kt), .ref tln, .ref tsp, .int kd13514, .int (nI ks13515), .int (nI kn13516), .int tf13517])), (tsp, .inr (8, [.int 120, .int 1, .ref tspc, .int (nI ksp13524)])), (tspc, .inl (G.2.1, 120, .inl gtsp3525))] := hD
            have w3526 := hr3522
            refine lv_iinc (v := nI (kP + 1)) (lv' := [(2, .int (nI (kP + 1))), (0, .ref h0), (1, .int 0)]) hx hb dX10_takesAll_48 hl (k := 0) rfl (nI_1 _) (by decide) rfl (fun ls hl => ?_)
            refine lv_goto (tgt := 12) hx hb dX10_takesAll_51 (by decide) ?_
            have hP := hP.sub (ws' := [(h0, .inr (10, [.ref tby, .int (nI kt), .ref tln, .ref tsp, .int kd13514, .int (nI ks13515), .int (nI kn13516), .int tf13517])), (tby, .inl (G.2.1, 240, .inl fby)), (tsp, .inr (8, [.int 120, .int 1, .ref tspc, .int (nI ksp13524)])), (tspc, .inl (G.2.1, 120, .inl gtsp3525))]) [1, 0, 2, 3] rfl
            have hD := hD.sub (ws' := [(h0, .inr (10, [.ref tby, .int (nI kt), .ref tln, .ref tsp, .int kd13514, .int (nI ks13515), .int (nI kn13516), .int tf13517])), (tby, .inl (G.2.1, 240, .inl fby)), (tsp, .inr (8, [.int 120, .int 1, .ref tspc, .int (nI ksp13524)])), (tspc, .inl (G.2.1, 120, .inl gtsp3525))]) [1, 0, 2, 3] (by decide) rfl
            exact ihP (kP + 1) kd13514 tf13517 gtsp3525 ks13515 kn13516 ksp13524 _ _ _ (by omega) (by first | assumption | exact Or.inl rfl | exact Or.inr rfl | omega) (by first | assumption | exact Or.inl rfl | exact Or.inr rfl | omega) (by first | assumption | exact Or.inl rfl | exact Or.inr rfl | omega) hP hD hS (lv_sub hl [0, 1, 2] rfl)
          · refine lv_if_ne (tgt := 42) hx hb dX10_takesAll_37 (by decide) (fun c9 => absurd (by decide) c9) (fun _ => ?_)
            refine lv_iconst (v := 0) hx hb dX10_takesAll_40 (by decide) ?_
            exact RI (v := 0) hC hP hD hS [0, 1, 2, 3] (kd13514, ks13515, kn13516, tf13517, ksp13518, gtsp3519) rfl rfl (by decide) (⟨Or.inr (rfl), by dsimp only; omega⟩) (by decide +kernel) dX10_takesAll_41
        · refine lv_if_eq (tgt := 54) hx hb dX10_takesAll_25 (by decide) (fun _ => ?_) (fun c9 => absurd (by decide) c9)
          refine lv_iconst (v := 1) hx hb dX10_takesAll_54 (by decide) ?_
          exact RI (v := 1) hC hP hD hS [0, 1, 2, 3] (vkd, vks, vkn, vtf, vksp, vtsp) rfl rfl (by decide) (⟨Or.inl (rfl), by dsimp only; omega⟩) (by decide +kernel) dX10_takesAll_55
    exact keyP 240 0 kd13496 tf13499 gtsp3501 ks13497 kn13498 ksp13500 _ _ _ (by omega) (by first | assumption | exact Or.inl rfl | exact Or.inr rfl | omega) (by first | assumption | exact Or.inl rfl | exact Or.inr rfl | omega) (by first | assumption | exact Or.inl rfl | exact Or.inr rfl | omega) hP hD hS (lv_sub hl [0, 1, 2] rfl)
  · refine lv_if_ne (tgt := 10) hx hb dX10_takesAll_5 (by decide) (fun c9 => absurd (by decide) c9) (fun _ => ?_)
    refine lv_iconst (v := 0) hx hb dX10_takesAll_8 (by decide) ?_
    exact RI (v := 0) hC hP hD hS [0, 1, 2, 3] (kd13496, ks13497, kn13498, tf13499, ksp13500, gtsp3501) rfl rfl (by decide) (⟨Or.inr (rfl), by dsimp only; omega⟩) (by decide +kernel) dX10_takesAll_9
set_option maxHeartbeats 4000000 in
set_option maxRecDepth 100000 in
theorem t_cond0 (l : Launch) (G : GG) (K : OO) (h0 : Nat) (tby : Nat) (kt : Nat) (tln : Nat) (tsp : Nat) (tkd : Int32) (ks : Nat) (kn : Nat) (tf9 : Int32) (fby : Nat → Int32) (tspc : Nat) (ksp : Nat) (ftsp : Nat → Int32) (hkt : kt ≤ 240) (hks : ks ≤ 240) (hkn : kn ≤ 240) (hksp : ksp ≤ 120) : MIo l G K yX10_takesCond cX10_takesCond 3 (some .boolean) 27 0 0 [.ref h0, .int 0] [(h0, .inr (10, [.ref tby, .int (nI kt), .ref tln, .ref tsp, .int tkd, .int (nI ks), .int (nI kn), .int tf9])), (tby, .inl (G.2.1, 240, .inl fby)), (tsp, .inr (8, [.int 120, .int 1, .ref tspc, .int (nI ksp)])), (tspc, .inl (G.2.1, 120, .inl ftsp))] (fun (r : Int32) (u : Int32 × Nat × Nat × Int32 × Nat × (Nat → Int32)) => (r = 1 ∨ r = 0) ∧ (u.2.1 ≤ 240 ∧ u.2.2.1 ≤ 240 ∧ u.2.2.2.2.1 ≤ 120)) (fun u : Int32 × Nat × Nat × Int32 × Nat × (Nat → Int32) => [(h0, .inr (10, [.ref tby, .int (nI kt), .ref tln, .ref tsp, .int u.1, .int (nI u.2.1), .int (nI u.2.2.1), .int u.2.2.2.1])), (tby, .inl (G.2.1, 240, .inl fby)), (tsp, .inr (8, [.int 120, .int 1, .ref tspc, .int (nI u.2.2.2.2.1)])), (tspc, .inl (G.2.1, 120, .inl u.2.2.2.2.2))]) := by
  refine MIo.start (by decide +kernel) (Nat.le_of_ble_eq_true rfl) ?_
  intro p e s m below meth c A ls hC hK hP hD hS hA hl hO
  have hl : lv_has ls 3 [(0, .ref h0), (1, .int 0)] := hl
  obtain ⟨hx, hb, hr, hml, hB, hown, hlocks, hnm⟩ := id hC
  refine lv_aload_n hx hb dX10_takesCond_0 rfl (lv_at hl 0 rfl) ?_
  refine lv_iload_n hx hb dX10_takesCond_1 rfl (lv_at hl 1 rfl) ?_
  refine iVo (wr := []) hO hC hK hl hP hD hS hA (t_all0 l G K h0 tby kt tln tsp tkd ks kn tf9 fby tspc ksp ftsp (by omega) (by omega) (by omega) (by omega)) si_X10_147 [0, 1, 2, 3] [] rfl rfl (by decide) rfl (by decide) (by decide) rfl rfl rfl rfl rfl (Nat.le_of_ble_eq_true rfl) ⟨Nat.le_of_ble_eq_true rfl, Nat.le_of_ble_eq_true rfl⟩ ⟨Nat.le_of_ble_eq_true rfl, Nat.le_of_ble_eq_true rfl⟩ dX10_takesCond_2 (fun r3527 u3528 H locs hr3527 hP hD hS => ?_)
  obtain ⟨kd13529, ks13530, kn13531, tf13532, ksp13533, gtsp3534⟩ := u3528
  try dsimp only at hr3527
  have hP : va_P G.1 vwCl [(h0, .inr (10, [.ref tby, .int (nI kt), .ref tln, .ref tsp, .int kd13529, .int (nI ks13530), .int (nI kn13531), .int tf13532])), (tby, .inl (G.2.1, 240, .inl fby)), (tsp, .inr (8, [.int 120, .int 1, .ref tspc, .int (nI ksp13533)])), (tspc, .inl (G.2.1, 120, .inl gtsp3534))] H := hP
  have hD : va_D A [(h0, .inr (10, [.ref tby, .int (nI kt), .ref tln, .ref tsp, .int kd13529, .int (nI ks13530), .int (nI kn13531), .int tf13532])), (tby, .inl (G.2.1, 240, .inl fby)), (tsp, .inr (8, [.int 120, .int 1, .ref tspc, .int (nI ksp13533)])), (tspc, .inl (G.2.1, 120, .inl gtsp3534))] := hD
  obtain ⟨hr3527, w3535⟩ := hr3527
  rcases hr3527 with rfl | rfl
  · refine lv_if_ne (tgt := 10) hx hb dX10_takesCond_5 (by decide) (fun _ => ?_) (fun c9 => absurd c9 (by decide))
    refine lv_iconst (v := 0) hx hb dX10_takesCond_10 (by decide) ?_
    refine lv_istore_n (lv' := [(2, .int 0), (0, .ref h0), (1, .int 0)]) hx hb dX10_takesCond_11 rfl hl (by decide) rfl (fun ls hl => ?_)
    have keyP : ∀ (nP kP : Nat) (vkd : Int32) (vtf : Int32) (vtsp : Nat → Int32) (vks : Nat) (vkn : Nat) (vksp : Nat) (H : Heap) (locs : List Loc) (ls : Array Slot), kP + nP = 240 → (vks ≤ 240) → (vkn ≤ 240) → (vksp ≤ 120) → va_P G.1 vwCl [(h0, .inr (10, [.ref tby, .int (nI kt), .ref tln, .ref tsp, .int vkd, .int (nI vks), .int (nI vkn), .int vtf])), (tby, .inl (G.2.1, 240, .inl fby)), (tsp, .inr (8, [.int 120, .int 1, .ref tspc, .int (nI vksp)])), (tspc, .inl (G.2.1, 120, .inl vtsp))] H → va_D A [(h0, .inr (10, [.ref tby, .int (nI kt), .ref tln, .ref tsp, .int vkd, .int (nI vks), .int (nI vkn), .int vtf])), (tby, .inl (G.2.1, 240, .inl fby)), (tsp, .inr (8, [.int 120, .int 1, .ref tspc, .int (nI vksp)])), (tspc, .inl (G.2.1, 120, .inl vtsp))] → va_S A s.heap H locs → lv_has ls 3 [(2, .int (nI kP)), (0, .ref h0), (1, .int 0)] → W p l e (RM 27 0 0) s m ([.ref h0, .int 0] : List Value).toArray below meth c H locs 0 0 (MQ below (QI G (fun (r : Int32) (u : Int32 × Nat × Nat × Int32 × Nat × (Nat → Int32)) => (r = 1 ∨ r = 0) ∧ (u.2.1 ≤ 240 ∧ u.2.2.1 ≤ 240 ∧ u.2.2.2.2.1 ≤ 120)) (fun u : Int32 × Nat × Nat × Int32 × Nat × (Nat → Int32) => [(h0, .inr (10, [.ref tby, .int (nI kt), .ref tln, .ref tsp, .int u.1, .int (nI u.2.1), .int (nI u.2.2.1), .int u.2.2.2.1])), (tby, .inl (G.2.1, 240, .inl fby)), (tsp, .inr (8, [.int 120, .int 1, .ref tspc, .int (nI u.2.2.2.2.1)])), (tspc, .inl (G.2.1, 120, .inl u.2.2.2.2.2))]) A) ([.ref h0, .int 0] : List Value).toArray s 0 0 A) (F0 m 12 ls []) := by
      intro nP
      induction nP with
      | zero =>
        intro kP vkd vtf vtsp vks vkn vksp H locs ls hkP hvks hvkn hvksp hP hD hS hl
        obtain rfl : 240 = kP := by omega
        have hl : lv_has ls 3 [(2, .int 240), (0, .ref h0), (1, .int 0)] := hl
        refine lv_iload_n hx hb dX10_takesCond_12 rfl (lv_at hl 0 rfl) ?_
        refine lv_sipush (v := 240) hx hb dX10_takesCond_13 (by decide) ?_
        refine lv_icmp_ge (tgt := 54) hx hb dX10_takesCond_16 (by decide) (fun _ => ?_) (fun c9 => absurd (by decide) c9)
        refine lv_iconst (v := 1) hx hb dX10_takesCond_54 (by decide) ?_
        exact RI (v := 1) hC hP hD hS [0, 1, 2, 3] (vkd, vks, vkn, vtf, vksp, vtsp) rfl rfl (by decide) (⟨Or.inl (rfl), by dsimp only; omega⟩) (by decide +kernel) dX10_takesCond_55
      | succ nP ihP =>
        intro kP vkd vtf vtsp vks vkn vksp H locs ls hkP hvks hvkn hvksp hP hD hS hl
        refine lv_iload_n hx hb dX10_takesCond_12 rfl (lv_at hl 0 rfl) ?_
        refine lv_sipush (v := 240) hx hb dX10_takesCond_13 (by decide) ?_
        refine lv_icmp_ge (tgt := 54) hx hb dX10_takesCond_16 (by decide) (fun c9 => absurd c9 (nI_ge (a := kP) (b := 240) (by omega) (by omega))) (fun _ => ?_)
        refine lv_aload_n hx hb dX10_takesCond_19 rfl (lv_at hl 1 rfl) ?_
        refine va_ldcS (index := 150) (tx := "o\x72") hx hb hown (hO.2.1 8 (by decide)) dX10_takesCond_20 ?_
        refine pVo hO hS hC hK hl hP hD (t_isName l G K 8 h0 tby kt tln tsp vkd vks vkn vtf fby (by omega) (by omega) (by omega) ((by decide))) si_X10_102 [0, 1] rfl rfl (by decide) rfl rfl rfl rfl rfl (Nat.le_of_ble_eq_true rfl) ⟨Nat.le_of_ble_eq_true rfl, Nat.le_of_ble_eq_true rfl⟩ ⟨by first | exact Nat.le_of_ble_eq_true rfl | exact Nat.zero_le _, by first | exact Nat.le_of_ble_eq_true rfl | exact Nat.zero_le _⟩ dX10_takesCond_22 (fun r3537 hr3537 => ?_)
        rcases hr3537 with rfl | rfl
        · refine lv_if_eq (tgt := 54) hx hb dX10_takesCond_25 (by decide) (fun c9 => absurd c9 (by decide)) (fun _ => ?_)
          refine lv_aload_n hx hb dX10_takesCond_28 rfl (lv_at hl 1 rfl) ?_
          refine vV (wr := [(tsp, .inr (8, [.int 120, .int 1, .ref tspc, .int (nI vksp)])), (tspc, .inl (G.2.1, 120, .inl vtsp))]) hC hK hl hP hD hS hA (t_advance l G h0 tby kt tln tsp vkd vks vkn vtf fby (by omega) (by omega) (by omega)) si_X10_47 [0, 1] [2, 3] rfl rfl (by decide) rfl (by decide) (by decide) rfl rfl rfl rfl rfl (Nat.le_of_ble_eq_true rfl) ⟨Nat.le_of_ble_eq_true rfl, Nat.le_of_ble_eq_true rfl⟩ ⟨Nat.le_of_ble_eq_true rfl, Nat.le_of_ble_eq_true rfl⟩ dX10_takesCond_29 (fun u3540 H locs hr3539 hP hD hS => ?_)
          obtain ⟨kd13541, ks13542, kn13543⟩ := u3540
          try dsimp only at hr3539
          have hP : va_P G.1 vwCl [(tsp, .inr (8, [.int 120, .int 1, .ref tspc, .int (nI vksp)])), (tspc, .inl (G.2.1, 120, .inl vtsp)), (h0, .inr (10, [.ref tby, .int (nI kt), .ref tln, .ref tsp, .int kd13541, .int (nI ks13542), .int (nI kn13543), .int vtf])), (tby, .inl (G.2.1, 240, .inl fby))] H := hP
          have hD : va_D A [(tsp, .inr (8, [.int 120, .int 1, .ref tspc, .int (nI vksp)])), (tspc, .inl (G.2.1, 120, .inl vtsp)), (h0, .inr (10, [.ref tby, .int (nI kt), .ref tln, .ref tsp, .int kd13541, .int (nI ks13542), .int (nI kn13543), .int vtf])), (tby, .inl (G.2.1, 240, .inl fby))] := hD
          have w3544 := hr3539
          refine lv_aload_n hx hb dX10_takesCond_32 rfl (lv_at hl 1 rfl) ?_
          refine lv_iload_n hx hb dX10_takesCond_33 rfl (lv_at hl 2 rfl) ?_
          refine iVo (wr := []) hO hC hK hl hP hD hS hA (t_all0 l G K h0 tby kt tln tsp kd13541 ks13542 kn13543 vtf fby tspc vksp vtsp (by omega) (by omega) (by omega) (by omega)) si_X10_147 [2, 3, 0, 1] [] rfl rfl (by decide) rfl (by decide) (by decide) rfl rfl rfl rfl rfl (Nat.le_of_ble_eq_true rfl) ⟨Nat.le_of_ble_eq_true rfl, Nat.le_of_ble_eq_true rfl⟩ ⟨Nat.le_of_ble_eq_true rfl, Nat.le_of_ble_eq_true rfl⟩ dX10_takesCond_34 (fun r3545 u3546 H locs hr3545 hP hD hS => ?_)
          obtain ⟨kd13547, ks13548, kn13549, tf13550, ksp13551, gtsp3552⟩ := u3546
          try dsimp only at hr3545
          have hP : va_P G.1 vwCl [(h0, .inr (10, [.ref tby, .int (nI kt), .ref tln, .ref tsp, .int kd13547, .int (nI ks13548), .int (nI kn13549), .int tf13550])), (tby, .inl (G.2.1, 240, .inl fby)), (tsp, .inr (8, [.int 120, .int 1, .ref tspc, .int (nI ksp13551)])), (tspc, .inl (G.2.1, 120, .inl gtsp3552))] H := hP
          have hD : va_D A [(h0, .inr (10, [.ref tby, .int (nI kt), .ref tln, .ref tsp, .int kd13547, .int (nI ks13548), .int (nI kn13549), .int tf13550])), (tby, .inl (G.2.1, 240, .inl fby)), (tsp, .inr (8, [.int 120, .int 1, .ref tspc, .int (nI ksp13551)])), (tspc, .inl (G.2.1, 120, .inl gtsp3552))] := hD
          obtain ⟨hr3545, w3553⟩ := hr3545
          rcases hr3545 with rfl | rfl
          · refine lv_if_ne (tgt := 42) hx hb dX10_takesCond_37 (by decide) (fun _ => ?_) (fun c9 => absurd c9 (by decide))
            refine lv_aload_n hx hb dX10_takesCond_42 rfl (lv_at hl 1 rfl) ?_
            refine lv_bipush (v := (-3)) hx hb dX10_takesCond_43 (by decide) ?_
            refine vV (wr := [(tby, .inl (G.2.1, 240, .inl fby))]) hC hK hl hP hD hS hA (t_addStep l G h0 (-3) tby kt tln tsp kd13547 ks13548 kn13549 tf13550 tspc ksp13551 gtsp3552 (by omega)) si_X10_152 [0, 2, 3] [1] rfl rfl (by decide) rfl (by decide) (by decide) rfl rfl rfl rfl rfl (Nat.le_of_ble_eq_true rfl) ⟨Nat.le_of_ble_eq_true rfl, Nat.le_of_ble_eq_true rfl⟩ ⟨Nat.le_of_ble_eq_true rfl, Nat.le_of_ble_eq_true rfl⟩ dX10_takesCond_45 (fun u3556 H locs hr3555 hP hD hS => ?_)
            obtain ⟨ksp13557, gtsp3558⟩ := u3556
            try dsimp only at hr3555
            have hP : va_P G.1 vwCl [(tby, .inl (G.2.1, 240, .inl fby)), (h0, .inr (10, [.ref tby, .int (nI kt), .ref tln, .ref tsp, .int kd13547, .int (nI ks13548), .int (nI kn13549), .int tf13550])), (tsp, .inr (8, [.int 120, .int 1, .ref tspc, .int (nI ksp13557)])), (tspc, .inl (G.2.1, 120, .inl gtsp3558))] H := hP
            have hD : va_D A [(tby, .inl (G.2.1, 240, .inl fby)), (h0, .inr (10, [.ref tby, .int (nI kt), .ref tln, .ref tsp, .int kd13547, .int (nI ks13548), .int (nI kn13549), .int tf13550])), (tsp, .inr (8, [.int 120, .int 1, .ref tspc, .int (nI ksp13557)])), (tspc, .inl (G.2.1, 120, .inl gtsp3558))] := hD
            have w3559 := hr3555
            refine lv_iinc (v := nI (kP + 1)) (lv' := [(2, .int (nI (kP + 1))), (0, .ref h0), (1, .int 0)]) hx hb dX10_takesCond_48 hl (k := 0) rfl (nI_1 _) (by decide) rfl (fun ls hl => ?_)
            refine lv_goto (tgt := 12) hx hb dX10_takesCond_51 (by decide) ?_
            have hP := hP.sub (ws' := [(h0, .inr (10, [.ref tby, .int (nI kt), .ref tln, .ref tsp, .int kd13547, .int (nI ks13548), .int (nI kn13549), .int tf13550])), (tby, .inl (G.2.1, 240, .inl fby)), (tsp, .inr (8, [.int 120, .int 1, .ref tspc, .int (nI ksp13557)])), (tspc, .inl (G.2.1, 120, .inl gtsp3558))]) [1, 0, 2, 3] rfl
            have hD := hD.sub (ws' := [(h0, .inr (10, [.ref tby, .int (nI kt), .ref tln, .ref tsp, .int kd13547, .int (nI ks13548), .int (nI kn13549), .int tf13550])), (tby, .inl (G.2.1, 240, .inl fby)), (tsp, .inr (8, [.int 120, .int 1, .ref tspc, .int (nI ksp13557)])), (tspc, .inl (G.2.1, 120, .inl gtsp3558))]) [1, 0, 2, 3] (by decide) rfl
            exact ihP (kP + 1) kd13547 tf13550 gtsp3558 ks13548 kn13549 ksp13557 _ _ _ (by omega) (by first | assumption | exact Or.inl rfl | exact Or.inr rfl | omega) (by first | assumption | exact Or.inl rfl | exact Or.inr rfl | omega) (by first | assumption | exact Or.inl rfl | exact Or.inr rfl | omega) hP hD hS (lv_sub hl [0, 1, 2] rfl)
          · refine lv_if_ne (tgt := 42) hx hb dX10_takesCond_37 (by decide) (fun c9 => absurd (by decide) c9) (fun _ => ?_)
            refine lv_iconst (v := 0) hx hb dX10_takesCond_40 (by decide) ?_
            exact RI (v := 0) hC hP hD hS [0, 1, 2, 3] (kd13547, ks13548, kn13549, tf13550, ksp13551, gtsp3552) rfl rfl (by decide) (⟨Or.inr (rfl), by dsimp only; omega⟩) (by decide +kernel) dX10_takesCond_41
        · refine lv_if_eq (tgt := 54) hx hb dX10_takesCond_25 (by decide) (fun _ => ?_) (fun c9 => absurd (by decide) c9)
          refine lv_iconst (v := 1) hx hb dX10_takesCond_54 (by decide) ?_
          exact RI (v := 1) hC hP hD hS [0, 1, 2, 3] (vkd, vks, vkn, vtf, vksp, vtsp) rfl rfl (by decide) (⟨Or.inl (rfl), by dsimp only; omega⟩) (by decide +kernel) dX10_takesCond_55
    exact keyP 240 0 kd13529 tf13532 gtsp3534 ks13530 kn13531 ksp13533 _ _ _ (by omega) (by first | assumption | exact Or.inl rfl | exact Or.inr rfl | omega) (by first | assumption | exact Or.inl rfl | exact Or.inr rfl | omega) (by first | assumption | exact Or.inl rfl | exact Or.inr rfl | omega) hP hD hS (lv_sub hl [0, 1, 2] rfl)
  · refine lv_if_ne (tgt := 10) hx hb dX10_takesCond_5 (by decide) (fun c9 => absurd (by decide) c9) (fun _ => ?_)
    refine lv_iconst (v := 0) hx hb dX10_takesCond_8 (by decide) ?_
    exact RI (v := 0) hC hP hD hS [0, 1, 2, 3] (kd13529, ks13530, kn13531, tf13532, ksp13533, gtsp3534) rfl rfl (by decide) (⟨Or.inr (rfl), by dsimp only; omega⟩) (by decide +kernel) dX10_takesCond_9
