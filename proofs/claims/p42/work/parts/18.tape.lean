section WR
variable {p : Program} {l : Launch} {e : Env} {R : Room} {s : State} {m : MethodId} {args : Array Value} {below : List Frame} {meth : Method} {c : Code} {H : Heap} {locs : List Loc} {cells slots : Nat} {Q : State → Prop}
variable {pc : Nat} {ls : Array Slot} {rest : List Value} {G : GG} {ws : va_W} {A : Nat → Prop} {y0 : MethodName} {b0 : ByteArray} {mL0 : Nat} {rt0 : Option FieldType} {a : Nat} {H0 : Heap}
theorem dX10_byteAt_0 : decode cX10_byteAt 0 = .ok (.iload_n 1, 1) := by decide +kernel
theorem dX10_byteAt_1 : decode cX10_byteAt 1 = .ok (.ifCond .lt 29, 3) := by decide +kernel
theorem dX10_byteAt_30 : decode cX10_byteAt 30 = .ok (.iconst (-1), 1) := by decide +kernel
theorem dX10_byteAt_31 : decode cX10_byteAt 31 = .ok (.ireturn, 1) := by decide +kernel
theorem dX10_byteAt_4 : decode cX10_byteAt 4 = .ok (.iload_n 1, 1) := by decide +kernel
theorem dX10_byteAt_5 : decode cX10_byteAt 5 = .ok (.aload_n 0, 1) := by decide +kernel
theorem dX10_byteAt_6 : decode cX10_byteAt 6 = .ok (.getfield 27, 3) := by decide +kernel
theorem dX10_byteAt_9 : decode cX10_byteAt 9 = .ok (.if_icmp .ge 21, 3) := by decide +kernel
theorem dX10_byteAt_12 : decode cX10_byteAt 12 = .ok (.iload_n 1, 1) := by decide +kernel
theorem dX10_byteAt_13 : decode cX10_byteAt 13 = .ok (.aload_n 0, 1) := by decide +kernel
theorem dX10_byteAt_14 : decode cX10_byteAt 14 = .ok (.getfield 9, 3) := by decide +kernel
theorem dX10_byteAt_17 : decode cX10_byteAt 17 = .ok (.arraylength, 1) := by decide +kernel
theorem dX10_byteAt_18 : decode cX10_byteAt 18 = .ok (.if_icmp .ge 12, 3) := by decide +kernel
theorem dX10_byteAt_21 : decode cX10_byteAt 21 = .ok (.aload_n 0, 1) := by decide +kernel
theorem dX10_byteAt_22 : decode cX10_byteAt 22 = .ok (.getfield 9, 3) := by decide +kernel
theorem dX10_byteAt_25 : decode cX10_byteAt 25 = .ok (.iload_n 1, 1) := by decide +kernel
theorem dX10_byteAt_26 : decode cX10_byteAt 26 = .ok (.iaload, 1) := by decide +kernel
theorem dX10_byteAt_27 : decode cX10_byteAt 27 = .ok (.goto 4, 3) := by decide +kernel
theorem dX10_isLetter_0 : decode cX10_isLetter 0 = .ok (.iload_n 0, 1) := by decide +kernel
theorem dX10_isLetter_1 : decode cX10_isLetter 1 = .ok (.bipush 97, 2) := by decide +kernel
theorem dX10_isLetter_3 : decode cX10_isLetter 3 = .ok (.bipush 122, 2) := by decide +kernel
theorem dX10_isLetter_5 : decode cX10_isLetter 5 = .ok (.invokestatic 89, 3) := by decide +kernel
theorem nm_50 : Cond.methodLinkNest RX10 89 yX11_within RX11 ∈ NestW := List.mem_of_getElem? (i := 50) (by decide +kernel)
theorem si_X10_89 : SSN RX10 RX11 89 yX11_within cX11_within 3 (some .boolean) 3 := ⟨⟨nm_50, m_213, m_2, m_214⟩, ⟨by decide +kernel, by decide +kernel, by decide +kernel⟩⟩
theorem dX10_isLetter_8 : decode cX10_isLetter 8 = .ok (.ireturn, 1) := by decide +kernel
theorem dX10_isDigit_0 : decode cX10_isDigit 0 = .ok (.iload_n 0, 1) := by decide +kernel
theorem dX10_isDigit_1 : decode cX10_isDigit 1 = .ok (.bipush 48, 2) := by decide +kernel
theorem dX10_isDigit_3 : decode cX10_isDigit 3 = .ok (.bipush 57, 2) := by decide +kernel
theorem dX10_isDigit_5 : decode cX10_isDigit 5 = .ok (.invokestatic 89, 3) := by decide +kernel
theorem dX10_isDigit_8 : decode cX10_isDigit 8 = .ok (.ireturn, 1) := by decide +kernel
theorem dX10_refuse_0 : decode cX10_refuse 0 = .ok (.aload_n 0, 1) := by decide +kernel
theorem dX10_refuse_1 : decode cX10_refuse 1 = .ok (.aload_n 0, 1) := by decide +kernel
theorem dX10_refuse_2 : decode cX10_refuse 2 = .ok (.getfield 34, 3) := by decide +kernel
theorem m_145 : Cond.fieldLink RX10 34 "InquiryBench$Tape" "start" "I" ∈ BW := List.mem_of_getElem? (i := 145) (by decide +kernel)
theorem gf_X10_34 (hC : CX p s m meth c y0 b0 mL0 rt0 args) (hy0 : y0.cls = RX10) (hK : KK G s) (hP : va_P G.1 vwCl ws H) (q0 : Nat) {fs : List Value} {v : Value} (he : ws[q0]? = some (a, .inr (10, fs))) (hv : fs[5]? = some v) (hdg : decode b0 pc = .ok (.getfield 34, 3)) (kk : W p l e R s m args below meth c H locs cells slots Q (F0 m (pc + 3) ls (v :: rest))) : W p l e R s m args below meth c H locs cells slots Q (F0 m pc ls (.ref a :: rest)) := by
  obtain ⟨hx, hb, hr, hml, hB, hown, hlocks, hnm⟩ := hC
  rw [hy0] at hown
  exact va_get (ci := 10) (C := RX10) (T := TX10) (N := 8) hx hb hB in_X10 hown hK.1 hP q0 he rfl 5 (by decide) (hB _ m_145) (fun _ h => h) hv hdg kk
theorem dX10_refuse_5 : decode cX10_refuse 5 = .ok (.putfield 40, 3) := by decide +kernel
theorem m_147 : Cond.fieldLink RX10 40 "InquiryBench$Tape" "fault" "I" ∈ BW := List.mem_of_getElem? (i := 147) (by decide +kernel)
theorem pf_X10_40 (hC : CX p s m meth c y0 b0 mL0 rt0 args) (hy0 : y0.cls = RX10) (hK : KK G s) (hP : va_P G.1 vwCl ws H) (hD : va_D A ws) (hS : va_S A H0 H locs) (q0 : Nat) {fs : List Value} {v : Value} {ws' : va_W} (he : ws[q0]? = some (a, .inr (10, fs))) (hl : 7 < fs.length) (hws : ws.set q0 (a, .inr (10, fs.set 7 v)) = ws') (hn : narrow .int v = v) (hfit : fits .int v = true) (hdg : decode b0 pc = .ok (.putfield 40, 3)) (kk : ∀ (H1 : Heap) (locs1 : List Loc), va_P G.1 vwCl ws' H1 → va_D A ws' → va_S A H0 H1 locs1 → W p l e R s m args below meth c H1 locs1 cells slots Q (F0 m (pc + 3) ls rest)) : W p l e R s m args below meth c H locs cells slots Q (F0 m pc ls (v :: .ref a :: rest)) := by
  obtain ⟨hx, hb, hr, hml, hB, hown, hlocks, hnm⟩ := hC
  rw [hy0] at hown
  subst hws
  exact va_put (ci := 10) (ty := .int) (C := RX10) (T := TX10) (N := 8) hx hb hB in_X10 tyX10 tyX10_ok nmX10 hown hK.1 hP hD hS q0 he rfl 7 (by decide) (hB _ m_147) (fun _ h => h) rfl (by decide +kernel) hn hfit hl hdg kk
theorem dX10_refuse_8 : decode cX10_refuse 8 = .ok (.iconst 0, 1) := by decide +kernel
theorem dX10_refuse_9 : decode cX10_refuse 9 = .ok (.ireturn, 1) := by decide +kernel
theorem dX10_clear_0 : decode cX10_clear 0 = .ok (.aload_n 0, 1) := by decide +kernel
theorem dX10_clear_1 : decode cX10_clear 1 = .ok (.iconst 0, 1) := by decide +kernel
theorem dX10_clear_2 : decode cX10_clear 2 = .ok (.putfield 27, 3) := by decide +kernel
theorem dX10_clear_5 : decode cX10_clear 5 = .ok (.return_, 1) := by decide +kernel
theorem dX10_advance_0 : decode cX10_advance 0 = .ok (.aload_n 0, 1) := by decide +kernel
theorem dX10_advance_1 : decode cX10_advance 1 = .ok (.aload_n 0, 1) := by decide +kernel
theorem dX10_advance_2 : decode cX10_advance 2 = .ok (.getfield 37, 3) := by decide +kernel
theorem m_146 : Cond.fieldLink RX10 37 "InquiryBench$Tape" "next" "I" ∈ BW := List.mem_of_getElem? (i := 146) (by decide +kernel)
theorem gf_X10_37 (hC : CX p s m meth c y0 b0 mL0 rt0 args) (hy0 : y0.cls = RX10) (hK : KK G s) (hP : va_P G.1 vwCl ws H) (q0 : Nat) {fs : List Value} {v : Value} (he : ws[q0]? = some (a, .inr (10, fs))) (hv : fs[6]? = some v) (hdg : decode b0 pc = .ok (.getfield 37, 3)) (kk : W p l e R s m args below meth c H locs cells slots Q (F0 m (pc + 3) ls (v :: rest))) : W p l e R s m args below meth c H locs cells slots Q (F0 m pc ls (.ref a :: rest)) := by
  obtain ⟨hx, hb, hr, hml, hB, hown, hlocks, hnm⟩ := hC
  rw [hy0] at hown
  exact va_get (ci := 10) (C := RX10) (T := TX10) (N := 8) hx hb hB in_X10 hown hK.1 hP q0 he rfl 6 (by decide) (hB _ m_146) (fun _ h => h) hv hdg kk
theorem dX10_advance_5 : decode cX10_advance 5 = .ok (.putfield 34, 3) := by decide +kernel
theorem pf_X10_34 (hC : CX p s m meth c y0 b0 mL0 rt0 args) (hy0 : y0.cls = RX10) (hK : KK G s) (hP : va_P G.1 vwCl ws H) (hD : va_D A ws) (hS : va_S A H0 H locs) (q0 : Nat) {fs : List Value} {v : Value} {ws' : va_W} (he : ws[q0]? = some (a, .inr (10, fs))) (hl : 5 < fs.length) (hws : ws.set q0 (a, .inr (10, fs.set 5 v)) = ws') (hn : narrow .int v = v) (hfit : fits .int v = true) (hdg : decode b0 pc = .ok (.putfield 34, 3)) (kk : ∀ (H1 : Heap) (locs1 : List Loc), va_P G.1 vwCl ws' H1 → va_D A ws' → va_S A H0 H1 locs1 → W p l e R s m args below meth c H1 locs1 cells slots Q (F0 m (pc + 3) ls rest)) : W p l e R s m args below meth c H locs cells slots Q (F0 m pc ls (v :: .ref a :: rest)) := by
  obtain ⟨hx, hb, hr, hml, hB, hown, hlocks, hnm⟩ := hC
  rw [hy0] at hown
  subst hws
  exact va_put (ci := 10) (ty := .int) (C := RX10) (T := TX10) (N := 8) hx hb hB in_X10 tyX10 tyX10_ok nmX10 hown hK.1 hP hD hS q0 he rfl 5 (by decide) (hB _ m_145) (fun _ h => h) rfl (by decide +kernel) hn hfit hl hdg kk
theorem dX10_advance_8 : decode cX10_advance 8 = .ok (.aload_n 0, 1) := by decide +kernel
theorem dX10_advance_9 : decode cX10_advance 9 = .ok (.getfield 34, 3) := by decide +kernel
theorem dX10_advance_12 : decode cX10_advance 12 = .ok (.aload_n 0, 1) := by decide +kernel
theorem dX10_advance_13 : decode cX10_advance 13 = .ok (.getfield 27, 3) := by decide +kernel
theorem dX10_advance_16 : decode cX10_advance 16 = .ok (.if_icmp .ge 29, 3) := by decide +kernel
theorem dX10_advance_45 : decode cX10_advance 45 = .ok (.aload_n 0, 1) := by decide +kernel
theorem dX10_advance_46 : decode cX10_advance 46 = .ok (.aload_n 0, 1) := by decide +kernel
theorem dX10_advance_47 : decode cX10_advance 47 = .ok (.getfield 34, 3) := by decide +kernel
theorem dX10_advance_50 : decode cX10_advance 50 = .ok (.putfield 37, 3) := by decide +kernel
theorem pf_X10_37 (hC : CX p s m meth c y0 b0 mL0 rt0 args) (hy0 : y0.cls = RX10) (hK : KK G s) (hP : va_P G.1 vwCl ws H) (hD : va_D A ws) (hS : va_S A H0 H locs) (q0 : Nat) {fs : List Value} {v : Value} {ws' : va_W} (he : ws[q0]? = some (a, .inr (10, fs))) (hl : 6 < fs.length) (hws : ws.set q0 (a, .inr (10, fs.set 6 v)) = ws') (hn : narrow .int v = v) (hfit : fits .int v = true) (hdg : decode b0 pc = .ok (.putfield 37, 3)) (kk : ∀ (H1 : Heap) (locs1 : List Loc), va_P G.1 vwCl ws' H1 → va_D A ws' → va_S A H0 H1 locs1 → W p l e R s m args below meth c H1 locs1 cells slots Q (F0 m (pc + 3) ls rest)) : W p l e R s m args below meth c H locs cells slots Q (F0 m pc ls (v :: .ref a :: rest)) := by
  obtain ⟨hx, hb, hr, hml, hB, hown, hlocks, hnm⟩ := hC
  rw [hy0] at hown
  subst hws
  exact va_put (ci := 10) (ty := .int) (C := RX10) (T := TX10) (N := 8) hx hb hB in_X10 tyX10 tyX10_ok nmX10 hown hK.1 hP hD hS q0 he rfl 6 (by decide) (hB _ m_146) (fun _ h => h) rfl (by decide +kernel) hn hfit hl hdg kk
theorem dX10_advance_53 : decode cX10_advance 53 = .ok (.aload_n 0, 1) := by decide +kernel
theorem dX10_advance_54 : decode cX10_advance 54 = .ok (.aload_n 0, 1) := by decide +kernel
theorem dX10_advance_55 : decode cX10_advance 55 = .ok (.getfield 34, 3) := by decide +kernel
theorem dX10_advance_58 : decode cX10_advance 58 = .ok (.invokevirtual 78, 3) := by decide +kernel
theorem m_771 : Cond.code yX10_byteAt cX10_byteAt 2 (some .int) ∈ BW := List.mem_of_getElem? (i := 771) (by decide +kernel)
theorem m_768 : Cond.methodLink RX10 78 yX10_byteAt ∈ BW := List.mem_of_getElem? (i := 768) (by decide +kernel)
theorem m_769 : Cond.instanceMethod yX10_byteAt ∈ BW := List.mem_of_getElem? (i := 769) (by decide +kernel)
theorem m_770 : Cond.selects RX10 yX10_byteAt yX10_byteAt ∈ BW := List.mem_of_getElem? (i := 770) (by decide +kernel)
theorem si_X10_78 : SV RX10 RX10 78 yX10_byteAt cX10_byteAt 2 (some .int) 1 := ⟨⟨m_768, m_769, m_770, m_37, m_771⟩, rfl, by decide +kernel, by decide +kernel, by decide +kernel⟩
theorem dX10_advance_61 : decode cX10_advance 61 = .ok (.invokestatic 82, 3) := by decide +kernel
theorem m_774 : Cond.code yX10_isLetter cX10_isLetter 1 (some .boolean) ∈ BW := List.mem_of_getElem? (i := 774) (by decide +kernel)
theorem m_772 : Cond.methodLink RX10 82 yX10_isLetter ∈ BW := List.mem_of_getElem? (i := 772) (by decide +kernel)
theorem m_773 : Cond.static yX10_isLetter ∈ BW := List.mem_of_getElem? (i := 773) (by decide +kernel)
theorem si_X10_82 : SS RX10 82 yX10_isLetter cX10_isLetter 1 (some .boolean) 1 := ⟨⟨m_772, m_773, m_37, m_774⟩, ⟨by decide +kernel, by decide +kernel, by decide +kernel⟩⟩
theorem dX10_advance_64 : decode cX10_advance 64 = .ok (.ifCond .eq 47, 3) := by decide +kernel
theorem dX10_advance_67 : decode cX10_advance 67 = .ok (.aload_n 0, 1) := by decide +kernel
theorem dX10_advance_68 : decode cX10_advance 68 = .ok (.bipush (-2), 2) := by decide +kernel
theorem dX10_advance_70 : decode cX10_advance 70 = .ok (.putfield 31, 3) := by decide +kernel
theorem m_144 : Cond.fieldLink RX10 31 "InquiryBench$Tape" "kind" "I" ∈ BW := List.mem_of_getElem? (i := 144) (by decide +kernel)
theorem pf_X10_31 (hC : CX p s m meth c y0 b0 mL0 rt0 args) (hy0 : y0.cls = RX10) (hK : KK G s) (hP : va_P G.1 vwCl ws H) (hD : va_D A ws) (hS : va_S A H0 H locs) (q0 : Nat) {fs : List Value} {v : Value} {ws' : va_W} (he : ws[q0]? = some (a, .inr (10, fs))) (hl : 4 < fs.length) (hws : ws.set q0 (a, .inr (10, fs.set 4 v)) = ws') (hn : narrow .int v = v) (hfit : fits .int v = true) (hdg : decode b0 pc = .ok (.putfield 31, 3)) (kk : ∀ (H1 : Heap) (locs1 : List Loc), va_P G.1 vwCl ws' H1 → va_D A ws' → va_S A H0 H1 locs1 → W p l e R s m args below meth c H1 locs1 cells slots Q (F0 m (pc + 3) ls rest)) : W p l e R s m args below meth c H locs cells slots Q (F0 m pc ls (v :: .ref a :: rest)) := by
  obtain ⟨hx, hb, hr, hml, hB, hown, hlocks, hnm⟩ := hC
  rw [hy0] at hown
  subst hws
  exact va_put (ci := 10) (ty := .int) (C := RX10) (T := TX10) (N := 8) hx hb hB in_X10 tyX10 tyX10_ok nmX10 hown hK.1 hP hD hS q0 he rfl 4 (by decide) (hB _ m_144) (fun _ h => h) rfl (by decide +kernel) hn hfit hl hdg kk
theorem dX10_advance_73 : decode cX10_advance 73 = .ok (.aload_n 0, 1) := by decide +kernel
theorem dX10_advance_74 : decode cX10_advance 74 = .ok (.getfield 37, 3) := by decide +kernel
theorem dX10_advance_77 : decode cX10_advance 77 = .ok (.aload_n 0, 1) := by decide +kernel
theorem dX10_advance_78 : decode cX10_advance 78 = .ok (.getfield 27, 3) := by decide +kernel
theorem dX10_advance_81 : decode cX10_advance 81 = .ok (.if_icmp .ge 118, 3) := by decide +kernel
theorem dX10_advance_199 : decode cX10_advance 199 = .ok (.return_, 1) := by decide +kernel
theorem dX10_advance_84 : decode cX10_advance 84 = .ok (.aload_n 0, 1) := by decide +kernel
theorem dX10_advance_85 : decode cX10_advance 85 = .ok (.aload_n 0, 1) := by decide +kernel
theorem dX10_advance_86 : decode cX10_advance 86 = .ok (.getfield 37, 3) := by decide +kernel
theorem dX10_advance_89 : decode cX10_advance 89 = .ok (.invokevirtual 78, 3) := by decide +kernel
theorem dX10_advance_92 : decode cX10_advance 92 = .ok (.invokestatic 82, 3) := by decide +kernel
theorem dX10_advance_95 : decode cX10_advance 95 = .ok (.ifCond .eq 104, 3) := by decide +kernel
theorem dX10_advance_98 : decode cX10_advance 98 = .ok (.aload_n 0, 1) := by decide +kernel
theorem dX10_advance_99 : decode cX10_advance 99 = .ok (.dup, 1) := by decide +kernel
theorem dX10_advance_100 : decode cX10_advance 100 = .ok (.getfield 37, 3) := by decide +kernel
theorem dX10_advance_103 : decode cX10_advance 103 = .ok (.iconst 1, 1) := by decide +kernel
theorem dX10_advance_104 : decode cX10_advance 104 = .ok (.iadd, 1) := by decide +kernel
theorem dX10_advance_105 : decode cX10_advance 105 = .ok (.putfield 37, 3) := by decide +kernel
theorem dX10_advance_108 : decode cX10_advance 108 = .ok (.goto (-35), 3) := by decide +kernel
theorem dX10_advance_111 : decode cX10_advance 111 = .ok (.aload_n 0, 1) := by decide +kernel
theorem dX10_advance_112 : decode cX10_advance 112 = .ok (.aload_n 0, 1) := by decide +kernel
theorem dX10_advance_113 : decode cX10_advance 113 = .ok (.getfield 34, 3) := by decide +kernel
theorem dX10_advance_116 : decode cX10_advance 116 = .ok (.invokevirtual 78, 3) := by decide +kernel
theorem dX10_advance_119 : decode cX10_advance 119 = .ok (.invokestatic 86, 3) := by decide +kernel
theorem m_777 : Cond.code yX10_isDigit cX10_isDigit 1 (some .boolean) ∈ BW := List.mem_of_getElem? (i := 777) (by decide +kernel)
theorem m_775 : Cond.methodLink RX10 86 yX10_isDigit ∈ BW := List.mem_of_getElem? (i := 775) (by decide +kernel)
theorem m_776 : Cond.static yX10_isDigit ∈ BW := List.mem_of_getElem? (i := 776) (by decide +kernel)
theorem si_X10_86 : SS RX10 86 yX10_isDigit cX10_isDigit 1 (some .boolean) 1 := ⟨⟨m_775, m_776, m_37, m_777⟩, ⟨by decide +kernel, by decide +kernel, by decide +kernel⟩⟩
theorem dX10_advance_122 : decode cX10_advance 122 = .ok (.ifCond .eq 47, 3) := by decide +kernel
theorem dX10_advance_125 : decode cX10_advance 125 = .ok (.aload_n 0, 1) := by decide +kernel
theorem dX10_advance_126 : decode cX10_advance 126 = .ok (.bipush (-3), 2) := by decide +kernel
theorem dX10_advance_128 : decode cX10_advance 128 = .ok (.putfield 31, 3) := by decide +kernel
theorem dX10_advance_131 : decode cX10_advance 131 = .ok (.aload_n 0, 1) := by decide +kernel
theorem dX10_advance_132 : decode cX10_advance 132 = .ok (.getfield 37, 3) := by decide +kernel
theorem dX10_advance_135 : decode cX10_advance 135 = .ok (.aload_n 0, 1) := by decide +kernel
theorem dX10_advance_136 : decode cX10_advance 136 = .ok (.getfield 27, 3) := by decide +kernel
theorem dX10_advance_139 : decode cX10_advance 139 = .ok (.if_icmp .ge 60, 3) := by decide +kernel
theorem dX10_advance_142 : decode cX10_advance 142 = .ok (.aload_n 0, 1) := by decide +kernel
theorem dX10_advance_143 : decode cX10_advance 143 = .ok (.aload_n 0, 1) := by decide +kernel
theorem dX10_advance_144 : decode cX10_advance 144 = .ok (.getfield 37, 3) := by decide +kernel
theorem dX10_advance_147 : decode cX10_advance 147 = .ok (.invokevirtual 78, 3) := by decide +kernel
theorem dX10_advance_150 : decode cX10_advance 150 = .ok (.invokestatic 86, 3) := by decide +kernel
theorem dX10_advance_153 : decode cX10_advance 153 = .ok (.ifCond .eq 46, 3) := by decide +kernel
theorem dX10_advance_156 : decode cX10_advance 156 = .ok (.aload_n 0, 1) := by decide +kernel
theorem dX10_advance_157 : decode cX10_advance 157 = .ok (.dup, 1) := by decide +kernel
theorem dX10_advance_158 : decode cX10_advance 158 = .ok (.getfield 37, 3) := by decide +kernel
theorem dX10_advance_161 : decode cX10_advance 161 = .ok (.iconst 1, 1) := by decide +kernel
theorem dX10_advance_162 : decode cX10_advance 162 = .ok (.iadd, 1) := by decide +kernel
theorem dX10_advance_163 : decode cX10_advance 163 = .ok (.putfield 37, 3) := by decide +kernel
theorem dX10_advance_166 : decode cX10_advance 166 = .ok (.goto (-35), 3) := by decide +kernel
theorem dX10_advance_169 : decode cX10_advance 169 = .ok (.aload_n 0, 1) := by decide +kernel
theorem dX10_advance_170 : decode cX10_advance 170 = .ok (.aload_n 0, 1) := by decide +kernel
theorem dX10_advance_171 : decode cX10_advance 171 = .ok (.aload_n 0, 1) := by decide +kernel
theorem dX10_advance_172 : decode cX10_advance 172 = .ok (.getfield 34, 3) := by decide +kernel
theorem dX10_advance_175 : decode cX10_advance 175 = .ok (.invokevirtual 78, 3) := by decide +kernel
theorem dX10_advance_178 : decode cX10_advance 178 = .ok (.putfield 31, 3) := by decide +kernel
theorem dX10_advance_181 : decode cX10_advance 181 = .ok (.aload_n 0, 1) := by decide +kernel
theorem dX10_advance_182 : decode cX10_advance 182 = .ok (.getfield 31, 3) := by decide +kernel
theorem gf_X10_31 (hC : CX p s m meth c y0 b0 mL0 rt0 args) (hy0 : y0.cls = RX10) (hK : KK G s) (hP : va_P G.1 vwCl ws H) (q0 : Nat) {fs : List Value} {v : Value} (he : ws[q0]? = some (a, .inr (10, fs))) (hv : fs[4]? = some v) (hdg : decode b0 pc = .ok (.getfield 31, 3)) (kk : W p l e R s m args below meth c H locs cells slots Q (F0 m (pc + 3) ls (v :: rest))) : W p l e R s m args below meth c H locs cells slots Q (F0 m pc ls (.ref a :: rest)) := by
  obtain ⟨hx, hb, hr, hml, hB, hown, hlocks, hnm⟩ := hC
  rw [hy0] at hown
  exact va_get (ci := 10) (C := RX10) (T := TX10) (N := 8) hx hb hB in_X10 hown hK.1 hP q0 he rfl 4 (by decide) (hB _ m_144) (fun _ h => h) hv hdg kk
theorem dX10_advance_185 : decode cX10_advance 185 = .ok (.iconst (-1), 1) := by decide +kernel
theorem dX10_advance_186 : decode cX10_advance 186 = .ok (.if_icmp .eq 13, 3) := by decide +kernel
theorem dX10_advance_189 : decode cX10_advance 189 = .ok (.aload_n 0, 1) := by decide +kernel
theorem dX10_advance_190 : decode cX10_advance 190 = .ok (.dup, 1) := by decide +kernel
theorem dX10_advance_191 : decode cX10_advance 191 = .ok (.getfield 37, 3) := by decide +kernel
theorem dX10_advance_194 : decode cX10_advance 194 = .ok (.iconst 1, 1) := by decide +kernel
theorem dX10_advance_195 : decode cX10_advance 195 = .ok (.iadd, 1) := by decide +kernel
theorem dX10_advance_196 : decode cX10_advance 196 = .ok (.putfield 37, 3) := by decide +kernel
theorem dX10_advance_19 : decode cX10_advance 19 = .ok (.aload_n 0, 1) := by decide +kernel
theorem dX10_advance_20 : decode cX10_advance 20 = .ok (.aload_n 0, 1) := by decide +kernel
theorem dX10_advance_21 : decode cX10_advance 21 = .ok (.getfield 34, 3) := by decide +kernel
theorem dX10_advance_24 : decode cX10_advance 24 = .ok (.invokevirtual 78, 3) := by decide +kernel
theorem dX10_advance_27 : decode cX10_advance 27 = .ok (.bipush 32, 2) := by decide +kernel
theorem dX10_advance_29 : decode cX10_advance 29 = .ok (.if_icmp .ne 16, 3) := by decide +kernel
theorem dX10_advance_32 : decode cX10_advance 32 = .ok (.aload_n 0, 1) := by decide +kernel
theorem dX10_advance_33 : decode cX10_advance 33 = .ok (.dup, 1) := by decide +kernel
theorem dX10_advance_34 : decode cX10_advance 34 = .ok (.getfield 34, 3) := by decide +kernel
theorem dX10_advance_37 : decode cX10_advance 37 = .ok (.iconst 1, 1) := by decide +kernel
theorem dX10_advance_38 : decode cX10_advance 38 = .ok (.iadd, 1) := by decide +kernel
theorem dX10_advance_39 : decode cX10_advance 39 = .ok (.putfield 34, 3) := by decide +kernel
theorem dX10_advance_42 : decode cX10_advance 42 = .ok (.goto (-34), 3) := by decide +kernel
theorem dX10_isName_0 : decode cX10_isName 0 = .ok (.aload_n 0, 1) := by decide +kernel
theorem dX10_isName_1 : decode cX10_isName 1 = .ok (.getfield 31, 3) := by decide +kernel
theorem dX10_isName_4 : decode cX10_isName 4 = .ok (.bipush (-2), 2) := by decide +kernel
theorem dX10_isName_6 : decode cX10_isName 6 = .ok (.if_icmp .ne 19, 3) := by decide +kernel
theorem dX10_isName_25 : decode cX10_isName 25 = .ok (.iconst 0, 1) := by decide +kernel
theorem dX10_isName_26 : decode cX10_isName 26 = .ok (.ireturn, 1) := by decide +kernel
theorem dX10_isName_9 : decode cX10_isName 9 = .ok (.aload_n 0, 1) := by decide +kernel
theorem dX10_isName_10 : decode cX10_isName 10 = .ok (.getfield 37, 3) := by decide +kernel
theorem dX10_isName_13 : decode cX10_isName 13 = .ok (.aload_n 0, 1) := by decide +kernel
theorem dX10_isName_14 : decode cX10_isName 14 = .ok (.getfield 34, 3) := by decide +kernel
theorem dX10_isName_17 : decode cX10_isName 17 = .ok (.isub, 1) := by decide +kernel
theorem dX10_isName_18 : decode cX10_isName 18 = .ok (.aload_n 1, 1) := by decide +kernel
theorem dX10_isName_19 : decode cX10_isName 19 = .ok (.invokevirtual 93, 3) := by decide +kernel
theorem m_801 : Cond.code yJ0_length_8abf5 cJ0_length_8abf5 1 (some .int) ∈ BW := List.mem_of_getElem? (i := 801) (by decide +kernel)
theorem m_797 : Cond.methodLink RX10 93 yJ0_length_8abf5 ∈ BW := List.mem_of_getElem? (i := 797) (by decide +kernel)
theorem m_798 : Cond.instanceMethod yJ0_length_8abf5 ∈ BW := List.mem_of_getElem? (i := 798) (by decide +kernel)
theorem m_799 : Cond.selects RJ0 yJ0_length_8abf5 yJ0_length_8abf5 ∈ BW := List.mem_of_getElem? (i := 799) (by decide +kernel)
theorem si_X10_93 : SV RX10 RJ0 93 yJ0_length_8abf5 cJ0_length_8abf5 1 (some .int) 0 := ⟨⟨m_797, m_798, m_799, m_800, m_801⟩, rfl, by decide +kernel, by decide +kernel, by decide +kernel⟩
theorem dX10_isName_22 : decode cX10_isName 22 = .ok (.if_icmp .eq 5, 3) := by decide +kernel
theorem dX10_isName_27 : decode cX10_isName 27 = .ok (.iconst 0, 1) := by decide +kernel
theorem dX10_isName_28 : decode cX10_isName 28 = .ok (.istore_n 2, 1) := by decide +kernel
theorem dX10_isName_29 : decode cX10_isName 29 = .ok (.iload_n 2, 1) := by decide +kernel
theorem dX10_isName_30 : decode cX10_isName 30 = .ok (.aload_n 1, 1) := by decide +kernel
theorem dX10_isName_31 : decode cX10_isName 31 = .ok (.invokevirtual 93, 3) := by decide +kernel
theorem dX10_isName_34 : decode cX10_isName 34 = .ok (.if_icmp .ge 29, 3) := by decide +kernel
theorem dX10_isName_63 : decode cX10_isName 63 = .ok (.iconst 1, 1) := by decide +kernel
theorem dX10_isName_64 : decode cX10_isName 64 = .ok (.ireturn, 1) := by decide +kernel
theorem dX10_isName_37 : decode cX10_isName 37 = .ok (.aload_n 0, 1) := by decide +kernel
theorem dX10_isName_38 : decode cX10_isName 38 = .ok (.aload_n 0, 1) := by decide +kernel
theorem dX10_isName_39 : decode cX10_isName 39 = .ok (.getfield 34, 3) := by decide +kernel
theorem dX10_isName_42 : decode cX10_isName 42 = .ok (.iload_n 2, 1) := by decide +kernel
theorem dX10_isName_43 : decode cX10_isName 43 = .ok (.iadd, 1) := by decide +kernel
theorem dX10_isName_44 : decode cX10_isName 44 = .ok (.invokevirtual 78, 3) := by decide +kernel
theorem dX10_isName_47 : decode cX10_isName 47 = .ok (.aload_n 1, 1) := by decide +kernel
theorem dX10_isName_48 : decode cX10_isName 48 = .ok (.iload_n 2, 1) := by decide +kernel
theorem dX10_isName_49 : decode cX10_isName 49 = .ok (.invokevirtual 98, 3) := by decide +kernel
theorem m_812 : Cond.code yJ0_charAt_5068e cJ0_charAt_5068e 2 (some .char) ∈ BW := List.mem_of_getElem? (i := 812) (by decide +kernel)
theorem m_809 : Cond.methodLink RX10 98 yJ0_charAt_5068e ∈ BW := List.mem_of_getElem? (i := 809) (by decide +kernel)
theorem m_810 : Cond.instanceMethod yJ0_charAt_5068e ∈ BW := List.mem_of_getElem? (i := 810) (by decide +kernel)
theorem m_811 : Cond.selects RJ0 yJ0_charAt_5068e yJ0_charAt_5068e ∈ BW := List.mem_of_getElem? (i := 811) (by decide +kernel)
theorem si_X10_98 : SV RX10 RJ0 98 yJ0_charAt_5068e cJ0_charAt_5068e 2 (some .char) 1 := ⟨⟨m_809, m_810, m_811, m_800, m_812⟩, rfl, by decide +kernel, by decide +kernel, by decide +kernel⟩
theorem dX10_isName_52 : decode cX10_isName 52 = .ok (.if_icmp .eq 5, 3) := by decide +kernel
theorem dX10_isName_57 : decode cX10_isName 57 = .ok (.iinc 2 1, 3) := by decide +kernel
theorem dX10_isName_60 : decode cX10_isName 60 = .ok (.goto (-31), 3) := by decide +kernel
theorem dX10_isName_55 : decode cX10_isName 55 = .ok (.iconst 0, 1) := by decide +kernel
theorem dX10_isName_56 : decode cX10_isName 56 = .ok (.ireturn, 1) := by decide +kernel
theorem dX10_takesName_0 : decode cX10_takesName 0 = .ok (.aload_n 0, 1) := by decide +kernel
theorem dX10_takesName_1 : decode cX10_takesName 1 = .ok (.aload_n 1, 1) := by decide +kernel
theorem dX10_takesName_2 : decode cX10_takesName 2 = .ok (.invokevirtual 102, 3) := by decide +kernel
theorem m_796 : Cond.code yX10_isName cX10_isName 3 (some .boolean) ∈ BW := List.mem_of_getElem? (i := 796) (by decide +kernel)
theorem m_793 : Cond.methodLink RX10 102 yX10_isName ∈ BW := List.mem_of_getElem? (i := 793) (by decide +kernel)
theorem m_794 : Cond.instanceMethod yX10_isName ∈ BW := List.mem_of_getElem? (i := 794) (by decide +kernel)
theorem m_795 : Cond.selects RX10 yX10_isName yX10_isName ∈ BW := List.mem_of_getElem? (i := 795) (by decide +kernel)
theorem si_X10_102 : SV RX10 RX10 102 yX10_isName cX10_isName 3 (some .boolean) 1 := ⟨⟨m_793, m_794, m_795, m_37, m_796⟩, rfl, by decide +kernel, by decide +kernel, by decide +kernel⟩
theorem dX10_takesName_5 : decode cX10_takesName 5 = .ok (.ifCond .ne 8, 3) := by decide +kernel
theorem dX10_takesName_13 : decode cX10_takesName 13 = .ok (.aload_n 0, 1) := by decide +kernel
theorem dX10_takesName_14 : decode cX10_takesName 14 = .ok (.invokevirtual 47, 3) := by decide +kernel
theorem m_767 : Cond.code yX10_advance cX10_advance 1 none ∈ BW := List.mem_of_getElem? (i := 767) (by decide +kernel)
theorem m_764 : Cond.methodLink RX10 47 yX10_advance ∈ BW := List.mem_of_getElem? (i := 764) (by decide +kernel)
theorem m_765 : Cond.instanceMethod yX10_advance ∈ BW := List.mem_of_getElem? (i := 765) (by decide +kernel)
theorem m_766 : Cond.selects RX10 yX10_advance yX10_advance ∈ BW := List.mem_of_getElem? (i := 766) (by decide +kernel)
theorem si_X10_47 : SV RX10 RX10 47 yX10_advance cX10_advance 1 none 0 := ⟨⟨m_764, m_765, m_766, m_37, m_767⟩, rfl, by decide +kernel, by decide +kernel, by decide +kernel⟩
theorem dX10_takesName_17 : decode cX10_takesName 17 = .ok (.iconst 1, 1) := by decide +kernel
theorem dX10_takesName_18 : decode cX10_takesName 18 = .ok (.ireturn, 1) := by decide +kernel
theorem dX10_takesName_8 : decode cX10_takesName 8 = .ok (.aload_n 0, 1) := by decide +kernel
theorem dX10_takesName_9 : decode cX10_takesName 9 = .ok (.invokevirtual 106, 3) := by decide +kernel
theorem m_786 : Cond.code yX10_refuse cX10_refuse 1 (some .boolean) ∈ BW := List.mem_of_getElem? (i := 786) (by decide +kernel)
theorem m_783 : Cond.methodLink RX10 106 yX10_refuse ∈ BW := List.mem_of_getElem? (i := 783) (by decide +kernel)
theorem m_784 : Cond.instanceMethod yX10_refuse ∈ BW := List.mem_of_getElem? (i := 784) (by decide +kernel)
theorem m_785 : Cond.selects RX10 yX10_refuse yX10_refuse ∈ BW := List.mem_of_getElem? (i := 785) (by decide +kernel)
theorem si_X10_106 : SV RX10 RX10 106 yX10_refuse cX10_refuse 1 (some .boolean) 0 := ⟨⟨m_783, m_784, m_785, m_37, m_786⟩, rfl, by decide +kernel, by decide +kernel, by decide +kernel⟩
theorem dX10_takesName_12 : decode cX10_takesName 12 = .ok (.ireturn, 1) := by decide +kernel
theorem dX10_takesByte_0 : decode cX10_takesByte 0 = .ok (.aload_n 0, 1) := by decide +kernel
theorem dX10_takesByte_1 : decode cX10_takesByte 1 = .ok (.getfield 31, 3) := by decide +kernel
theorem dX10_takesByte_4 : decode cX10_takesByte 4 = .ok (.iload_n 1, 1) := by decide +kernel
theorem dX10_takesByte_5 : decode cX10_takesByte 5 = .ok (.if_icmp .eq 8, 3) := by decide +kernel
theorem dX10_takesByte_13 : decode cX10_takesByte 13 = .ok (.aload_n 0, 1) := by decide +kernel
theorem dX10_takesByte_14 : decode cX10_takesByte 14 = .ok (.invokevirtual 47, 3) := by decide +kernel
theorem dX10_takesByte_17 : decode cX10_takesByte 17 = .ok (.iconst 1, 1) := by decide +kernel
theorem dX10_takesByte_18 : decode cX10_takesByte 18 = .ok (.ireturn, 1) := by decide +kernel
theorem dX10_takesByte_8 : decode cX10_takesByte 8 = .ok (.aload_n 0, 1) := by decide +kernel
theorem dX10_takesByte_9 : decode cX10_takesByte 9 = .ok (.invokevirtual 106, 3) := by decide +kernel
theorem dX10_takesByte_12 : decode cX10_takesByte 12 = .ok (.ireturn, 1) := by decide +kernel
theorem dX10_numberHere_0 : decode cX10_numberHere 0 = .ok (.aload_n 0, 1) := by decide +kernel
theorem dX10_numberHere_1 : decode cX10_numberHere 1 = .ok (.getfield 31, 3) := by decide +kernel
theorem dX10_numberHere_4 : decode cX10_numberHere 4 = .ok (.bipush (-3), 2) := by decide +kernel
theorem dX10_numberHere_6 : decode cX10_numberHere 6 = .ok (.if_icmp .ne 16, 3) := by decide +kernel
theorem dX10_numberHere_22 : decode cX10_numberHere 22 = .ok (.iconst (-1), 1) := by decide +kernel
theorem dX10_numberHere_23 : decode cX10_numberHere 23 = .ok (.ireturn, 1) := by decide +kernel
theorem dX10_numberHere_9 : decode cX10_numberHere 9 = .ok (.aload_n 0, 1) := by decide +kernel
theorem dX10_numberHere_10 : decode cX10_numberHere 10 = .ok (.getfield 37, 3) := by decide +kernel
theorem dX10_numberHere_13 : decode cX10_numberHere 13 = .ok (.aload_n 0, 1) := by decide +kernel
theorem dX10_numberHere_14 : decode cX10_numberHere 14 = .ok (.getfield 34, 3) := by decide +kernel
theorem dX10_numberHere_17 : decode cX10_numberHere 17 = .ok (.isub, 1) := by decide +kernel
theorem dX10_numberHere_18 : decode cX10_numberHere 18 = .ok (.iconst 3, 1) := by decide +kernel
theorem dX10_numberHere_19 : decode cX10_numberHere 19 = .ok (.if_icmp .le 5, 3) := by decide +kernel
theorem dX10_numberHere_24 : decode cX10_numberHere 24 = .ok (.iconst 0, 1) := by decide +kernel
theorem dX10_numberHere_25 : decode cX10_numberHere 25 = .ok (.istore_n 1, 1) := by decide +kernel
theorem dX10_numberHere_26 : decode cX10_numberHere 26 = .ok (.aload_n 0, 1) := by decide +kernel
theorem dX10_numberHere_27 : decode cX10_numberHere 27 = .ok (.getfield 34, 3) := by decide +kernel
theorem dX10_numberHere_30 : decode cX10_numberHere 30 = .ok (.istore_n 2, 1) := by decide +kernel
theorem dX10_numberHere_31 : decode cX10_numberHere 31 = .ok (.iload_n 2, 1) := by decide +kernel
theorem dX10_numberHere_32 : decode cX10_numberHere 32 = .ok (.aload_n 0, 1) := by decide +kernel
theorem dX10_numberHere_33 : decode cX10_numberHere 33 = .ok (.getfield 37, 3) := by decide +kernel
theorem dX10_numberHere_36 : decode cX10_numberHere 36 = .ok (.if_icmp .ge 23, 3) := by decide +kernel
theorem dX10_numberHere_59 : decode cX10_numberHere 59 = .ok (.iload_n 1, 1) := by decide +kernel
theorem dX10_numberHere_60 : decode cX10_numberHere 60 = .ok (.ireturn, 1) := by decide +kernel
theorem dX10_numberHere_39 : decode cX10_numberHere 39 = .ok (.iload_n 1, 1) := by decide +kernel
theorem dX10_numberHere_40 : decode cX10_numberHere 40 = .ok (.bipush 10, 2) := by decide +kernel
theorem dX10_numberHere_42 : decode cX10_numberHere 42 = .ok (.imul, 1) := by decide +kernel
theorem dX10_numberHere_43 : decode cX10_numberHere 43 = .ok (.aload_n 0, 1) := by decide +kernel
theorem dX10_numberHere_44 : decode cX10_numberHere 44 = .ok (.iload_n 2, 1) := by decide +kernel
theorem dX10_numberHere_45 : decode cX10_numberHere 45 = .ok (.invokevirtual 78, 3) := by decide +kernel
theorem dX10_numberHere_48 : decode cX10_numberHere 48 = .ok (.iadd, 1) := by decide +kernel
theorem dX10_numberHere_49 : decode cX10_numberHere 49 = .ok (.bipush 48, 2) := by decide +kernel
theorem dX10_numberHere_51 : decode cX10_numberHere 51 = .ok (.isub, 1) := by decide +kernel
theorem dX10_numberHere_52 : decode cX10_numberHere 52 = .ok (.istore_n 1, 1) := by decide +kernel
theorem dX10_numberHere_53 : decode cX10_numberHere 53 = .ok (.iinc 2 1, 3) := by decide +kernel
theorem dX10_numberHere_56 : decode cX10_numberHere 56 = .ok (.goto (-25), 3) := by decide +kernel
theorem dX10_takesNumber_0 : decode cX10_takesNumber 0 = .ok (.aload_n 0, 1) := by decide +kernel
theorem dX10_takesNumber_1 : decode cX10_takesNumber 1 = .ok (.invokevirtual 109, 3) := by decide +kernel
theorem m_857 : Cond.code yX10_numberHere cX10_numberHere 3 (some .int) ∈ BW := List.mem_of_getElem? (i := 857) (by decide +kernel)
theorem m_854 : Cond.methodLink RX10 109 yX10_numberHere ∈ BW := List.mem_of_getElem? (i := 854) (by decide +kernel)
theorem m_855 : Cond.instanceMethod yX10_numberHere ∈ BW := List.mem_of_getElem? (i := 855) (by decide +kernel)
theorem m_856 : Cond.selects RX10 yX10_numberHere yX10_numberHere ∈ BW := List.mem_of_getElem? (i := 856) (by decide +kernel)
theorem si_X10_109 : SV RX10 RX10 109 yX10_numberHere cX10_numberHere 3 (some .int) 0 := ⟨⟨m_854, m_855, m_856, m_37, m_857⟩, rfl, by decide +kernel, by decide +kernel, by decide +kernel⟩
theorem dX10_takesNumber_4 : decode cX10_takesNumber 4 = .ok (.istore 4, 2) := by decide +kernel
theorem dX10_takesNumber_6 : decode cX10_takesNumber 6 = .ok (.iload 4, 2) := by decide +kernel
theorem dX10_takesNumber_8 : decode cX10_takesNumber 8 = .ok (.iconst 0, 1) := by decide +kernel
theorem dX10_takesNumber_9 : decode cX10_takesNumber 9 = .ok (.iload_n 3, 1) := by decide +kernel
theorem dX10_takesNumber_10 : decode cX10_takesNumber 10 = .ok (.invokestatic 89, 3) := by decide +kernel
theorem dX10_takesNumber_13 : decode cX10_takesNumber 13 = .ok (.ifCond .ne 8, 3) := by decide +kernel
theorem dX10_takesNumber_21 : decode cX10_takesNumber 21 = .ok (.aload_n 0, 1) := by decide +kernel
theorem dX10_takesNumber_22 : decode cX10_takesNumber 22 = .ok (.getfield 20, 3) := by decide +kernel
theorem m_141 : Cond.fieldLink RX10 20 "InquiryBench$Tape" "lines" "LInquiryBench$Table;" ∈ BW := List.mem_of_getElem? (i := 141) (by decide +kernel)
theorem gf_X10_20 (hC : CX p s m meth c y0 b0 mL0 rt0 args) (hy0 : y0.cls = RX10) (hK : KK G s) (hP : va_P G.1 vwCl ws H) (q0 : Nat) {fs : List Value} {v : Value} (he : ws[q0]? = some (a, .inr (10, fs))) (hv : fs[2]? = some v) (hdg : decode b0 pc = .ok (.getfield 20, 3)) (kk : W p l e R s m args below meth c H locs cells slots Q (F0 m (pc + 3) ls (v :: rest))) : W p l e R s m args below meth c H locs cells slots Q (F0 m pc ls (.ref a :: rest)) := by
  obtain ⟨hx, hb, hr, hml, hB, hown, hlocks, hnm⟩ := hC
  rw [hy0] at hown
  exact va_get (ci := 10) (C := RX10) (T := TX10) (N := 8) hx hb hB in_X10 hown hK.1 hP q0 he rfl 2 (by decide) (hB _ m_141) (fun _ h => h) hv hdg kk
theorem dX10_takesNumber_25 : decode cX10_takesNumber 25 = .ok (.iload_n 1, 1) := by decide +kernel
theorem dX10_takesNumber_26 : decode cX10_takesNumber 26 = .ok (.iload_n 2, 1) := by decide +kernel
theorem dX10_takesNumber_27 : decode cX10_takesNumber 27 = .ok (.iload 4, 2) := by decide +kernel
theorem dX10_takesNumber_29 : decode cX10_takesNumber 29 = .ok (.invokevirtual 66, 3) := by decide +kernel
theorem m_787 : Cond.methodLink RX10 66 yX8_set ∈ BW := List.mem_of_getElem? (i := 787) (by decide +kernel)
theorem si_X10_66 : SV RX10 RX8 66 yX8_set cX8_set 4 none 3 := ⟨⟨m_787, m_289, m_290, m_56, m_291⟩, rfl, by decide +kernel, by decide +kernel, by decide +kernel⟩
theorem dX10_takesNumber_32 : decode cX10_takesNumber 32 = .ok (.aload_n 0, 1) := by decide +kernel
theorem dX10_takesNumber_33 : decode cX10_takesNumber 33 = .ok (.invokevirtual 47, 3) := by decide +kernel
theorem dX10_takesNumber_36 : decode cX10_takesNumber 36 = .ok (.iconst 1, 1) := by decide +kernel
theorem dX10_takesNumber_37 : decode cX10_takesNumber 37 = .ok (.ireturn, 1) := by decide +kernel
theorem dX10_takesNumber_16 : decode cX10_takesNumber 16 = .ok (.aload_n 0, 1) := by decide +kernel
theorem dX10_takesNumber_17 : decode cX10_takesNumber 17 = .ok (.invokevirtual 106, 3) := by decide +kernel
theorem dX10_takesNumber_20 : decode cX10_takesNumber 20 = .ok (.ireturn, 1) := by decide +kernel
theorem dX10_addStep_0 : decode cX10_addStep 0 = .ok (.aload_n 0, 1) := by decide +kernel
theorem dX10_addStep_1 : decode cX10_addStep 1 = .ok (.getfield 24, 3) := by decide +kernel
theorem m_142 : Cond.fieldLink RX10 24 "InquiryBench$Tape" "steps" "LInquiryBench$Table;" ∈ BW := List.mem_of_getElem? (i := 142) (by decide +kernel)
theorem gf_X10_24 (hC : CX p s m meth c y0 b0 mL0 rt0 args) (hy0 : y0.cls = RX10) (hK : KK G s) (hP : va_P G.1 vwCl ws H) (q0 : Nat) {fs : List Value} {v : Value} (he : ws[q0]? = some (a, .inr (10, fs))) (hv : fs[3]? = some v) (hdg : decode b0 pc = .ok (.getfield 24, 3)) (kk : W p l e R s m args below meth c H locs cells slots Q (F0 m (pc + 3) ls (v :: rest))) : W p l e R s m args below meth c H locs cells slots Q (F0 m pc ls (.ref a :: rest)) := by
  obtain ⟨hx, hb, hr, hml, hB, hown, hlocks, hnm⟩ := hC
  rw [hy0] at hown
  exact va_get (ci := 10) (C := RX10) (T := TX10) (N := 8) hx hb hB in_X10 hown hK.1 hP q0 he rfl 3 (by decide) (hB _ m_142) (fun _ h => h) hv hdg kk
theorem dX10_addStep_4 : decode cX10_addStep 4 = .ok (.aload_n 0, 1) := by decide +kernel
theorem dX10_addStep_5 : decode cX10_addStep 5 = .ok (.getfield 24, 3) := by decide +kernel
theorem dX10_addStep_8 : decode cX10_addStep 8 = .ok (.invokevirtual 59, 3) := by decide +kernel
theorem m_782 : Cond.methodLink RX10 59 yX8_append ∈ BW := List.mem_of_getElem? (i := 782) (by decide +kernel)
theorem si_X10_59 : SV RX10 RX8 59 yX8_append cX8_append 1 (some .int) 0 := ⟨⟨m_782, m_285, m_286, m_56, m_287⟩, rfl, by decide +kernel, by decide +kernel, by decide +kernel⟩
theorem dX10_addStep_11 : decode cX10_addStep 11 = .ok (.iconst 0, 1) := by decide +kernel
theorem dX10_addStep_12 : decode cX10_addStep 12 = .ok (.iload_n 1, 1) := by decide +kernel
theorem dX10_addStep_13 : decode cX10_addStep 13 = .ok (.invokevirtual 66, 3) := by decide +kernel
theorem dX10_addStep_16 : decode cX10_addStep 16 = .ok (.return_, 1) := by decide +kernel
theorem dX10_factHere_0 : decode cX10_factHere 0 = .ok (.aload_n 0, 1) := by decide +kernel
theorem dX10_factHere_1 : decode cX10_factHere 1 = .ok (.ldc 171, 2) := by decide +kernel
theorem dX10_factHere_3 : decode cX10_factHere 3 = .ok (.invokevirtual 102, 3) := by decide +kernel
theorem dX10_factHere_6 : decode cX10_factHere 6 = .ok (.ifCond .eq 5, 3) := by decide +kernel
theorem dX10_factHere_9 : decode cX10_factHere 9 = .ok (.iconst 0, 1) := by decide +kernel
theorem dX10_factHere_10 : decode cX10_factHere 10 = .ok (.ireturn, 1) := by decide +kernel
theorem dX10_factHere_11 : decode cX10_factHere 11 = .ok (.aload_n 0, 1) := by decide +kernel
theorem dX10_factHere_12 : decode cX10_factHere 12 = .ok (.ldc 173, 2) := by decide +kernel
theorem dX10_factHere_14 : decode cX10_factHere 14 = .ok (.invokevirtual 102, 3) := by decide +kernel
theorem dX10_factHere_17 : decode cX10_factHere 17 = .ok (.ifCond .eq 5, 3) := by decide +kernel
theorem dX10_factHere_20 : decode cX10_factHere 20 = .ok (.iconst 1, 1) := by decide +kernel
theorem dX10_factHere_21 : decode cX10_factHere 21 = .ok (.ireturn, 1) := by decide +kernel
theorem dX10_factHere_22 : decode cX10_factHere 22 = .ok (.aload_n 0, 1) := by decide +kernel
theorem dX10_factHere_23 : decode cX10_factHere 23 = .ok (.ldc 175, 2) := by decide +kernel
theorem dX10_factHere_25 : decode cX10_factHere 25 = .ok (.invokevirtual 102, 3) := by decide +kernel
theorem dX10_factHere_28 : decode cX10_factHere 28 = .ok (.ifCond .eq 5, 3) := by decide +kernel
theorem dX10_factHere_31 : decode cX10_factHere 31 = .ok (.iconst 2, 1) := by decide +kernel
theorem dX10_factHere_32 : decode cX10_factHere 32 = .ok (.ireturn, 1) := by decide +kernel
theorem dX10_factHere_33 : decode cX10_factHere 33 = .ok (.aload_n 0, 1) := by decide +kernel
theorem dX10_factHere_34 : decode cX10_factHere 34 = .ok (.ldc 177, 2) := by decide +kernel
theorem dX10_factHere_36 : decode cX10_factHere 36 = .ok (.invokevirtual 102, 3) := by decide +kernel
theorem dX10_factHere_39 : decode cX10_factHere 39 = .ok (.ifCond .eq 5, 3) := by decide +kernel
theorem dX10_factHere_42 : decode cX10_factHere 42 = .ok (.iconst 3, 1) := by decide +kernel
theorem dX10_factHere_43 : decode cX10_factHere 43 = .ok (.ireturn, 1) := by decide +kernel
theorem dX10_factHere_44 : decode cX10_factHere 44 = .ok (.aload_n 0, 1) := by decide +kernel
theorem dX10_factHere_45 : decode cX10_factHere 45 = .ok (.ldc 179, 2) := by decide +kernel
theorem dX10_factHere_47 : decode cX10_factHere 47 = .ok (.invokevirtual 102, 3) := by decide +kernel
theorem dX10_factHere_50 : decode cX10_factHere 50 = .ok (.ifCond .eq 7, 3) := by decide +kernel
theorem dX10_factHere_53 : decode cX10_factHere 53 = .ok (.iconst 4, 1) := by decide +kernel
theorem dX10_factHere_54 : decode cX10_factHere 54 = .ok (.goto 4, 3) := by decide +kernel
theorem dX10_factHere_58 : decode cX10_factHere 58 = .ok (.ireturn, 1) := by decide +kernel
theorem dX10_factHere_57 : decode cX10_factHere 57 = .ok (.iconst (-1), 1) := by decide +kernel
theorem dX10_signHere_0 : decode cX10_signHere 0 = .ok (.aload_n 0, 1) := by decide +kernel
theorem dX10_signHere_1 : decode cX10_signHere 1 = .ok (.getfield 31, 3) := by decide +kernel
theorem dX10_signHere_4 : decode cX10_signHere 4 = .ok (.bipush 60, 2) := by decide +kernel
theorem dX10_signHere_6 : decode cX10_signHere 6 = .ok (.if_icmp .ne 5, 3) := by decide +kernel
theorem dX10_signHere_11 : decode cX10_signHere 11 = .ok (.aload_n 0, 1) := by decide +kernel
theorem dX10_signHere_12 : decode cX10_signHere 12 = .ok (.getfield 31, 3) := by decide +kernel
theorem dX10_signHere_15 : decode cX10_signHere 15 = .ok (.bipush 61, 2) := by decide +kernel
theorem dX10_signHere_17 : decode cX10_signHere 17 = .ok (.if_icmp .ne 5, 3) := by decide +kernel
theorem dX10_signHere_22 : decode cX10_signHere 22 = .ok (.aload_n 0, 1) := by decide +kernel
theorem dX10_signHere_23 : decode cX10_signHere 23 = .ok (.getfield 31, 3) := by decide +kernel
theorem dX10_signHere_26 : decode cX10_signHere 26 = .ok (.bipush 62, 2) := by decide +kernel
theorem dX10_signHere_28 : decode cX10_signHere 28 = .ok (.if_icmp .ne 7, 3) := by decide +kernel
theorem dX10_signHere_35 : decode cX10_signHere 35 = .ok (.iconst (-1), 1) := by decide +kernel
theorem dX10_signHere_36 : decode cX10_signHere 36 = .ok (.ireturn, 1) := by decide +kernel
theorem dX10_signHere_31 : decode cX10_signHere 31 = .ok (.iconst 2, 1) := by decide +kernel
theorem dX10_signHere_32 : decode cX10_signHere 32 = .ok (.goto 4, 3) := by decide +kernel
theorem dX10_signHere_20 : decode cX10_signHere 20 = .ok (.iconst 1, 1) := by decide +kernel
theorem dX10_signHere_21 : decode cX10_signHere 21 = .ok (.ireturn, 1) := by decide +kernel
theorem dX10_signHere_9 : decode cX10_signHere 9 = .ok (.iconst 0, 1) := by decide +kernel
theorem dX10_signHere_10 : decode cX10_signHere 10 = .ok (.ireturn, 1) := by decide +kernel
theorem dX10_sortHere_0 : decode cX10_sortHere 0 = .ok (.aload_n 0, 1) := by decide +kernel
theorem dX10_sortHere_1 : decode cX10_sortHere 1 = .ok (.ldc 127, 2) := by decide +kernel
theorem dX10_sortHere_3 : decode cX10_sortHere 3 = .ok (.invokevirtual 102, 3) := by decide +kernel
theorem dX10_sortHere_6 : decode cX10_sortHere 6 = .ok (.ifCond .eq 5, 3) := by decide +kernel
theorem dX10_sortHere_9 : decode cX10_sortHere 9 = .ok (.iconst 0, 1) := by decide +kernel
theorem dX10_sortHere_10 : decode cX10_sortHere 10 = .ok (.ireturn, 1) := by decide +kernel
theorem dX10_sortHere_11 : decode cX10_sortHere 11 = .ok (.aload_n 0, 1) := by decide +kernel
theorem dX10_sortHere_12 : decode cX10_sortHere 12 = .ok (.ldc 129, 2) := by decide +kernel
theorem dX10_sortHere_14 : decode cX10_sortHere 14 = .ok (.invokevirtual 102, 3) := by decide +kernel
theorem dX10_sortHere_17 : decode cX10_sortHere 17 = .ok (.ifCond .eq 5, 3) := by decide +kernel
theorem dX10_sortHere_20 : decode cX10_sortHere 20 = .ok (.iconst 1, 1) := by decide +kernel
theorem dX10_sortHere_21 : decode cX10_sortHere 21 = .ok (.ireturn, 1) := by decide +kernel
theorem dX10_sortHere_22 : decode cX10_sortHere 22 = .ok (.aload_n 0, 1) := by decide +kernel
theorem dX10_sortHere_23 : decode cX10_sortHere 23 = .ok (.ldc 131, 2) := by decide +kernel
theorem dX10_sortHere_25 : decode cX10_sortHere 25 = .ok (.invokevirtual 102, 3) := by decide +kernel
theorem dX10_sortHere_28 : decode cX10_sortHere 28 = .ok (.ifCond .eq 5, 3) := by decide +kernel
theorem dX10_sortHere_31 : decode cX10_sortHere 31 = .ok (.iconst 2, 1) := by decide +kernel
theorem dX10_sortHere_32 : decode cX10_sortHere 32 = .ok (.ireturn, 1) := by decide +kernel
theorem dX10_sortHere_33 : decode cX10_sortHere 33 = .ok (.aload_n 0, 1) := by decide +kernel
theorem dX10_sortHere_34 : decode cX10_sortHere 34 = .ok (.ldc 133, 2) := by decide +kernel
theorem dX10_sortHere_36 : decode cX10_sortHere 36 = .ok (.invokevirtual 102, 3) := by decide +kernel
theorem dX10_sortHere_39 : decode cX10_sortHere 39 = .ok (.ifCond .eq 7, 3) := by decide +kernel
theorem dX10_sortHere_42 : decode cX10_sortHere 42 = .ok (.iconst 3, 1) := by decide +kernel
theorem dX10_sortHere_43 : decode cX10_sortHere 43 = .ok (.goto 4, 3) := by decide +kernel
theorem dX10_sortHere_47 : decode cX10_sortHere 47 = .ok (.ireturn, 1) := by decide +kernel
theorem dX10_sortHere_46 : decode cX10_sortHere 46 = .ok (.iconst (-1), 1) := by decide +kernel
theorem dX10_takesComparison_0 : decode cX10_takesComparison 0 = .ok (.aload_n 0, 1) := by decide +kernel
theorem dX10_takesComparison_1 : decode cX10_takesComparison 1 = .ok (.invokevirtual 165, 3) := by decide +kernel
theorem m_885 : Cond.code yX10_factHere cX10_factHere 1 (some .int) ∈ BW := List.mem_of_getElem? (i := 885) (by decide +kernel)
theorem m_882 : Cond.methodLink RX10 165 yX10_factHere ∈ BW := List.mem_of_getElem? (i := 882) (by decide +kernel)
theorem m_883 : Cond.instanceMethod yX10_factHere ∈ BW := List.mem_of_getElem? (i := 883) (by decide +kernel)
theorem m_884 : Cond.selects RX10 yX10_factHere yX10_factHere ∈ BW := List.mem_of_getElem? (i := 884) (by decide +kernel)
theorem si_X10_165 : SV RX10 RX10 165 yX10_factHere cX10_factHere 1 (some .int) 0 := ⟨⟨m_882, m_883, m_884, m_37, m_885⟩, rfl, by decide +kernel, by decide +kernel, by decide +kernel⟩
theorem dX10_takesComparison_4 : decode cX10_takesComparison 4 = .ok (.istore_n 1, 1) := by decide +kernel
theorem dX10_takesComparison_5 : decode cX10_takesComparison 5 = .ok (.iload_n 1, 1) := by decide +kernel
theorem dX10_takesComparison_6 : decode cX10_takesComparison 6 = .ok (.ifCond .ge 8, 3) := by decide +kernel
theorem dX10_takesComparison_14 : decode cX10_takesComparison 14 = .ok (.aload_n 0, 1) := by decide +kernel
theorem dX10_takesComparison_15 : decode cX10_takesComparison 15 = .ok (.invokevirtual 47, 3) := by decide +kernel
theorem dX10_takesComparison_18 : decode cX10_takesComparison 18 = .ok (.aload_n 0, 1) := by decide +kernel
theorem dX10_takesComparison_19 : decode cX10_takesComparison 19 = .ok (.invokevirtual 168, 3) := by decide +kernel
theorem m_889 : Cond.code yX10_signHere cX10_signHere 1 (some .int) ∈ BW := List.mem_of_getElem? (i := 889) (by decide +kernel)
theorem m_886 : Cond.methodLink RX10 168 yX10_signHere ∈ BW := List.mem_of_getElem? (i := 886) (by decide +kernel)
theorem m_887 : Cond.instanceMethod yX10_signHere ∈ BW := List.mem_of_getElem? (i := 887) (by decide +kernel)
theorem m_888 : Cond.selects RX10 yX10_signHere yX10_signHere ∈ BW := List.mem_of_getElem? (i := 888) (by decide +kernel)
theorem si_X10_168 : SV RX10 RX10 168 yX10_signHere cX10_signHere 1 (some .int) 0 := ⟨⟨m_886, m_887, m_888, m_37, m_889⟩, rfl, by decide +kernel, by decide +kernel, by decide +kernel⟩
theorem dX10_takesComparison_22 : decode cX10_takesComparison 22 = .ok (.istore_n 2, 1) := by decide +kernel
theorem dX10_takesComparison_23 : decode cX10_takesComparison 23 = .ok (.iload_n 2, 1) := by decide +kernel
theorem dX10_takesComparison_24 : decode cX10_takesComparison 24 = .ok (.ifCond .ge 8, 3) := by decide +kernel
theorem dX10_takesComparison_32 : decode cX10_takesComparison 32 = .ok (.aload_n 0, 1) := by decide +kernel
theorem dX10_takesComparison_33 : decode cX10_takesComparison 33 = .ok (.invokevirtual 47, 3) := by decide +kernel
theorem dX10_takesComparison_36 : decode cX10_takesComparison 36 = .ok (.aload_n 0, 1) := by decide +kernel
theorem dX10_takesComparison_37 : decode cX10_takesComparison 37 = .ok (.invokevirtual 109, 3) := by decide +kernel
theorem dX10_takesComparison_40 : decode cX10_takesComparison 40 = .ok (.istore_n 3, 1) := by decide +kernel
theorem dX10_takesComparison_41 : decode cX10_takesComparison 41 = .ok (.iload_n 3, 1) := by decide +kernel
theorem dX10_takesComparison_42 : decode cX10_takesComparison 42 = .ok (.ifCond .ge 8, 3) := by decide +kernel
theorem dX10_takesComparison_50 : decode cX10_takesComparison 50 = .ok (.aload_n 0, 1) := by decide +kernel
theorem dX10_takesComparison_51 : decode cX10_takesComparison 51 = .ok (.invokevirtual 47, 3) := by decide +kernel
theorem dX10_takesComparison_54 : decode cX10_takesComparison 54 = .ok (.aload_n 0, 1) := by decide +kernel
theorem dX10_takesComparison_55 : decode cX10_takesComparison 55 = .ok (.iload_n 1, 1) := by decide +kernel
theorem dX10_takesComparison_56 : decode cX10_takesComparison 56 = .ok (.iconst 3, 1) := by decide +kernel
theorem dX10_takesComparison_57 : decode cX10_takesComparison 57 = .ok (.imul, 1) := by decide +kernel
theorem dX10_takesComparison_58 : decode cX10_takesComparison 58 = .ok (.iload_n 2, 1) := by decide +kernel
theorem dX10_takesComparison_59 : decode cX10_takesComparison 59 = .ok (.iadd, 1) := by decide +kernel
theorem dX10_takesComparison_60 : decode cX10_takesComparison 60 = .ok (.sipush 1000, 3) := by decide +kernel
theorem dX10_takesComparison_63 : decode cX10_takesComparison 63 = .ok (.imul, 1) := by decide +kernel
theorem dX10_takesComparison_64 : decode cX10_takesComparison 64 = .ok (.iload_n 3, 1) := by decide +kernel
theorem dX10_takesComparison_65 : decode cX10_takesComparison 65 = .ok (.iadd, 1) := by decide +kernel
theorem dX10_takesComparison_66 : decode cX10_takesComparison 66 = .ok (.invokevirtual 152, 3) := by decide +kernel
theorem m_872 : Cond.code yX10_addStep cX10_addStep 2 none ∈ BW := List.mem_of_getElem? (i := 872) (by decide +kernel)
theorem m_869 : Cond.methodLink RX10 152 yX10_addStep ∈ BW := List.mem_of_getElem? (i := 869) (by decide +kernel)
theorem m_870 : Cond.instanceMethod yX10_addStep ∈ BW := List.mem_of_getElem? (i := 870) (by decide +kernel)
theorem m_871 : Cond.selects RX10 yX10_addStep yX10_addStep ∈ BW := List.mem_of_getElem? (i := 871) (by decide +kernel)
theorem si_X10_152 : SV RX10 RX10 152 yX10_addStep cX10_addStep 2 none 1 := ⟨⟨m_869, m_870, m_871, m_37, m_872⟩, rfl, by decide +kernel, by decide +kernel, by decide +kernel⟩
theorem dX10_takesComparison_69 : decode cX10_takesComparison 69 = .ok (.iconst 1, 1) := by decide +kernel
theorem dX10_takesComparison_70 : decode cX10_takesComparison 70 = .ok (.ireturn, 1) := by decide +kernel
theorem dX10_takesComparison_45 : decode cX10_takesComparison 45 = .ok (.aload_n 0, 1) := by decide +kernel
theorem dX10_takesComparison_46 : decode cX10_takesComparison 46 = .ok (.invokevirtual 106, 3) := by decide +kernel
theorem dX10_takesComparison_49 : decode cX10_takesComparison 49 = .ok (.ireturn, 1) := by decide +kernel
theorem dX10_takesComparison_27 : decode cX10_takesComparison 27 = .ok (.aload_n 0, 1) := by decide +kernel
theorem dX10_takesComparison_28 : decode cX10_takesComparison 28 = .ok (.invokevirtual 106, 3) := by decide +kernel
theorem dX10_takesComparison_31 : decode cX10_takesComparison 31 = .ok (.ireturn, 1) := by decide +kernel
theorem dX10_takesComparison_9 : decode cX10_takesComparison 9 = .ok (.aload_n 0, 1) := by decide +kernel
theorem dX10_takesComparison_10 : decode cX10_takesComparison 10 = .ok (.invokevirtual 106, 3) := by decide +kernel
theorem dX10_takesComparison_13 : decode cX10_takesComparison 13 = .ok (.ireturn, 1) := by decide +kernel
theorem dX10_takesOne_0 : decode cX10_takesOne 0 = .ok (.iconst 0, 1) := by decide +kernel
theorem dX10_takesOne_1 : decode cX10_takesOne 1 = .ok (.istore_n 2, 1) := by decide +kernel
theorem dX10_takesOne_2 : decode cX10_takesOne 2 = .ok (.iconst 0, 1) := by decide +kernel
theorem dX10_takesOne_3 : decode cX10_takesOne 3 = .ok (.istore_n 3, 1) := by decide +kernel
theorem dX10_takesOne_4 : decode cX10_takesOne 4 = .ok (.iload_n 3, 1) := by decide +kernel
theorem dX10_takesOne_5 : decode cX10_takesOne 5 = .ok (.sipush 240, 3) := by decide +kernel
theorem dX10_takesOne_8 : decode cX10_takesOne 8 = .ok (.if_icmp .ge 32, 3) := by decide +kernel
theorem dX10_takesOne_40 : decode cX10_takesOne 40 = .ok (.aload_n 0, 1) := by decide +kernel
theorem dX10_takesOne_41 : decode cX10_takesOne 41 = .ok (.getfield 31, 3) := by decide +kernel
theorem dX10_takesOne_44 : decode cX10_takesOne 44 = .ok (.bipush 40, 2) := by decide +kernel
theorem dX10_takesOne_46 : decode cX10_takesOne 46 = .ok (.if_icmp .eq 12, 3) := by decide +kernel
theorem dX10_takesOne_58 : decode cX10_takesOne 58 = .ok (.iload_n 1, 1) := by decide +kernel
theorem dX10_takesOne_59 : decode cX10_takesOne 59 = .ok (.iconst 4, 1) := by decide +kernel
theorem dX10_takesOne_60 : decode cX10_takesOne 60 = .ok (.if_icmp .lt 8, 3) := by decide +kernel
theorem dX10_takesOne_63 : decode cX10_takesOne 63 = .ok (.aload_n 0, 1) := by decide +kernel
theorem dX10_takesOne_64 : decode cX10_takesOne 64 = .ok (.invokevirtual 106, 3) := by decide +kernel
theorem dX10_takesOne_67 : decode cX10_takesOne 67 = .ok (.ireturn, 1) := by decide +kernel
theorem dX10_takesOne_49 : decode cX10_takesOne 49 = .ok (.aload_n 0, 1) := by decide +kernel
theorem dX10_takesOne_50 : decode cX10_takesOne 50 = .ok (.invokevirtual 162, 3) := by decide +kernel
theorem m_881 : Cond.code yX10_takesComparison cX10_takesComparison 4 (some .boolean) ∈ BW := List.mem_of_getElem? (i := 881) (by decide +kernel)
theorem m_878 : Cond.methodLink RX10 162 yX10_takesComparison ∈ BW := List.mem_of_getElem? (i := 878) (by decide +kernel)
theorem m_879 : Cond.instanceMethod yX10_takesComparison ∈ BW := List.mem_of_getElem? (i := 879) (by decide +kernel)
theorem m_880 : Cond.selects RX10 yX10_takesComparison yX10_takesComparison ∈ BW := List.mem_of_getElem? (i := 880) (by decide +kernel)
theorem si_X10_162 : SV RX10 RX10 162 yX10_takesComparison cX10_takesComparison 4 (some .boolean) 0 := ⟨⟨m_878, m_879, m_880, m_37, m_881⟩, rfl, by decide +kernel, by decide +kernel, by decide +kernel⟩
theorem dX10_takesOne_53 : decode cX10_takesOne 53 = .ok (.ifCond .ne 40, 3) := by decide +kernel
theorem dX10_takesOne_93 : decode cX10_takesOne 93 = .ok (.iload_n 2, 1) := by decide +kernel
theorem dX10_takesOne_94 : decode cX10_takesOne 94 = .ok (.ifCond .eq 8, 3) := by decide +kernel
theorem dX10_takesOne_102 : decode cX10_takesOne 102 = .ok (.iconst 1, 1) := by decide +kernel
theorem dX10_takesOne_103 : decode cX10_takesOne 103 = .ok (.ireturn, 1) := by decide +kernel
theorem dX10_takesOne_97 : decode cX10_takesOne 97 = .ok (.aload_n 0, 1) := by decide +kernel
theorem dX10_takesOne_98 : decode cX10_takesOne 98 = .ok (.iconst (-1), 1) := by decide +kernel
theorem dX10_takesOne_99 : decode cX10_takesOne 99 = .ok (.invokevirtual 152, 3) := by decide +kernel
theorem dX10_takesOne_56 : decode cX10_takesOne 56 = .ok (.iconst 0, 1) := by decide +kernel
theorem dX10_takesOne_57 : decode cX10_takesOne 57 = .ok (.ireturn, 1) := by decide +kernel
theorem dX10_takesOne_11 : decode cX10_takesOne 11 = .ok (.aload_n 0, 1) := by decide +kernel
theorem dX10_takesOne_12 : decode cX10_takesOne 12 = .ok (.ldc 160, 2) := by decide +kernel
theorem dX10_takesOne_14 : decode cX10_takesOne 14 = .ok (.invokevirtual 102, 3) := by decide +kernel
theorem dX10_takesOne_17 : decode cX10_takesOne 17 = .ok (.ifCond .eq 23, 3) := by decide +kernel
theorem dX10_takesOne_20 : decode cX10_takesOne 20 = .ok (.aload_n 0, 1) := by decide +kernel
theorem dX10_takesOne_21 : decode cX10_takesOne 21 = .ok (.invokevirtual 47, 3) := by decide +kernel
theorem dX10_takesOne_24 : decode cX10_takesOne 24 = .ok (.iload_n 2, 1) := by decide +kernel
theorem dX10_takesOne_25 : decode cX10_takesOne 25 = .ok (.ifCond .ne 7, 3) := by decide +kernel
theorem dX10_takesOne_32 : decode cX10_takesOne 32 = .ok (.iconst 0, 1) := by decide +kernel
theorem dX10_takesOne_33 : decode cX10_takesOne 33 = .ok (.istore_n 2, 1) := by decide +kernel
theorem dX10_takesOne_34 : decode cX10_takesOne 34 = .ok (.iinc 3 1, 3) := by decide +kernel
theorem dX10_takesOne_37 : decode cX10_takesOne 37 = .ok (.goto (-33), 3) := by decide +kernel
theorem dX10_takesOne_28 : decode cX10_takesOne 28 = .ok (.iconst 1, 1) := by decide +kernel
theorem dX10_takesOne_29 : decode cX10_takesOne 29 = .ok (.goto 4, 3) := by decide +kernel
theorem dX10_takesAll_0 : decode cX10_takesAll 0 = .ok (.aload_n 0, 1) := by decide +kernel
theorem dX10_takesAll_1 : decode cX10_takesAll 1 = .ok (.iload_n 1, 1) := by decide +kernel
theorem dX10_takesAll_2 : decode cX10_takesAll 2 = .ok (.invokevirtual 155, 3) := by decide +kernel
theorem m_877 : Cond.code yX10_takesOne cX10_takesOne 4 (some .boolean) ∈ BW := List.mem_of_getElem? (i := 877) (by decide +kernel)
theorem m_874 : Cond.methodLink RX10 155 yX10_takesOne ∈ BW := List.mem_of_getElem? (i := 874) (by decide +kernel)
theorem m_875 : Cond.instanceMethod yX10_takesOne ∈ BW := List.mem_of_getElem? (i := 875) (by decide +kernel)
theorem m_876 : Cond.selects RX10 yX10_takesOne yX10_takesOne ∈ BW := List.mem_of_getElem? (i := 876) (by decide +kernel)
theorem si_X10_155 : SV RX10 RX10 155 yX10_takesOne cX10_takesOne 4 (some .boolean) 1 := ⟨⟨m_874, m_875, m_876, m_37, m_877⟩, rfl, by decide +kernel, by decide +kernel, by decide +kernel⟩
theorem dX10_takesAll_5 : decode cX10_takesAll 5 = .ok (.ifCond .ne 5, 3) := by decide +kernel
theorem dX10_takesAll_10 : decode cX10_takesAll 10 = .ok (.iconst 0, 1) := by decide +kernel
theorem dX10_takesAll_11 : decode cX10_takesAll 11 = .ok (.istore_n 2, 1) := by decide +kernel
theorem dX10_takesAll_12 : decode cX10_takesAll 12 = .ok (.iload_n 2, 1) := by decide +kernel
theorem dX10_takesAll_13 : decode cX10_takesAll 13 = .ok (.sipush 240, 3) := by decide +kernel
theorem dX10_takesAll_16 : decode cX10_takesAll 16 = .ok (.if_icmp .ge 38, 3) := by decide +kernel
theorem dX10_takesAll_54 : decode cX10_takesAll 54 = .ok (.iconst 1, 1) := by decide +kernel
theorem dX10_takesAll_55 : decode cX10_takesAll 55 = .ok (.ireturn, 1) := by decide +kernel
theorem dX10_takesAll_19 : decode cX10_takesAll 19 = .ok (.aload_n 0, 1) := by decide +kernel
theorem dX10_takesAll_20 : decode cX10_takesAll 20 = .ok (.ldc 158, 2) := by decide +kernel
theorem dX10_takesAll_22 : decode cX10_takesAll 22 = .ok (.invokevirtual 102, 3) := by decide +kernel
theorem dX10_takesAll_25 : decode cX10_takesAll 25 = .ok (.ifCond .eq 29, 3) := by decide +kernel
theorem dX10_takesAll_28 : decode cX10_takesAll 28 = .ok (.aload_n 0, 1) := by decide +kernel
theorem dX10_takesAll_29 : decode cX10_takesAll 29 = .ok (.invokevirtual 47, 3) := by decide +kernel
theorem dX10_takesAll_32 : decode cX10_takesAll 32 = .ok (.aload_n 0, 1) := by decide +kernel
theorem dX10_takesAll_33 : decode cX10_takesAll 33 = .ok (.iload_n 1, 1) := by decide +kernel
theorem dX10_takesAll_34 : decode cX10_takesAll 34 = .ok (.invokevirtual 155, 3) := by decide +kernel
theorem dX10_takesAll_37 : decode cX10_takesAll 37 = .ok (.ifCond .ne 5, 3) := by decide +kernel
theorem dX10_takesAll_42 : decode cX10_takesAll 42 = .ok (.aload_n 0, 1) := by decide +kernel
theorem dX10_takesAll_43 : decode cX10_takesAll 43 = .ok (.bipush (-2), 2) := by decide +kernel
theorem dX10_takesAll_45 : decode cX10_takesAll 45 = .ok (.invokevirtual 152, 3) := by decide +kernel
theorem dX10_takesAll_48 : decode cX10_takesAll 48 = .ok (.iinc 2 1, 3) := by decide +kernel
theorem dX10_takesAll_51 : decode cX10_takesAll 51 = .ok (.goto (-39), 3) := by decide +kernel
theorem dX10_takesAll_40 : decode cX10_takesAll 40 = .ok (.iconst 0, 1) := by decide +kernel
theorem dX10_takesAll_41 : decode cX10_takesAll 41 = .ok (.ireturn, 1) := by decide +kernel
theorem dX10_takesAll_8 : decode cX10_takesAll 8 = .ok (.iconst 0, 1) := by decide +kernel
theorem dX10_takesAll_9 : decode cX10_takesAll 9 = .ok (.ireturn, 1) := by decide +kernel
theorem dX10_takesCond_0 : decode cX10_takesCond 0 = .ok (.aload_n 0, 1) := by decide +kernel
theorem dX10_takesCond_1 : decode cX10_takesCond 1 = .ok (.iload_n 1, 1) := by decide +kernel
theorem dX10_takesCond_2 : decode cX10_takesCond 2 = .ok (.invokevirtual 147, 3) := by decide +kernel
theorem m_873 : Cond.code yX10_takesAll cX10_takesAll 3 (some .boolean) ∈ BW := List.mem_of_getElem? (i := 873) (by decide +kernel)
theorem m_866 : Cond.methodLink RX10 147 yX10_takesAll ∈ BW := List.mem_of_getElem? (i := 866) (by decide +kernel)
theorem m_867 : Cond.instanceMethod yX10_takesAll ∈ BW := List.mem_of_getElem? (i := 867) (by decide +kernel)
theorem m_868 : Cond.selects RX10 yX10_takesAll yX10_takesAll ∈ BW := List.mem_of_getElem? (i := 868) (by decide +kernel)
theorem si_X10_147 : SV RX10 RX10 147 yX10_takesAll cX10_takesAll 3 (some .boolean) 1 := ⟨⟨m_866, m_867, m_868, m_37, m_873⟩, rfl, by decide +kernel, by decide +kernel, by decide +kernel⟩
theorem dX10_takesCond_5 : decode cX10_takesCond 5 = .ok (.ifCond .ne 5, 3) := by decide +kernel
theorem dX10_takesCond_10 : decode cX10_takesCond 10 = .ok (.iconst 0, 1) := by decide +kernel
theorem dX10_takesCond_11 : decode cX10_takesCond 11 = .ok (.istore_n 2, 1) := by decide +kernel
theorem dX10_takesCond_12 : decode cX10_takesCond 12 = .ok (.iload_n 2, 1) := by decide +kernel
theorem dX10_takesCond_13 : decode cX10_takesCond 13 = .ok (.sipush 240, 3) := by decide +kernel
theorem dX10_takesCond_16 : decode cX10_takesCond 16 = .ok (.if_icmp .ge 38, 3) := by decide +kernel
theorem dX10_takesCond_54 : decode cX10_takesCond 54 = .ok (.iconst 1, 1) := by decide +kernel
theorem dX10_takesCond_55 : decode cX10_takesCond 55 = .ok (.ireturn, 1) := by decide +kernel
theorem dX10_takesCond_19 : decode cX10_takesCond 19 = .ok (.aload_n 0, 1) := by decide +kernel
theorem dX10_takesCond_20 : decode cX10_takesCond 20 = .ok (.ldc 150, 2) := by decide +kernel
theorem dX10_takesCond_22 : decode cX10_takesCond 22 = .ok (.invokevirtual 102, 3) := by decide +kernel
theorem dX10_takesCond_25 : decode cX10_takesCond 25 = .ok (.ifCond .eq 29, 3) := by decide +kernel
theorem dX10_takesCond_28 : decode cX10_takesCond 28 = .ok (.aload_n 0, 1) := by decide +kernel
theorem dX10_takesCond_29 : decode cX10_takesCond 29 = .ok (.invokevirtual 47, 3) := by decide +kernel
theorem dX10_takesCond_32 : decode cX10_takesCond 32 = .ok (.aload_n 0, 1) := by decide +kernel
theorem dX10_takesCond_33 : decode cX10_takesCond 33 = .ok (.iload_n 1, 1) := by decide +kernel
theorem dX10_takesCond_34 : decode cX10_takesCond 34 = .ok (.invokevirtual 147, 3) := by decide +kernel
theorem dX10_takesCond_37 : decode cX10_takesCond 37 = .ok (.ifCond .ne 5, 3) := by decide +kernel
theorem dX10_takesCond_42 : decode cX10_takesCond 42 = .ok (.aload_n 0, 1) := by decide +kernel
theorem dX10_takesCond_43 : decode cX10_takesCond 43 = .ok (.bipush (-3), 2) := by decide +kernel
theorem dX10_takesCond_45 : decode cX10_takesCond 45 = .ok (.invokevirtual 152, 3) := by decide +kernel
theorem dX10_takesCond_48 : decode cX10_takesCond 48 = .ok (.iinc 2 1, 3) := by decide +kernel
theorem dX10_takesCond_51 : decode cX10_takesCond 51 = .ok (.goto (-39), 3) := by decide +kernel
theorem dX10_takesCond_40 : decode cX10_takesCond 40 = .ok (.iconst 0, 1) := by decide +kernel
theorem dX10_takesCond_41 : decode cX10_takesCond 41 = .ok (.ireturn, 1) := by decide +kernel
theorem dX10_takesCond_8 : decode cX10_takesCond 8 = .ok (.iconst 0, 1) := by decide +kernel
theorem dX10_takesCond_9 : decode cX10_takesCond 9 = .ok (.ireturn, 1) := by decide +kernel
theorem dX10_takesOne_68 : decode cX10_takesOne 68 = .ok (.aload_n 0, 1) := by decide +kernel
theorem dX10_takesOne_69 : decode cX10_takesOne 69 = .ok (.invokevirtual 47, 3) := by decide +kernel
theorem dX10_takesOne_72 : decode cX10_takesOne 72 = .ok (.aload_n 0, 1) := by decide +kernel
theorem dX10_takesOne_73 : decode cX10_takesOne 73 = .ok (.iload_n 1, 1) := by decide +kernel
theorem dX10_takesOne_74 : decode cX10_takesOne 74 = .ok (.iconst 1, 1) := by decide +kernel
theorem dX10_takesOne_75 : decode cX10_takesOne 75 = .ok (.iadd, 1) := by decide +kernel
theorem dX10_takesOne_76 : decode cX10_takesOne 76 = .ok (.invokevirtual 121, 3) := by decide +kernel
theorem m_865 : Cond.code yX10_takesCond cX10_takesCond 3 (some .boolean) ∈ BW := List.mem_of_getElem? (i := 865) (by decide +kernel)
theorem m_862 : Cond.methodLink RX10 121 yX10_takesCond ∈ BW := List.mem_of_getElem? (i := 862) (by decide +kernel)
theorem m_863 : Cond.instanceMethod yX10_takesCond ∈ BW := List.mem_of_getElem? (i := 863) (by decide +kernel)
theorem m_864 : Cond.selects RX10 yX10_takesCond yX10_takesCond ∈ BW := List.mem_of_getElem? (i := 864) (by decide +kernel)
theorem si_X10_121 : SV RX10 RX10 121 yX10_takesCond cX10_takesCond 3 (some .boolean) 1 := ⟨⟨m_862, m_863, m_864, m_37, m_865⟩, rfl, by decide +kernel, by decide +kernel, by decide +kernel⟩
theorem dX10_takesOne_79 : decode cX10_takesOne 79 = .ok (.ifCond .eq 12, 3) := by decide +kernel
theorem dX10_takesOne_82 : decode cX10_takesOne 82 = .ok (.aload_n 0, 1) := by decide +kernel
theorem dX10_takesOne_83 : decode cX10_takesOne 83 = .ok (.bipush 41, 2) := by decide +kernel
theorem dX10_takesOne_85 : decode cX10_takesOne 85 = .ok (.invokevirtual 124, 3) := by decide +kernel
theorem m_893 : Cond.code yX10_takesByte cX10_takesByte 2 (some .boolean) ∈ BW := List.mem_of_getElem? (i := 893) (by decide +kernel)
theorem m_890 : Cond.methodLink RX10 124 yX10_takesByte ∈ BW := List.mem_of_getElem? (i := 890) (by decide +kernel)
theorem m_891 : Cond.instanceMethod yX10_takesByte ∈ BW := List.mem_of_getElem? (i := 891) (by decide +kernel)
theorem m_892 : Cond.selects RX10 yX10_takesByte yX10_takesByte ∈ BW := List.mem_of_getElem? (i := 892) (by decide +kernel)
theorem si_X10_124 : SV RX10 RX10 124 yX10_takesByte cX10_takesByte 2 (some .boolean) 1 := ⟨⟨m_890, m_891, m_892, m_37, m_893⟩, rfl, by decide +kernel, by decide +kernel, by decide +kernel⟩
theorem dX10_takesOne_88 : decode cX10_takesOne 88 = .ok (.ifCond .ne 5, 3) := by decide +kernel
theorem dX10_takesOne_91 : decode cX10_takesOne 91 = .ok (.iconst 0, 1) := by decide +kernel
theorem dX10_takesOne_92 : decode cX10_takesOne 92 = .ok (.ireturn, 1) := by decide +kernel
end WR
set_option maxHeartbeats 4000000 in
set_option maxRecDepth 100000 in
theorem t_byteAt (l : Launch) (G : GG) (h0 : Nat) (ix : Int32) (tby : Nat) (kt : Nat) (tln : Nat) (tsp : Nat) (tkd : Int32) (ts9 : Int32) (tn9 : Int32) (tf9 : Int32) (fby : Nat → Int32) : MP l G yX10_byteAt cX10_byteAt 2 (some .int) 1 [.ref h0, .int ix] [(h0, .inr (10, [.ref tby, .int (nI kt), .ref tln, .ref tsp, .int tkd, .int ts9, .int tn9, .int tf9])), (tby, .inl (G.2.1, 240, .inl fby))] (fun r : Int32 => True) := by
  refine MP.start (by decide +kernel) (Nat.le_of_ble_eq_true rfl) ?_
  intro p e s m below meth c ls hC hK hP hD hl
  have hl : lv_has ls 2 [(0, .ref h0), (1, .int ix)] := hl
  obtain ⟨hx, hb, hr, hml, hB, hown, hlocks, hnm⟩ := id hC
  refine lv_iload_n hx hb dX10_byteAt_0 rfl (lv_at hl 1 rfl) ?_
  refine lv_if_lt (tgt := 30) hx hb dX10_byteAt_1 (by decide) (fun c_1_2571 => ?_) (fun c_1_2571 => ?_)
  · refine lv_iconst (v := (-1)) hx hb dX10_byteAt_30 (by decide) ?_
    exact RP (v := (-1)) hC (trivial) rfl dX10_byteAt_31
  · refine lv_iload_n hx hb dX10_byteAt_4 rfl (lv_at hl 1 rfl) ?_
    refine lv_aload_n hx hb dX10_byteAt_5 rfl (lv_at hl 0 rfl) ?_
    refine gf_X10_27 hC rfl hK hP 0 rfl rfl dX10_byteAt_6 ?_
    refine lv_icmp_ge (tgt := 30) hx hb dX10_byteAt_9 (by decide) (fun c_9_2572 => ?_) (fun c_9_2572 => ?_)
    · refine lv_iconst (v := (-1)) hx hb dX10_byteAt_30 (by decide) ?_
      exact RP (v := (-1)) hC (trivial) rfl dX10_byteAt_31
    · refine lv_iload_n hx hb dX10_byteAt_12 rfl (lv_at hl 1 rfl) ?_
      refine lv_aload_n hx hb dX10_byteAt_13 rfl (lv_at hl 0 rfl) ?_
      refine gf_X10_9 hC rfl hK hP 0 rfl rfl dX10_byteAt_14 ?_
      refine va_alen (v := 240) hx hb hK.1 hP 1 0 rfl rfl (show Int32.ofNat 240 = 240 by decide) dX10_byteAt_17 ?_
      refine lv_icmp_ge (tgt := 30) hx hb dX10_byteAt_18 (by decide) (fun c_18_2573 => ?_) (fun c_18_2573 => ?_)
      · refine lv_iconst (v := (-1)) hx hb dX10_byteAt_30 (by decide) ?_
        exact RP (v := (-1)) hC (trivial) rfl dX10_byteAt_31
      · refine lv_aload_n hx hb dX10_byteAt_21 rfl (lv_at hl 0 rfl) ?_
        obtain ⟨ji, hji, rfl⟩ := ltN (N := 240) (by decide) c_1_2571 c_18_2573
        refine gf_X10_9 hC rfl hK hP 0 rfl rfl dX10_byteAt_22 ?_
        refine lv_iload_n hx hb dX10_byteAt_25 rfl (lv_at hl 1 rfl) ?_
        refine ald hC hK hP 1 rfl (vp_in_nI (by omega) (by omega)) (k := ji) (nI_clamp (by omega)) (v := fby ji) rfl dX10_byteAt_26 ?_
        refine lv_topi (fun x2574 ex2574 => ?_)
        refine lv_goto (tgt := 31) hx hb dX10_byteAt_27 (by decide) ?_
        exact RP (v := x2574) hC (trivial) rfl dX10_byteAt_31
set_option maxHeartbeats 4000000 in
set_option maxRecDepth 100000 in
theorem t_letter (l : Launch) (G : GG) (b9 : Int32) : MP l G yX10_isLetter cX10_isLetter 1 (some .boolean) 2 [.int b9] [] (fun r : Int32 => r = 1 ∨ r = 0) := by
  refine MP.start (by decide +kernel) (Nat.le_of_ble_eq_true rfl) ?_
  intro p e s m below meth c ls hC hK hP hD hl
  have hl : lv_has ls 1 [(0, .int b9)] := hl
  obtain ⟨hx, hb, hr, hml, hB, hown, hlocks, hnm⟩ := id hC
  refine lv_iload_n hx hb dX10_isLetter_0 rfl (lv_at hl 0 rfl) ?_
  refine lv_bipush (v := 97) hx hb dX10_isLetter_1 (by decide) ?_
  refine lv_bipush (v := 122) hx hb dX10_isLetter_3 (by decide) ?_
  refine pSN hC hK hl (c_within l G b9 97 122) si_X10_89 rfl rfl (Nat.le_of_ble_eq_true rfl) ⟨Nat.le_of_ble_eq_true rfl, Nat.le_of_ble_eq_true rfl⟩ ⟨by first | exact Nat.le_of_ble_eq_true rfl | exact Nat.zero_le _, by first | exact Nat.le_of_ble_eq_true rfl | exact Nat.zero_le _⟩ dX10_isLetter_5 (fun r2575 hr2575 => ?_)
  rcases hr2575 with ⟨rfl, a2576⟩ | ⟨rfl, a2576⟩
  · exact RP (v := 1) hC (Or.inl (rfl)) (by decide +kernel) dX10_isLetter_8
  · exact RP (v := 0) hC (Or.inr (rfl)) (by decide +kernel) dX10_isLetter_8
set_option maxHeartbeats 4000000 in
set_option maxRecDepth 100000 in
theorem t_digit (l : Launch) (G : GG) (b9 : Int32) : MP l G yX10_isDigit cX10_isDigit 1 (some .boolean) 2 [.int b9] [] (fun r : Int32 => r = 1 ∨ r = 0) := by
  refine MP.start (by decide +kernel) (Nat.le_of_ble_eq_true rfl) ?_
  intro p e s m below meth c ls hC hK hP hD hl
  have hl : lv_has ls 1 [(0, .int b9)] := hl
  obtain ⟨hx, hb, hr, hml, hB, hown, hlocks, hnm⟩ := id hC
  refine lv_iload_n hx hb dX10_isDigit_0 rfl (lv_at hl 0 rfl) ?_
  refine lv_bipush (v := 48) hx hb dX10_isDigit_1 (by decide) ?_
  refine lv_bipush (v := 57) hx hb dX10_isDigit_3 (by decide) ?_
  refine pSN hC hK hl (c_within l G b9 48 57) si_X10_89 rfl rfl (Nat.le_of_ble_eq_true rfl) ⟨Nat.le_of_ble_eq_true rfl, Nat.le_of_ble_eq_true rfl⟩ ⟨by first | exact Nat.le_of_ble_eq_true rfl | exact Nat.zero_le _, by first | exact Nat.le_of_ble_eq_true rfl | exact Nat.zero_le _⟩ dX10_isDigit_5 (fun r2577 hr2577 => ?_)
  rcases hr2577 with ⟨rfl, a2578⟩ | ⟨rfl, a2578⟩
  · exact RP (v := 1) hC (Or.inl (rfl)) (by decide +kernel) dX10_isDigit_8
  · exact RP (v := 0) hC (Or.inr (rfl)) (by decide +kernel) dX10_isDigit_8
set_option maxHeartbeats 4000000 in
set_option maxRecDepth 100000 in
theorem t_refuse (l : Launch) (G : GG) (h0 : Nat) (tby : Nat) (kt : Nat) (tln : Nat) (tsp : Nat) (tkd : Int32) (ks : Nat) (kn : Nat) (tf9 : Int32) : MI l G yX10_refuse cX10_refuse 1 (some .boolean) 1 0 0 [.ref h0] [(h0, .inr (10, [.ref tby, .int (nI kt), .ref tln, .ref tsp, .int tkd, .int (nI ks), .int (nI kn), .int tf9]))] (fun (r : Int32) (u : Int32) => (r = 0)) (fun u : Int32 => [(h0, .inr (10, [.ref tby, .int (nI kt), .ref tln, .ref tsp, .int tkd, .int (nI ks), .int (nI kn), .int u]))]) := by
  refine MI.start (by decide +kernel) (Nat.le_of_ble_eq_true rfl) ?_
  intro p e s m below meth c A ls hC hK hP hD hS hA hl
  have hl : lv_has ls 1 [(0, .ref h0)] := hl
  obtain ⟨hx, hb, hr, hml, hB, hown, hlocks, hnm⟩ := id hC
  refine lv_aload_n hx hb dX10_refuse_0 rfl (lv_at hl 0 rfl) ?_
  refine lv_aload_n hx hb dX10_refuse_1 rfl (lv_at hl 0 rfl) ?_
  refine gf_X10_34 hC rfl hK hP 0 rfl rfl dX10_refuse_2 ?_
  refine pf_X10_40 hC rfl hK hP hD hS 0 (ws' := [(h0, .inr (10, [.ref tby, .int (nI kt), .ref tln, .ref tsp, .int tkd, .int (nI ks), .int (nI kn), .int (nI ks)]))]) rfl (Nat.le_of_ble_eq_true rfl) rfl rfl rfl dX10_refuse_5 (fun H locs hP hD hS => ?_)
  refine lv_iconst (v := 0) hx hb dX10_refuse_8 (by decide) ?_
  exact RI (v := 0) hC hP hD hS [0] (nI ks) rfl rfl (by decide) (rfl) (by decide +kernel) dX10_refuse_9
set_option maxHeartbeats 4000000 in
set_option maxRecDepth 100000 in
theorem t_clear (l : Launch) (G : GG) (h0 : Nat) (tby : Nat) (kt : Nat) (tln : Nat) (tsp : Nat) (tkd : Int32) (ts9 : Int32) (tn9 : Int32) (tf9 : Int32) : MV l G yX10_clear cX10_clear 1 1 0 0 [.ref h0] [(h0, .inr (10, [.ref tby, .int (nI kt), .ref tln, .ref tsp, .int tkd, .int ts9, .int tn9, .int tf9]))] (fun u : Unit => True) (fun u : Unit => [(h0, .inr (10, [.ref tby, .int 0, .ref tln, .ref tsp, .int tkd, .int ts9, .int tn9, .int tf9]))]) := by
  refine MV.start (by decide +kernel) (Nat.le_of_ble_eq_true rfl) ?_
  intro p e s m below meth c A ls hC hK hP hD hS hA hl
  have hl : lv_has ls 1 [(0, .ref h0)] := hl
  obtain ⟨hx, hb, hr, hml, hB, hown, hlocks, hnm⟩ := id hC
  refine lv_aload_n hx hb dX10_clear_0 rfl (lv_at hl 0 rfl) ?_
  refine lv_iconst (v := 0) hx hb dX10_clear_1 (by decide) ?_
  refine pf_X10_27 hC rfl hK hP hD hS 0 (ws' := [(h0, .inr (10, [.ref tby, .int 0, .ref tln, .ref tsp, .int tkd, .int ts9, .int tn9, .int tf9]))]) rfl (Nat.le_of_ble_eq_true rfl) rfl rfl rfl dX10_clear_2 (fun H locs hP hD hS => ?_)
  exact RV hC hP hD hS [0] () rfl rfl (by decide) (trivial) dX10_clear_5
set_option maxHeartbeats 4000000 in
set_option maxRecDepth 100000 in
theorem t_advance (l : Launch) (G : GG) (h0 : Nat) (tby : Nat) (kt : Nat) (tln : Nat) (tsp : Nat) (tkd : Int32) (ks : Nat) (kn : Nat) (tf9 : Int32) (fby : Nat → Int32) (hkt : kt ≤ 240) (hks : ks ≤ 240) (hkn : kn ≤ 240) : MV l G yX10_advance cX10_advance 1 3 0 0 [.ref h0] [(h0, .inr (10, [.ref tby, .int (nI kt), .ref tln, .ref tsp, .int tkd, .int (nI ks), .int (nI kn), .int tf9])), (tby, .inl (G.2.1, 240, .inl fby))] (fun u : Int32 × Nat × Nat => u.2.1 ≤ 240 ∧ u.2.2 ≤ 240) (fun u : Int32 × Nat × Nat => [(h0, .inr (10, [.ref tby, .int (nI kt), .ref tln, .ref tsp, .int u.1, .int (nI u.2.1), .int (nI u.2.2), .int tf9])), (tby, .inl (G.2.1, 240, .inl fby))]) := by
  refine MV.start (by decide +kernel) (Nat.le_of_ble_eq_true rfl) ?_
  intro p e s m below meth c A ls hC hK hP hD hS hA hl
  have hl : lv_has ls 1 [(0, .ref h0)] := hl
  obtain ⟨hx, hb, hr, hml, hB, hown, hlocks, hnm⟩ := id hC
  refine lv_aload_n hx hb dX10_advance_0 rfl (lv_at hl 0 rfl) ?_
  refine lv_aload_n hx hb dX10_advance_1 rfl (lv_at hl 0 rfl) ?_
  refine gf_X10_37 hC rfl hK hP 0 rfl rfl dX10_advance_2 ?_
  refine pf_X10_34 hC rfl hK hP hD hS 0 (ws' := [(h0, .inr (10, [.ref tby, .int (nI kt), .ref tln, .ref tsp, .int tkd, .int (nI kn), .int (nI kn), .int tf9])), (tby, .inl (G.2.1, 240, .inl fby))]) rfl (Nat.le_of_ble_eq_true rfl) rfl rfl rfl dX10_advance_5 (fun H locs hP hD hS => ?_)
  have keyA : ∀ (nA jA : Nat) (H : Heap) (locs : List Loc) (ls : Array Slot), kt ≤ jA + nA → jA ≤ 240 → va_P G.1 vwCl [(h0, .inr (10, [.ref tby, .int (nI kt), .ref tln, .ref tsp, .int tkd, .int (nI jA), .int (nI kn), .int tf9])), (tby, .inl (G.2.1, 240, .inl fby))] H → va_D A [(h0, .inr (10, [.ref tby, .int (nI kt), .ref tln, .ref tsp, .int tkd, .int (nI jA), .int (nI kn), .int tf9])), (tby, .inl (G.2.1, 240, .inl fby))] → va_S A s.heap H locs → lv_has ls 1 [(0, .ref h0)] → W p l e (RM 3 0 0) s m ([.ref h0] : List Value).toArray below meth c H locs 0 0 (MQ below (QV G (fun u : Int32 × Nat × Nat => u.2.1 ≤ 240 ∧ u.2.2 ≤ 240) (fun u : Int32 × Nat × Nat => [(h0, .inr (10, [.ref tby, .int (nI kt), .ref tln, .ref tsp, .int u.1, .int (nI u.2.1), .int (nI u.2.2), .int tf9])), (tby, .inl (G.2.1, 240, .inl fby))]) A) ([.ref h0] : List Value).toArray s 0 0 A) (F0 m 8 ls []) := by
    intro nA
    induction nA with
    | zero =>
      intro jA H locs ls hkA hmA hP hD hS hl
      have hzA : nI kt ≤ nI jA := (nI_leI (by omega) (by omega)).mpr (by omega)
      refine lv_aload_n hx hb dX10_advance_8 rfl (lv_at hl 0 rfl) ?_
      refine gf_X10_34 hC rfl hK hP 0 rfl rfl dX10_advance_9 ?_
      refine lv_aload_n hx hb dX10_advance_12 rfl (lv_at hl 0 rfl) ?_
      refine gf_X10_27 hC rfl hK hP 0 rfl rfl dX10_advance_13 ?_
      refine lv_icmp_ge (tgt := 45) hx hb dX10_advance_16 (by decide) (fun _ => ?_) (fun c9 => absurd (hzA) c9)
      refine lv_aload_n hx hb dX10_advance_45 rfl (lv_at hl 0 rfl) ?_
      refine lv_aload_n hx hb dX10_advance_46 rfl (lv_at hl 0 rfl) ?_
      refine gf_X10_34 hC rfl hK hP 0 rfl rfl dX10_advance_47 ?_
      refine pf_X10_37 hC rfl hK hP hD hS 0 (ws' := [(h0, .inr (10, [.ref tby, .int (nI kt), .ref tln, .ref tsp, .int tkd, .int (nI jA), .int (nI jA), .int tf9])), (tby, .inl (G.2.1, 240, .inl fby))]) rfl (Nat.le_of_ble_eq_true rfl) rfl rfl rfl dX10_advance_50 (fun H locs hP hD hS => ?_)
      refine lv_aload_n hx hb dX10_advance_53 rfl (lv_at hl 0 rfl) ?_
      refine lv_aload_n hx hb dX10_advance_54 rfl (lv_at hl 0 rfl) ?_
      refine gf_X10_34 hC rfl hK hP 0 rfl rfl dX10_advance_55 ?_
      refine pV hC hK hl hP hD (t_byteAt l G h0 (nI jA) tby kt tln tsp tkd (nI jA) (nI jA) tf9 fby) si_X10_78 [0, 1] rfl rfl (by decide) rfl rfl rfl rfl rfl (Nat.le_of_ble_eq_true rfl) ⟨Nat.le_of_ble_eq_true rfl, Nat.le_of_ble_eq_true rfl⟩ ⟨by first | exact Nat.le_of_ble_eq_true rfl | exact Nat.zero_le _, by first | exact Nat.le_of_ble_eq_true rfl | exact Nat.zero_le _⟩ dX10_advance_58 (fun r2579 hr2579 => ?_)
      refine pS hC hK hl (t_letter l G r2579) si_X10_82 rfl rfl (Nat.le_of_ble_eq_true rfl) ⟨Nat.le_of_ble_eq_true rfl, Nat.le_of_ble_eq_true rfl⟩ ⟨by first | exact Nat.le_of_ble_eq_true rfl | exact Nat.zero_le _, by first | exact Nat.le_of_ble_eq_true rfl | exact Nat.zero_le _⟩ dX10_advance_61 (fun r2580 hr2580 => ?_)
      rcases hr2580 with rfl | rfl
      · refine lv_if_eq (tgt := 111) hx hb dX10_advance_64 (by decide) (fun c9 => absurd c9 (by decide)) (fun _ => ?_)
        refine lv_aload_n hx hb dX10_advance_67 rfl (lv_at hl 0 rfl) ?_
        refine lv_bipush (v := (-2)) hx hb dX10_advance_68 (by decide) ?_
        refine pf_X10_31 hC rfl hK hP hD hS 0 (ws' := [(h0, .inr (10, [.ref tby, .int (nI kt), .ref tln, .ref tsp, .int (-2), .int (nI jA), .int (nI jA), .int tf9])), (tby, .inl (G.2.1, 240, .inl fby))]) rfl (Nat.le_of_ble_eq_true rfl) rfl rfl rfl dX10_advance_70 (fun H locs hP hD hS => ?_)
        have keyB : ∀ (nB jB : Nat) (H : Heap) (locs : List Loc) (ls : Array Slot), kt ≤ jB + nB → jB ≤ 240 → va_P G.1 vwCl [(h0, .inr (10, [.ref tby, .int (nI kt), .ref tln, .ref tsp, .int (-2), .int (nI jA), .int (nI jB), .int tf9])), (tby, .inl (G.2.1, 240, .inl fby))] H → va_D A [(h0, .inr (10, [.ref tby, .int (nI kt), .ref tln, .ref tsp, .int (-2), .int (nI jA), .int (nI jB), .int tf9])), (tby, .inl (G.2.1, 240, .inl fby))] → va_S A s.heap H locs → lv_has ls 1 [(0, .ref h0)] → W p l e (RM 3 0 0) s m ([.ref h0] : List Value).toArray below meth c H locs 0 0 (MQ below (QV G (fun u : Int32 × Nat × Nat => u.2.1 ≤ 240 ∧ u.2.2 ≤ 240) (fun u : Int32 × Nat × Nat => [(h0, .inr (10, [.ref tby, .int (nI kt), .ref tln, .ref tsp, .int u.1, .int (nI u.2.1), .int (nI u.2.2), .int tf9])), (tby, .inl (G.2.1, 240, .inl fby))]) A) ([.ref h0] : List Value).toArray s 0 0 A) (F0 m 73 ls []) := by
          intro nB
          induction nB with
          | zero =>
            intro jB H locs ls hkB hmB hP hD hS hl
            have hzB : nI kt ≤ nI jB := (nI_leI (by omega) (by omega)).mpr (by omega)
            refine lv_aload_n hx hb dX10_advance_73 rfl (lv_at hl 0 rfl) ?_
            refine gf_X10_37 hC rfl hK hP 0 rfl rfl dX10_advance_74 ?_
            refine lv_aload_n hx hb dX10_advance_77 rfl (lv_at hl 0 rfl) ?_
            refine gf_X10_27 hC rfl hK hP 0 rfl rfl dX10_advance_78 ?_
            refine lv_icmp_ge (tgt := 199) hx hb dX10_advance_81 (by decide) (fun _ => ?_) (fun c9 => absurd (hzB) c9)
            exact RV hC hP hD hS [0, 1] ((-2), jA, jB) rfl rfl (by decide) (by dsimp only; omega) dX10_advance_199
          | succ nB ihB =>
            intro jB H locs ls hkB hmB hP hD hS hl
            refine lv_aload_n hx hb dX10_advance_73 rfl (lv_at hl 0 rfl) ?_
            refine gf_X10_37 hC rfl hK hP 0 rfl rfl dX10_advance_74 ?_
            refine lv_aload_n hx hb dX10_advance_77 rfl (lv_at hl 0 rfl) ?_
            refine gf_X10_27 hC rfl hK hP 0 rfl rfl dX10_advance_78 ?_
            refine lv_icmp_ge (tgt := 199) hx hb dX10_advance_81 (by decide) (fun c_81_2582 => ?_) (fun c_81_2582 => ?_)
            · exact RV hC hP hD hS [0, 1] ((-2), jA, jB) rfl rfl (by decide) (by dsimp only; omega) dX10_advance_199
            · refine lv_aload_n hx hb dX10_advance_84 rfl (lv_at hl 0 rfl) ?_
              refine lv_aload_n hx hb dX10_advance_85 rfl (lv_at hl 0 rfl) ?_
              refine gf_X10_37 hC rfl hK hP 0 rfl rfl dX10_advance_86 ?_
              refine pV hC hK hl hP hD (t_byteAt l G h0 (nI jB) tby kt tln tsp (-2) (nI jA) (nI jB) tf9 fby) si_X10_78 [0, 1] rfl rfl (by decide) rfl rfl rfl rfl rfl (Nat.le_of_ble_eq_true rfl) ⟨Nat.le_of_ble_eq_true rfl, Nat.le_of_ble_eq_true rfl⟩ ⟨by first | exact Nat.le_of_ble_eq_true rfl | exact Nat.zero_le _, by first | exact Nat.le_of_ble_eq_true rfl | exact Nat.zero_le _⟩ dX10_advance_89 (fun r2583 hr2583 => ?_)
              refine pS hC hK hl (t_letter l G r2583) si_X10_82 rfl rfl (Nat.le_of_ble_eq_true rfl) ⟨Nat.le_of_ble_eq_true rfl, Nat.le_of_ble_eq_true rfl⟩ ⟨by first | exact Nat.le_of_ble_eq_true rfl | exact Nat.zero_le _, by first | exact Nat.le_of_ble_eq_true rfl | exact Nat.zero_le _⟩ dX10_advance_92 (fun r2584 hr2584 => ?_)
              rcases hr2584 with rfl | rfl
              · refine lv_if_eq (tgt := 199) hx hb dX10_advance_95 (by decide) (fun c9 => absurd c9 (by decide)) (fun _ => ?_)
                refine lv_aload_n hx hb dX10_advance_98 rfl (lv_at hl 0 rfl) ?_
                refine lv_dup hx hb dX10_advance_99 rfl ?_
                refine gf_X10_37 hC rfl hK hP 0 rfl rfl dX10_advance_100 ?_
                refine lv_iconst (v := 1) hx hb dX10_advance_103 (by decide) ?_
                refine lv_iadd hx hb dX10_advance_104 ?_
                refine eqi (x1 := nI (jB + 1)) (nI_1 _) ?_
                refine pf_X10_37 hC rfl hK hP hD hS 0 (ws' := [(h0, .inr (10, [.ref tby, .int (nI kt), .ref tln, .ref tsp, .int (-2), .int (nI jA), .int (nI (jB + 1)), .int tf9])), (tby, .inl (G.2.1, 240, .inl fby))]) rfl (Nat.le_of_ble_eq_true rfl) rfl rfl rfl dX10_advance_105 (fun H locs hP hD hS => ?_)
                refine lv_goto (tgt := 73) hx hb dX10_advance_108 (by decide) ?_
                have hnB9 := nge_nat (R := kt) (k := jB) (by omega) (by omega) c_81_2582
                exact ihB (jB + 1) _ _ _ (by omega) (by omega) hP hD hS (lv_sub hl [0] rfl)
              · refine lv_if_eq (tgt := 199) hx hb dX10_advance_95 (by decide) (fun _ => ?_) (fun c9 => absurd (by decide) c9)
                exact RV hC hP hD hS [0, 1] ((-2), jA, jB) rfl rfl (by decide) (by dsimp only; omega) dX10_advance_199
        exact keyB kt jA _ _ _ (by omega) (by omega) hP hD hS (lv_sub hl [0] rfl)
      · refine lv_if_eq (tgt := 111) hx hb dX10_advance_64 (by decide) (fun _ => ?_) (fun c9 => absurd (by decide) c9)
        refine lv_aload_n hx hb dX10_advance_111 rfl (lv_at hl 0 rfl) ?_
        refine lv_aload_n hx hb dX10_advance_112 rfl (lv_at hl 0 rfl) ?_
        refine gf_X10_34 hC rfl hK hP 0 rfl rfl dX10_advance_113 ?_
        refine pV hC hK hl hP hD (t_byteAt l G h0 (nI jA) tby kt tln tsp tkd (nI jA) (nI jA) tf9 fby) si_X10_78 [0, 1] rfl rfl (by decide) rfl rfl rfl rfl rfl (Nat.le_of_ble_eq_true rfl) ⟨Nat.le_of_ble_eq_true rfl, Nat.le_of_ble_eq_true rfl⟩ ⟨by first | exact Nat.le_of_ble_eq_true rfl | exact Nat.zero_le _, by first | exact Nat.le_of_ble_eq_true rfl | exact Nat.zero_le _⟩ dX10_advance_116 (fun r2586 hr2586 => ?_)
        refine pS hC hK hl (t_digit l G r2586) si_X10_86 rfl rfl (Nat.le_of_ble_eq_true rfl) ⟨Nat.le_of_ble_eq_true rfl, Nat.le_of_ble_eq_true rfl⟩ ⟨by first | exact Nat.le_of_ble_eq_true rfl | exact Nat.zero_le _, by first | exact Nat.le_of_ble_eq_true rfl | exact Nat.zero_le _⟩ dX10_advance_119 (fun r2587 hr2587 => ?_)
        rcases hr2587 with rfl | rfl
        · refine lv_if_eq (tgt := 169) hx hb dX10_advance_122 (by decide) (fun c9 => absurd c9 (by decide)) (fun _ => ?_)
          refine lv_aload_n hx hb dX10_advance_125 rfl (lv_at hl 0 rfl) ?_
          refine lv_bipush (v := (-3)) hx hb dX10_advance_126 (by decide) ?_
          refine pf_X10_31 hC rfl hK hP hD hS 0 (ws' := [(h0, .inr (10, [.ref tby, .int (nI kt), .ref tln, .ref tsp, .int (-3), .int (nI jA), .int (nI jA), .int tf9])), (tby, .inl (G.2.1, 240, .inl fby))]) rfl (Nat.le_of_ble_eq_true rfl) rfl rfl rfl dX10_advance_128 (fun H locs hP hD hS => ?_)
          have keyC : ∀ (nC jC : Nat) (H : Heap) (locs : List Loc) (ls : Array Slot), kt ≤ jC + nC → jC ≤ 240 → va_P G.1 vwCl [(h0, .inr (10, [.ref tby, .int (nI kt), .ref tln, .ref tsp, .int (-3), .int (nI jA), .int (nI jC), .int tf9])), (tby, .inl (G.2.1, 240, .inl fby))] H → va_D A [(h0, .inr (10, [.ref tby, .int (nI kt), .ref tln, .ref tsp, .int (-3), .int (nI jA), .int (nI jC), .int tf9])), (tby, .inl (G.2.1, 240, .inl fby))] → va_S A s.heap H locs → lv_has ls 1 [(0, .ref h0)] → W p l e (RM 3 0 0) s m ([.ref h0] : List Value).toArray below meth c H locs 0 0 (MQ below (QV G (fun u : Int32 × Nat × Nat => u.2.1 ≤ 240 ∧ u.2.2 ≤ 240) (fun u : Int32 × Nat × Nat => [(h0, .inr (10, [.ref tby, .int (nI kt), .ref tln, .ref tsp, .int u.1, .int (nI u.2.1), .int (nI u.2.2), .int tf9])), (tby, .inl (G.2.1, 240, .inl fby))]) A) ([.ref h0] : List Value).toArray s 0 0 A) (F0 m 131 ls []) := by
            intro nC
            induction nC with
            | zero =>
              intro jC H locs ls hkC hmC hP hD hS hl
              have hzC : nI kt ≤ nI jC := (nI_leI (by omega) (by omega)).mpr (by omega)
              refine lv_aload_n hx hb dX10_advance_131 rfl (lv_at hl 0 rfl) ?_
              refine gf_X10_37 hC rfl hK hP 0 rfl rfl dX10_advance_132 ?_
              refine lv_aload_n hx hb dX10_advance_135 rfl (lv_at hl 0 rfl) ?_
              refine gf_X10_27 hC rfl hK hP 0 rfl rfl dX10_advance_136 ?_
              refine lv_icmp_ge (tgt := 199) hx hb dX10_advance_139 (by decide) (fun _ => ?_) (fun c9 => absurd (hzC) c9)
              exact RV hC hP hD hS [0, 1] ((-3), jA, jC) rfl rfl (by decide) (by dsimp only; omega) dX10_advance_199
            | succ nC ihC =>
              intro jC H locs ls hkC hmC hP hD hS hl
              refine lv_aload_n hx hb dX10_advance_131 rfl (lv_at hl 0 rfl) ?_
              refine gf_X10_37 hC rfl hK hP 0 rfl rfl dX10_advance_132 ?_
              refine lv_aload_n hx hb dX10_advance_135 rfl (lv_at hl 0 rfl) ?_
              refine gf_X10_27 hC rfl hK hP 0 rfl rfl dX10_advance_136 ?_
              refine lv_icmp_ge (tgt := 199) hx hb dX10_advance_139 (by decide) (fun c_139_2589 => ?_) (fun c_139_2589 => ?_)
              · exact RV hC hP hD hS [0, 1] ((-3), jA, jC) rfl rfl (by decide) (by dsimp only; omega) dX10_advance_199
              · refine lv_aload_n hx hb dX10_advance_142 rfl (lv_at hl 0 rfl) ?_
                refine lv_aload_n hx hb dX10_advance_143 rfl (lv_at hl 0 rfl) ?_
                refine gf_X10_37 hC rfl hK hP 0 rfl rfl dX10_advance_144 ?_
                refine pV hC hK hl hP hD (t_byteAt l G h0 (nI jC) tby kt tln tsp (-3) (nI jA) (nI jC) tf9 fby) si_X10_78 [0, 1] rfl rfl (by decide) rfl rfl rfl rfl rfl (Nat.le_of_ble_eq_true rfl) ⟨Nat.le_of_ble_eq_true rfl, Nat.le_of_ble_eq_true rfl⟩ ⟨by first | exact Nat.le_of_ble_eq_true rfl | exact Nat.zero_le _, by first | exact Nat.le_of_ble_eq_true rfl | exact Nat.zero_le _⟩ dX10_advance_147 (fun r2590 hr2590 => ?_)
                refine pS hC hK hl (t_digit l G r2590) si_X10_86 rfl rfl (Nat.le_of_ble_eq_true rfl) ⟨Nat.le_of_ble_eq_true rfl, Nat.le_of_ble_eq_true rfl⟩ ⟨by first | exact Nat.le_of_ble_eq_true rfl | exact Nat.zero_le _, by first | exact Nat.le_of_ble_eq_true rfl | exact Nat.zero_le _⟩ dX10_advance_150 (fun r2591 hr2591 => ?_)
                rcases hr2591 with rfl | rfl
                · refine lv_if_eq (tgt := 199) hx hb dX10_advance_153 (by decide) (fun c9 => absurd c9 (by decide)) (fun _ => ?_)
                  refine lv_aload_n hx hb dX10_advance_156 rfl (lv_at hl 0 rfl) ?_
                  refine lv_dup hx hb dX10_advance_157 rfl ?_
                  refine gf_X10_37 hC rfl hK hP 0 rfl rfl dX10_advance_158 ?_
                  refine lv_iconst (v := 1) hx hb dX10_advance_161 (by decide) ?_
                  refine lv_iadd hx hb dX10_advance_162 ?_
                  refine eqi (x1 := nI (jC + 1)) (nI_1 _) ?_
                  refine pf_X10_37 hC rfl hK hP hD hS 0 (ws' := [(h0, .inr (10, [.ref tby, .int (nI kt), .ref tln, .ref tsp, .int (-3), .int (nI jA), .int (nI (jC + 1)), .int tf9])), (tby, .inl (G.2.1, 240, .inl fby))]) rfl (Nat.le_of_ble_eq_true rfl) rfl rfl rfl dX10_advance_163 (fun H locs hP hD hS => ?_)
                  refine lv_goto (tgt := 131) hx hb dX10_advance_166 (by decide) ?_
                  have hnC9 := nge_nat (R := kt) (k := jC) (by omega) (by omega) c_139_2589
                  exact ihC (jC + 1) _ _ _ (by omega) (by omega) hP hD hS (lv_sub hl [0] rfl)
                · refine lv_if_eq (tgt := 199) hx hb dX10_advance_153 (by decide) (fun _ => ?_) (fun c9 => absurd (by decide) c9)
                  exact RV hC hP hD hS [0, 1] ((-3), jA, jC) rfl rfl (by decide) (by dsimp only; omega) dX10_advance_199
          exact keyC kt jA _ _ _ (by omega) (by omega) hP hD hS (lv_sub hl [0] rfl)
        · refine lv_if_eq (tgt := 169) hx hb dX10_advance_122 (by decide) (fun _ => ?_) (fun c9 => absurd (by decide) c9)
          refine lv_aload_n hx hb dX10_advance_169 rfl (lv_at hl 0 rfl) ?_
          refine lv_aload_n hx hb dX10_advance_170 rfl (lv_at hl 0 rfl) ?_
          refine lv_aload_n hx hb dX10_advance_171 rfl (lv_at hl 0 rfl) ?_
          refine gf_X10_34 hC rfl hK hP 0 rfl rfl dX10_advance_172 ?_
          refine pV hC hK hl hP hD (t_byteAt l G h0 (nI jA) tby kt tln tsp tkd (nI jA) (nI jA) tf9 fby) si_X10_78 [0, 1] rfl rfl (by decide) rfl rfl rfl rfl rfl (Nat.le_of_ble_eq_true rfl) ⟨Nat.le_of_ble_eq_true rfl, Nat.le_of_ble_eq_true rfl⟩ ⟨by first | exact Nat.le_of_ble_eq_true rfl | exact Nat.zero_le _, by first | exact Nat.le_of_ble_eq_true rfl | exact Nat.zero_le _⟩ dX10_advance_175 (fun r2593 hr2593 => ?_)
          refine pf_X10_31 hC rfl hK hP hD hS 0 (ws' := [(h0, .inr (10, [.ref tby, .int (nI kt), .ref tln, .ref tsp, .int r2593, .int (nI jA), .int (nI jA), .int tf9])), (tby, .inl (G.2.1, 240, .inl fby))]) rfl (Nat.le_of_ble_eq_true rfl) rfl rfl rfl dX10_advance_178 (fun H locs hP hD hS => ?_)
          refine lv_aload_n hx hb dX10_advance_181 rfl (lv_at hl 0 rfl) ?_
          refine gf_X10_31 hC rfl hK hP 0 rfl rfl dX10_advance_182 ?_
          refine lv_iconst (v := (-1)) hx hb dX10_advance_185 (by decide) ?_
          refine lv_icmp_eq (tgt := 199) hx hb dX10_advance_186 (by decide) (fun c_186_2594 => ?_) (fun c_186_2594 => ?_)
          · exact RV hC hP hD hS [0, 1] (r2593, jA, jA) rfl rfl (by decide) (by dsimp only; omega) dX10_advance_199
          · refine lv_aload_n hx hb dX10_advance_189 rfl (lv_at hl 0 rfl) ?_
            refine lv_dup hx hb dX10_advance_190 rfl ?_
            refine gf_X10_37 hC rfl hK hP 0 rfl rfl dX10_advance_191 ?_
            refine lv_iconst (v := 1) hx hb dX10_advance_194 (by decide) ?_
            refine lv_iadd hx hb dX10_advance_195 ?_
            refine eqi (x1 := nI (jA + 1)) (nI_1 _) ?_
            refine pf_X10_37 hC rfl hK hP hD hS 0 (ws' := [(h0, .inr (10, [.ref tby, .int (nI kt), .ref tln, .ref tsp, .int r2593, .int (nI jA), .int (nI (jA + 1)), .int tf9])), (tby, .inl (G.2.1, 240, .inl fby))]) rfl (Nat.le_of_ble_eq_true rfl) rfl rfl rfl dX10_advance_196 (fun H locs hP hD hS => ?_)
            exact RV hC hP hD hS [0, 1] (r2593, jA, (jA + 1)) rfl rfl (by decide) (by dsimp only; omega) dX10_advance_199
    | succ nA ihA =>
      intro jA H locs ls hkA hmA hP hD hS hl
      refine lv_aload_n hx hb dX10_advance_8 rfl (lv_at hl 0 rfl) ?_
      refine gf_X10_34 hC rfl hK hP 0 rfl rfl dX10_advance_9 ?_
      refine lv_aload_n hx hb dX10_advance_12 rfl (lv_at hl 0 rfl) ?_
      refine gf_X10_27 hC rfl hK hP 0 rfl rfl dX10_advance_13 ?_
      refine lv_icmp_ge (tgt := 45) hx hb dX10_advance_16 (by decide) (fun c_16_2595 => ?_) (fun c_16_2595 => ?_)
      · refine lv_aload_n hx hb dX10_advance_45 rfl (lv_at hl 0 rfl) ?_
        refine lv_aload_n hx hb dX10_advance_46 rfl (lv_at hl 0 rfl) ?_
        refine gf_X10_34 hC rfl hK hP 0 rfl rfl dX10_advance_47 ?_
        refine pf_X10_37 hC rfl hK hP hD hS 0 (ws' := [(h0, .inr (10, [.ref tby, .int (nI kt), .ref tln, .ref tsp, .int tkd, .int (nI jA), .int (nI jA), .int tf9])), (tby, .inl (G.2.1, 240, .inl fby))]) rfl (Nat.le_of_ble_eq_true rfl) rfl rfl rfl dX10_advance_50 (fun H locs hP hD hS => ?_)
        refine lv_aload_n hx hb dX10_advance_53 rfl (lv_at hl 0 rfl) ?_
        refine lv_aload_n hx hb dX10_advance_54 rfl (lv_at hl 0 rfl) ?_
        refine gf_X10_34 hC rfl hK hP 0 rfl rfl dX10_advance_55 ?_
        refine pV hC hK hl hP hD (t_byteAt l G h0 (nI jA) tby kt tln tsp tkd (nI jA) (nI jA) tf9 fby) si_X10_78 [0, 1] rfl rfl (by decide) rfl rfl rfl rfl rfl (Nat.le_of_ble_eq_true rfl) ⟨Nat.le_of_ble_eq_true rfl, Nat.le_of_ble_eq_true rfl⟩ ⟨by first | exact Nat.le_of_ble_eq_true rfl | exact Nat.zero_le _, by first | exact Nat.le_of_ble_eq_true rfl | exact Nat.zero_le _⟩ dX10_advance_58 (fun r2596 hr2596 => ?_)
        refine pS hC hK hl (t_letter l G r2596) si_X10_82 rfl rfl (Nat.le_of_ble_eq_true rfl) ⟨Nat.le_of_ble_eq_true rfl, Nat.le_of_ble_eq_true rfl⟩ ⟨by first | exact Nat.le_of_ble_eq_true rfl | exact Nat.zero_le _, by first | exact Nat.le_of_ble_eq_true rfl | exact Nat.zero_le _⟩ dX10_advance_61 (fun r2597 hr2597 => ?_)
        rcases hr2597 with rfl | rfl
        · refine lv_if_eq (tgt := 111) hx hb dX10_advance_64 (by decide) (fun c9 => absurd c9 (by decide)) (fun _ => ?_)
          refine lv_aload_n hx hb dX10_advance_67 rfl (lv_at hl 0 rfl) ?_
          refine lv_bipush (v := (-2)) hx hb dX10_advance_68 (by decide) ?_
          refine pf_X10_31 hC rfl hK hP hD hS 0 (ws' := [(h0, .inr (10, [.ref tby, .int (nI kt), .ref tln, .ref tsp, .int (-2), .int (nI jA), .int (nI jA), .int tf9])), (tby, .inl (G.2.1, 240, .inl fby))]) rfl (Nat.le_of_ble_eq_true rfl) rfl rfl rfl dX10_advance_70 (fun H locs hP hD hS => ?_)
          have keyB : ∀ (nB jB : Nat) (H : Heap) (locs : List Loc) (ls : Array Slot), kt ≤ jB + nB → jB ≤ 240 → va_P G.1 vwCl [(h0, .inr (10, [.ref tby, .int (nI kt), .ref tln, .ref tsp, .int (-2), .int (nI jA), .int (nI jB), .int tf9])), (tby, .inl (G.2.1, 240, .inl fby))] H → va_D A [(h0, .inr (10, [.ref tby, .int (nI kt), .ref tln, .ref tsp, .int (-2), .int (nI jA), .int (nI jB), .int tf9])), (tby, .inl (G.2.1, 240, .inl fby))] → va_S A s.heap H locs → lv_has ls 1 [(0, .ref h0)] → W p l e (RM 3 0 0) s m ([.ref h0] : List Value).toArray below meth c H locs 0 0 (MQ below (QV G (fun u : Int32 × Nat × Nat => u.2.1 ≤ 240 ∧ u.2.2 ≤ 240) (fun u : Int32 × Nat × Nat => [(h0, .inr (10, [.ref tby, .int (nI kt), .ref tln, .ref tsp, .int u.1, .int (nI u.2.1), .int (nI u.2.2), .int tf9])), (tby, .inl (G.2.1, 240, .inl fby))]) A) ([.ref h0] : List Value).toArray s 0 0 A) (F0 m 73 ls []) := by
            intro nB
            induction nB with
            | zero =>
              intro jB H locs ls hkB hmB hP hD hS hl
              have hzB : nI kt ≤ nI jB := (nI_leI (by omega) (by omega)).mpr (by omega)
              refine lv_aload_n hx hb dX10_advance_73 rfl (lv_at hl 0 rfl) ?_
              refine gf_X10_37 hC rfl hK hP 0 rfl rfl dX10_advance_74 ?_
              refine lv_aload_n hx hb dX10_advance_77 rfl (lv_at hl 0 rfl) ?_
              refine gf_X10_27 hC rfl hK hP 0 rfl rfl dX10_advance_78 ?_
              refine lv_icmp_ge (tgt := 199) hx hb dX10_advance_81 (by decide) (fun _ => ?_) (fun c9 => absurd (hzB) c9)
              exact RV hC hP hD hS [0, 1] ((-2), jA, jB) rfl rfl (by decide) (by dsimp only; omega) dX10_advance_199
            | succ nB ihB =>
              intro jB H locs ls hkB hmB hP hD hS hl
              refine lv_aload_n hx hb dX10_advance_73 rfl (lv_at hl 0 rfl) ?_
              refine gf_X10_37 hC rfl hK hP 0 rfl rfl dX10_advance_74 ?_
              refine lv_aload_n hx hb dX10_advance_77 rfl (lv_at hl 0 rfl) ?_
              refine gf_X10_27 hC rfl hK hP 0 rfl rfl dX10_advance_78 ?_
              refine lv_icmp_ge (tgt := 199) hx hb dX10_advance_81 (by decide) (fun c_81_2599 => ?_) (fun c_81_2599 => ?_)
              · exact RV hC hP hD hS [0, 1] ((-2), jA, jB) rfl rfl (by decide) (by dsimp only; omega) dX10_advance_199
              · refine lv_aload_n hx hb dX10_advance_84 rfl (lv_at hl 0 rfl) ?_
                refine lv_aload_n hx hb dX10_advance_85 rfl (lv_at hl 0 rfl) ?_
                refine gf_X10_37 hC rfl hK hP 0 rfl rfl dX10_advance_86 ?_
                refine pV hC hK hl hP hD (t_byteAt l G h0 (nI jB) tby kt tln tsp (-2) (nI jA) (nI jB) tf9 fby) si_X10_78 [0, 1] rfl rfl (by decide) rfl rfl rfl rfl rfl (Nat.le_of_ble_eq_true rfl) ⟨Nat.le_of_ble_eq_true rfl, Nat.le_of_ble_eq_true rfl⟩ ⟨by first | exact Nat.le_of_ble_eq_true rfl | exact Nat.zero_le _, by first | exact Nat.le_of_ble_eq_true rfl | exact Nat.zero_le _⟩ dX10_advance_89 (fun r2600 hr2600 => ?_)
                refine pS hC hK hl (t_letter l G r2600) si_X10_82 rfl rfl (Nat.le_of_ble_eq_true rfl) ⟨Nat.le_of_ble_eq_true rfl, Nat.le_of_ble_eq_true rfl⟩ ⟨by first | exact Nat.le_of_ble_eq_true rfl | exact Nat.zero_le _, by first | exact Nat.le_of_ble_eq_true rfl | exact Nat.zero_le _⟩ dX10_advance_92 (fun r2601 hr2601 => ?_)
                rcases hr2601 with rfl | rfl
                · refine lv_if_eq (tgt := 199) hx hb dX10_advance_95 (by decide) (fun c9 => absurd c9 (by decide)) (fun _ => ?_)
                  refine lv_aload_n hx hb dX10_advance_98 rfl (lv_at hl 0 rfl) ?_
                  refine lv_dup hx hb dX10_advance_99 rfl ?_
                  refine gf_X10_37 hC rfl hK hP 0 rfl rfl dX10_advance_100 ?_
                  refine lv_iconst (v := 1) hx hb dX10_advance_103 (by decide) ?_
                  refine lv_iadd hx hb dX10_advance_104 ?_
                  refine eqi (x1 := nI (jB + 1)) (nI_1 _) ?_
                  refine pf_X10_37 hC rfl hK hP hD hS 0 (ws' := [(h0, .inr (10, [.ref tby, .int (nI kt), .ref tln, .ref tsp, .int (-2), .int (nI jA), .int (nI (jB + 1)), .int tf9])), (tby, .inl (G.2.1, 240, .inl fby))]) rfl (Nat.le_of_ble_eq_true rfl) rfl rfl rfl dX10_advance_105 (fun H locs hP hD hS => ?_)
                  refine lv_goto (tgt := 73) hx hb dX10_advance_108 (by decide) ?_
                  have hnB9 := nge_nat (R := kt) (k := jB) (by omega) (by omega) c_81_2599
                  exact ihB (jB + 1) _ _ _ (by omega) (by omega) hP hD hS (lv_sub hl [0] rfl)
                · refine lv_if_eq (tgt := 199) hx hb dX10_advance_95 (by decide) (fun _ => ?_) (fun c9 => absurd (by decide) c9)
                  exact RV hC hP hD hS [0, 1] ((-2), jA, jB) rfl rfl (by decide) (by dsimp only; omega) dX10_advance_199
          exact keyB kt jA _ _ _ (by omega) (by omega) hP hD hS (lv_sub hl [0] rfl)
        · refine lv_if_eq (tgt := 111) hx hb dX10_advance_64 (by decide) (fun _ => ?_) (fun c9 => absurd (by decide) c9)
          refine lv_aload_n hx hb dX10_advance_111 rfl (lv_at hl 0 rfl) ?_
          refine lv_aload_n hx hb dX10_advance_112 rfl (lv_at hl 0 rfl) ?_
          refine gf_X10_34 hC rfl hK hP 0 rfl rfl dX10_advance_113 ?_
          refine pV hC hK hl hP hD (t_byteAt l G h0 (nI jA) tby kt tln tsp tkd (nI jA) (nI jA) tf9 fby) si_X10_78 [0, 1] rfl rfl (by decide) rfl rfl rfl rfl rfl (Nat.le_of_ble_eq_true rfl) ⟨Nat.le_of_ble_eq_true rfl, Nat.le_of_ble_eq_true rfl⟩ ⟨by first | exact Nat.le_of_ble_eq_true rfl | exact Nat.zero_le _, by first | exact Nat.le_of_ble_eq_true rfl | exact Nat.zero_le _⟩ dX10_advance_116 (fun r2603 hr2603 => ?_)
          refine pS hC hK hl (t_digit l G r2603) si_X10_86 rfl rfl (Nat.le_of_ble_eq_true rfl) ⟨Nat.le_of_ble_eq_true rfl, Nat.le_of_ble_eq_true rfl⟩ ⟨by first | exact Nat.le_of_ble_eq_true rfl | exact Nat.zero_le _, by first | exact Nat.le_of_ble_eq_true rfl | exact Nat.zero_le _⟩ dX10_advance_119 (fun r2604 hr2604 => ?_)
          rcases hr2604 with rfl | rfl
          · refine lv_if_eq (tgt := 169) hx hb dX10_advance_122 (by decide) (fun c9 => absurd c9 (by decide)) (fun _ => ?_)
            refine lv_aload_n hx hb dX10_advance_125 rfl (lv_at hl 0 rfl) ?_
            refine lv_bipush (v := (-3)) hx hb dX10_advance_126 (by decide) ?_
            refine pf_X10_31 hC rfl hK hP hD hS 0 (ws' := [(h0, .inr (10, [.ref tby, .int (nI kt), .ref tln, .ref tsp, .int (-3), .int (nI jA), .int (nI jA), .int tf9])), (tby, .inl (G.2.1, 240, .inl fby))]) rfl (Nat.le_of_ble_eq_true rfl) rfl rfl rfl dX10_advance_128 (fun H locs hP hD hS => ?_)
            have keyC : ∀ (nC jC : Nat) (H : Heap) (locs : List Loc) (ls : Array Slot), kt ≤ jC + nC → jC ≤ 240 → va_P G.1 vwCl [(h0, .inr (10, [.ref tby, .int (nI kt), .ref tln, .ref tsp, .int (-3), .int (nI jA), .int (nI jC), .int tf9])), (tby, .inl (G.2.1, 240, .inl fby))] H → va_D A [(h0, .inr (10, [.ref tby, .int (nI kt), .ref tln, .ref tsp, .int (-3), .int (nI jA), .int (nI jC), .int tf9])), (tby, .inl (G.2.1, 240, .inl fby))] → va_S A s.heap H locs → lv_has ls 1 [(0, .ref h0)] → W p l e (RM 3 0 0) s m ([.ref h0] : List Value).toArray below meth c H locs 0 0 (MQ below (QV G (fun u : Int32 × Nat × Nat => u.2.1 ≤ 240 ∧ u.2.2 ≤ 240) (fun u : Int32 × Nat × Nat => [(h0, .inr (10, [.ref tby, .int (nI kt), .ref tln, .ref tsp, .int u.1, .int (nI u.2.1), .int (nI u.2.2), .int tf9])), (tby, .inl (G.2.1, 240, .inl fby))]) A) ([.ref h0] : List Value).toArray s 0 0 A) (F0 m 131 ls []) := by
              intro nC
              induction nC with
              | zero =>
                intro jC H locs ls hkC hmC hP hD hS hl
                have hzC : nI kt ≤ nI jC := (nI_leI (by omega) (by omega)).mpr (by omega)
                refine lv_aload_n hx hb dX10_advance_131 rfl (lv_at hl 0 rfl) ?_
                refine gf_X10_37 hC rfl hK hP 0 rfl rfl dX10_advance_132 ?_
                refine lv_aload_n hx hb dX10_advance_135 rfl (lv_at hl 0 rfl) ?_
                refine gf_X10_27 hC rfl hK hP 0 rfl rfl dX10_advance_136 ?_
                refine lv_icmp_ge (tgt := 199) hx hb dX10_advance_139 (by decide) (fun _ => ?_) (fun c9 => absurd (hzC) c9)
                exact RV hC hP hD hS [0, 1] ((-3), jA, jC) rfl rfl (by decide) (by dsimp only; omega) dX10_advance_199
              | succ nC ihC =>
                intro jC H locs ls hkC hmC hP hD hS hl
                refine lv_aload_n hx hb dX10_advance_131 rfl (lv_at hl 0 rfl) ?_
                refine gf_X10_37 hC rfl hK hP 0 rfl rfl dX10_advance_132 ?_
                refine lv_aload_n hx hb dX10_advance_135 rfl (lv_at hl 0 rfl) ?_
                refine gf_X10_27 hC rfl hK hP 0 rfl rfl dX10_advance_136 ?_
                refine lv_icmp_ge (tgt := 199) hx hb dX10_advance_139 (by decide) (fun c_139_2606 => ?_) (fun c_139_2606 => ?_)
                · exact RV hC hP hD hS [0, 1] ((-3), jA, jC) rfl rfl (by decide) (by dsimp only; omega) dX10_advance_199
                · refine lv_aload_n hx hb dX10_advance_142 rfl (lv_at hl 0 rfl) ?_
                  refine lv_aload_n hx hb dX10_advance_143 rfl (lv_at hl 0 rfl) ?_
                  refine gf_X10_37 hC rfl hK hP 0 rfl rfl dX10_advance_144 ?_
                  refine pV hC hK hl hP hD (t_byteAt l G h0 (nI jC) tby kt tln tsp (-3) (nI jA) (nI jC) tf9 fby) si_X10_78 [0, 1] rfl rfl (by decide) rfl rfl rfl rfl rfl (Nat.le_of_ble_eq_true rfl) ⟨Nat.le_of_ble_eq_true rfl, Nat.le_of_ble_eq_true rfl⟩ ⟨by first | exact Nat.le_of_ble_eq_true rfl | exact Nat.zero_le _, by first | exact Nat.le_of_ble_eq_true rfl | exact Nat.zero_le _⟩ dX10_advance_147 (fun r2607 hr2607 => ?_)
                  refine pS hC hK hl (t_digit l G r2607) si_X10_86 rfl rfl (Nat.le_of_ble_eq_true rfl) ⟨Nat.le_of_ble_eq_true rfl, Nat.le_of_ble_eq_true rfl⟩ ⟨by first | exact Nat.le_of_ble_eq_true rfl | exact Nat.zero_le _, by first | exact Nat.le_of_ble_eq_true rfl | exact Nat.zero_le _⟩ dX10_advance_150 (fun r2608 hr2608 => ?_)
                  rcases hr2608 with rfl | rfl
                  · refine lv_if_eq (tgt := 199) hx hb dX10_advance_153 (by decide) (fun c9 => absurd c9 (by decide)) (fun _ => ?_)
                    refine lv_aload_n hx hb dX10_advance_156 rfl (lv_at hl 0 rfl) ?_
                    refine lv_dup hx hb dX10_advance_157 rfl ?_
                    refine gf_X10_37 hC rfl hK hP 0 rfl rfl dX10_advance_158 ?_
                    refine lv_iconst (v := 1) hx hb dX10_advance_161 (by decide) ?_
                    refine lv_iadd hx hb dX10_advance_162 ?_
                    refine eqi (x1 := nI (jC + 1)) (nI_1 _) ?_
                    refine pf_X10_37 hC rfl hK hP hD hS 0 (ws' := [(h0, .inr (10, [.ref tby, .int (nI kt), .ref tln, .ref tsp, .int (-3), .int (nI jA), .int (nI (jC + 1)), .int tf9])), (tby, .inl (G.2.1, 240, .inl fby))]) rfl (Nat.le_of_ble_eq_true rfl) rfl rfl rfl dX10_advance_163 (fun H locs hP hD hS => ?_)
                    refine lv_goto (tgt := 131) hx hb dX10_advance_166 (by decide) ?_
                    have hnC9 := nge_nat (R := kt) (k := jC) (by omega) (by omega) c_139_2606
                    exact ihC (jC + 1) _ _ _ (by omega) (by omega) hP hD hS (lv_sub hl [0] rfl)
                  · refine lv_if_eq (tgt := 199) hx hb dX10_advance_153 (by decide) (fun _ => ?_) (fun c9 => absurd (by decide) c9)
                    exact RV hC hP hD hS [0, 1] ((-3), jA, jC) rfl rfl (by decide) (by dsimp only; omega) dX10_advance_199
            exact keyC kt jA _ _ _ (by omega) (by omega) hP hD hS (lv_sub hl [0] rfl)
          · refine lv_if_eq (tgt := 169) hx hb dX10_advance_122 (by decide) (fun _ => ?_) (fun c9 => absurd (by decide) c9)
            refine lv_aload_n hx hb dX10_advance_169 rfl (lv_at hl 0 rfl) ?_
            refine lv_aload_n hx hb dX10_advance_170 rfl (lv_at hl 0 rfl) ?_
            refine lv_aload_n hx hb dX10_advance_171 rfl (lv_at hl 0 rfl) ?_
            refine gf_X10_34 hC rfl hK hP 0 rfl rfl dX10_advance_172 ?_
            refine pV hC hK hl hP hD (t_byteAt l G h0 (nI jA) tby kt tln tsp tkd (nI jA) (nI jA) tf9 fby) si_X10_78 [0, 1] rfl rfl (by decide) rfl rfl rfl rfl rfl (Nat.le_of_ble_eq_true rfl) ⟨Nat.le_of_ble_eq_true rfl, Nat.le_of_ble_eq_true rfl⟩ ⟨by first | exact Nat.le_of_ble_eq_true rfl | exact Nat.zero_le _, by first | exact Nat.le_of_ble_eq_true rfl | exact Nat.zero_le _⟩ dX10_advance_175 (fun r2610 hr2610 => ?_)
            refine pf_X10_31 hC rfl hK hP hD hS 0 (ws' := [(h0, .inr (10, [.ref tby, .int (nI kt), .ref tln, .ref tsp, .int r2610, .int (nI jA), .int (nI jA), .int tf9])), (tby, .inl (G.2.1, 240, .inl fby))]) rfl (Nat.le_of_ble_eq_true rfl) rfl rfl rfl dX10_advance_178 (fun H locs hP hD hS => ?_)
            refine lv_aload_n hx hb dX10_advance_181 rfl (lv_at hl 0 rfl) ?_
            refine gf_X10_31 hC rfl hK hP 0 rfl rfl dX10_advance_182 ?_
            refine lv_iconst (v := (-1)) hx hb dX10_advance_185 (by decide) ?_
            refine lv_icmp_eq (tgt := 199) hx hb dX10_advance_186 (by decide) (fun c_186_2611 => ?_) (fun c_186_2611 => ?_)
            · exact RV hC hP hD hS [0, 1] (r2610, jA, jA) rfl rfl (by decide) (by dsimp only; omega) dX10_advance_199
            · refine lv_aload_n hx hb dX10_advance_189 rfl (lv_at hl 0 rfl) ?_
              refine lv_dup hx hb dX10_advance_190 rfl ?_
              refine gf_X10_37 hC rfl hK hP 0 rfl rfl dX10_advance_191 ?_
              refine lv_iconst (v := 1) hx hb dX10_advance_194 (by decide) ?_
              refine lv_iadd hx hb dX10_advance_195 ?_
              refine eqi (x1 := nI (jA + 1)) (nI_1 _) ?_
              refine pf_X10_37 hC rfl hK hP hD hS 0 (ws' := [(h0, .inr (10, [.ref tby, .int (nI kt), .ref tln, .ref tsp, .int r2610, .int (nI jA), .int (nI (jA + 1)), .int tf9])), (tby, .inl (G.2.1, 240, .inl fby))]) rfl (Nat.le_of_ble_eq_true rfl) rfl rfl rfl dX10_advance_196 (fun H locs hP hD hS => ?_)
              exact RV hC hP hD hS [0, 1] (r2610, jA, (jA + 1)) rfl rfl (by decide) (by dsimp only; omega) dX10_advance_199
      · refine lv_aload_n hx hb dX10_advance_19 rfl (lv_at hl 0 rfl) ?_
        refine lv_aload_n hx hb dX10_advance_20 rfl (lv_at hl 0 rfl) ?_
        refine gf_X10_34 hC rfl hK hP 0 rfl rfl dX10_advance_21 ?_
        refine pV hC hK hl hP hD (t_byteAt l G h0 (nI jA) tby kt tln tsp tkd (nI jA) (nI kn) tf9 fby) si_X10_78 [0, 1] rfl rfl (by decide) rfl rfl rfl rfl rfl (Nat.le_of_ble_eq_true rfl) ⟨Nat.le_of_ble_eq_true rfl, Nat.le_of_ble_eq_true rfl⟩ ⟨by first | exact Nat.le_of_ble_eq_true rfl | exact Nat.zero_le _, by first | exact Nat.le_of_ble_eq_true rfl | exact Nat.zero_le _⟩ dX10_advance_24 (fun r2612 hr2612 => ?_)
        refine lv_bipush (v := 32) hx hb dX10_advance_27 (by decide) ?_
        refine lv_icmp_ne (tgt := 45) hx hb dX10_advance_29 (by decide) (fun c_29_2613 => ?_) (fun c_29_2613 => ?_)
        · refine lv_aload_n hx hb dX10_advance_45 rfl (lv_at hl 0 rfl) ?_
          refine lv_aload_n hx hb dX10_advance_46 rfl (lv_at hl 0 rfl) ?_
          refine gf_X10_34 hC rfl hK hP 0 rfl rfl dX10_advance_47 ?_
          refine pf_X10_37 hC rfl hK hP hD hS 0 (ws' := [(h0, .inr (10, [.ref tby, .int (nI kt), .ref tln, .ref tsp, .int tkd, .int (nI jA), .int (nI jA), .int tf9])), (tby, .inl (G.2.1, 240, .inl fby))]) rfl (Nat.le_of_ble_eq_true rfl) rfl rfl rfl dX10_advance_50 (fun H locs hP hD hS => ?_)
          refine lv_aload_n hx hb dX10_advance_53 rfl (lv_at hl 0 rfl) ?_
          refine lv_aload_n hx hb dX10_advance_54 rfl (lv_at hl 0 rfl) ?_
          refine gf_X10_34 hC rfl hK hP 0 rfl rfl dX10_advance_55 ?_
          refine pV hC hK hl hP hD (t_byteAt l G h0 (nI jA) tby kt tln tsp tkd (nI jA) (nI jA) tf9 fby) si_X10_78 [0, 1] rfl rfl (by decide) rfl rfl rfl rfl rfl (Nat.le_of_ble_eq_true rfl) ⟨Nat.le_of_ble_eq_true rfl, Nat.le_of_ble_eq_true rfl⟩ ⟨by first | exact Nat.le_of_ble_eq_true rfl | exact Nat.zero_le _, by first | exact Nat.le_of_ble_eq_true rfl | exact Nat.zero_le _⟩ dX10_advance_58 (fun r2614 hr2614 => ?_)
          refine pS hC hK hl (t_letter l G r2614) si_X10_82 rfl rfl (Nat.le_of_ble_eq_true rfl) ⟨Nat.le_of_ble_eq_true rfl, Nat.le_of_ble_eq_true rfl⟩ ⟨by first | exact Nat.le_of_ble_eq_true rfl | exact Nat.zero_le _, by first | exact Nat.le_of_ble_eq_true rfl | exact Nat.zero_le _⟩ dX10_advance_61 (fun r2615 hr2615 => ?_)
          rcases hr2615 with rfl | rfl
          · refine lv_if_eq (tgt := 111) hx hb dX10_advance_64 (by decide) (fun c9 => absurd c9 (by decide)) (fun _ => ?_)
            refine lv_aload_n hx hb dX10_advance_67 rfl (lv_at hl 0 rfl) ?_
            refine lv_bipush (v := (-2)) hx hb dX10_advance_68 (by decide) ?_
            refine pf_X10_31 hC rfl hK hP hD hS 0 (ws' := [(h0, .inr (10, [.ref tby, .int (nI kt), .ref tln, .ref tsp, .int (-2), .int (nI jA), .int (nI jA), .int tf9])), (tby, .inl (G.2.1, 240, .inl fby))]) rfl (Nat.le_of_ble_eq_true rfl) rfl rfl rfl dX10_advance_70 (fun H locs hP hD hS => ?_)
            have keyB : ∀ (nB jB : Nat) (H : Heap) (locs : List Loc) (ls : Array Slot), kt ≤ jB + nB → jB ≤ 240 → va_P G.1 vwCl [(h0, .inr (10, [.ref tby, .int (nI kt), .ref tln, .ref tsp, .int (-2), .int (nI jA), .int (nI jB), .int tf9])), (tby, .inl (G.2.1, 240, .inl fby))] H → va_D A [(h0, .inr (10, [.ref tby, .int (nI kt), .ref tln, .ref tsp, .int (-2), .int (nI jA), .int (nI jB), .int tf9])), (tby, .inl (G.2.1, 240, .inl fby))] → va_S A s.heap H locs → lv_has ls 1 [(0, .ref h0)] → W p l e (RM 3 0 0) s m ([.ref h0] : List Value).toArray below meth c H locs 0 0 (MQ below (QV G (fun u : Int32 × Nat × Nat => u.2.1 ≤ 240 ∧ u.2.2 ≤ 240) (fun u : Int32 × Nat × Nat => [(h0, .inr (10, [.ref tby, .int (nI kt), .ref tln, .ref tsp, .int u.1, .int (nI u.2.1), .int (nI u.2.2), .int tf9])), (tby, .inl (G.2.1, 240, .inl fby))]) A) ([.ref h0] : List Value).toArray s 0 0 A) (F0 m 73 ls []) := by
              intro nB
              induction nB with
              | zero =>
                intro jB H locs ls hkB hmB hP hD hS hl
                have hzB : nI kt ≤ nI jB := (nI_leI (by omega) (by omega)).mpr (by omega)
                refine lv_aload_n hx hb dX10_advance_73 rfl (lv_at hl 0 rfl) ?_
                refine gf_X10_37 hC rfl hK hP 0 rfl rfl dX10_advance_74 ?_
                refine lv_aload_n hx hb dX10_advance_77 rfl (lv_at hl 0 rfl) ?_
                refine gf_X10_27 hC rfl hK hP 0 rfl rfl dX10_advance_78 ?_
                refine lv_icmp_ge (tgt := 199) hx hb dX10_advance_81 (by decide) (fun _ => ?_) (fun c9 => absurd (hzB) c9)
                exact RV hC hP hD hS [0, 1] ((-2), jA, jB) rfl rfl (by decide) (by dsimp only; omega) dX10_advance_199
              | succ nB ihB =>
                intro jB H locs ls hkB hmB hP hD hS hl
                refine lv_aload_n hx hb dX10_advance_73 rfl (lv_at hl 0 rfl) ?_
                refine gf_X10_37 hC rfl hK hP 0 rfl rfl dX10_advance_74 ?_
                refine lv_aload_n hx hb dX10_advance_77 rfl (lv_at hl 0 rfl) ?_
                refine gf_X10_27 hC rfl hK hP 0 rfl rfl dX10_advance_78 ?_
                refine lv_icmp_ge (tgt := 199) hx hb dX10_advance_81 (by decide) (fun c_81_2617 => ?_) (fun c_81_2617 => ?_)
                · exact RV hC hP hD hS [0, 1] ((-2), jA, jB) rfl rfl (by decide) (by dsimp only; omega) dX10_advance_199
                · refine lv_aload_n hx hb dX10_advance_84 rfl (lv_at hl 0 rfl) ?_
                  refine lv_aload_n hx hb dX10_advance_85 rfl (lv_at hl 0 rfl) ?_
                  refine gf_X10_37 hC rfl hK hP 0 rfl rfl dX10_advance_86 ?_
                  refine pV hC hK hl hP hD (t_byteAt l G h0 (nI jB) tby kt tln tsp (-2) (nI jA) (nI jB) tf9 fby) si_X10_78 [0, 1] rfl rfl (by decide) rfl rfl rfl rfl rfl (Nat.le_of_ble_eq_true rfl) ⟨Nat.le_of_ble_eq_true rfl, Nat.le_of_ble_eq_true rfl⟩ ⟨by first | exact Nat.le_of_ble_eq_true rfl | exact Nat.zero_le _, by first | exact Nat.le_of_ble_eq_true rfl | exact Nat.zero_le _⟩ dX10_advance_89 (fun r2618 hr2618 => ?_)
                  refine pS hC hK hl (t_letter l G r2618) si_X10_82 rfl rfl (Nat.le_of_ble_eq_true rfl) ⟨Nat.le_of_ble_eq_true rfl, Nat.le_of_ble_eq_true rfl⟩ ⟨by first | exact Nat.le_of_ble_eq_true rfl | exact Nat.zero_le _, by first | exact Nat.le_of_ble_eq_true rfl | exact Nat.zero_le _⟩ dX10_advance_92 (fun r2619 hr2619 => ?_)
                  rcases hr2619 with rfl | rfl
                  · refine lv_if_eq (tgt := 199) hx hb dX10_advance_95 (by decide) (fun c9 => absurd c9 (by decide)) (fun _ => ?_)
                    refine lv_aload_n hx hb dX10_advance_98 rfl (lv_at hl 0 rfl) ?_
                    refine lv_dup hx hb dX10_advance_99 rfl ?_
                    refine gf_X10_37 hC rfl hK hP 0 rfl rfl dX10_advance_100 ?_
                    refine lv_iconst (v := 1) hx hb dX10_advance_103 (by decide) ?_
                    refine lv_iadd hx hb dX10_advance_104 ?_
                    refine eqi (x1 := nI (jB + 1)) (nI_1 _) ?_
                    refine pf_X10_37 hC rfl hK hP hD hS 0 (ws' := [(h0, .inr (10, [.ref tby, .int (nI kt), .ref tln, .ref tsp, .int (-2), .int (nI jA), .int (nI (jB + 1)), .int tf9])), (tby, .inl (G.2.1, 240, .inl fby))]) rfl (Nat.le_of_ble_eq_true rfl) rfl rfl rfl dX10_advance_105 (fun H locs hP hD hS => ?_)
                    refine lv_goto (tgt := 73) hx hb dX10_advance_108 (by decide) ?_
                    have hnB9 := nge_nat (R := kt) (k := jB) (by omega) (by omega) c_81_2617
                    exact ihB (jB + 1) _ _ _ (by omega) (by omega) hP hD hS (lv_sub hl [0] rfl)
                  · refine lv_if_eq (tgt := 199) hx hb dX10_advance_95 (by decide) (fun _ => ?_) (fun c9 => absurd (by decide) c9)
                    exact RV hC hP hD hS [0, 1] ((-2), jA, jB) rfl rfl (by decide) (by dsimp only; omega) dX10_advance_199
            exact keyB kt jA _ _ _ (by omega) (by omega) hP hD hS (lv_sub hl [0] rfl)
          · refine lv_if_eq (tgt := 111) hx hb dX10_advance_64 (by decide) (fun _ => ?_) (fun c9 => absurd (by decide) c9)
            refine lv_aload_n hx hb dX10_advance_111 rfl (lv_at hl 0 rfl) ?_
            refine lv_aload_n hx hb dX10_advance_112 rfl (lv_at hl 0 rfl) ?_
            refine gf_X10_34 hC rfl hK hP 0 rfl rfl dX10_advance_113 ?_
            refine pV hC hK hl hP hD (t_byteAt l G h0 (nI jA) tby kt tln tsp tkd (nI jA) (nI jA) tf9 fby) si_X10_78 [0, 1] rfl rfl (by decide) rfl rfl rfl rfl rfl (Nat.le_of_ble_eq_true rfl) ⟨Nat.le_of_ble_eq_true rfl, Nat.le_of_ble_eq_true rfl⟩ ⟨by first | exact Nat.le_of_ble_eq_true rfl | exact Nat.zero_le _, by first | exact Nat.le_of_ble_eq_true rfl | exact Nat.zero_le _⟩ dX10_advance_116 (fun r2621 hr2621 => ?_)
            refine pS hC hK hl (t_digit l G r2621) si_X10_86 rfl rfl (Nat.le_of_ble_eq_true rfl) ⟨Nat.le_of_ble_eq_true rfl, Nat.le_of_ble_eq_true rfl⟩ ⟨by first | exact Nat.le_of_ble_eq_true rfl | exact Nat.zero_le _, by first | exact Nat.le_of_ble_eq_true rfl | exact Nat.zero_le _⟩ dX10_advance_119 (fun r2622 hr2622 => ?_)
            rcases hr2622 with rfl | rfl
            · refine lv_if_eq (tgt := 169) hx hb dX10_advance_122 (by decide) (fun c9 => absurd c9 (by decide)) (fun _ => ?_)
              refine lv_aload_n hx hb dX10_advance_125 rfl (lv_at hl 0 rfl) ?_
              refine lv_bipush (v := (-3)) hx hb dX10_advance_126 (by decide) ?_
              refine pf_X10_31 hC rfl hK hP hD hS 0 (ws' := [(h0, .inr (10, [.ref tby, .int (nI kt), .ref tln, .ref tsp, .int (-3), .int (nI jA), .int (nI jA), .int tf9])), (tby, .inl (G.2.1, 240, .inl fby))]) rfl (Nat.le_of_ble_eq_true rfl) rfl rfl rfl dX10_advance_128 (fun H locs hP hD hS => ?_)
              have keyC : ∀ (nC jC : Nat) (H : Heap) (locs : List Loc) (ls : Array Slot), kt ≤ jC + nC → jC ≤ 240 → va_P G.1 vwCl [(h0, .inr (10, [.ref tby, .int (nI kt), .ref tln, .ref tsp, .int (-3), .int (nI jA), .int (nI jC), .int tf9])), (tby, .inl (G.2.1, 240, .inl fby))] H → va_D A [(h0, .inr (10, [.ref tby, .int (nI kt), .ref tln, .ref tsp, .int (-3), .int (nI jA), .int (nI jC), .int tf9])), (tby, .inl (G.2.1, 240, .inl fby))] → va_S A s.heap H locs → lv_has ls 1 [(0, .ref h0)] → W p l e (RM 3 0 0) s m ([.ref h0] : List Value).toArray below meth c H locs 0 0 (MQ below (QV G (fun u : Int32 × Nat × Nat => u.2.1 ≤ 240 ∧ u.2.2 ≤ 240) (fun u : Int32 × Nat × Nat => [(h0, .inr (10, [.ref tby, .int (nI kt), .ref tln, .ref tsp, .int u.1, .int (nI u.2.1), .int (nI u.2.2), .int tf9])), (tby, .inl (G.2.1, 240, .inl fby))]) A) ([.ref h0] : List Value).toArray s 0 0 A) (F0 m 131 ls []) := by
                intro nC
                induction nC with
                | zero =>
                  intro jC H locs ls hkC hmC hP hD hS hl
                  have hzC : nI kt ≤ nI jC := (nI_leI (by omega) (by omega)).mpr (by omega)
                  refine lv_aload_n hx hb dX10_advance_131 rfl (lv_at hl 0 rfl) ?_
                  refine gf_X10_37 hC rfl hK hP 0 rfl rfl dX10_advance_132 ?_
                  refine lv_aload_n hx hb dX10_advance_135 rfl (lv_at hl 0 rfl) ?_
                  refine gf_X10_27 hC rfl hK hP 0 rfl rfl dX10_advance_136 ?_
                  refine lv_icmp_ge (tgt := 199) hx hb dX10_advance_139 (by decide) (fun _ => ?_) (fun c9 => absurd (hzC) c9)
                  exact RV hC hP hD hS [0, 1] ((-3), jA, jC) rfl rfl (by decide) (by dsimp only; omega) dX10_advance_199
                | succ nC ihC =>
                  intro jC H locs ls hkC hmC hP hD hS hl
                  refine lv_aload_n hx hb dX10_advance_131 rfl (lv_at hl 0 rfl) ?_
                  refine gf_X10_37 hC rfl hK hP 0 rfl rfl dX10_advance_132 ?_
                  refine lv_aload_n hx hb dX10_advance_135 rfl (lv_at hl 0 rfl) ?_
                  refine gf_X10_27 hC rfl hK hP 0 rfl rfl dX10_advance_136 ?_
                  refine lv_icmp_ge (tgt := 199) hx hb dX10_advance_139 (by decide) (fun c_139_2624 => ?_) (fun c_139_2624 => ?_)
                  · exact RV hC hP hD hS [0, 1] ((-3), jA, jC) rfl rfl (by decide) (by dsimp only; omega) dX10_advance_199
                  · refine lv_aload_n hx hb dX10_advance_142 rfl (lv_at hl 0 rfl) ?_
                    refine lv_aload_n hx hb dX10_advance_143 rfl (lv_at hl 0 rfl) ?_
                    refine gf_X10_37 hC rfl hK hP 0 rfl rfl dX10_advance_144 ?_
                    refine pV hC hK hl hP hD (t_byteAt l G h0 (nI jC) tby kt tln tsp (-3) (nI jA) (nI jC) tf9 fby) si_X10_78 [0, 1] rfl rfl (by decide) rfl rfl rfl rfl rfl (Nat.le_of_ble_eq_true rfl) ⟨Nat.le_of_ble_eq_true rfl, Nat.le_of_ble_eq_true rfl⟩ ⟨by first | exact Nat.le_of_ble_eq_true rfl | exact Nat.zero_le _, by first | exact Nat.le_of_ble_eq_true rfl | exact Nat.zero_le _⟩ dX10_advance_147 (fun r2625 hr2625 => ?_)
                    refine pS hC hK hl (t_digit l G r2625) si_X10_86 rfl rfl (Nat.le_of_ble_eq_true rfl) ⟨Nat.le_of_ble_eq_true rfl, Nat.le_of_ble_eq_true rfl⟩ ⟨by first | exact Nat.le_of_ble_eq_true rfl | exact Nat.zero_le _, by first | exact Nat.le_of_ble_eq_true rfl | exact Nat.zero_le _⟩ dX10_advance_150 (fun r2626 hr2626 => ?_)
                    rcases hr2626 with rfl | rfl
                    · refine lv_if_eq (tgt := 199) hx hb dX10_advance_153 (by decide) (fun c9 => absurd c9 (by decide)) (fun _ => ?_)
                      refine lv_aload_n hx hb dX10_advance_156 rfl (lv_at hl 0 rfl) ?_
                      refine lv_dup hx hb dX10_advance_157 rfl ?_
                      refine gf_X10_37 hC rfl hK hP 0 rfl rfl dX10_advance_158 ?_
                      refine lv_iconst (v := 1) hx hb dX10_advance_161 (by decide) ?_
                      refine lv_iadd hx hb dX10_advance_162 ?_
                      refine eqi (x1 := nI (jC + 1)) (nI_1 _) ?_
                      refine pf_X10_37 hC rfl hK hP hD hS 0 (ws' := [(h0, .inr (10, [.ref tby, .int (nI kt), .ref tln, .ref tsp, .int (-3), .int (nI jA), .int (nI (jC + 1)), .int tf9])), (tby, .inl (G.2.1, 240, .inl fby))]) rfl (Nat.le_of_ble_eq_true rfl) rfl rfl rfl dX10_advance_163 (fun H locs hP hD hS => ?_)
                      refine lv_goto (tgt := 131) hx hb dX10_advance_166 (by decide) ?_
                      have hnC9 := nge_nat (R := kt) (k := jC) (by omega) (by omega) c_139_2624
                      exact ihC (jC + 1) _ _ _ (by omega) (by omega) hP hD hS (lv_sub hl [0] rfl)
                    · refine lv_if_eq (tgt := 199) hx hb dX10_advance_153 (by decide) (fun _ => ?_) (fun c9 => absurd (by decide) c9)
                      exact RV hC hP hD hS [0, 1] ((-3), jA, jC) rfl rfl (by decide) (by dsimp only; omega) dX10_advance_199
              exact keyC kt jA _ _ _ (by omega) (by omega) hP hD hS (lv_sub hl [0] rfl)
            · refine lv_if_eq (tgt := 169) hx hb dX10_advance_122 (by decide) (fun _ => ?_) (fun c9 => absurd (by decide) c9)
              refine lv_aload_n hx hb dX10_advance_169 rfl (lv_at hl 0 rfl) ?_
              refine lv_aload_n hx hb dX10_advance_170 rfl (lv_at hl 0 rfl) ?_
              refine lv_aload_n hx hb dX10_advance_171 rfl (lv_at hl 0 rfl) ?_
              refine gf_X10_34 hC rfl hK hP 0 rfl rfl dX10_advance_172 ?_
              refine pV hC hK hl hP hD (t_byteAt l G h0 (nI jA) tby kt tln tsp tkd (nI jA) (nI jA) tf9 fby) si_X10_78 [0, 1] rfl rfl (by decide) rfl rfl rfl rfl rfl (Nat.le_of_ble_eq_true rfl) ⟨Nat.le_of_ble_eq_true rfl, Nat.le_of_ble_eq_true rfl⟩ ⟨by first | exact Nat.le_of_ble_eq_true rfl | exact Nat.zero_le _, by first | exact Nat.le_of_ble_eq_true rfl | exact Nat.zero_le _⟩ dX10_advance_175 (fun r2628 hr2628 => ?_)
              refine pf_X10_31 hC rfl hK hP hD hS 0 (ws' := [(h0, .inr (10, [.ref tby, .int (nI kt), .ref tln, .ref tsp, .int r2628, .int (nI jA), .int (nI jA), .int tf9])), (tby, .inl (G.2.1, 240, .inl fby))]) rfl (Nat.le_of_ble_eq_true rfl) rfl rfl rfl dX10_advance_178 (fun H locs hP hD hS => ?_)
              refine lv_aload_n hx hb dX10_advance_181 rfl (lv_at hl 0 rfl) ?_
              refine gf_X10_31 hC rfl hK hP 0 rfl rfl dX10_advance_182 ?_
              refine lv_iconst (v := (-1)) hx hb dX10_advance_185 (by decide) ?_
              refine lv_icmp_eq (tgt := 199) hx hb dX10_advance_186 (by decide) (fun c_186_2629 => ?_) (fun c_186_2629 => ?_)
              · exact RV hC hP hD hS [0, 1] (r2628, jA, jA) rfl rfl (by decide) (by dsimp only; omega) dX10_advance_199
              · refine lv_aload_n hx hb dX10_advance_189 rfl (lv_at hl 0 rfl) ?_
                refine lv_dup hx hb dX10_advance_190 rfl ?_
                refine gf_X10_37 hC rfl hK hP 0 rfl rfl dX10_advance_191 ?_
                refine lv_iconst (v := 1) hx hb dX10_advance_194 (by decide) ?_
                refine lv_iadd hx hb dX10_advance_195 ?_
                refine eqi (x1 := nI (jA + 1)) (nI_1 _) ?_
                refine pf_X10_37 hC rfl hK hP hD hS 0 (ws' := [(h0, .inr (10, [.ref tby, .int (nI kt), .ref tln, .ref tsp, .int r2628, .int (nI jA), .int (nI (jA + 1)), .int tf9])), (tby, .inl (G.2.1, 240, .inl fby))]) rfl (Nat.le_of_ble_eq_true rfl) rfl rfl rfl dX10_advance_196 (fun H locs hP hD hS => ?_)
                exact RV hC hP hD hS [0, 1] (r2628, jA, (jA + 1)) rfl rfl (by decide) (by dsimp only; omega) dX10_advance_199
        · refine lv_aload_n hx hb dX10_advance_32 rfl (lv_at hl 0 rfl) ?_
          refine lv_dup hx hb dX10_advance_33 rfl ?_
          refine gf_X10_34 hC rfl hK hP 0 rfl rfl dX10_advance_34 ?_
          refine lv_iconst (v := 1) hx hb dX10_advance_37 (by decide) ?_
          refine lv_iadd hx hb dX10_advance_38 ?_
          refine eqi (x1 := nI (jA + 1)) (nI_1 _) ?_
          refine pf_X10_34 hC rfl hK hP hD hS 0 (ws' := [(h0, .inr (10, [.ref tby, .int (nI kt), .ref tln, .ref tsp, .int tkd, .int (nI (jA + 1)), .int (nI kn), .int tf9])), (tby, .inl (G.2.1, 240, .inl fby))]) rfl (Nat.le_of_ble_eq_true rfl) rfl rfl rfl dX10_advance_39 (fun H locs hP hD hS => ?_)
          refine lv_goto (tgt := 8) hx hb dX10_advance_42 (by decide) ?_
          have hnA9 := nge_nat (R := kt) (k := jA) (by omega) (by omega) c_16_2595
          exact ihA (jA + 1) _ _ _ (by omega) (by omega) hP hD hS (lv_sub hl [0] rfl)
  exact keyA kt kn _ _ _ (by omega) (by omega) hP hD hS (lv_sub hl [0] rfl)
set_option maxHeartbeats 4000000 in
set_option maxRecDepth 100000 in
theorem t_isName (l : Launch) (G : GG) (K : OO) (i9 : Nat) (h0 : Nat) (tby : Nat) (kt : Nat) (tln : Nat) (tsp : Nat) (tkd : Int32) (ks : Nat) (kn : Nat) (tf9 : Int32) (fby : Nat → Int32) (hkt : kt ≤ 240) (hks : ks ≤ 240) (hkn : kn ≤ 240) (hi9 : i9 < 16) : MPo l G K yX10_isName cX10_isName 3 (some .boolean) 6 [.ref h0, .ref (K.1 i9)] [(h0, .inr (10, [.ref tby, .int (nI kt), .ref tln, .ref tsp, .int tkd, .int (nI ks), .int (nI kn), .int tf9])), (tby, .inl (G.2.1, 240, .inl fby))] (fun r : Int32 => r = 1 ∨ r = 0) := by
  refine MPo.start (by decide +kernel) (Nat.le_of_ble_eq_true rfl) ?_
  intro p e s m below meth c ls hC hK hP hD hl hO hS
  have hl : lv_has ls 3 [(0, .ref h0), (1, .ref (K.1 i9))] := hl
  obtain ⟨hx, hb, hr, hml, hB, hown, hlocks, hnm⟩ := id hC
  have hs6 := slen6 i9 hi9
  refine lv_aload_n hx hb dX10_isName_0 rfl (lv_at hl 0 rfl) ?_
  refine gf_X10_31 hC rfl hK hP 0 rfl rfl dX10_isName_1 ?_
  refine lv_bipush (v := (-2)) hx hb dX10_isName_4 (by decide) ?_
  refine lv_icmp_ne (tgt := 25) hx hb dX10_isName_6 (by decide) (fun c_6_2630 => ?_) (fun c_6_2630 => ?_)
  · refine lv_iconst (v := 0) hx hb dX10_isName_25 (by decide) ?_
    exact RP (v := 0) hC (Or.inr (rfl)) (by decide +kernel) dX10_isName_26
  · refine lv_aload_n hx hb dX10_isName_9 rfl (lv_at hl 0 rfl) ?_
    refine gf_X10_37 hC rfl hK hP 0 rfl rfl dX10_isName_10 ?_
    refine lv_aload_n hx hb dX10_isName_13 rfl (lv_at hl 0 rfl) ?_
    refine gf_X10_34 hC rfl hK hP 0 rfl rfl dX10_isName_14 ?_
    refine lv_isub hx hb dX10_isName_17 ?_
    refine lv_aload_n hx hb dX10_isName_18 rfl (lv_at hl 1 rfl) ?_
    refine pTo (i := i9) (hi9) hO hS hC hK hl (j_len l G K i9 ((hi9))) si_X10_93 rfl rfl (Nat.le_of_ble_eq_true rfl) ⟨Nat.le_of_ble_eq_true rfl, Nat.le_of_ble_eq_true rfl⟩ ⟨by first | exact Nat.le_of_ble_eq_true rfl | exact Nat.zero_le _, by first | exact Nat.le_of_ble_eq_true rfl | exact Nat.zero_le _⟩ dX10_isName_19 (fun r2631 hr2631 => ?_)
    obtain rfl := hr2631
    refine lv_icmp_eq (tgt := 27) hx hb dX10_isName_22 (by decide) (fun c_22_2633 => ?_) (fun c_22_2633 => ?_)
    · refine lv_iconst (v := 0) hx hb dX10_isName_27 (by decide) ?_
      refine lv_istore_n (lv' := [(2, .int 0), (0, .ref h0), (1, .ref (K.1 i9))]) hx hb dX10_isName_28 rfl hl (by decide) rfl (fun ls hl => ?_)
      have keyP : ∀ (nP kP : Nat) (ls : Array Slot), kP + nP = (SLEN.getD i9 0) → lv_has ls 3 [(2, .int (nI kP)), (0, .ref h0), (1, .ref (K.1 i9))] → W p l e (RM 6 0 0) s m ([.ref h0, .ref (K.1 i9)] : List Value).toArray below meth c s.heap [] 0 0 (MQ below (QP (fun r : Int32 => r = 1 ∨ r = 0)) ([.ref h0, .ref (K.1 i9)] : List Value).toArray s 0 0 (fun _ => False)) (F0 m 29 ls []) := by
        intro nP
        induction nP with
        | zero =>
          intro kP ls hkP hl
          obtain rfl : (SLEN.getD i9 0) = kP := by omega
          have hl : lv_has ls 3 [(2, .int (nI (SLEN.getD i9 0))), (0, .ref h0), (1, .ref (K.1 i9))] := hl
          refine lv_iload_n hx hb dX10_isName_29 rfl (lv_at hl 0 rfl) ?_
          refine lv_aload_n hx hb dX10_isName_30 rfl (lv_at hl 2 rfl) ?_
          refine pTo (i := i9) (hi9) hO hS hC hK hl (j_len l G K i9 ((hi9))) si_X10_93 rfl rfl (Nat.le_of_ble_eq_true rfl) ⟨Nat.le_of_ble_eq_true rfl, Nat.le_of_ble_eq_true rfl⟩ ⟨by first | exact Nat.le_of_ble_eq_true rfl | exact Nat.zero_le _, by first | exact Nat.le_of_ble_eq_true rfl | exact Nat.zero_le _⟩ dX10_isName_31 (fun r2634 hr2634 => ?_)
          obtain rfl := hr2634
          refine lv_icmp_ge (tgt := 63) hx hb dX10_isName_34 (by decide) (fun _ => ?_) (fun c9 => absurd (Int32.le_refl _) c9)
          refine lv_iconst (v := 1) hx hb dX10_isName_63 (by decide) ?_
          exact RP (v := 1) hC (Or.inl (rfl)) (by decide +kernel) dX10_isName_64
        | succ nP ihP =>
          intro kP ls hkP hl
          refine lv_iload_n hx hb dX10_isName_29 rfl (lv_at hl 0 rfl) ?_
          refine lv_aload_n hx hb dX10_isName_30 rfl (lv_at hl 2 rfl) ?_
          refine pTo (i := i9) (hi9) hO hS hC hK hl (j_len l G K i9 ((hi9))) si_X10_93 rfl rfl (Nat.le_of_ble_eq_true rfl) ⟨Nat.le_of_ble_eq_true rfl, Nat.le_of_ble_eq_true rfl⟩ ⟨by first | exact Nat.le_of_ble_eq_true rfl | exact Nat.zero_le _, by first | exact Nat.le_of_ble_eq_true rfl | exact Nat.zero_le _⟩ dX10_isName_31 (fun r2636 hr2636 => ?_)
          obtain rfl := hr2636
          refine lv_icmp_ge (tgt := 63) hx hb dX10_isName_34 (by decide) (fun c9 => absurd c9 (nI_ge (a := kP) (b := (SLEN.getD i9 0)) (by omega) (by omega))) (fun _ => ?_)
          refine lv_aload_n hx hb dX10_isName_37 rfl (lv_at hl 1 rfl) ?_
          refine lv_aload_n hx hb dX10_isName_38 rfl (lv_at hl 1 rfl) ?_
          refine gf_X10_34 hC rfl hK hP 0 rfl rfl dX10_isName_39 ?_
          refine lv_iload_n hx hb dX10_isName_42 rfl (lv_at hl 0 rfl) ?_
          refine lv_iadd hx hb dX10_isName_43 ?_
          refine pV hC hK hl hP hD (t_byteAt l G h0 ((nI ks) + (nI kP)) tby kt tln tsp tkd (nI ks) (nI kn) tf9 fby) si_X10_78 [0, 1] rfl rfl (by decide) rfl rfl rfl rfl rfl (Nat.le_of_ble_eq_true rfl) ⟨Nat.le_of_ble_eq_true rfl, Nat.le_of_ble_eq_true rfl⟩ ⟨by first | exact Nat.le_of_ble_eq_true rfl | exact Nat.zero_le _, by first | exact Nat.le_of_ble_eq_true rfl | exact Nat.zero_le _⟩ dX10_isName_44 (fun r2638 hr2638 => ?_)
          refine lv_aload_n hx hb dX10_isName_47 rfl (lv_at hl 2 rfl) ?_
          refine lv_iload_n hx hb dX10_isName_48 rfl (lv_at hl 0 rfl) ?_
          refine pTo (i := i9) (hi9) hO hS hC hK hl (j_chr l G K i9 kP ((hi9)) (by omega)) si_X10_98 rfl rfl (Nat.le_of_ble_eq_true rfl) ⟨Nat.le_of_ble_eq_true rfl, Nat.le_of_ble_eq_true rfl⟩ ⟨by first | exact Nat.le_of_ble_eq_true rfl | exact Nat.zero_le _, by first | exact Nat.le_of_ble_eq_true rfl | exact Nat.zero_le _⟩ dX10_isName_49 (fun r2639 hr2639 => ?_)
          obtain rfl := hr2639
          refine lv_icmp_eq (tgt := 57) hx hb dX10_isName_52 (by decide) (fun c_52_2641 => ?_) (fun c_52_2641 => ?_)
          · refine lv_iinc (v := nI (kP + 1)) (lv' := [(2, .int (nI (kP + 1))), (0, .ref h0), (1, .ref (K.1 i9))]) hx hb dX10_isName_57 hl (k := 0) rfl (nI_1 _) (by decide) rfl (fun ls hl => ?_)
            refine lv_goto (tgt := 29) hx hb dX10_isName_60 (by decide) ?_
            exact ihP (kP + 1) _ (by omega) (lv_sub hl [0, 1, 2] rfl)
          · refine lv_iconst (v := 0) hx hb dX10_isName_55 (by decide) ?_
            exact RP (v := 0) hC (Or.inr (rfl)) (by decide +kernel) dX10_isName_56
      exact keyP (SLEN.getD i9 0) 0 _ (by omega) (lv_sub hl [0, 1, 2] rfl)
    · refine lv_iconst (v := 0) hx hb dX10_isName_25 (by decide) ?_
      exact RP (v := 0) hC (Or.inr (rfl)) (by decide +kernel) dX10_isName_26
set_option maxHeartbeats 4000000 in
set_option maxRecDepth 100000 in
theorem t_takesName (l : Launch) (G : GG) (K : OO) (i9 : Nat) (h0 : Nat) (tby : Nat) (kt : Nat) (tln : Nat) (tsp : Nat) (tkd : Int32) (ks : Nat) (kn : Nat) (tf9 : Int32) (fby : Nat → Int32) (hkt : kt ≤ 240) (hks : ks ≤ 240) (hkn : kn ≤ 240) (hi9 : i9 < 16) : MIo l G K yX10_takesName cX10_takesName 2 (some .boolean) 7 0 0 [.ref h0, .ref (K.1 i9)] [(h0, .inr (10, [.ref tby, .int (nI kt), .ref tln, .ref tsp, .int tkd, .int (nI ks), .int (nI kn), .int tf9])), (tby, .inl (G.2.1, 240, .inl fby))] (fun (r : Int32) (u : Int32 × Nat × Nat × Int32) => (r = 1 ∨ r = 0) ∧ (u.2.1 ≤ 240 ∧ u.2.2.1 ≤ 240)) (fun u : Int32 × Nat × Nat × Int32 => [(h0, .inr (10, [.ref tby, .int (nI kt), .ref tln, .ref tsp, .int u.1, .int (nI u.2.1), .int (nI u.2.2.1), .int u.2.2.2])), (tby, .inl (G.2.1, 240, .inl fby))]) := by
  refine MIo.start (by decide +kernel) (Nat.le_of_ble_eq_true rfl) ?_
  intro p e s m below meth c A ls hC hK hP hD hS hA hl hO
  have hl : lv_has ls 2 [(0, .ref h0), (1, .ref (K.1 i9))] := hl
  obtain ⟨hx, hb, hr, hml, hB, hown, hlocks, hnm⟩ := id hC
  refine lv_aload_n hx hb dX10_takesName_0 rfl (lv_at hl 0 rfl) ?_
  refine lv_aload_n hx hb dX10_takesName_1 rfl (lv_at hl 1 rfl) ?_
  refine pVo hO hS hC hK hl hP hD (t_isName l G K i9 h0 tby kt tln tsp tkd ks kn tf9 fby (by omega) (by omega) (by omega) ((hi9))) si_X10_102 [0, 1] rfl rfl (by decide) rfl rfl rfl rfl rfl (Nat.le_of_ble_eq_true rfl) ⟨Nat.le_of_ble_eq_true rfl, Nat.le_of_ble_eq_true rfl⟩ ⟨by first | exact Nat.le_of_ble_eq_true rfl | exact Nat.zero_le _, by first | exact Nat.le_of_ble_eq_true rfl | exact Nat.zero_le _⟩ dX10_takesName_2 (fun r2642 hr2642 => ?_)
  rcases hr2642 with rfl | rfl
  · refine lv_if_ne (tgt := 13) hx hb dX10_takesName_5 (by decide) (fun _ => ?_) (fun c9 => absurd c9 (by decide))
    refine lv_aload_n hx hb dX10_takesName_13 rfl (lv_at hl 0 rfl) ?_
    refine vV (wr := []) hC hK hl hP hD hS hA (t_advance l G h0 tby kt tln tsp tkd ks kn tf9 fby (by omega) (by omega) (by omega)) si_X10_47 [0, 1] [] rfl rfl (by decide) rfl (by decide) (by decide) rfl rfl rfl rfl rfl (Nat.le_of_ble_eq_true rfl) ⟨Nat.le_of_ble_eq_true rfl, Nat.le_of_ble_eq_true rfl⟩ ⟨Nat.le_of_ble_eq_true rfl, Nat.le_of_ble_eq_true rfl⟩ dX10_takesName_14 (fun u2645 H locs hr2644 hP hD hS => ?_)
    obtain ⟨kd12646, ks12647, kn12648⟩ := u2645
    try dsimp only at hr2644
    have hP : va_P G.1 vwCl [(h0, .inr (10, [.ref tby, .int (nI kt), .ref tln, .ref tsp, .int kd12646, .int (nI ks12647), .int (nI kn12648), .int tf9])), (tby, .inl (G.2.1, 240, .inl fby))] H := hP
    have hD : va_D A [(h0, .inr (10, [.ref tby, .int (nI kt), .ref tln, .ref tsp, .int kd12646, .int (nI ks12647), .int (nI kn12648), .int tf9])), (tby, .inl (G.2.1, 240, .inl fby))] := hD
    have w2649 := hr2644
    refine lv_iconst (v := 1) hx hb dX10_takesName_17 (by decide) ?_
    exact RI (v := 1) hC hP hD hS [0, 1] (kd12646, ks12647, kn12648, tf9) rfl rfl (by decide) (⟨Or.inl (rfl), by dsimp only; omega⟩) (by decide +kernel) dX10_takesName_18
  · refine lv_if_ne (tgt := 13) hx hb dX10_takesName_5 (by decide) (fun c9 => absurd (by decide) c9) (fun _ => ?_)
    refine lv_aload_n hx hb dX10_takesName_8 rfl (lv_at hl 0 rfl) ?_
    refine iV (wr := [(tby, .inl (G.2.1, 240, .inl fby))]) hC hK hl hP hD hS hA (t_refuse l G h0 tby kt tln tsp tkd ks kn tf9) si_X10_106 [0] [1] rfl rfl (by decide) rfl (by decide) (by decide) rfl rfl rfl rfl rfl (Nat.le_of_ble_eq_true rfl) ⟨Nat.le_of_ble_eq_true rfl, Nat.le_of_ble_eq_true rfl⟩ ⟨Nat.le_of_ble_eq_true rfl, Nat.le_of_ble_eq_true rfl⟩ dX10_takesName_9 (fun r2650 u2651 H locs hr2650 hP hD hS => ?_)
    obtain ⟨tf12652, rfl⟩ : ∃ z9, z9 = u2651 := ⟨_, rfl⟩
    try dsimp only at hr2650
    have hP : va_P G.1 vwCl [(tby, .inl (G.2.1, 240, .inl fby)), (h0, .inr (10, [.ref tby, .int (nI kt), .ref tln, .ref tsp, .int tkd, .int (nI ks), .int (nI kn), .int tf12652]))] H := hP
    have hD : va_D A [(tby, .inl (G.2.1, 240, .inl fby)), (h0, .inr (10, [.ref tby, .int (nI kt), .ref tln, .ref tsp, .int tkd, .int (nI ks), .int (nI kn), .int tf12652]))] := hD
    obtain rfl := hr2650
    exact RI (v := 0) hC hP hD hS [1, 0] (tkd, ks, kn, tf12652) rfl rfl (by decide) (⟨Or.inr (rfl), by dsimp only; omega⟩) (by decide +kernel) dX10_takesName_12
set_option maxHeartbeats 4000000 in
set_option maxRecDepth 100000 in
theorem t_takesByte (l : Launch) (G : GG) (h0 : Nat) (b9 : Int32) (tby : Nat) (kt : Nat) (tln : Nat) (tsp : Nat) (tkd : Int32) (ks : Nat) (kn : Nat) (tf9 : Int32) (fby : Nat → Int32) (hkt : kt ≤ 240) (hks : ks ≤ 240) (hkn : kn ≤ 240) : MI l G yX10_takesByte cX10_takesByte 2 (some .boolean) 4 0 0 [.ref h0, .int b9] [(h0, .inr (10, [.ref tby, .int (nI kt), .ref tln, .ref tsp, .int tkd, .int (nI ks), .int (nI kn), .int tf9])), (tby, .inl (G.2.1, 240, .inl fby))] (fun (r : Int32) (u : Int32 × Nat × Nat × Int32) => (r = 1 ∨ r = 0) ∧ (u.2.1 ≤ 240 ∧ u.2.2.1 ≤ 240)) (fun u : Int32 × Nat × Nat × Int32 => [(h0, .inr (10, [.ref tby, .int (nI kt), .ref tln, .ref tsp, .int u.1, .int (nI u.2.1), .int (nI u.2.2.1), .int u.2.2.2])), (tby, .inl (G.2.1, 240, .inl fby))]) := by
  refine MI.start (by decide +kernel) (Nat.le_of_ble_eq_true rfl) ?_
  intro p e s m below meth c A ls hC hK hP hD hS hA hl
  have hl : lv_has ls 2 [(0, .ref h0), (1, .int b9)] := hl
  obtain ⟨hx, hb, hr, hml, hB, hown, hlocks, hnm⟩ := id hC
  refine lv_aload_n hx hb dX10_takesByte_0 rfl (lv_at hl 0 rfl) ?_
  refine gf_X10_31 hC rfl hK hP 0 rfl rfl dX10_takesByte_1 ?_
  refine lv_iload_n hx hb dX10_takesByte_4 rfl (lv_at hl 1 rfl) ?_
  refine lv_icmp_eq (tgt := 13) hx hb dX10_takesByte_5 (by decide) (fun c_5_2654 => ?_) (fun c_5_2654 => ?_)
  · refine lv_aload_n hx hb dX10_takesByte_13 rfl (lv_at hl 0 rfl) ?_
    refine vV (wr := []) hC hK hl hP hD hS hA (t_advance l G h0 tby kt tln tsp tkd ks kn tf9 fby (by omega) (by omega) (by omega)) si_X10_47 [0, 1] [] rfl rfl (by decide) rfl (by decide) (by decide) rfl rfl rfl rfl rfl (Nat.le_of_ble_eq_true rfl) ⟨Nat.le_of_ble_eq_true rfl, Nat.le_of_ble_eq_true rfl⟩ ⟨Nat.le_of_ble_eq_true rfl, Nat.le_of_ble_eq_true rfl⟩ dX10_takesByte_14 (fun u2656 H locs hr2655 hP hD hS => ?_)
    obtain ⟨kd12657, ks12658, kn12659⟩ := u2656
    try dsimp only at hr2655
    have hP : va_P G.1 vwCl [(h0, .inr (10, [.ref tby, .int (nI kt), .ref tln, .ref tsp, .int kd12657, .int (nI ks12658), .int (nI kn12659), .int tf9])), (tby, .inl (G.2.1, 240, .inl fby))] H := hP
    have hD : va_D A [(h0, .inr (10, [.ref tby, .int (nI kt), .ref tln, .ref tsp, .int kd12657, .int (nI ks12658), .int (nI kn12659), .int tf9])), (tby, .inl (G.2.1, 240, .inl fby))] := hD
    have w2660 := hr2655
    refine lv_iconst (v := 1) hx hb dX10_takesByte_17 (by decide) ?_
    exact RI (v := 1) hC hP hD hS [0, 1] (kd12657, ks12658, kn12659, tf9) rfl rfl (by decide) (⟨Or.inl (rfl), by dsimp only; omega⟩) (by decide +kernel) dX10_takesByte_18
  · refine lv_aload_n hx hb dX10_takesByte_8 rfl (lv_at hl 0 rfl) ?_
    refine iV (wr := [(tby, .inl (G.2.1, 240, .inl fby))]) hC hK hl hP hD hS hA (t_refuse l G h0 tby kt tln tsp tkd ks kn tf9) si_X10_106 [0] [1] rfl rfl (by decide) rfl (by decide) (by decide) rfl rfl rfl rfl rfl (Nat.le_of_ble_eq_true rfl) ⟨Nat.le_of_ble_eq_true rfl, Nat.le_of_ble_eq_true rfl⟩ ⟨Nat.le_of_ble_eq_true rfl, Nat.le_of_ble_eq_true rfl⟩ dX10_takesByte_9 (fun r2661 u2662 H locs hr2661 hP hD hS => ?_)
    obtain ⟨tf12663, rfl⟩ : ∃ z9, z9 = u2662 := ⟨_, rfl⟩
    try dsimp only at hr2661
    have hP : va_P G.1 vwCl [(tby, .inl (G.2.1, 240, .inl fby)), (h0, .inr (10, [.ref tby, .int (nI kt), .ref tln, .ref tsp, .int tkd, .int (nI ks), .int (nI kn), .int tf12663]))] H := hP
    have hD : va_D A [(tby, .inl (G.2.1, 240, .inl fby)), (h0, .inr (10, [.ref tby, .int (nI kt), .ref tln, .ref tsp, .int tkd, .int (nI ks), .int (nI kn), .int tf12663]))] := hD
    obtain rfl := hr2661
    exact RI (v := 0) hC hP hD hS [1, 0] (tkd, ks, kn, tf12663) rfl rfl (by decide) (⟨Or.inr (rfl), by dsimp only; omega⟩) (by decide +kernel) dX10_takesByte_12
set_option maxHeartbeats 4000000 in
set_option maxRecDepth 100000 in
theorem t_numberHere (l : Launch) (G : GG) (h0 : Nat) (tby : Nat) (kt : Nat) (tln : Nat) (tsp : Nat) (tkd : Int32) (ks : Nat) (kn : Nat) (tf9 : Int32) (fby : Nat → Int32) (hkt : kt ≤ 240) (hks : ks ≤ 240) (hkn : kn ≤ 240) : MP l G yX10_numberHere cX10_numberHere 3 (some .int) 3 [.ref h0] [(h0, .inr (10, [.ref tby, .int (nI kt), .ref tln, .ref tsp, .int tkd, .int (nI ks), .int (nI kn), .int tf9])), (tby, .inl (G.2.1, 240, .inl fby))] (fun r : Int32 => True) := by
  refine MP.start (by decide +kernel) (Nat.le_of_ble_eq_true rfl) ?_
  intro p e s m below meth c ls hC hK hP hD hl
  have hl : lv_has ls 3 [(0, .ref h0)] := hl
  obtain ⟨hx, hb, hr, hml, hB, hown, hlocks, hnm⟩ := id hC
  refine lv_aload_n hx hb dX10_numberHere_0 rfl (lv_at hl 0 rfl) ?_
  refine gf_X10_31 hC rfl hK hP 0 rfl rfl dX10_numberHere_1 ?_
  refine lv_bipush (v := (-3)) hx hb dX10_numberHere_4 (by decide) ?_
  refine lv_icmp_ne (tgt := 22) hx hb dX10_numberHere_6 (by decide) (fun c_6_2665 => ?_) (fun c_6_2665 => ?_)
  · refine lv_iconst (v := (-1)) hx hb dX10_numberHere_22 (by decide) ?_
    exact RP (v := (-1)) hC (trivial) rfl dX10_numberHere_23
  · refine lv_aload_n hx hb dX10_numberHere_9 rfl (lv_at hl 0 rfl) ?_
    refine gf_X10_37 hC rfl hK hP 0 rfl rfl dX10_numberHere_10 ?_
    refine lv_aload_n hx hb dX10_numberHere_13 rfl (lv_at hl 0 rfl) ?_
    refine gf_X10_34 hC rfl hK hP 0 rfl rfl dX10_numberHere_14 ?_
    refine lv_isub hx hb dX10_numberHere_17 ?_
    refine lv_iconst (v := 3) hx hb dX10_numberHere_18 (by decide) ?_
    refine lv_icmp_le (tgt := 24) hx hb dX10_numberHere_19 (by decide) (fun c_19_2666 => ?_) (fun c_19_2666 => ?_)
    · refine lv_iconst (v := 0) hx hb dX10_numberHere_24 (by decide) ?_
      refine lv_istore_n (lv' := [(1, .int 0), (0, .ref h0)]) hx hb dX10_numberHere_25 rfl hl (by decide) rfl (fun ls hl => ?_)
      refine lv_aload_n hx hb dX10_numberHere_26 rfl (lv_at hl 1 rfl) ?_
      refine gf_X10_34 hC rfl hK hP 0 rfl rfl dX10_numberHere_27 ?_
      refine lv_istore_n (lv' := [(2, .int (nI ks)), (1, .int 0), (0, .ref h0)]) hx hb dX10_numberHere_30 rfl hl (by decide) rfl (fun ls hl => ?_)
      have keyP : ∀ (nP kP : Nat) (nn : Int32) (ls : Array Slot), kP < 2 ^ 31 → (nI kn).toInt ≤ ((kP + nP : Nat) : Int) → lv_has ls 3 [(2, .int (nI kP)), (1, .int nn), (0, .ref h0)] → W p l e (RM 3 0 0) s m ([.ref h0] : List Value).toArray below meth c s.heap [] 0 0 (MQ below (QP (fun r : Int32 => True)) ([.ref h0] : List Value).toArray s 0 0 (fun _ => False)) (F0 m 31 ls []) := by
        intro nP
        induction nP with
        | zero =>
          intro kP nn ls hjP hkP hl
          have hzP : nI kn ≤ nI kP := bz hjP (by omega)
          refine lv_iload_n hx hb dX10_numberHere_31 rfl (lv_at hl 0 rfl) ?_
          refine lv_aload_n hx hb dX10_numberHere_32 rfl (lv_at hl 2 rfl) ?_
          refine gf_X10_37 hC rfl hK hP 0 rfl rfl dX10_numberHere_33 ?_
          refine lv_icmp_ge (tgt := 59) hx hb dX10_numberHere_36 (by decide) (fun _ => ?_) (fun c9 => absurd (hzP) c9)
          refine lv_iload_n hx hb dX10_numberHere_59 rfl (lv_at hl 1 rfl) ?_
          exact RP (v := nn) hC (trivial) rfl dX10_numberHere_60
        | succ nP ihP =>
          intro kP nn ls hjP hkP hl
          refine lv_iload_n hx hb dX10_numberHere_31 rfl (lv_at hl 0 rfl) ?_
          refine lv_aload_n hx hb dX10_numberHere_32 rfl (lv_at hl 2 rfl) ?_
          refine gf_X10_37 hC rfl hK hP 0 rfl rfl dX10_numberHere_33 ?_
          refine lv_icmp_ge (tgt := 59) hx hb dX10_numberHere_36 (by decide) (fun c_36_2667 => ?_) (fun c_36_2667 => ?_)
          · refine lv_iload_n hx hb dX10_numberHere_59 rfl (lv_at hl 1 rfl) ?_
            exact RP (v := nn) hC (trivial) rfl dX10_numberHere_60
          · refine lv_iload_n hx hb dX10_numberHere_39 rfl (lv_at hl 1 rfl) ?_
            refine lv_bipush (v := 10) hx hb dX10_numberHere_40 (by decide) ?_
            refine lv_imul hx hb dX10_numberHere_42 ?_
            refine lv_aload_n hx hb dX10_numberHere_43 rfl (lv_at hl 2 rfl) ?_
            refine lv_iload_n hx hb dX10_numberHere_44 rfl (lv_at hl 0 rfl) ?_
            refine pV hC hK hl hP hD (t_byteAt l G h0 (nI kP) tby kt tln tsp tkd (nI ks) (nI kn) tf9 fby) si_X10_78 [0, 1] rfl rfl (by decide) rfl rfl rfl rfl rfl (Nat.le_of_ble_eq_true rfl) ⟨Nat.le_of_ble_eq_true rfl, Nat.le_of_ble_eq_true rfl⟩ ⟨by first | exact Nat.le_of_ble_eq_true rfl | exact Nat.zero_le _, by first | exact Nat.le_of_ble_eq_true rfl | exact Nat.zero_le _⟩ dX10_numberHere_45 (fun r2668 hr2668 => ?_)
            refine lv_iadd hx hb dX10_numberHere_48 ?_
            refine lv_bipush (v := 48) hx hb dX10_numberHere_49 (by decide) ?_
            refine lv_isub hx hb dX10_numberHere_51 ?_
            refine lv_istore_n (lv' := [(1, .int (((nn * 10) + r2668) - 48)), (2, .int (nI kP)), (0, .ref h0)]) hx hb dX10_numberHere_52 rfl hl (by decide) rfl (fun ls hl => ?_)
            refine lv_iinc (v := nI (kP + 1)) (lv' := [(2, .int (nI (kP + 1))), (1, .int (((nn * 10) + r2668) - 48)), (0, .ref h0)]) hx hb dX10_numberHere_53 hl (k := 1) rfl (nI_1 _) (by decide) rfl (fun ls hl => ?_)
            refine lv_goto (tgt := 31) hx hb dX10_numberHere_56 (by decide) ?_
            exact ihP (kP + 1) (((nn * 10) + r2668) - 48) _ (bs hjP c_36_2667) (by omega) (lv_sub hl [0, 1, 2] rfl)
      exact keyP (nI kn).toInt.toNat ks 0 _ (by first | decide | omega) (by omega) (lv_sub hl [0, 1, 2] rfl)
    · refine lv_iconst (v := (-1)) hx hb dX10_numberHere_22 (by decide) ?_
      exact RP (v := (-1)) hC (trivial) rfl dX10_numberHere_23
set_option maxHeartbeats 4000000 in
set_option maxRecDepth 100000 in
theorem t_takesNumber (l : Launch) (G : GG) (h0 : Nat) (li : Int32) (co : Int32) (mo : Int32) (tby : Nat) (kt : Nat) (tln : Nat) (tsp : Nat) (tkd : Int32) (ks : Nat) (kn : Nat) (tf9 : Int32) (fby : Nat → Int32) (tlnc : Nat) (kln : Nat) (ftln : Nat → Int32) (hkt : kt ≤ 240) (hks : ks ≤ 240) (hkn : kn ≤ 240) (hkln : kln ≤ 9) : MI l G yX10_takesNumber cX10_takesNumber 5 (some .boolean) 4 0 0 [.ref h0, .int li, .int co, .int mo] [(h0, .inr (10, [.ref tby, .int (nI kt), .ref tln, .ref tsp, .int tkd, .int (nI ks), .int (nI kn), .int tf9])), (tby, .inl (G.2.1, 240, .inl fby)), (tln, .inr (8, [.int 9, .int 7, .ref tlnc, .int (nI kln)])), (tlnc, .inl (G.2.1, 63, .inl ftln))] (fun (r : Int32) (u : Int32 × Nat × Nat × Int32 × (Nat → Int32)) => (r = 1 ∨ r = 0) ∧ (u.2.1 ≤ 240 ∧ u.2.2.1 ≤ 240)) (fun u : Int32 × Nat × Nat × Int32 × (Nat → Int32) => [(h0, .inr (10, [.ref tby, .int (nI kt), .ref tln, .ref tsp, .int u.1, .int (nI u.2.1), .int (nI u.2.2.1), .int u.2.2.2.1])), (tby, .inl (G.2.1, 240, .inl fby)), (tln, .inr (8, [.int 9, .int 7, .ref tlnc, .int (nI kln)])), (tlnc, .inl (G.2.1, 63, .inl u.2.2.2.2))]) := by
  refine MI.start (by decide +kernel) (Nat.le_of_ble_eq_true rfl) ?_
  intro p e s m below meth c A ls hC hK hP hD hS hA hl
  have hl : lv_has ls 5 [(0, .ref h0), (1, .int li), (2, .int co), (3, .int mo)] := hl
  obtain ⟨hx, hb, hr, hml, hB, hown, hlocks, hnm⟩ := id hC
  refine lv_aload_n hx hb dX10_takesNumber_0 rfl (lv_at hl 0 rfl) ?_
  refine pV hC hK hl hP hD (t_numberHere l G h0 tby kt tln tsp tkd ks kn tf9 fby (by omega) (by omega) (by omega)) si_X10_109 [0, 1] rfl rfl (by decide) rfl rfl rfl rfl rfl (Nat.le_of_ble_eq_true rfl) ⟨Nat.le_of_ble_eq_true rfl, Nat.le_of_ble_eq_true rfl⟩ ⟨by first | exact Nat.le_of_ble_eq_true rfl | exact Nat.zero_le _, by first | exact Nat.le_of_ble_eq_true rfl | exact Nat.zero_le _⟩ dX10_takesNumber_1 (fun r2669 hr2669 => ?_)
  refine lv_istore (lv' := [(4, .int r2669), (0, .ref h0), (1, .int li), (2, .int co), (3, .int mo)]) hx hb dX10_takesNumber_4 hl (by decide) rfl (fun ls hl => ?_)
  refine lv_iload hx hb dX10_takesNumber_6 (lv_at hl 0 rfl) ?_
  refine lv_iconst (v := 0) hx hb dX10_takesNumber_8 (by decide) ?_
  refine lv_iload_n hx hb dX10_takesNumber_9 rfl (lv_at hl 4 rfl) ?_
  refine pSN hC hK hl (c_within l G r2669 0 mo) si_X10_89 rfl rfl (Nat.le_of_ble_eq_true rfl) ⟨Nat.le_of_ble_eq_true rfl, Nat.le_of_ble_eq_true rfl⟩ ⟨by first | exact Nat.le_of_ble_eq_true rfl | exact Nat.zero_le _, by first | exact Nat.le_of_ble_eq_true rfl | exact Nat.zero_le _⟩ dX10_takesNumber_10 (fun r2670 hr2670 => ?_)
  rcases hr2670 with ⟨rfl, a2671⟩ | ⟨rfl, a2671⟩
  · refine lv_if_ne (tgt := 21) hx hb dX10_takesNumber_13 (by decide) (fun _ => ?_) (fun c9 => absurd c9 (by decide))
    refine lv_aload_n hx hb dX10_takesNumber_21 rfl (lv_at hl 1 rfl) ?_
    refine gf_X10_20 hC rfl hK hP 0 rfl rfl dX10_takesNumber_22 ?_
    refine lv_iload_n hx hb dX10_takesNumber_25 rfl (lv_at hl 2 rfl) ?_
    refine lv_iload_n hx hb dX10_takesNumber_26 rfl (lv_at hl 3 rfl) ?_
    refine lv_iload hx hb dX10_takesNumber_27 (lv_at hl 0 rfl) ?_
    refine vV (wr := [(h0, .inr (10, [.ref tby, .int (nI kt), .ref tln, .ref tsp, .int tkd, .int (nI ks), .int (nI kn), .int tf9])), (tby, .inl (G.2.1, 240, .inl fby))]) hC hK hl hP hD hS hA (c_T_set l G tln li co r2669 9 7 tlnc kln ftln (by omega) (by omega) (by omega)) si_X10_66 [2, 3] [0, 1] rfl rfl (by decide) rfl (by decide) (by decide) rfl rfl rfl rfl rfl (Nat.le_of_ble_eq_true rfl) ⟨Nat.le_of_ble_eq_true rfl, Nat.le_of_ble_eq_true rfl⟩ ⟨Nat.le_of_ble_eq_true rfl, Nat.le_of_ble_eq_true rfl⟩ dX10_takesNumber_29 (fun u2673 H locs hr2672 hP hD hS => ?_)
    obtain ⟨f12674, rfl⟩ : ∃ z9, z9 = u2673 := ⟨_, rfl⟩
    try dsimp only at hr2672
    have hP : va_P G.1 vwCl [(h0, .inr (10, [.ref tby, .int (nI kt), .ref tln, .ref tsp, .int tkd, .int (nI ks), .int (nI kn), .int tf9])), (tby, .inl (G.2.1, 240, .inl fby)), (tln, .inr (8, [.int 9, .int 7, .ref tlnc, .int (nI kln)])), (tlnc, .inl (G.2.1, 63, .inl f12674))] H := hP
    have hD : va_D A [(h0, .inr (10, [.ref tby, .int (nI kt), .ref tln, .ref tsp, .int tkd, .int (nI ks), .int (nI kn), .int tf9])), (tby, .inl (G.2.1, 240, .inl fby)), (tln, .inr (8, [.int 9, .int 7, .ref tlnc, .int (nI kln)])), (tlnc, .inl (G.2.1, 63, .inl f12674))] := hD
    have w2675 := hr2672
    refine lv_aload_n hx hb dX10_takesNumber_32 rfl (lv_at hl 1 rfl) ?_
    refine vV (wr := [(tln, .inr (8, [.int 9, .int 7, .ref tlnc, .int (nI kln)])), (tlnc, .inl (G.2.1, 63, .inl f12674))]) hC hK hl hP hD hS hA (t_advance l G h0 tby kt tln tsp tkd ks kn tf9 fby (by omega) (by omega) (by omega)) si_X10_47 [0, 1] [2, 3] rfl rfl (by decide) rfl (by decide) (by decide) rfl rfl rfl rfl rfl (Nat.le_of_ble_eq_true rfl) ⟨Nat.le_of_ble_eq_true rfl, Nat.le_of_ble_eq_true rfl⟩ ⟨Nat.le_of_ble_eq_true rfl, Nat.le_of_ble_eq_true rfl⟩ dX10_takesNumber_33 (fun u2677 H locs hr2676 hP hD hS => ?_)
    obtain ⟨kd12678, ks12679, kn12680⟩ := u2677
    try dsimp only at hr2676
    have hP : va_P G.1 vwCl [(tln, .inr (8, [.int 9, .int 7, .ref tlnc, .int (nI kln)])), (tlnc, .inl (G.2.1, 63, .inl f12674)), (h0, .inr (10, [.ref tby, .int (nI kt), .ref tln, .ref tsp, .int kd12678, .int (nI ks12679), .int (nI kn12680), .int tf9])), (tby, .inl (G.2.1, 240, .inl fby))] H := hP
    have hD : va_D A [(tln, .inr (8, [.int 9, .int 7, .ref tlnc, .int (nI kln)])), (tlnc, .inl (G.2.1, 63, .inl f12674)), (h0, .inr (10, [.ref tby, .int (nI kt), .ref tln, .ref tsp, .int kd12678, .int (nI ks12679), .int (nI kn12680), .int tf9])), (tby, .inl (G.2.1, 240, .inl fby))] := hD
    have w2681 := hr2676
    refine lv_iconst (v := 1) hx hb dX10_takesNumber_36 (by decide) ?_
    exact RI (v := 1) hC hP hD hS [2, 3, 0, 1] (kd12678, ks12679, kn12680, tf9, f12674) rfl rfl (by decide) (⟨Or.inl (rfl), by dsimp only; omega⟩) (by decide +kernel) dX10_takesNumber_37
  · refine lv_if_ne (tgt := 21) hx hb dX10_takesNumber_13 (by decide) (fun c9 => absurd (by decide) c9) (fun _ => ?_)
    refine lv_aload_n hx hb dX10_takesNumber_16 rfl (lv_at hl 1 rfl) ?_
    refine iV (wr := [(tby, .inl (G.2.1, 240, .inl fby)), (tln, .inr (8, [.int 9, .int 7, .ref tlnc, .int (nI kln)])), (tlnc, .inl (G.2.1, 63, .inl ftln))]) hC hK hl hP hD hS hA (t_refuse l G h0 tby kt tln tsp tkd ks kn tf9) si_X10_106 [0] [1, 2, 3] rfl rfl (by decide) rfl (by decide) (by decide) rfl rfl rfl rfl rfl (Nat.le_of_ble_eq_true rfl) ⟨Nat.le_of_ble_eq_true rfl, Nat.le_of_ble_eq_true rfl⟩ ⟨Nat.le_of_ble_eq_true rfl, Nat.le_of_ble_eq_true rfl⟩ dX10_takesNumber_17 (fun r2682 u2683 H locs hr2682 hP hD hS => ?_)
    obtain ⟨tf12684, rfl⟩ : ∃ z9, z9 = u2683 := ⟨_, rfl⟩
    try dsimp only at hr2682
    have hP : va_P G.1 vwCl [(tby, .inl (G.2.1, 240, .inl fby)), (tln, .inr (8, [.int 9, .int 7, .ref tlnc, .int (nI kln)])), (tlnc, .inl (G.2.1, 63, .inl ftln)), (h0, .inr (10, [.ref tby, .int (nI kt), .ref tln, .ref tsp, .int tkd, .int (nI ks), .int (nI kn), .int tf12684]))] H := hP
    have hD : va_D A [(tby, .inl (G.2.1, 240, .inl fby)), (tln, .inr (8, [.int 9, .int 7, .ref tlnc, .int (nI kln)])), (tlnc, .inl (G.2.1, 63, .inl ftln)), (h0, .inr (10, [.ref tby, .int (nI kt), .ref tln, .ref tsp, .int tkd, .int (nI ks), .int (nI kn), .int tf12684]))] := hD
    obtain rfl := hr2682
    exact RI (v := 0) hC hP hD hS [3, 0, 1, 2] (tkd, ks, kn, tf12684, ftln) rfl rfl (by decide) (⟨Or.inr (rfl), by dsimp only; omega⟩) (by decide +kernel) dX10_takesNumber_20
set_option maxHeartbeats 4000000 in
set_option maxRecDepth 100000 in
theorem t_addStep (l : Launch) (G : GG) (h0 : Nat) (sp : Int32) (tby : Nat) (kt : Nat) (tln : Nat) (tsp : Nat) (tkd : Int32) (ks : Nat) (kn : Nat) (tf9 : Int32) (tspc : Nat) (ksp : Nat) (ftsp : Nat → Int32) (hksp : ksp ≤ 120) : MV l G yX10_addStep cX10_addStep 2 2 0 0 [.ref h0, .int sp] [(h0, .inr (10, [.ref tby, .int (nI kt), .ref tln, .ref tsp, .int tkd, .int (nI ks), .int (nI kn), .int tf9])), (tsp, .inr (8, [.int 120, .int 1, .ref tspc, .int (nI ksp)])), (tspc, .inl (G.2.1, 120, .inl ftsp))] (fun u : Nat × (Nat → Int32) => u.1 ≤ 120) (fun u : Nat × (Nat → Int32) => [(h0, .inr (10, [.ref tby, .int (nI kt), .ref tln, .ref tsp, .int tkd, .int (nI ks), .int (nI kn), .int tf9])), (tsp, .inr (8, [.int 120, .int 1, .ref tspc, .int (nI u.1)])), (tspc, .inl (G.2.1, 120, .inl u.2))]) := by
  refine MV.start (by decide +kernel) (Nat.le_of_ble_eq_true rfl) ?_
  intro p e s m below meth c A ls hC hK hP hD hS hA hl
  have hl : lv_has ls 2 [(0, .ref h0), (1, .int sp)] := hl
  obtain ⟨hx, hb, hr, hml, hB, hown, hlocks, hnm⟩ := id hC
  refine lv_aload_n hx hb dX10_addStep_0 rfl (lv_at hl 0 rfl) ?_
  refine gf_X10_24 hC rfl hK hP 0 rfl rfl dX10_addStep_1 ?_
  refine lv_aload_n hx hb dX10_addStep_4 rfl (lv_at hl 0 rfl) ?_
  refine gf_X10_24 hC rfl hK hP 0 rfl rfl dX10_addStep_5 ?_
  rcases Nat.lt_or_ge ksp 120 with hcap9 | hcap9
  · refine iV (wr := [(h0, .inr (10, [.ref tby, .int (nI kt), .ref tln, .ref tsp, .int tkd, .int (nI ks), .int (nI kn), .int tf9])), (tspc, .inl (G.2.1, 120, .inl ftsp))]) hC hK hl hP hD hS hA (c_T_append l G tsp 120 1 tspc ksp (by omega) (by omega)) si_X10_59 [1] [0, 2] rfl rfl (by decide) rfl (by decide) (by decide) rfl rfl rfl rfl rfl (Nat.le_of_ble_eq_true rfl) ⟨Nat.le_of_ble_eq_true rfl, Nat.le_of_ble_eq_true rfl⟩ ⟨Nat.le_of_ble_eq_true rfl, Nat.le_of_ble_eq_true rfl⟩ dX10_addStep_8 (fun r2686 u2687 H locs hr2686 hP hD hS => ?_)
    have hP : va_P G.1 vwCl [(h0, .inr (10, [.ref tby, .int (nI kt), .ref tln, .ref tsp, .int tkd, .int (nI ks), .int (nI kn), .int tf9])), (tspc, .inl (G.2.1, 120, .inl ftsp)), (tsp, .inr (8, [.int 120, .int 1, .ref tspc, .int (nI (ksp + 1))]))] H := hP
    have hD : va_D A [(h0, .inr (10, [.ref tby, .int (nI kt), .ref tln, .ref tsp, .int tkd, .int (nI ks), .int (nI kn), .int tf9])), (tspc, .inl (G.2.1, 120, .inl ftsp)), (tsp, .inr (8, [.int 120, .int 1, .ref tspc, .int (nI (ksp + 1))]))] := hD
    obtain rfl := hr2686
    refine lv_iconst (v := 0) hx hb dX10_addStep_11 (by decide) ?_
    refine lv_iload_n hx hb dX10_addStep_12 rfl (lv_at hl 1 rfl) ?_
    refine vV (wr := [(h0, .inr (10, [.ref tby, .int (nI kt), .ref tln, .ref tsp, .int tkd, .int (nI ks), .int (nI kn), .int tf9]))]) hC hK hl hP hD hS hA (c_T_set l G tsp (nI ksp) 0 sp 120 1 tspc (ksp + 1) ftsp (by omega) (by omega) (by omega)) si_X10_66 [2, 1] [0] rfl rfl (by decide) rfl (by decide) (by decide) rfl rfl rfl rfl rfl (Nat.le_of_ble_eq_true rfl) ⟨Nat.le_of_ble_eq_true rfl, Nat.le_of_ble_eq_true rfl⟩ ⟨Nat.le_of_ble_eq_true rfl, Nat.le_of_ble_eq_true rfl⟩ dX10_addStep_13 (fun u2690 H locs hr2689 hP hD hS => ?_)
    obtain ⟨f12691, rfl⟩ : ∃ z9, z9 = u2690 := ⟨_, rfl⟩
    try dsimp only at hr2689
    have hP : va_P G.1 vwCl [(h0, .inr (10, [.ref tby, .int (nI kt), .ref tln, .ref tsp, .int tkd, .int (nI ks), .int (nI kn), .int tf9])), (tsp, .inr (8, [.int 120, .int 1, .ref tspc, .int (nI (ksp + 1))])), (tspc, .inl (G.2.1, 120, .inl f12691))] H := hP
    have hD : va_D A [(h0, .inr (10, [.ref tby, .int (nI kt), .ref tln, .ref tsp, .int tkd, .int (nI ks), .int (nI kn), .int tf9])), (tsp, .inr (8, [.int 120, .int 1, .ref tspc, .int (nI (ksp + 1))])), (tspc, .inl (G.2.1, 120, .inl f12691))] := hD
    have w2692 := hr2689
    exact RV hC hP hD hS [0, 1, 2] ((ksp + 1), f12691) rfl rfl (by decide) (by dsimp only; omega) dX10_addStep_16
  · refine iV (wr := [(h0, .inr (10, [.ref tby, .int (nI kt), .ref tln, .ref tsp, .int tkd, .int (nI ks), .int (nI kn), .int tf9])), (tspc, .inl (G.2.1, 120, .inl ftsp))]) hC hK hl hP hD hS hA (c_T_appendF l G tsp 120 1 tspc ksp (by omega) (by omega)) si_X10_59 [1] [0, 2] rfl rfl (by decide) rfl (by decide) (by decide) rfl rfl rfl rfl rfl (Nat.le_of_ble_eq_true rfl) ⟨Nat.le_of_ble_eq_true rfl, Nat.le_of_ble_eq_true rfl⟩ ⟨Nat.le_of_ble_eq_true rfl, Nat.le_of_ble_eq_true rfl⟩ dX10_addStep_8 (fun r2693 u2694 H locs hr2693 hP hD hS => ?_)
    have hP : va_P G.1 vwCl [(h0, .inr (10, [.ref tby, .int (nI kt), .ref tln, .ref tsp, .int tkd, .int (nI ks), .int (nI kn), .int tf9])), (tspc, .inl (G.2.1, 120, .inl ftsp)), (tsp, .inr (8, [.int 120, .int 1, .ref tspc, .int (nI ksp)]))] H := hP
    have hD : va_D A [(h0, .inr (10, [.ref tby, .int (nI kt), .ref tln, .ref tsp, .int tkd, .int (nI ks), .int (nI kn), .int tf9])), (tspc, .inl (G.2.1, 120, .inl ftsp)), (tsp, .inr (8, [.int 120, .int 1, .ref tspc, .int (nI ksp)]))] := hD
    obtain rfl := hr2693
    refine lv_iconst (v := 0) hx hb dX10_addStep_11 (by decide) ?_
    refine lv_iload_n hx hb dX10_addStep_12 rfl (lv_at hl 1 rfl) ?_
    refine vV (wr := [(h0, .inr (10, [.ref tby, .int (nI kt), .ref tln, .ref tsp, .int tkd, .int (nI ks), .int (nI kn), .int tf9]))]) hC hK hl hP hD hS hA (c_T_set l G tsp (-2) 0 sp 120 1 tspc ksp ftsp (by omega) (by omega) (by omega)) si_X10_66 [2, 1] [0] rfl rfl (by decide) rfl (by decide) (by decide) rfl rfl rfl rfl rfl (Nat.le_of_ble_eq_true rfl) ⟨Nat.le_of_ble_eq_true rfl, Nat.le_of_ble_eq_true rfl⟩ ⟨Nat.le_of_ble_eq_true rfl, Nat.le_of_ble_eq_true rfl⟩ dX10_addStep_13 (fun u2697 H locs hr2696 hP hD hS => ?_)
    obtain ⟨f12698, rfl⟩ : ∃ z9, z9 = u2697 := ⟨_, rfl⟩
    try dsimp only at hr2696
    have hP : va_P G.1 vwCl [(h0, .inr (10, [.ref tby, .int (nI kt), .ref tln, .ref tsp, .int tkd, .int (nI ks), .int (nI kn), .int tf9])), (tsp, .inr (8, [.int 120, .int 1, .ref tspc, .int (nI ksp)])), (tspc, .inl (G.2.1, 120, .inl f12698))] H := hP
    have hD : va_D A [(h0, .inr (10, [.ref tby, .int (nI kt), .ref tln, .ref tsp, .int tkd, .int (nI ks), .int (nI kn), .int tf9])), (tsp, .inr (8, [.int 120, .int 1, .ref tspc, .int (nI ksp)])), (tspc, .inl (G.2.1, 120, .inl f12698))] := hD
    have w2699 := hr2696
    exact RV hC hP hD hS [0, 1, 2] (ksp, f12698) rfl rfl (by decide) (by dsimp only; omega) dX10_addStep_16
set_option maxHeartbeats 4000000 in
set_option maxRecDepth 100000 in
theorem t_factHere (l : Launch) (G : GG) (K : OO) (h0 : Nat) (tby : Nat) (kt : Nat) (tln : Nat) (tsp : Nat) (tkd : Int32) (ks : Nat) (kn : Nat) (tf9 : Int32) (fby : Nat → Int32) (hkt : kt ≤ 240) (hks : ks ≤ 240) (hkn : kn ≤ 240) : MPo l G K yX10_factHere cX10_factHere 1 (some .int) 7 [.ref h0] [(h0, .inr (10, [.ref tby, .int (nI kt), .ref tln, .ref tsp, .int tkd, .int (nI ks), .int (nI kn), .int tf9])), (tby, .inl (G.2.1, 240, .inl fby))] (fun r : Int32 => True) := by
  refine MPo.start (by decide +kernel) (Nat.le_of_ble_eq_true rfl) ?_
  intro p e s m below meth c ls hC hK hP hD hl hO hS
  have hl : lv_has ls 1 [(0, .ref h0)] := hl
  obtain ⟨hx, hb, hr, hml, hB, hown, hlocks, hnm⟩ := id hC
  refine lv_aload_n hx hb dX10_factHere_0 rfl (lv_at hl 0 rfl) ?_
  refine va_ldcS (index := 171) (tx := "person") hx hb hown (hO.2.1 11 (by decide)) dX10_factHere_1 ?_
  refine pVo hO hS hC hK hl hP hD (t_isName l G K 11 h0 tby kt tln tsp tkd ks kn tf9 fby (by omega) (by omega) (by omega) ((by decide))) si_X10_102 [0, 1] rfl rfl (by decide) rfl rfl rfl rfl rfl (Nat.le_of_ble_eq_true rfl) ⟨Nat.le_of_ble_eq_true rfl, Nat.le_of_ble_eq_true rfl⟩ ⟨by first | exact Nat.le_of_ble_eq_true rfl | exact Nat.zero_le _, by first | exact Nat.le_of_ble_eq_true rfl | exact Nat.zero_le _⟩ dX10_factHere_3 (fun r2700 hr2700 => ?_)
  rcases hr2700 with rfl | rfl
  · refine lv_if_eq (tgt := 11) hx hb dX10_factHere_6 (by decide) (fun c9 => absurd c9 (by decide)) (fun _ => ?_)
    refine lv_iconst (v := 0) hx hb dX10_factHere_9 (by decide) ?_
    exact RP (v := 0) hC (trivial) rfl dX10_factHere_10
  · refine lv_if_eq (tgt := 11) hx hb dX10_factHere_6 (by decide) (fun _ => ?_) (fun c9 => absurd (by decide) c9)
    refine lv_aload_n hx hb dX10_factHere_11 rfl (lv_at hl 0 rfl) ?_
    refine va_ldcS (index := 173) (tx := "post") hx hb hown (hO.2.1 12 (by decide)) dX10_factHere_12 ?_
    refine pVo hO hS hC hK hl hP hD (t_isName l G K 12 h0 tby kt tln tsp tkd ks kn tf9 fby (by omega) (by omega) (by omega) ((by decide))) si_X10_102 [0, 1] rfl rfl (by decide) rfl rfl rfl rfl rfl (Nat.le_of_ble_eq_true rfl) ⟨Nat.le_of_ble_eq_true rfl, Nat.le_of_ble_eq_true rfl⟩ ⟨by first | exact Nat.le_of_ble_eq_true rfl | exact Nat.zero_le _, by first | exact Nat.le_of_ble_eq_true rfl | exact Nat.zero_le _⟩ dX10_factHere_14 (fun r2702 hr2702 => ?_)
    rcases hr2702 with rfl | rfl
    · refine lv_if_eq (tgt := 22) hx hb dX10_factHere_17 (by decide) (fun c9 => absurd c9 (by decide)) (fun _ => ?_)
      refine lv_iconst (v := 1) hx hb dX10_factHere_20 (by decide) ?_
      exact RP (v := 1) hC (trivial) rfl dX10_factHere_21
    · refine lv_if_eq (tgt := 22) hx hb dX10_factHere_17 (by decide) (fun _ => ?_) (fun c9 => absurd (by decide) c9)
      refine lv_aload_n hx hb dX10_factHere_22 rfl (lv_at hl 0 rfl) ?_
      refine va_ldcS (index := 175) (tx := "had") hx hb hown (hO.2.1 13 (by decide)) dX10_factHere_23 ?_
      refine pVo hO hS hC hK hl hP hD (t_isName l G K 13 h0 tby kt tln tsp tkd ks kn tf9 fby (by omega) (by omega) (by omega) ((by decide))) si_X10_102 [0, 1] rfl rfl (by decide) rfl rfl rfl rfl rfl (Nat.le_of_ble_eq_true rfl) ⟨Nat.le_of_ble_eq_true rfl, Nat.le_of_ble_eq_true rfl⟩ ⟨by first | exact Nat.le_of_ble_eq_true rfl | exact Nat.zero_le _, by first | exact Nat.le_of_ble_eq_true rfl | exact Nat.zero_le _⟩ dX10_factHere_25 (fun r2704 hr2704 => ?_)
      rcases hr2704 with rfl | rfl
      · refine lv_if_eq (tgt := 33) hx hb dX10_factHere_28 (by decide) (fun c9 => absurd c9 (by decide)) (fun _ => ?_)
        refine lv_iconst (v := 2) hx hb dX10_factHere_31 (by decide) ?_
        exact RP (v := 2) hC (trivial) rfl dX10_factHere_32
      · refine lv_if_eq (tgt := 33) hx hb dX10_factHere_28 (by decide) (fun _ => ?_) (fun c9 => absurd (by decide) c9)
        refine lv_aload_n hx hb dX10_factHere_33 rfl (lv_at hl 0 rfl) ?_
        refine va_ldcS (index := 177) (tx := "made") hx hb hown (hO.2.1 14 (by decide)) dX10_factHere_34 ?_
        refine pVo hO hS hC hK hl hP hD (t_isName l G K 14 h0 tby kt tln tsp tkd ks kn tf9 fby (by omega) (by omega) (by omega) ((by decide))) si_X10_102 [0, 1] rfl rfl (by decide) rfl rfl rfl rfl rfl (Nat.le_of_ble_eq_true rfl) ⟨Nat.le_of_ble_eq_true rfl, Nat.le_of_ble_eq_true rfl⟩ ⟨by first | exact Nat.le_of_ble_eq_true rfl | exact Nat.zero_le _, by first | exact Nat.le_of_ble_eq_true rfl | exact Nat.zero_le _⟩ dX10_factHere_36 (fun r2706 hr2706 => ?_)
        rcases hr2706 with rfl | rfl
        · refine lv_if_eq (tgt := 44) hx hb dX10_factHere_39 (by decide) (fun c9 => absurd c9 (by decide)) (fun _ => ?_)
          refine lv_iconst (v := 3) hx hb dX10_factHere_42 (by decide) ?_
          exact RP (v := 3) hC (trivial) rfl dX10_factHere_43
        · refine lv_if_eq (tgt := 44) hx hb dX10_factHere_39 (by decide) (fun _ => ?_) (fun c9 => absurd (by decide) c9)
          refine lv_aload_n hx hb dX10_factHere_44 rfl (lv_at hl 0 rfl) ?_
          refine va_ldcS (index := 179) (tx := "slow") hx hb hown (hO.2.1 15 (by decide)) dX10_factHere_45 ?_
          refine pVo hO hS hC hK hl hP hD (t_isName l G K 15 h0 tby kt tln tsp tkd ks kn tf9 fby (by omega) (by omega) (by omega) ((by decide))) si_X10_102 [0, 1] rfl rfl (by decide) rfl rfl rfl rfl rfl (Nat.le_of_ble_eq_true rfl) ⟨Nat.le_of_ble_eq_true rfl, Nat.le_of_ble_eq_true rfl⟩ ⟨by first | exact Nat.le_of_ble_eq_true rfl | exact Nat.zero_le _, by first | exact Nat.le_of_ble_eq_true rfl | exact Nat.zero_le _⟩ dX10_factHere_47 (fun r2708 hr2708 => ?_)
          rcases hr2708 with rfl | rfl
          · refine lv_if_eq (tgt := 57) hx hb dX10_factHere_50 (by decide) (fun c9 => absurd c9 (by decide)) (fun _ => ?_)
            refine lv_iconst (v := 4) hx hb dX10_factHere_53 (by decide) ?_
            refine lv_goto (tgt := 58) hx hb dX10_factHere_54 (by decide) ?_
            exact RP (v := 4) hC (trivial) rfl dX10_factHere_58
          · refine lv_if_eq (tgt := 57) hx hb dX10_factHere_50 (by decide) (fun _ => ?_) (fun c9 => absurd (by decide) c9)
            refine lv_iconst (v := (-1)) hx hb dX10_factHere_57 (by decide) ?_
            exact RP (v := (-1)) hC (trivial) rfl dX10_factHere_58
set_option maxHeartbeats 4000000 in
set_option maxRecDepth 100000 in
theorem t_signHere (l : Launch) (G : GG) (h0 : Nat) (tby : Nat) (kt : Nat) (tln : Nat) (tsp : Nat) (tkd : Int32) (ts9 : Int32) (tn9 : Int32) (tf9 : Int32) : MP l G yX10_signHere cX10_signHere 1 (some .int) 1 [.ref h0] [(h0, .inr (10, [.ref tby, .int (nI kt), .ref tln, .ref tsp, .int tkd, .int ts9, .int tn9, .int tf9]))] (fun r : Int32 => True) := by
  refine MP.start (by decide +kernel) (Nat.le_of_ble_eq_true rfl) ?_
  intro p e s m below meth c ls hC hK hP hD hl
  have hl : lv_has ls 1 [(0, .ref h0)] := hl
  obtain ⟨hx, hb, hr, hml, hB, hown, hlocks, hnm⟩ := id hC
  refine lv_aload_n hx hb dX10_signHere_0 rfl (lv_at hl 0 rfl) ?_
  refine gf_X10_31 hC rfl hK hP 0 rfl rfl dX10_signHere_1 ?_
  refine lv_bipush (v := 60) hx hb dX10_signHere_4 (by decide) ?_
  refine lv_icmp_ne (tgt := 11) hx hb dX10_signHere_6 (by decide) (fun c_6_2710 => ?_) (fun c_6_2710 => ?_)
  · refine lv_aload_n hx hb dX10_signHere_11 rfl (lv_at hl 0 rfl) ?_
    refine gf_X10_31 hC rfl hK hP 0 rfl rfl dX10_signHere_12 ?_
    refine lv_bipush (v := 61) hx hb dX10_signHere_15 (by decide) ?_
    refine lv_icmp_ne (tgt := 22) hx hb dX10_signHere_17 (by decide) (fun c_17_2711 => ?_) (fun c_17_2711 => ?_)
    · refine lv_aload_n hx hb dX10_signHere_22 rfl (lv_at hl 0 rfl) ?_
      refine gf_X10_31 hC rfl hK hP 0 rfl rfl dX10_signHere_23 ?_
      refine lv_bipush (v := 62) hx hb dX10_signHere_26 (by decide) ?_
      refine lv_icmp_ne (tgt := 35) hx hb dX10_signHere_28 (by decide) (fun c_28_2712 => ?_) (fun c_28_2712 => ?_)
      · refine lv_iconst (v := (-1)) hx hb dX10_signHere_35 (by decide) ?_
        exact RP (v := (-1)) hC (trivial) rfl dX10_signHere_36
      · refine lv_iconst (v := 2) hx hb dX10_signHere_31 (by decide) ?_
        refine lv_goto (tgt := 36) hx hb dX10_signHere_32 (by decide) ?_
        exact RP (v := 2) hC (trivial) rfl dX10_signHere_36
    · refine lv_iconst (v := 1) hx hb dX10_signHere_20 (by decide) ?_
      exact RP (v := 1) hC (trivial) rfl dX10_signHere_21
  · refine lv_iconst (v := 0) hx hb dX10_signHere_9 (by decide) ?_
    exact RP (v := 0) hC (trivial) rfl dX10_signHere_10
set_option maxHeartbeats 4000000 in
set_option maxRecDepth 100000 in
theorem t_sortHere (l : Launch) (G : GG) (K : OO) (h0 : Nat) (tby : Nat) (kt : Nat) (tln : Nat) (tsp : Nat) (tkd : Int32) (ks : Nat) (kn : Nat) (tf9 : Int32) (fby : Nat → Int32) (hkt : kt ≤ 240) (hks : ks ≤ 240) (hkn : kn ≤ 240) : MPo l G K yX10_sortHere cX10_sortHere 1 (some .int) 7 [.ref h0] [(h0, .inr (10, [.ref tby, .int (nI kt), .ref tln, .ref tsp, .int tkd, .int (nI ks), .int (nI kn), .int tf9])), (tby, .inl (G.2.1, 240, .inl fby))] (fun r : Int32 => True) := by
  refine MPo.start (by decide +kernel) (Nat.le_of_ble_eq_true rfl) ?_
  intro p e s m below meth c ls hC hK hP hD hl hO hS
  have hl : lv_has ls 1 [(0, .ref h0)] := hl
  obtain ⟨hx, hb, hr, hml, hB, hown, hlocks, hnm⟩ := id hC
  refine lv_aload_n hx hb dX10_sortHere_0 rfl (lv_at hl 0 rfl) ?_
  refine va_ldcS (index := 127) (tx := "taken") hx hb hown (hO.2.1 1 (by decide)) dX10_sortHere_1 ?_
  refine pVo hO hS hC hK hl hP hD (t_isName l G K 1 h0 tby kt tln tsp tkd ks kn tf9 fby (by omega) (by omega) (by omega) ((by decide))) si_X10_102 [0, 1] rfl rfl (by decide) rfl rfl rfl rfl rfl (Nat.le_of_ble_eq_true rfl) ⟨Nat.le_of_ble_eq_true rfl, Nat.le_of_ble_eq_true rfl⟩ ⟨by first | exact Nat.le_of_ble_eq_true rfl | exact Nat.zero_le _, by first | exact Nat.le_of_ble_eq_true rfl | exact Nat.zero_le _⟩ dX10_sortHere_3 (fun r2713 hr2713 => ?_)
  rcases hr2713 with rfl | rfl
  · refine lv_if_eq (tgt := 11) hx hb dX10_sortHere_6 (by decide) (fun c9 => absurd c9 (by decide)) (fun _ => ?_)
    refine lv_iconst (v := 0) hx hb dX10_sortHere_9 (by decide) ?_
    exact RP (v := 0) hC (trivial) rfl dX10_sortHere_10
  · refine lv_if_eq (tgt := 11) hx hb dX10_sortHere_6 (by decide) (fun _ => ?_) (fun c9 => absurd (by decide) c9)
    refine lv_aload_n hx hb dX10_sortHere_11 rfl (lv_at hl 0 rfl) ?_
    refine va_ldcS (index := 129) (tx := "warn") hx hb hown (hO.2.1 2 (by decide)) dX10_sortHere_12 ?_
    refine pVo hO hS hC hK hl hP hD (t_isName l G K 2 h0 tby kt tln tsp tkd ks kn tf9 fby (by omega) (by omega) (by omega) ((by decide))) si_X10_102 [0, 1] rfl rfl (by decide) rfl rfl rfl rfl rfl (Nat.le_of_ble_eq_true rfl) ⟨Nat.le_of_ble_eq_true rfl, Nat.le_of_ble_eq_true rfl⟩ ⟨by first | exact Nat.le_of_ble_eq_true rfl | exact Nat.zero_le _, by first | exact Nat.le_of_ble_eq_true rfl | exact Nat.zero_le _⟩ dX10_sortHere_14 (fun r2715 hr2715 => ?_)
    rcases hr2715 with rfl | rfl
    · refine lv_if_eq (tgt := 22) hx hb dX10_sortHere_17 (by decide) (fun c9 => absurd c9 (by decide)) (fun _ => ?_)
      refine lv_iconst (v := 1) hx hb dX10_sortHere_20 (by decide) ?_
      exact RP (v := 1) hC (trivial) rfl dX10_sortHere_21
    · refine lv_if_eq (tgt := 22) hx hb dX10_sortHere_17 (by decide) (fun _ => ?_) (fun c9 => absurd (by decide) c9)
      refine lv_aload_n hx hb dX10_sortHere_22 rfl (lv_at hl 0 rfl) ?_
      refine va_ldcS (index := 131) (tx := "ask") hx hb hown (hO.2.1 3 (by decide)) dX10_sortHere_23 ?_
      refine pVo hO hS hC hK hl hP hD (t_isName l G K 3 h0 tby kt tln tsp tkd ks kn tf9 fby (by omega) (by omega) (by omega) ((by decide))) si_X10_102 [0, 1] rfl rfl (by decide) rfl rfl rfl rfl rfl (Nat.le_of_ble_eq_true rfl) ⟨Nat.le_of_ble_eq_true rfl, Nat.le_of_ble_eq_true rfl⟩ ⟨by first | exact Nat.le_of_ble_eq_true rfl | exact Nat.zero_le _, by first | exact Nat.le_of_ble_eq_true rfl | exact Nat.zero_le _⟩ dX10_sortHere_25 (fun r2717 hr2717 => ?_)
      rcases hr2717 with rfl | rfl
      · refine lv_if_eq (tgt := 33) hx hb dX10_sortHere_28 (by decide) (fun c9 => absurd c9 (by decide)) (fun _ => ?_)
        refine lv_iconst (v := 2) hx hb dX10_sortHere_31 (by decide) ?_
        exact RP (v := 2) hC (trivial) rfl dX10_sortHere_32
      · refine lv_if_eq (tgt := 33) hx hb dX10_sortHere_28 (by decide) (fun _ => ?_) (fun c9 => absurd (by decide) c9)
        refine lv_aload_n hx hb dX10_sortHere_33 rfl (lv_at hl 0 rfl) ?_
        refine va_ldcS (index := 133) (tx := "heard") hx hb hown (hO.2.1 4 (by decide)) dX10_sortHere_34 ?_
        refine pVo hO hS hC hK hl hP hD (t_isName l G K 4 h0 tby kt tln tsp tkd ks kn tf9 fby (by omega) (by omega) (by omega) ((by decide))) si_X10_102 [0, 1] rfl rfl (by decide) rfl rfl rfl rfl rfl (Nat.le_of_ble_eq_true rfl) ⟨Nat.le_of_ble_eq_true rfl, Nat.le_of_ble_eq_true rfl⟩ ⟨by first | exact Nat.le_of_ble_eq_true rfl | exact Nat.zero_le _, by first | exact Nat.le_of_ble_eq_true rfl | exact Nat.zero_le _⟩ dX10_sortHere_36 (fun r2719 hr2719 => ?_)
        rcases hr2719 with rfl | rfl
        · refine lv_if_eq (tgt := 46) hx hb dX10_sortHere_39 (by decide) (fun c9 => absurd c9 (by decide)) (fun _ => ?_)
          refine lv_iconst (v := 3) hx hb dX10_sortHere_42 (by decide) ?_
          refine lv_goto (tgt := 47) hx hb dX10_sortHere_43 (by decide) ?_
          exact RP (v := 3) hC (trivial) rfl dX10_sortHere_47
        · refine lv_if_eq (tgt := 46) hx hb dX10_sortHere_39 (by decide) (fun _ => ?_) (fun c9 => absurd (by decide) c9)
          refine lv_iconst (v := (-1)) hx hb dX10_sortHere_46 (by decide) ?_
          exact RP (v := (-1)) hC (trivial) rfl dX10_sortHere_47
set_option maxHeartbeats 4000000 in
set_option maxRecDepth 100000 in
theorem t_takesComparison (l : Launch) (G : GG) (K : OO) (h0 : Nat) (tby : Nat) (kt : Nat) (tln : Nat) (tsp : Nat) (tkd : Int32) (ks : Nat) (kn : Nat) (tf9 : Int32) (fby : Nat → Int32) (tspc : Nat) (ksp : Nat) (ftsp : Nat → Int32) (hkt : kt ≤ 240) (hks : ks ≤ 240) (hkn : kn ≤ 240) (hksp : ksp ≤ 120) : MIo l G K yX10_takesComparison cX10_takesComparison 4 (some .boolean) 8 0 0 [.ref h0] [(h0, .inr (10, [.ref tby, .int (nI kt), .ref tln, .ref tsp, .int tkd, .int (nI ks), .int (nI kn), .int tf9])), (tby, .inl (G.2.1, 240, .inl fby)), (tsp, .inr (8, [.int 120, .int 1, .ref tspc, .int (nI ksp)])), (tspc, .inl (G.2.1, 120, .inl ftsp))] (fun (r : Int32) (u : Int32 × Nat × Nat × Int32 × Nat × (Nat → Int32)) => (r = 1 ∨ r = 0) ∧ (u.2.1 ≤ 240 ∧ u.2.2.1 ≤ 240 ∧ u.2.2.2.2.1 ≤ 120)) (fun u : Int32 × Nat × Nat × Int32 × Nat × (Nat → Int32) => [(h0, .inr (10, [.ref tby, .int (nI kt), .ref tln, .ref tsp, .int u.1, .int (nI u.2.1), .int (nI u.2.2.1), .int u.2.2.2.1])), (tby, .inl (G.2.1, 240, .inl fby)), (tsp, .inr (8, [.int 120, .int 1, .ref tspc, .int (nI u.2.2.2.2.1)])), (tspc, .inl (G.2.1, 120, .inl u.2.2.2.2.2))]) := by
  refine MIo.start (by decide +kernel) (Nat.le_of_ble_eq_true rfl) ?_
  intro p e s m below meth c A ls hC hK hP hD hS hA hl hO
  have hl : lv_has ls 4 [(0, .ref h0)] := hl
  obtain ⟨hx, hb, hr, hml, hB, hown, hlocks, hnm⟩ := id hC
  refine lv_aload_n hx hb dX10_takesComparison_0 rfl (lv_at hl 0 rfl) ?_
  refine pVo hO hS hC hK hl hP hD (t_factHere l G K h0 tby kt tln tsp tkd ks kn tf9 fby (by omega) (by omega) (by omega)) si_X10_165 [0, 1] rfl rfl (by decide) rfl rfl rfl rfl rfl (Nat.le_of_ble_eq_true rfl) ⟨Nat.le_of_ble_eq_true rfl, Nat.le_of_ble_eq_true rfl⟩ ⟨by first | exact Nat.le_of_ble_eq_true rfl | exact Nat.zero_le _, by first | exact Nat.le_of_ble_eq_true rfl | exact Nat.zero_le _⟩ dX10_takesComparison_1 (fun r2721 hr2721 => ?_)
  refine lv_istore_n (lv' := [(1, .int r2721), (0, .ref h0)]) hx hb dX10_takesComparison_4 rfl hl (by decide) rfl (fun ls hl => ?_)
  refine lv_iload_n hx hb dX10_takesComparison_5 rfl (lv_at hl 0 rfl) ?_
  refine lv_if_ge (tgt := 14) hx hb dX10_takesComparison_6 (by decide) (fun c_6_2722 => ?_) (fun c_6_2722 => ?_)
  · refine lv_aload_n hx hb dX10_takesComparison_14 rfl (lv_at hl 1 rfl) ?_
    refine vV (wr := [(tsp, .inr (8, [.int 120, .int 1, .ref tspc, .int (nI ksp)])), (tspc, .inl (G.2.1, 120, .inl ftsp))]) hC hK hl hP hD hS hA (t_advance l G h0 tby kt tln tsp tkd ks kn tf9 fby (by omega) (by omega) (by omega)) si_X10_47 [0, 1] [2, 3] rfl rfl (by decide) rfl (by decide) (by decide) rfl rfl rfl rfl rfl (Nat.le_of_ble_eq_true rfl) ⟨Nat.le_of_ble_eq_true rfl, Nat.le_of_ble_eq_true rfl⟩ ⟨Nat.le_of_ble_eq_true rfl, Nat.le_of_ble_eq_true rfl⟩ dX10_takesComparison_15 (fun u2724 H locs hr2723 hP hD hS => ?_)
    obtain ⟨kd12725, ks12726, kn12727⟩ := u2724
    try dsimp only at hr2723
    have hP : va_P G.1 vwCl [(tsp, .inr (8, [.int 120, .int 1, .ref tspc, .int (nI ksp)])), (tspc, .inl (G.2.1, 120, .inl ftsp)), (h0, .inr (10, [.ref tby, .int (nI kt), .ref tln, .ref tsp, .int kd12725, .int (nI ks12726), .int (nI kn12727), .int tf9])), (tby, .inl (G.2.1, 240, .inl fby))] H := hP
    have hD : va_D A [(tsp, .inr (8, [.int 120, .int 1, .ref tspc, .int (nI ksp)])), (tspc, .inl (G.2.1, 120, .inl ftsp)), (h0, .inr (10, [.ref tby, .int (nI kt), .ref tln, .ref tsp, .int kd12725, .int (nI ks12726), .int (nI kn12727), .int tf9])), (tby, .inl (G.2.1, 240, .inl fby))] := hD
    have w2728 := hr2723
    refine lv_aload_n hx hb dX10_takesComparison_18 rfl (lv_at hl 1 rfl) ?_
    refine pV hC hK hl hP hD (t_signHere l G h0 tby kt tln tsp kd12725 (nI ks12726) (nI kn12727) tf9) si_X10_168 [2] rfl rfl (by decide) rfl rfl rfl rfl rfl (Nat.le_of_ble_eq_true rfl) ⟨Nat.le_of_ble_eq_true rfl, Nat.le_of_ble_eq_true rfl⟩ ⟨by first | exact Nat.le_of_ble_eq_true rfl | exact Nat.zero_le _, by first | exact Nat.le_of_ble_eq_true rfl | exact Nat.zero_le _⟩ dX10_takesComparison_19 (fun r2729 hr2729 => ?_)
    refine lv_istore_n (lv' := [(2, .int r2729), (1, .int r2721), (0, .ref h0)]) hx hb dX10_takesComparison_22 rfl hl (by decide) rfl (fun ls hl => ?_)
    refine lv_iload_n hx hb dX10_takesComparison_23 rfl (lv_at hl 0 rfl) ?_
    refine lv_if_ge (tgt := 32) hx hb dX10_takesComparison_24 (by decide) (fun c_24_2730 => ?_) (fun c_24_2730 => ?_)
    · refine lv_aload_n hx hb dX10_takesComparison_32 rfl (lv_at hl 2 rfl) ?_
      refine vV (wr := [(tsp, .inr (8, [.int 120, .int 1, .ref tspc, .int (nI ksp)])), (tspc, .inl (G.2.1, 120, .inl ftsp))]) hC hK hl hP hD hS hA (t_advance l G h0 tby kt tln tsp kd12725 ks12726 kn12727 tf9 fby (by omega) (by omega) (by omega)) si_X10_47 [2, 3] [0, 1] rfl rfl (by decide) rfl (by decide) (by decide) rfl rfl rfl rfl rfl (Nat.le_of_ble_eq_true rfl) ⟨Nat.le_of_ble_eq_true rfl, Nat.le_of_ble_eq_true rfl⟩ ⟨Nat.le_of_ble_eq_true rfl, Nat.le_of_ble_eq_true rfl⟩ dX10_takesComparison_33 (fun u2732 H locs hr2731 hP hD hS => ?_)
      obtain ⟨kd12733, ks12734, kn12735⟩ := u2732
      try dsimp only at hr2731
      have hP : va_P G.1 vwCl [(tsp, .inr (8, [.int 120, .int 1, .ref tspc, .int (nI ksp)])), (tspc, .inl (G.2.1, 120, .inl ftsp)), (h0, .inr (10, [.ref tby, .int (nI kt), .ref tln, .ref tsp, .int kd12733, .int (nI ks12734), .int (nI kn12735), .int tf9])), (tby, .inl (G.2.1, 240, .inl fby))] H := hP
      have hD : va_D A [(tsp, .inr (8, [.int 120, .int 1, .ref tspc, .int (nI ksp)])), (tspc, .inl (G.2.1, 120, .inl ftsp)), (h0, .inr (10, [.ref tby, .int (nI kt), .ref tln, .ref tsp, .int kd12733, .int (nI ks12734), .int (nI kn12735), .int tf9])), (tby, .inl (G.2.1, 240, .inl fby))] := hD
      have w2736 := hr2731
      refine lv_aload_n hx hb dX10_takesComparison_36 rfl (lv_at hl 2 rfl) ?_
      refine pV hC hK hl hP hD (t_numberHere l G h0 tby kt tln tsp kd12733 ks12734 kn12735 tf9 fby (by omega) (by omega) (by omega)) si_X10_109 [2, 3] rfl rfl (by decide) rfl rfl rfl rfl rfl (Nat.le_of_ble_eq_true rfl) ⟨Nat.le_of_ble_eq_true rfl, Nat.le_of_ble_eq_true rfl⟩ ⟨by first | exact Nat.le_of_ble_eq_true rfl | exact Nat.zero_le _, by first | exact Nat.le_of_ble_eq_true rfl | exact Nat.zero_le _⟩ dX10_takesComparison_37 (fun r2737 hr2737 => ?_)
      refine lv_istore_n (lv' := [(3, .int r2737), (2, .int r2729), (1, .int r2721), (0, .ref h0)]) hx hb dX10_takesComparison_40 rfl hl (by decide) rfl (fun ls hl => ?_)
      refine lv_iload_n hx hb dX10_takesComparison_41 rfl (lv_at hl 0 rfl) ?_
      refine lv_if_ge (tgt := 50) hx hb dX10_takesComparison_42 (by decide) (fun c_42_2738 => ?_) (fun c_42_2738 => ?_)
      · refine lv_aload_n hx hb dX10_takesComparison_50 rfl (lv_at hl 3 rfl) ?_
        refine vV (wr := [(tsp, .inr (8, [.int 120, .int 1, .ref tspc, .int (nI ksp)])), (tspc, .inl (G.2.1, 120, .inl ftsp))]) hC hK hl hP hD hS hA (t_advance l G h0 tby kt tln tsp kd12733 ks12734 kn12735 tf9 fby (by omega) (by omega) (by omega)) si_X10_47 [2, 3] [0, 1] rfl rfl (by decide) rfl (by decide) (by decide) rfl rfl rfl rfl rfl (Nat.le_of_ble_eq_true rfl) ⟨Nat.le_of_ble_eq_true rfl, Nat.le_of_ble_eq_true rfl⟩ ⟨Nat.le_of_ble_eq_true rfl, Nat.le_of_ble_eq_true rfl⟩ dX10_takesComparison_51 (fun u2740 H locs hr2739 hP hD hS => ?_)
        obtain ⟨kd12741, ks12742, kn12743⟩ := u2740
        try dsimp only at hr2739
        have hP : va_P G.1 vwCl [(tsp, .inr (8, [.int 120, .int 1, .ref tspc, .int (nI ksp)])), (tspc, .inl (G.2.1, 120, .inl ftsp)), (h0, .inr (10, [.ref tby, .int (nI kt), .ref tln, .ref tsp, .int kd12741, .int (nI ks12742), .int (nI kn12743), .int tf9])), (tby, .inl (G.2.1, 240, .inl fby))] H := hP
        have hD : va_D A [(tsp, .inr (8, [.int 120, .int 1, .ref tspc, .int (nI ksp)])), (tspc, .inl (G.2.1, 120, .inl ftsp)), (h0, .inr (10, [.ref tby, .int (nI kt), .ref tln, .ref tsp, .int kd12741, .int (nI ks12742), .int (nI kn12743), .int tf9])), (tby, .inl (G.2.1, 240, .inl fby))] := hD
        have w2744 := hr2739
        refine lv_aload_n hx hb dX10_takesComparison_54 rfl (lv_at hl 3 rfl) ?_
        refine lv_iload_n hx hb dX10_takesComparison_55 rfl (lv_at hl 2 rfl) ?_
        refine lv_iconst (v := 3) hx hb dX10_takesComparison_56 (by decide) ?_
        refine lv_imul hx hb dX10_takesComparison_57 ?_
        refine lv_iload_n hx hb dX10_takesComparison_58 rfl (lv_at hl 1 rfl) ?_
        refine lv_iadd hx hb dX10_takesComparison_59 ?_
        refine lv_sipush (v := 1000) hx hb dX10_takesComparison_60 (by decide) ?_
        refine lv_imul hx hb dX10_takesComparison_63 ?_
        refine lv_iload_n hx hb dX10_takesComparison_64 rfl (lv_at hl 0 rfl) ?_
        refine lv_iadd hx hb dX10_takesComparison_65 ?_
        refine vV (wr := [(tby, .inl (G.2.1, 240, .inl fby))]) hC hK hl hP hD hS hA (t_addStep l G h0 ((((r2721 * 3) + r2729) * 1000) + r2737) tby kt tln tsp kd12741 ks12742 kn12743 tf9 tspc ksp ftsp (by omega)) si_X10_152 [2, 0, 1] [3] rfl rfl (by decide) rfl (by decide) (by decide) rfl rfl rfl rfl rfl (Nat.le_of_ble_eq_true rfl) ⟨Nat.le_of_ble_eq_true rfl, Nat.le_of_ble_eq_true rfl⟩ ⟨Nat.le_of_ble_eq_true rfl, Nat.le_of_ble_eq_true rfl⟩ dX10_takesComparison_66 (fun u2746 H locs hr2745 hP hD hS => ?_)
        obtain ⟨ksp12747, gtsp2748⟩ := u2746
        try dsimp only at hr2745
        have hP : va_P G.1 vwCl [(tby, .inl (G.2.1, 240, .inl fby)), (h0, .inr (10, [.ref tby, .int (nI kt), .ref tln, .ref tsp, .int kd12741, .int (nI ks12742), .int (nI kn12743), .int tf9])), (tsp, .inr (8, [.int 120, .int 1, .ref tspc, .int (nI ksp12747)])), (tspc, .inl (G.2.1, 120, .inl gtsp2748))] H := hP
        have hD : va_D A [(tby, .inl (G.2.1, 240, .inl fby)), (h0, .inr (10, [.ref tby, .int (nI kt), .ref tln, .ref tsp, .int kd12741, .int (nI ks12742), .int (nI kn12743), .int tf9])), (tsp, .inr (8, [.int 120, .int 1, .ref tspc, .int (nI ksp12747)])), (tspc, .inl (G.2.1, 120, .inl gtsp2748))] := hD
        have w2749 := hr2745
        refine lv_iconst (v := 1) hx hb dX10_takesComparison_69 (by decide) ?_
        exact RI (v := 1) hC hP hD hS [1, 0, 2, 3] (kd12741, ks12742, kn12743, tf9, ksp12747, gtsp2748) rfl rfl (by decide) (⟨Or.inl (rfl), by dsimp only; omega⟩) (by decide +kernel) dX10_takesComparison_70
      · refine lv_aload_n hx hb dX10_takesComparison_45 rfl (lv_at hl 3 rfl) ?_
        refine iV (wr := [(tsp, .inr (8, [.int 120, .int 1, .ref tspc, .int (nI ksp)])), (tspc, .inl (G.2.1, 120, .inl ftsp)), (tby, .inl (G.2.1, 240, .inl fby))]) hC hK hl hP hD hS hA (t_refuse l G h0 tby kt tln tsp kd12733 ks12734 kn12735 tf9) si_X10_106 [2] [0, 1, 3] rfl rfl (by decide) rfl (by decide) (by decide) rfl rfl rfl rfl rfl (Nat.le_of_ble_eq_true rfl) ⟨Nat.le_of_ble_eq_true rfl, Nat.le_of_ble_eq_true rfl⟩ ⟨Nat.le_of_ble_eq_true rfl, Nat.le_of_ble_eq_true rfl⟩ dX10_takesComparison_46 (fun r2750 u2751 H locs hr2750 hP hD hS => ?_)
        obtain ⟨tf12752, rfl⟩ : ∃ z9, z9 = u2751 := ⟨_, rfl⟩
        try dsimp only at hr2750
        have hP : va_P G.1 vwCl [(tsp, .inr (8, [.int 120, .int 1, .ref tspc, .int (nI ksp)])), (tspc, .inl (G.2.1, 120, .inl ftsp)), (tby, .inl (G.2.1, 240, .inl fby)), (h0, .inr (10, [.ref tby, .int (nI kt), .ref tln, .ref tsp, .int kd12733, .int (nI ks12734), .int (nI kn12735), .int tf12752]))] H := hP
        have hD : va_D A [(tsp, .inr (8, [.int 120, .int 1, .ref tspc, .int (nI ksp)])), (tspc, .inl (G.2.1, 120, .inl ftsp)), (tby, .inl (G.2.1, 240, .inl fby)), (h0, .inr (10, [.ref tby, .int (nI kt), .ref tln, .ref tsp, .int kd12733, .int (nI ks12734), .int (nI kn12735), .int tf12752]))] := hD
        obtain rfl := hr2750
        exact RI (v := 0) hC hP hD hS [3, 2, 0, 1] (kd12733, ks12734, kn12735, tf12752, ksp, ftsp) rfl rfl (by decide) (⟨Or.inr (rfl), by dsimp only; omega⟩) (by decide +kernel) dX10_takesComparison_49
    · refine lv_aload_n hx hb dX10_takesComparison_27 rfl (lv_at hl 2 rfl) ?_
      refine iV (wr := [(tsp, .inr (8, [.int 120, .int 1, .ref tspc, .int (nI ksp)])), (tspc, .inl (G.2.1, 120, .inl ftsp)), (tby, .inl (G.2.1, 240, .inl fby))]) hC hK hl hP hD hS hA (t_refuse l G h0 tby kt tln tsp kd12725 ks12726 kn12727 tf9) si_X10_106 [2] [0, 1, 3] rfl rfl (by decide) rfl (by decide) (by decide) rfl rfl rfl rfl rfl (Nat.le_of_ble_eq_true rfl) ⟨Nat.le_of_ble_eq_true rfl, Nat.le_of_ble_eq_true rfl⟩ ⟨Nat.le_of_ble_eq_true rfl, Nat.le_of_ble_eq_true rfl⟩ dX10_takesComparison_28 (fun r2754 u2755 H locs hr2754 hP hD hS => ?_)
      obtain ⟨tf12756, rfl⟩ : ∃ z9, z9 = u2755 := ⟨_, rfl⟩
      try dsimp only at hr2754
      have hP : va_P G.1 vwCl [(tsp, .inr (8, [.int 120, .int 1, .ref tspc, .int (nI ksp)])), (tspc, .inl (G.2.1, 120, .inl ftsp)), (tby, .inl (G.2.1, 240, .inl fby)), (h0, .inr (10, [.ref tby, .int (nI kt), .ref tln, .ref tsp, .int kd12725, .int (nI ks12726), .int (nI kn12727), .int tf12756]))] H := hP
      have hD : va_D A [(tsp, .inr (8, [.int 120, .int 1, .ref tspc, .int (nI ksp)])), (tspc, .inl (G.2.1, 120, .inl ftsp)), (tby, .inl (G.2.1, 240, .inl fby)), (h0, .inr (10, [.ref tby, .int (nI kt), .ref tln, .ref tsp, .int kd12725, .int (nI ks12726), .int (nI kn12727), .int tf12756]))] := hD
      obtain rfl := hr2754
      exact RI (v := 0) hC hP hD hS [3, 2, 0, 1] (kd12725, ks12726, kn12727, tf12756, ksp, ftsp) rfl rfl (by decide) (⟨Or.inr (rfl), by dsimp only; omega⟩) (by decide +kernel) dX10_takesComparison_31
  · refine lv_aload_n hx hb dX10_takesComparison_9 rfl (lv_at hl 1 rfl) ?_
    refine iV (wr := [(tby, .inl (G.2.1, 240, .inl fby)), (tsp, .inr (8, [.int 120, .int 1, .ref tspc, .int (nI ksp)])), (tspc, .inl (G.2.1, 120, .inl ftsp))]) hC hK hl hP hD hS hA (t_refuse l G h0 tby kt tln tsp tkd ks kn tf9) si_X10_106 [0] [1, 2, 3] rfl rfl (by decide) rfl (by decide) (by decide) rfl rfl rfl rfl rfl (Nat.le_of_ble_eq_true rfl) ⟨Nat.le_of_ble_eq_true rfl, Nat.le_of_ble_eq_true rfl⟩ ⟨Nat.le_of_ble_eq_true rfl, Nat.le_of_ble_eq_true rfl⟩ dX10_takesComparison_10 (fun r2758 u2759 H locs hr2758 hP hD hS => ?_)
    obtain ⟨tf12760, rfl⟩ : ∃ z9, z9 = u2759 := ⟨_, rfl⟩
    try dsimp only at hr2758
    have hP : va_P G.1 vwCl [(tby, .inl (G.2.1, 240, .inl fby)), (tsp, .inr (8, [.int 120, .int 1, .ref tspc, .int (nI ksp)])), (tspc, .inl (G.2.1, 120, .inl ftsp)), (h0, .inr (10, [.ref tby, .int (nI kt), .ref tln, .ref tsp, .int tkd, .int (nI ks), .int (nI kn), .int tf12760]))] H := hP
    have hD : va_D A [(tby, .inl (G.2.1, 240, .inl fby)), (tsp, .inr (8, [.int 120, .int 1, .ref tspc, .int (nI ksp)])), (tspc, .inl (G.2.1, 120, .inl ftsp)), (h0, .inr (10, [.ref tby, .int (nI kt), .ref tln, .ref tsp, .int tkd, .int (nI ks), .int (nI kn), .int tf12760]))] := hD
    obtain rfl := hr2758
    exact RI (v := 0) hC hP hD hS [3, 0, 1, 2] (tkd, ks, kn, tf12760, ksp, ftsp) rfl rfl (by decide) (⟨Or.inr (rfl), by dsimp only; omega⟩) (by decide +kernel) dX10_takesComparison_13
set_option maxHeartbeats 4000000 in
set_option maxRecDepth 100000 in
theorem t_one4 (l : Launch) (G : GG) (K : OO) (h0 : Nat) (tby : Nat) (kt : Nat) (tln : Nat) (tsp : Nat) (tkd : Int32) (ks : Nat) (kn : Nat) (tf9 : Int32) (fby : Nat → Int32) (tspc : Nat) (ksp : Nat) (ftsp : Nat → Int32) (hkt : kt ≤ 240) (hks : ks ≤ 240) (hkn : kn ≤ 240) (hksp : ksp ≤ 120) : MIo l G K yX10_takesOne cX10_takesOne 4 (some .boolean) 9 0 0 [.ref h0, .int 4] [(h0, .inr (10, [.ref tby, .int (nI kt), .ref tln, .ref tsp, .int tkd, .int (nI ks), .int (nI kn), .int tf9])), (tby, .inl (G.2.1, 240, .inl fby)), (tsp, .inr (8, [.int 120, .int 1, .ref tspc, .int (nI ksp)])), (tspc, .inl (G.2.1, 120, .inl ftsp))] (fun (r : Int32) (u : Int32 × Nat × Nat × Int32 × Nat × (Nat → Int32)) => (r = 1 ∨ r = 0) ∧ (u.2.1 ≤ 240 ∧ u.2.2.1 ≤ 240 ∧ u.2.2.2.2.1 ≤ 120)) (fun u : Int32 × Nat × Nat × Int32 × Nat × (Nat → Int32) => [(h0, .inr (10, [.ref tby, .int (nI kt), .ref tln, .ref tsp, .int u.1, .int (nI u.2.1), .int (nI u.2.2.1), .int u.2.2.2.1])), (tby, .inl (G.2.1, 240, .inl fby)), (tsp, .inr (8, [.int 120, .int 1, .ref tspc, .int (nI u.2.2.2.2.1)])), (tspc, .inl (G.2.1, 120, .inl u.2.2.2.2.2))]) := by
  refine MIo.start (by decide +kernel) (Nat.le_of_ble_eq_true rfl) ?_
  intro p e s m below meth c A ls hC hK hP hD hS hA hl hO
  have hl : lv_has ls 4 [(0, .ref h0), (1, .int 4)] := hl
  obtain ⟨hx, hb, hr, hml, hB, hown, hlocks, hnm⟩ := id hC
  refine lv_iconst (v := 0) hx hb dX10_takesOne_0 (by decide) ?_
  refine lv_istore_n (lv' := [(2, .int 0), (0, .ref h0), (1, .int 4)]) hx hb dX10_takesOne_1 rfl hl (by decide) rfl (fun ls hl => ?_)
  refine lv_iconst (v := 0) hx hb dX10_takesOne_2 (by decide) ?_
  refine lv_istore_n (lv' := [(3, .int 0), (2, .int 0), (0, .ref h0), (1, .int 4)]) hx hb dX10_takesOne_3 rfl hl (by decide) rfl (fun ls hl => ?_)
  have keyP : ∀ (nP kP : Nat) (tu : Int32) (vkd : Int32) (vtf : Int32) (vks : Nat) (vkn : Nat) (H : Heap) (locs : List Loc) (ls : Array Slot), kP + nP = 240 → (vks ≤ 240) → (vkn ≤ 240) → va_P G.1 vwCl [(h0, .inr (10, [.ref tby, .int (nI kt), .ref tln, .ref tsp, .int vkd, .int (nI vks), .int (nI vkn), .int vtf])), (tby, .inl (G.2.1, 240, .inl fby)), (tsp, .inr (8, [.int 120, .int 1, .ref tspc, .int (nI ksp)])), (tspc, .inl (G.2.1, 120, .inl ftsp))] H → va_D A [(h0, .inr (10, [.ref tby, .int (nI kt), .ref tln, .ref tsp, .int vkd, .int (nI vks), .int (nI vkn), .int vtf])), (tby, .inl (G.2.1, 240, .inl fby)), (tsp, .inr (8, [.int 120, .int 1, .ref tspc, .int (nI ksp)])), (tspc, .inl (G.2.1, 120, .inl ftsp))] → va_S A s.heap H locs → lv_has ls 4 [(3, .int (nI kP)), (2, .int tu), (0, .ref h0), (1, .int 4)] → W p l e (RM 9 0 0) s m ([.ref h0, .int 4] : List Value).toArray below meth c H locs 0 0 (MQ below (QI G (fun (r : Int32) (u : Int32 × Nat × Nat × Int32 × Nat × (Nat → Int32)) => (r = 1 ∨ r = 0) ∧ (u.2.1 ≤ 240 ∧ u.2.2.1 ≤ 240 ∧ u.2.2.2.2.1 ≤ 120)) (fun u : Int32 × Nat × Nat × Int32 × Nat × (Nat → Int32) => [(h0, .inr (10, [.ref tby, .int (nI kt), .ref tln, .ref tsp, .int u.1, .int (nI u.2.1), .int (nI u.2.2.1), .int u.2.2.2.1])), (tby, .inl (G.2.1, 240, .inl fby)), (tsp, .inr (8, [.int 120, .int 1, .ref tspc, .int (nI u.2.2.2.2.1)])), (tspc, .inl (G.2.1, 120, .inl u.2.2.2.2.2))]) A) ([.ref h0, .int 4] : List Value).toArray s 0 0 A) (F0 m 4 ls []) := by
    intro nP
    induction nP with
    | zero =>
      intro kP tu vkd vtf vks vkn H locs ls hkP hvks hvkn hP hD hS hl
      obtain rfl : 240 = kP := by omega
      have hl : lv_has ls 4 [(3, .int 240), (2, .int tu), (0, .ref h0), (1, .int 4)] := hl
      refine lv_iload_n hx hb dX10_takesOne_4 rfl (lv_at hl 0 rfl) ?_
      refine lv_sipush (v := 240) hx hb dX10_takesOne_5 (by decide) ?_
      refine lv_icmp_ge (tgt := 40) hx hb dX10_takesOne_8 (by decide) (fun _ => ?_) (fun c9 => absurd (by decide) c9)
      refine lv_aload_n hx hb dX10_takesOne_40 rfl (lv_at hl 2 rfl) ?_
      refine gf_X10_31 hC rfl hK hP 0 rfl rfl dX10_takesOne_41 ?_
      refine lv_bipush (v := 40) hx hb dX10_takesOne_44 (by decide) ?_
      refine lv_icmp_eq (tgt := 58) hx hb dX10_takesOne_46 (by decide) (fun c_46_2762 => ?_) (fun c_46_2762 => ?_)
      · refine lv_iload_n hx hb dX10_takesOne_58 rfl (lv_at hl 3 rfl) ?_
        refine lv_iconst (v := 4) hx hb dX10_takesOne_59 (by decide) ?_
        refine lv_icmp_lt (tgt := 68) hx hb dX10_takesOne_60 (by decide) (fun c9 => absurd c9 (by decide)) (fun _ => ?_)
        refine lv_aload_n hx hb dX10_takesOne_63 rfl (lv_at hl 2 rfl) ?_
        refine iV (wr := [(tby, .inl (G.2.1, 240, .inl fby)), (tsp, .inr (8, [.int 120, .int 1, .ref tspc, .int (nI ksp)])), (tspc, .inl (G.2.1, 120, .inl ftsp))]) hC hK hl hP hD hS hA (t_refuse l G h0 tby kt tln tsp vkd vks vkn vtf) si_X10_106 [0] [1, 2, 3] rfl rfl (by decide) rfl (by decide) (by decide) rfl rfl rfl rfl rfl (Nat.le_of_ble_eq_true rfl) ⟨Nat.le_of_ble_eq_true rfl, Nat.le_of_ble_eq_true rfl⟩ ⟨Nat.le_of_ble_eq_true rfl, Nat.le_of_ble_eq_true rfl⟩ dX10_takesOne_64 (fun r2763 u2764 H locs hr2763 hP hD hS => ?_)
        obtain ⟨tf12765, rfl⟩ : ∃ z9, z9 = u2764 := ⟨_, rfl⟩
        try dsimp only at hr2763
        have hP : va_P G.1 vwCl [(tby, .inl (G.2.1, 240, .inl fby)), (tsp, .inr (8, [.int 120, .int 1, .ref tspc, .int (nI ksp)])), (tspc, .inl (G.2.1, 120, .inl ftsp)), (h0, .inr (10, [.ref tby, .int (nI kt), .ref tln, .ref tsp, .int vkd, .int (nI vks), .int (nI vkn), .int tf12765]))] H := hP
        have hD : va_D A [(tby, .inl (G.2.1, 240, .inl fby)), (tsp, .inr (8, [.int 120, .int 1, .ref tspc, .int (nI ksp)])), (tspc, .inl (G.2.1, 120, .inl ftsp)), (h0, .inr (10, [.ref tby, .int (nI kt), .ref tln, .ref tsp, .int vkd, .int (nI vks), .int (nI vkn), .int tf12765]))] := hD
        obtain rfl := hr2763
        exact RI (v := 0) hC hP hD hS [3, 0, 1, 2] (vkd, vks, vkn, tf12765, ksp, ftsp) rfl rfl (by decide) (⟨Or.inr (rfl), by dsimp only; omega⟩) (by decide +kernel) dX10_takesOne_67
      · refine lv_aload_n hx hb dX10_takesOne_49 rfl (lv_at hl 2 rfl) ?_
        refine iVo (wr := []) hO hC hK hl hP hD hS hA (t_takesComparison l G K h0 tby kt tln tsp vkd vks vkn vtf fby tspc ksp ftsp (by omega) (by omega) (by omega) (by omega)) si_X10_162 [0, 1, 2, 3] [] rfl rfl (by decide) rfl (by decide) (by decide) rfl rfl rfl rfl rfl (Nat.le_of_ble_eq_true rfl) ⟨Nat.le_of_ble_eq_true rfl, Nat.le_of_ble_eq_true rfl⟩ ⟨Nat.le_of_ble_eq_true rfl, Nat.le_of_ble_eq_true rfl⟩ dX10_takesOne_50 (fun r2767 u2768 H locs hr2767 hP hD hS => ?_)
        obtain ⟨kd12769, ks12770, kn12771, tf12772, ksp12773, gtsp2774⟩ := u2768
        try dsimp only at hr2767
        have hP : va_P G.1 vwCl [(h0, .inr (10, [.ref tby, .int (nI kt), .ref tln, .ref tsp, .int kd12769, .int (nI ks12770), .int (nI kn12771), .int tf12772])), (tby, .inl (G.2.1, 240, .inl fby)), (tsp, .inr (8, [.int 120, .int 1, .ref tspc, .int (nI ksp12773)])), (tspc, .inl (G.2.1, 120, .inl gtsp2774))] H := hP
        have hD : va_D A [(h0, .inr (10, [.ref tby, .int (nI kt), .ref tln, .ref tsp, .int kd12769, .int (nI ks12770), .int (nI kn12771), .int tf12772])), (tby, .inl (G.2.1, 240, .inl fby)), (tsp, .inr (8, [.int 120, .int 1, .ref tspc, .int (nI ksp12773)])), (tspc, .inl (G.2.1, 120, .inl gtsp2774))] := hD
        obtain ⟨hr2767, w2775⟩ := hr2767
        rcases hr2767 with rfl | rfl
        · refine lv_if_ne (tgt := 93) hx hb dX10_takesOne_53 (by decide) (fun _ => ?_) (fun c9 => absurd c9 (by decide))
          refine lv_iload_n hx hb dX10_takesOne_93 rfl (lv_at hl 1 rfl) ?_
          refine lv_if_eq (tgt := 102) hx hb dX10_takesOne_94 (by decide) (fun c_94_2777 => ?_) (fun c_94_2777 => ?_)
          · refine lv_iconst (v := 1) hx hb dX10_takesOne_102 (by decide) ?_
            exact RI (v := 1) hC hP hD hS [0, 1, 2, 3] (kd12769, ks12770, kn12771, tf12772, ksp12773, gtsp2774) rfl rfl (by decide) (⟨Or.inl (rfl), by dsimp only; omega⟩) (by decide +kernel) dX10_takesOne_103
          · refine lv_aload_n hx hb dX10_takesOne_97 rfl (lv_at hl 2 rfl) ?_
            refine lv_iconst (v := (-1)) hx hb dX10_takesOne_98 (by decide) ?_
            refine vV (wr := [(tby, .inl (G.2.1, 240, .inl fby))]) hC hK hl hP hD hS hA (t_addStep l G h0 (-1) tby kt tln tsp kd12769 ks12770 kn12771 tf12772 tspc ksp12773 gtsp2774 (by omega)) si_X10_152 [0, 2, 3] [1] rfl rfl (by decide) rfl (by decide) (by decide) rfl rfl rfl rfl rfl (Nat.le_of_ble_eq_true rfl) ⟨Nat.le_of_ble_eq_true rfl, Nat.le_of_ble_eq_true rfl⟩ ⟨Nat.le_of_ble_eq_true rfl, Nat.le_of_ble_eq_true rfl⟩ dX10_takesOne_99 (fun u2779 H locs hr2778 hP hD hS => ?_)
            obtain ⟨ksp12780, gtsp2781⟩ := u2779
            try dsimp only at hr2778
            have hP : va_P G.1 vwCl [(tby, .inl (G.2.1, 240, .inl fby)), (h0, .inr (10, [.ref tby, .int (nI kt), .ref tln, .ref tsp, .int kd12769, .int (nI ks12770), .int (nI kn12771), .int tf12772])), (tsp, .inr (8, [.int 120, .int 1, .ref tspc, .int (nI ksp12780)])), (tspc, .inl (G.2.1, 120, .inl gtsp2781))] H := hP
            have hD : va_D A [(tby, .inl (G.2.1, 240, .inl fby)), (h0, .inr (10, [.ref tby, .int (nI kt), .ref tln, .ref tsp, .int kd12769, .int (nI ks12770), .int (nI kn12771), .int tf12772])), (tsp, .inr (8, [.int 120, .int 1, .ref tspc, .int (nI ksp12780)])), (tspc, .inl (G.2.1, 120, .inl gtsp2781))] := hD
            have w2782 := hr2778
            refine lv_iconst (v := 1) hx hb dX10_takesOne_102 (by decide) ?_
            exact RI (v := 1) hC hP hD hS [1, 0, 2, 3] (kd12769, ks12770, kn12771, tf12772, ksp12780, gtsp2781) rfl rfl (by decide) (⟨Or.inl (rfl), by dsimp only; omega⟩) (by decide +kernel) dX10_takesOne_103
        · refine lv_if_ne (tgt := 93) hx hb dX10_takesOne_53 (by decide) (fun c9 => absurd (by decide) c9) (fun _ => ?_)
          refine lv_iconst (v := 0) hx hb dX10_takesOne_56 (by decide) ?_
          exact RI (v := 0) hC hP hD hS [0, 1, 2, 3] (kd12769, ks12770, kn12771, tf12772, ksp12773, gtsp2774) rfl rfl (by decide) (⟨Or.inr (rfl), by dsimp only; omega⟩) (by decide +kernel) dX10_takesOne_57
    | succ nP ihP =>
      intro kP tu vkd vtf vks vkn H locs ls hkP hvks hvkn hP hD hS hl
      refine lv_iload_n hx hb dX10_takesOne_4 rfl (lv_at hl 0 rfl) ?_
      refine lv_sipush (v := 240) hx hb dX10_takesOne_5 (by decide) ?_
      refine lv_icmp_ge (tgt := 40) hx hb dX10_takesOne_8 (by decide) (fun c9 => absurd c9 (nI_ge (a := kP) (b := 240) (by omega) (by omega))) (fun _ => ?_)
      refine lv_aload_n hx hb dX10_takesOne_11 rfl (lv_at hl 2 rfl) ?_
      refine va_ldcS (index := 160) (tx := "not") hx hb hown (hO.2.1 10 (by decide)) dX10_takesOne_12 ?_
      refine pVo hO hS hC hK hl hP hD (t_isName l G K 10 h0 tby kt tln tsp vkd vks vkn vtf fby (by omega) (by omega) (by omega) ((by decide))) si_X10_102 [0, 1] rfl rfl (by decide) rfl rfl rfl rfl rfl (Nat.le_of_ble_eq_true rfl) ⟨Nat.le_of_ble_eq_true rfl, Nat.le_of_ble_eq_true rfl⟩ ⟨by first | exact Nat.le_of_ble_eq_true rfl | exact Nat.zero_le _, by first | exact Nat.le_of_ble_eq_true rfl | exact Nat.zero_le _⟩ dX10_takesOne_14 (fun r2783 hr2783 => ?_)
      rcases hr2783 with rfl | rfl
      · refine lv_if_eq (tgt := 40) hx hb dX10_takesOne_17 (by decide) (fun c9 => absurd c9 (by decide)) (fun _ => ?_)
        refine lv_aload_n hx hb dX10_takesOne_20 rfl (lv_at hl 2 rfl) ?_
        refine vV (wr := [(tsp, .inr (8, [.int 120, .int 1, .ref tspc, .int (nI ksp)])), (tspc, .inl (G.2.1, 120, .inl ftsp))]) hC hK hl hP hD hS hA (t_advance l G h0 tby kt tln tsp vkd vks vkn vtf fby (by omega) (by omega) (by omega)) si_X10_47 [0, 1] [2, 3] rfl rfl (by decide) rfl (by decide) (by decide) rfl rfl rfl rfl rfl (Nat.le_of_ble_eq_true rfl) ⟨Nat.le_of_ble_eq_true rfl, Nat.le_of_ble_eq_true rfl⟩ ⟨Nat.le_of_ble_eq_true rfl, Nat.le_of_ble_eq_true rfl⟩ dX10_takesOne_21 (fun u2786 H locs hr2785 hP hD hS => ?_)
        obtain ⟨kd12787, ks12788, kn12789⟩ := u2786
        try dsimp only at hr2785
        have hP : va_P G.1 vwCl [(tsp, .inr (8, [.int 120, .int 1, .ref tspc, .int (nI ksp)])), (tspc, .inl (G.2.1, 120, .inl ftsp)), (h0, .inr (10, [.ref tby, .int (nI kt), .ref tln, .ref tsp, .int kd12787, .int (nI ks12788), .int (nI kn12789), .int vtf])), (tby, .inl (G.2.1, 240, .inl fby))] H := hP
        have hD : va_D A [(tsp, .inr (8, [.int 120, .int 1, .ref tspc, .int (nI ksp)])), (tspc, .inl (G.2.1, 120, .inl ftsp)), (h0, .inr (10, [.ref tby, .int (nI kt), .ref tln, .ref tsp, .int kd12787, .int (nI ks12788), .int (nI kn12789), .int vtf])), (tby, .inl (G.2.1, 240, .inl fby))] := hD
        have w2790 := hr2785
        refine lv_iload_n hx hb dX10_takesOne_24 rfl (lv_at hl 1 rfl) ?_
        refine lv_if_ne (tgt := 32) hx hb dX10_takesOne_25 (by decide) (fun c_25_2791 => ?_) (fun c_25_2791 => ?_)
        · refine lv_iconst (v := 0) hx hb dX10_takesOne_32 (by decide) ?_
          refine lv_istore_n (lv' := [(2, .int 0), (3, .int (nI kP)), (0, .ref h0), (1, .int 4)]) hx hb dX10_takesOne_33 rfl hl (by decide) rfl (fun ls hl => ?_)
          refine lv_iinc (v := nI (kP + 1)) (lv' := [(3, .int (nI (kP + 1))), (2, .int 0), (0, .ref h0), (1, .int 4)]) hx hb dX10_takesOne_34 hl (k := 1) rfl (nI_1 _) (by decide) rfl (fun ls hl => ?_)
          refine lv_goto (tgt := 4) hx hb dX10_takesOne_37 (by decide) ?_
          have hP := hP.sub (ws' := [(h0, .inr (10, [.ref tby, .int (nI kt), .ref tln, .ref tsp, .int kd12787, .int (nI ks12788), .int (nI kn12789), .int vtf])), (tby, .inl (G.2.1, 240, .inl fby)), (tsp, .inr (8, [.int 120, .int 1, .ref tspc, .int (nI ksp)])), (tspc, .inl (G.2.1, 120, .inl ftsp))]) [2, 3, 0, 1] rfl
          have hD := hD.sub (ws' := [(h0, .inr (10, [.ref tby, .int (nI kt), .ref tln, .ref tsp, .int kd12787, .int (nI ks12788), .int (nI kn12789), .int vtf])), (tby, .inl (G.2.1, 240, .inl fby)), (tsp, .inr (8, [.int 120, .int 1, .ref tspc, .int (nI ksp)])), (tspc, .inl (G.2.1, 120, .inl ftsp))]) [2, 3, 0, 1] (by decide) rfl
          exact ihP (kP + 1) 0 kd12787 vtf ks12788 kn12789 _ _ _ (by omega) (by first | assumption | exact Or.inl rfl | exact Or.inr rfl | omega) (by first | assumption | exact Or.inl rfl | exact Or.inr rfl | omega) hP hD hS (lv_sub hl [0, 1, 2, 3] rfl)
        · refine lv_iconst (v := 1) hx hb dX10_takesOne_28 (by decide) ?_
          refine lv_goto (tgt := 33) hx hb dX10_takesOne_29 (by decide) ?_
          refine lv_istore_n (lv' := [(2, .int 1), (3, .int (nI kP)), (0, .ref h0), (1, .int 4)]) hx hb dX10_takesOne_33 rfl hl (by decide) rfl (fun ls hl => ?_)
          refine lv_iinc (v := nI (kP + 1)) (lv' := [(3, .int (nI (kP + 1))), (2, .int 1), (0, .ref h0), (1, .int 4)]) hx hb dX10_takesOne_34 hl (k := 1) rfl (nI_1 _) (by decide) rfl (fun ls hl => ?_)
          refine lv_goto (tgt := 4) hx hb dX10_takesOne_37 (by decide) ?_
          have hP := hP.sub (ws' := [(h0, .inr (10, [.ref tby, .int (nI kt), .ref tln, .ref tsp, .int kd12787, .int (nI ks12788), .int (nI kn12789), .int vtf])), (tby, .inl (G.2.1, 240, .inl fby)), (tsp, .inr (8, [.int 120, .int 1, .ref tspc, .int (nI ksp)])), (tspc, .inl (G.2.1, 120, .inl ftsp))]) [2, 3, 0, 1] rfl
          have hD := hD.sub (ws' := [(h0, .inr (10, [.ref tby, .int (nI kt), .ref tln, .ref tsp, .int kd12787, .int (nI ks12788), .int (nI kn12789), .int vtf])), (tby, .inl (G.2.1, 240, .inl fby)), (tsp, .inr (8, [.int 120, .int 1, .ref tspc, .int (nI ksp)])), (tspc, .inl (G.2.1, 120, .inl ftsp))]) [2, 3, 0, 1] (by decide) rfl
          exact ihP (kP + 1) 1 kd12787 vtf ks12788 kn12789 _ _ _ (by omega) (by first | assumption | exact Or.inl rfl | exact Or.inr rfl | omega) (by first | assumption | exact Or.inl rfl | exact Or.inr rfl | omega) hP hD hS (lv_sub hl [0, 1, 2, 3] rfl)
      · refine lv_if_eq (tgt := 40) hx hb dX10_takesOne_17 (by decide) (fun _ => ?_) (fun c9 => absurd (by decide) c9)
        refine lv_aload_n hx hb dX10_takesOne_40 rfl (lv_at hl 2 rfl) ?_
        refine gf_X10_31 hC rfl hK hP 0 rfl rfl dX10_takesOne_41 ?_
        refine lv_bipush (v := 40) hx hb dX10_takesOne_44 (by decide) ?_
        refine lv_icmp_eq (tgt := 58) hx hb dX10_takesOne_46 (by decide) (fun c_46_2792 => ?_) (fun c_46_2792 => ?_)
        · refine lv_iload_n hx hb dX10_takesOne_58 rfl (lv_at hl 3 rfl) ?_
          refine lv_iconst (v := 4) hx hb dX10_takesOne_59 (by decide) ?_
          refine lv_icmp_lt (tgt := 68) hx hb dX10_takesOne_60 (by decide) (fun c9 => absurd c9 (by decide)) (fun _ => ?_)
          refine lv_aload_n hx hb dX10_takesOne_63 rfl (lv_at hl 2 rfl) ?_
          refine iV (wr := [(tby, .inl (G.2.1, 240, .inl fby)), (tsp, .inr (8, [.int 120, .int 1, .ref tspc, .int (nI ksp)])), (tspc, .inl (G.2.1, 120, .inl ftsp))]) hC hK hl hP hD hS hA (t_refuse l G h0 tby kt tln tsp vkd vks vkn vtf) si_X10_106 [0] [1, 2, 3] rfl rfl (by decide) rfl (by decide) (by decide) rfl rfl rfl rfl rfl (Nat.le_of_ble_eq_true rfl) ⟨Nat.le_of_ble_eq_true rfl, Nat.le_of_ble_eq_true rfl⟩ ⟨Nat.le_of_ble_eq_true rfl, Nat.le_of_ble_eq_true rfl⟩ dX10_takesOne_64 (fun r2793 u2794 H locs hr2793 hP hD hS => ?_)
          obtain ⟨tf12795, rfl⟩ : ∃ z9, z9 = u2794 := ⟨_, rfl⟩
          try dsimp only at hr2793
          have hP : va_P G.1 vwCl [(tby, .inl (G.2.1, 240, .inl fby)), (tsp, .inr (8, [.int 120, .int 1, .ref tspc, .int (nI ksp)])), (tspc, .inl (G.2.1, 120, .inl ftsp)), (h0, .inr (10, [.ref tby, .int (nI kt), .ref tln, .ref tsp, .int vkd, .int (nI vks), .int (nI vkn), .int tf12795]))] H := hP
          have hD : va_D A [(tby, .inl (G.2.1, 240, .inl fby)), (tsp, .inr (8, [.int 120, .int 1, .ref tspc, .int (nI ksp)])), (tspc, .inl (G.2.1, 120, .inl ftsp)), (h0, .inr (10, [.ref tby, .int (nI kt), .ref tln, .ref tsp, .int vkd, .int (nI vks), .int (nI vkn), .int tf12795]))] := hD
          obtain rfl := hr2793
          exact RI (v := 0) hC hP hD hS [3, 0, 1, 2] (vkd, vks, vkn, tf12795, ksp, ftsp) rfl rfl (by decide) (⟨Or.inr (rfl), by dsimp only; omega⟩) (by decide +kernel) dX10_takesOne_67
        · refine lv_aload_n hx hb dX10_takesOne_49 rfl (lv_at hl 2 rfl) ?_
          refine iVo (wr := []) hO hC hK hl hP hD hS hA (t_takesComparison l G K h0 tby kt tln tsp vkd vks vkn vtf fby tspc ksp ftsp (by omega) (by omega) (by omega) (by omega)) si_X10_162 [0, 1, 2, 3] [] rfl rfl (by decide) rfl (by decide) (by decide) rfl rfl rfl rfl rfl (Nat.le_of_ble_eq_true rfl) ⟨Nat.le_of_ble_eq_true rfl, Nat.le_of_ble_eq_true rfl⟩ ⟨Nat.le_of_ble_eq_true rfl, Nat.le_of_ble_eq_true rfl⟩ dX10_takesOne_50 (fun r2797 u2798 H locs hr2797 hP hD hS => ?_)
          obtain ⟨kd12799, ks12800, kn12801, tf12802, ksp12803, gtsp2804⟩ := u2798
          try dsimp only at hr2797
          have hP : va_P G.1 vwCl [(h0, .inr (10, [.ref tby, .int (nI kt), .ref tln, .ref tsp, .int kd12799, .int (nI ks12800), .int (nI kn12801), .int tf12802])), (tby, .inl (G.2.1, 240, .inl fby)), (tsp, .inr (8, [.int 120, .int 1, .ref tspc, .int (nI ksp12803)])), (tspc, .inl (G.2.1, 120, .inl gtsp2804))] H := hP
          have hD : va_D A [(h0, .inr (10, [.ref tby, .int (nI kt), .ref tln, .ref tsp, .int kd12799, .int (nI ks12800), .int (nI kn12801), .int tf12802])), (tby, .inl (G.2.1, 240, .inl fby)), (tsp, .inr (8, [.int 120, .int 1, .ref tspc, .int (nI ksp12803)])), (tspc, .inl (G.2.1, 120, .inl gtsp2804))] := hD
          obtain ⟨hr2797, w2805⟩ := hr2797
          rcases hr2797 with rfl | rfl
          · refine lv_if_ne (tgt := 93) hx hb dX10_takesOne_53 (by decide) (fun _ => ?_) (fun c9 => absurd c9 (by decide))
            refine lv_iload_n hx hb dX10_takesOne_93 rfl (lv_at hl 1 rfl) ?_
            refine lv_if_eq (tgt := 102) hx hb dX10_takesOne_94 (by decide) (fun c_94_2807 => ?_) (fun c_94_2807 => ?_)
            · refine lv_iconst (v := 1) hx hb dX10_takesOne_102 (by decide) ?_
              exact RI (v := 1) hC hP hD hS [0, 1, 2, 3] (kd12799, ks12800, kn12801, tf12802, ksp12803, gtsp2804) rfl rfl (by decide) (⟨Or.inl (rfl), by dsimp only; omega⟩) (by decide +kernel) dX10_takesOne_103
            · refine lv_aload_n hx hb dX10_takesOne_97 rfl (lv_at hl 2 rfl) ?_
              refine lv_iconst (v := (-1)) hx hb dX10_takesOne_98 (by decide) ?_
              refine vV (wr := [(tby, .inl (G.2.1, 240, .inl fby))]) hC hK hl hP hD hS hA (t_addStep l G h0 (-1) tby kt tln tsp kd12799 ks12800 kn12801 tf12802 tspc ksp12803 gtsp2804 (by omega)) si_X10_152 [0, 2, 3] [1] rfl rfl (by decide) rfl (by decide) (by decide) rfl rfl rfl rfl rfl (Nat.le_of_ble_eq_true rfl) ⟨Nat.le_of_ble_eq_true rfl, Nat.le_of_ble_eq_true rfl⟩ ⟨Nat.le_of_ble_eq_true rfl, Nat.le_of_ble_eq_true rfl⟩ dX10_takesOne_99 (fun u2809 H locs hr2808 hP hD hS => ?_)
              obtain ⟨ksp12810, gtsp2811⟩ := u2809
              try dsimp only at hr2808
              have hP : va_P G.1 vwCl [(tby, .inl (G.2.1, 240, .inl fby)), (h0, .inr (10, [.ref tby, .int (nI kt), .ref tln, .ref tsp, .int kd12799, .int (nI ks12800), .int (nI kn12801), .int tf12802])), (tsp, .inr (8, [.int 120, .int 1, .ref tspc, .int (nI ksp12810)])), (tspc, .inl (G.2.1, 120, .inl gtsp2811))] H := hP
              have hD : va_D A [(tby, .inl (G.2.1, 240, .inl fby)), (h0, .inr (10, [.ref tby, .int (nI kt), .ref tln, .ref tsp, .int kd12799, .int (nI ks12800), .int (nI kn12801), .int tf12802])), (tsp, .inr (8, [.int 120, .int 1, .ref tspc, .int (nI ksp12810)])), (tspc, .inl (G.2.1, 120, .inl gtsp2811))] := hD
              have w2812 := hr2808
              refine lv_iconst (v := 1) hx hb dX10_takesOne_102 (by decide) ?_
              exact RI (v := 1) hC hP hD hS [1, 0, 2, 3] (kd12799, ks12800, kn12801, tf12802, ksp12810, gtsp2811) rfl rfl (by decide) (⟨Or.inl (rfl), by dsimp only; omega⟩) (by decide +kernel) dX10_takesOne_103
          · refine lv_if_ne (tgt := 93) hx hb dX10_takesOne_53 (by decide) (fun c9 => absurd (by decide) c9) (fun _ => ?_)
            refine lv_iconst (v := 0) hx hb dX10_takesOne_56 (by decide) ?_
            exact RI (v := 0) hC hP hD hS [0, 1, 2, 3] (kd12799, ks12800, kn12801, tf12802, ksp12803, gtsp2804) rfl rfl (by decide) (⟨Or.inr (rfl), by dsimp only; omega⟩) (by decide +kernel) dX10_takesOne_57
  exact keyP 240 0 0 tkd tf9 ks kn _ _ _ (by omega) (by first | assumption | exact Or.inl rfl | exact Or.inr rfl | omega) (by first | assumption | exact Or.inl rfl | exact Or.inr rfl | omega) hP hD hS (lv_sub hl [0, 1, 2, 3] rfl)
set_option maxHeartbeats 4000000 in
set_option maxRecDepth 100000 in
theorem t_all4 (l : Launch) (G : GG) (K : OO) (h0 : Nat) (tby : Nat) (kt : Nat) (tln : Nat) (tsp : Nat) (tkd : Int32) (ks : Nat) (kn : Nat) (tf9 : Int32) (fby : Nat → Int32) (tspc : Nat) (ksp : Nat) (ftsp : Nat → Int32) (hkt : kt ≤ 240) (hks : ks ≤ 240) (hkn : kn ≤ 240) (hksp : ksp ≤ 120) : MIo l G K yX10_takesAll cX10_takesAll 3 (some .boolean) 10 0 0 [.ref h0, .int 4] [(h0, .inr (10, [.ref tby, .int (nI kt), .ref tln, .ref tsp, .int tkd, .int (nI ks), .int (nI kn), .int tf9])), (tby, .inl (G.2.1, 240, .inl fby)), (tsp, .inr (8, [.int 120, .int 1, .ref tspc, .int (nI ksp)])), (tspc, .inl (G.2.1, 120, .inl ftsp))] (fun (r : Int32) (u : Int32 × Nat × Nat × Int32 × Nat × (Nat → Int32)) => (r = 1 ∨ r = 0) ∧ (u.2.1 ≤ 240 ∧ u.2.2.1 ≤ 240 ∧ u.2.2.2.2.1 ≤ 120)) (fun u : Int32 × Nat × Nat × Int32 × Nat × (Nat → Int32) => [(h0, .inr (10, [.ref tby, .int (nI kt), .ref tln, .ref tsp, .int u.1, .int (nI u.2.1), .int (nI u.2.2.1), .int u.2.2.2.1])), (tby, .inl (G.2.1, 240, .inl fby)), (tsp, .inr (8, [.int 120, .int 1, .ref tspc, .int (nI u.2.2.2.2.1)])), (tspc, .inl (G.2.1, 120, .inl u.2.2.2.2.2))]) := by
  refine MIo.start (by decide +kernel) (Nat.le_of_ble_eq_true rfl) ?_
  intro p e s m below meth c A ls hC hK hP hD hS hA hl hO
  have hl : lv_has ls 3 [(0, .ref h0), (1, .int 4)] := hl
  obtain ⟨hx, hb, hr, hml, hB, hown, hlocks, hnm⟩ := id hC
  refine lv_aload_n hx hb dX10_takesAll_0 rfl (lv_at hl 0 rfl) ?_
  refine lv_iload_n hx hb dX10_takesAll_1 rfl (lv_at hl 1 rfl) ?_
  refine iVo (wr := []) hO hC hK hl hP hD hS hA (t_one4 l G K h0 tby kt tln tsp tkd ks kn tf9 fby tspc ksp ftsp (by omega) (by omega) (by omega) (by omega)) si_X10_155 [0, 1, 2, 3] [] rfl rfl (by decide) rfl (by decide) (by decide) rfl rfl rfl rfl rfl (Nat.le_of_ble_eq_true rfl) ⟨Nat.le_of_ble_eq_true rfl, Nat.le_of_ble_eq_true rfl⟩ ⟨Nat.le_of_ble_eq_true rfl, Nat.le_of_ble_eq_true rfl⟩ dX10_takesAll_2 (fun r2813 u2814 H locs hr2813 hP hD hS => ?_)
  obtain ⟨kd12815, ks12816, kn12817, tf12818, ksp12819, gtsp2820⟩ := u2814
  try dsimp only at hr2813
  have hP : va_P G.1 vwCl [(h0, .inr (10, [.ref tby, .int (nI kt), .ref tln, .ref tsp, .int kd12815, .int (nI ks12816), .int (nI kn12817), .int tf12818])), (tby, .inl (G.2.1, 240, .inl fby)), (tsp, .inr (8, [.int 120, .int 1, .ref tspc, .int (nI ksp12819)])), (tspc, .inl (G.2.1, 120, .inl gtsp2820))] H := hP
  have hD : va_D A [(h0, .inr (10, [.ref tby, .int (nI kt), .ref tln, .ref tsp, .int kd12815, .int (nI ks12816), .int (nI kn12817), .int tf12818])), (tby, .inl (G.2.1, 240, .inl fby)), (tsp, .inr (8, [.int 120, .int 1, .ref tspc, .int (nI ksp12819)])), (tspc, .inl (G.2.1, 120, .inl gtsp2820))] := hD
  obtain ⟨hr2813, w2821⟩ := hr2813
  rcases hr2813 with rfl | rfl
  · refine lv_if_ne (tgt := 10) hx hb dX10_takesAll_5 (by decide) (fun _ => ?_) (fun c9 => absurd c9 (by decide))
    refine lv_iconst (v := 0) hx hb dX10_takesAll_10 (by decide) ?_
    refine lv_istore_n (lv' := [(2, .int 0), (0, .ref h0), (1, .int 4)]) hx hb dX10_takesAll_11 rfl hl (by decide) rfl (fun ls hl => ?_)
    have keyP : ∀ (nP kP : Nat) (vkd : Int32) (vtf : Int32) (vtsp : Nat → Int32) (vks : Nat) (vkn : Nat) (vksp : Nat) (H : Heap) (locs : List Loc) (ls : Array Slot), kP + nP = 240 → (vks ≤ 240) → (vkn ≤ 240) → (vksp ≤ 120) → va_P G.1 vwCl [(h0, .inr (10, [.ref tby, .int (nI kt), .ref tln, .ref tsp, .int vkd, .int (nI vks), .int (nI vkn), .int vtf])), (tby, .inl (G.2.1, 240, .inl fby)), (tsp, .inr (8, [.int 120, .int 1, .ref tspc, .int (nI vksp)])), (tspc, .inl (G.2.1, 120, .inl vtsp))] H → va_D A [(h0, .inr (10, [.ref tby, .int (nI kt), .ref tln, .ref tsp, .int vkd, .int (nI vks), .int (nI vkn), .int vtf])), (tby, .inl (G.2.1, 240, .inl fby)), (tsp, .inr (8, [.int 120, .int 1, .ref tspc, .int (nI vksp)])), (tspc, .inl (G.2.1, 120, .inl vtsp))] → va_S A s.heap H locs → lv_has ls 3 [(2, .int (nI kP)), (0, .ref h0), (1, .int 4)] → W p l e (RM 10 0 0) s m ([.ref h0, .int 4] : List Value).toArray below meth c H locs 0 0 (MQ below (QI G (fun (r : Int32) (u : Int32 × Nat × Nat × Int32 × Nat × (Nat → Int32)) => (r = 1 ∨ r = 0) ∧ (u.2.1 ≤ 240 ∧ u.2.2.1 ≤ 240 ∧ u.2.2.2.2.1 ≤ 120)) (fun u : Int32 × Nat × Nat × Int32 × Nat × (Nat → Int32) => [(h0, .inr (10, [.ref tby, .int (nI kt), .ref tln, .ref tsp, .int u.1, .int (nI u.2.1), .int (nI u.2.2.1), .int u.2.2.2.1])), (tby, .inl (G.2.1, 240, .inl fby)), (tsp, .inr (8, [.int 120, .int 1, .ref tspc, .int (nI u.2.2.2.2.1)])), (tspc, .inl (G.2.1, 120, .inl u.2.2.2.2.2))]) A) ([.ref h0, .int 4] : List Value).toArray s 0 0 A) (F0 m 12 ls []) := by
      intro nP
      induction nP with
      | zero =>
        intro kP vkd vtf vtsp vks vkn vksp H locs ls hkP hvks hvkn hvksp hP hD hS hl
        obtain rfl : 240 = kP := by omega
        have hl : lv_has ls 3 [(2, .int 240), (0, .ref h0), (1, .int 4)] := hl
        refine lv_iload_n hx hb dX10_takesAll_12 rfl (lv_at hl 0 rfl) ?_
        refine lv_sipush (v := 240) hx hb dX10_takesAll_13 (by decide) ?_
        refine lv_icmp_ge (tgt := 54) hx hb dX10_takesAll_16 (by decide) (fun _ => ?_) (fun c9 => absurd (by decide) c9)
        refine lv_iconst (v := 1) hx hb dX10_takesAll_54 (by decide) ?_
        exact RI (v := 1) hC hP hD hS [0, 1, 2, 3] (vkd, vks, vkn, vtf, vksp, vtsp) rfl rfl (by decide) (⟨Or.inl (rfl), by dsimp only; omega⟩) (by decide +kernel) dX10_takesAll_55
      | succ nP ihP =>
        intro kP vkd vtf vtsp vks vkn vksp H locs ls hkP hvks hvkn hvksp hP hD hS hl
        refine lv_iload_n hx hb dX10_takesAll_12 rfl (lv_at hl 0 rfl) ?_
        refine lv_sipush (v := 240) hx hb dX10_takesAll_13 (by decide) ?_
        refine lv_icmp_ge (tgt := 54) hx hb dX10_takesAll_16 (by decide) (fun c9 => absurd c9 (nI_ge (a := kP) (b := 240) (by omega) (by omega))) (fun _ => ?_)
        refine lv_aload_n hx hb dX10_takesAll_19 rfl (lv_at hl 1 rfl) ?_
        refine va_ldcS (index := 158) (tx := "and") hx hb hown (hO.2.1 9 (by decide)) dX10_takesAll_20 ?_
        refine pVo hO hS hC hK hl hP hD (t_isName l G K 9 h0 tby kt tln tsp vkd vks vkn vtf fby (by omega) (by omega) (by omega) ((by decide))) si_X10_102 [0, 1] rfl rfl (by decide) rfl rfl rfl rfl rfl (Nat.le_of_ble_eq_true rfl) ⟨Nat.le_of_ble_eq_true rfl, Nat.le_of_ble_eq_true rfl⟩ ⟨by first | exact Nat.le_of_ble_eq_true rfl | exact Nat.zero_le _, by first | exact Nat.le_of_ble_eq_true rfl | exact Nat.zero_le _⟩ dX10_takesAll_22 (fun r2823 hr2823 => ?_)
        rcases hr2823 with rfl | rfl
        · refine lv_if_eq (tgt := 54) hx hb dX10_takesAll_25 (by decide) (fun c9 => absurd c9 (by decide)) (fun _ => ?_)
          refine lv_aload_n hx hb dX10_takesAll_28 rfl (lv_at hl 1 rfl) ?_
          refine vV (wr := [(tsp, .inr (8, [.int 120, .int 1, .ref tspc, .int (nI vksp)])), (tspc, .inl (G.2.1, 120, .inl vtsp))]) hC hK hl hP hD hS hA (t_advance l G h0 tby kt tln tsp vkd vks vkn vtf fby (by omega) (by omega) (by omega)) si_X10_47 [0, 1] [2, 3] rfl rfl (by decide) rfl (by decide) (by decide) rfl rfl rfl rfl rfl (Nat.le_of_ble_eq_true rfl) ⟨Nat.le_of_ble_eq_true rfl, Nat.le_of_ble_eq_true rfl⟩ ⟨Nat.le_of_ble_eq_true rfl, Nat.le_of_ble_eq_true rfl⟩ dX10_takesAll_29 (fun u2826 H locs hr2825 hP hD hS => ?_)
          obtain ⟨kd12827, ks12828, kn12829⟩ := u2826
          try dsimp only at hr2825
          have hP : va_P G.1 vwCl [(tsp, .inr (8, [.int 120, .int 1, .ref tspc, .int (nI vksp)])), (tspc, .inl (G.2.1, 120, .inl vtsp)), (h0, .inr (10, [.ref tby, .int (nI kt), .ref tln, .ref tsp, .int kd12827, .int (nI ks12828), .int (nI kn12829), .int vtf])), (tby, .inl (G.2.1, 240, .inl fby))] H := hP
          have hD : va_D A [(tsp, .inr (8, [.int 120, .int 1, .ref tspc, .int (nI vksp)])), (tspc, .inl (G.2.1, 120, .inl vtsp)), (h0, .inr (10, [.ref tby, .int (nI kt), .ref tln, .ref tsp, .int kd12827, .int (nI ks12828), .int (nI kn12829), .int vtf])), (tby, .inl (G.2.1, 240, .inl fby))] := hD
          have w2830 := hr2825
          refine lv_aload_n hx hb dX10_takesAll_32 rfl (lv_at hl 1 rfl) ?_
          refine lv_iload_n hx hb dX10_takesAll_33 rfl (lv_at hl 2 rfl) ?_
          refine iVo (wr := []) hO hC hK hl hP hD hS hA (t_one4 l G K h0 tby kt tln tsp kd12827 ks12828 kn12829 vtf fby tspc vksp vtsp (by omega) (by omega) (by omega) (by omega)) si_X10_155 [2, 3, 0, 1] [] rfl rfl (by decide) rfl (by decide) (by decide) rfl rfl rfl rfl rfl (Nat.le_of_ble_eq_true rfl) ⟨Nat.le_of_ble_eq_true rfl, Nat.le_of_ble_eq_true rfl⟩ ⟨Nat.le_of_ble_eq_true rfl, Nat.le_of_ble_eq_true rfl⟩ dX10_takesAll_34 (fun r2831 u2832 H locs hr2831 hP hD hS => ?_)
          obtain ⟨kd12833, ks12834, kn12835, tf12836, ksp12837, gtsp2838⟩ := u2832
          try dsimp only at hr2831
          have hP : va_P G.1 vwCl [(h0, .inr (10, [.ref tby, .int (nI kt), .ref tln, .ref tsp, .int kd12833, .int (nI ks12834), .int (nI kn12835), .int tf12836])), (tby, .inl (G.2.1, 240, .inl fby)), (tsp, .inr (8, [.int 120, .int 1, .ref tspc, .int (nI ksp12837)])), (tspc, .inl (G.2.1, 120, .inl gtsp2838))] H := hP
          have hD : va_D A [(h0, .inr (10, [.ref tby, .int (nI kt), .ref tln, .ref tsp, .int kd12833, .int (nI ks12834), .int (nI kn12835), .int tf12836])), (tby, .inl (G.2.1, 240, .inl fby)), (tsp, .inr (8, [.int 120, .int 1, .ref tspc, .int (nI ksp12837)])), (tspc, .inl (G.2.1, 120, .inl gtsp2838))] := hD
          obtain ⟨hr2831, w2839⟩ := hr2831
          rcases hr2831 with rfl | rfl
          · refine lv_if_ne (tgt := 42) hx hb dX10_takesAll_37 (by decide) (fun _ => ?_) (fun c9 => absurd c9 (by decide))
            refine lv_aload_n hx hb dX10_takesAll_42 rfl (lv_at hl 1 rfl) ?_
            refine lv_bipush (v := (-2)) hx hb dX10_takesAll_43 (by decide) ?_
            refine vV (wr := [(tby, .inl (G.2.1, 240, .inl fby))]) hC hK hl hP hD hS hA (t_addStep l G h0 (-2) tby kt tln tsp kd12833 ks12834 kn12835 tf12836 tspc ksp12837 gtsp2838 (by omega)) si_X10_152 [0, 2, 3] [1] rfl rfl (by decide) rfl (by decide) (by decide) rfl rfl rfl rfl rfl (Nat.le_of_ble_eq_true rfl) ⟨Nat.le_of_ble_eq_true rfl, Nat.le_of_ble_eq_true rfl⟩ ⟨Nat.le_of_ble_eq_true rfl, Nat.le_of_ble_eq_true rfl⟩ dX10_takesAll_45 (fun u2842 H locs hr2841 hP hD hS => ?_)
            obtain ⟨ksp12843, gtsp2844⟩ := u2842
            try dsimp only at hr2841
            have hP : va_P G.1 vwCl [(tby, .inl (G.2.1, 240, .inl fby)), (h0, .inr (10, [.ref tby, .int (nI kt), .ref tln, .ref tsp, .int kd12833, .int (nI ks12834), .int (nI kn12835), .int tf12836])), (tsp, .inr (8, [.int 120, .int 1, .ref tspc, .int (nI ksp12843)])), (tspc, .inl (G.2.1, 120, .inl gtsp2844))] H := hP
            have hD : va_D A [(tby, .inl (G.2.1, 240, .inl fby)), (h0, .inr (10, [.ref tby, .int (nI kt), .ref tln, .ref tsp, .int kd12833, .int (nI ks12834), .int (nI kn12835), .int tf12836])), (tsp, .inr (8, [.int 120, .int 1, .ref tspc, .int (nI ksp12843)])), (tspc, .inl (G.2.1, 120, .inl gtsp2844))] := hD
            have w2845 := hr2841
            refine lv_iinc (v := nI (kP + 1)) (lv' := [(2, .int (nI (kP + 1))), (0, .ref h0), (1, .int 4)]) hx hb dX10_takesAll_48 hl (k := 0) rfl (nI_1 _) (by decide) rfl (fun ls hl => ?_)
            refine lv_goto (tgt := 12) hx hb dX10_takesAll_51 (by decide) ?_
            have hP := hP.sub (ws' := [(h0, .inr (10, [.ref tby, .int (nI kt), .ref tln, .ref tsp, .int kd12833, .int (nI ks12834), .int (nI kn12835), .int tf12836])), (tby, .inl (G.2.1, 240, .inl fby)), (tsp, .inr (8, [.int 120, .int 1, .ref tspc, .int (nI ksp12843)])), (tspc, .inl (G.2.1, 120, .inl gtsp2844))]) [1, 0, 2, 3] rfl
            have hD := hD.sub (ws' := [(h0, .inr (10, [.ref tby, .int (nI kt), .ref tln, .ref tsp, .int kd12833, .int (nI ks12834), .int (nI kn12835), .int tf12836])), (tby, .inl (G.2.1, 240, .inl fby)), (tsp, .inr (8, [.int 120, .int 1, .ref tspc, .int (nI ksp12843)])), (tspc, .inl (G.2.1, 120, .inl gtsp2844))]) [1, 0, 2, 3] (by decide) rfl
            exact ihP (kP + 1) kd12833 tf12836 gtsp2844 ks12834 kn12835 ksp12843 _ _ _ (by omega) (by first | assumption | exact Or.inl rfl | exact Or.inr rfl | omega) (by first | assumption | exact Or.inl rfl | exact Or.inr rfl | omega) (by first | assumption | exact Or.inl rfl | exact Or.inr rfl | omega) hP hD hS (lv_sub hl [0, 1, 2] rfl)
          · refine lv_if_ne (tgt := 42) hx hb dX10_takesAll_37 (by decide) (fun c9 => absurd (by decide) c9) (fun _ => ?_)
            refine lv_iconst (v := 0) hx hb dX10_takesAll_40 (by decide) ?_
            exact RI (v := 0) hC hP hD hS [0, 1, 2, 3] (kd12833, ks12834, kn12835, tf12836, ksp12837, gtsp2838) rfl rfl (by decide) (⟨Or.inr (rfl), by dsimp only; omega⟩) (by decide +kernel) dX10_takesAll_41
        · refine lv_if_eq (tgt := 54) hx hb dX10_takesAll_25 (by decide) (fun _ => ?_) (fun c9 => absurd (by decide) c9)
          refine lv_iconst (v := 1) hx hb dX10_takesAll_54 (by decide) ?_
          exact RI (v := 1) hC hP hD hS [0, 1, 2, 3] (vkd, vks, vkn, vtf, vksp, vtsp) rfl rfl (by decide) (⟨Or.inl (rfl), by dsimp only; omega⟩) (by decide +kernel) dX10_takesAll_55
    exact keyP 240 0 kd12815 tf12818 gtsp2820 ks12816 kn12817 ksp12819 _ _ _ (by omega) (by first | assumption | exact Or.inl rfl | exact Or.inr rfl | omega) (by first | assumption | exact Or.inl rfl | exact Or.inr rfl | omega) (by first | assumption | exact Or.inl rfl | exact Or.inr rfl | omega) hP hD hS (lv_sub hl [0, 1, 2] rfl)
  · refine lv_if_ne (tgt := 10) hx hb dX10_takesAll_5 (by decide) (fun c9 => absurd (by decide) c9) (fun _ => ?_)
    refine lv_iconst (v := 0) hx hb dX10_takesAll_8 (by decide) ?_
    exact RI (v := 0) hC hP hD hS [0, 1, 2, 3] (kd12815, ks12816, kn12817, tf12818, ksp12819, gtsp2820) rfl rfl (by decide) (⟨Or.inr (rfl), by dsimp only; omega⟩) (by decide +kernel) dX10_takesAll_9
set_option maxHeartbeats 4000000 in
set_option maxRecDepth 100000 in
theorem t_cond4 (l : Launch) (G : GG) (K : OO) (h0 : Nat) (tby : Nat) (kt : Nat) (tln : Nat) (tsp : Nat) (tkd : Int32) (ks : Nat) (kn : Nat) (tf9 : Int32) (fby : Nat → Int32) (tspc : Nat) (ksp : Nat) (ftsp : Nat → Int32) (hkt : kt ≤ 240) (hks : ks ≤ 240) (hkn : kn ≤ 240) (hksp : ksp ≤ 120) : MIo l G K yX10_takesCond cX10_takesCond 3 (some .boolean) 11 0 0 [.ref h0, .int 4] [(h0, .inr (10, [.ref tby, .int (nI kt), .ref tln, .ref tsp, .int tkd, .int (nI ks), .int (nI kn), .int tf9])), (tby, .inl (G.2.1, 240, .inl fby)), (tsp, .inr (8, [.int 120, .int 1, .ref tspc, .int (nI ksp)])), (tspc, .inl (G.2.1, 120, .inl ftsp))] (fun (r : Int32) (u : Int32 × Nat × Nat × Int32 × Nat × (Nat → Int32)) => (r = 1 ∨ r = 0) ∧ (u.2.1 ≤ 240 ∧ u.2.2.1 ≤ 240 ∧ u.2.2.2.2.1 ≤ 120)) (fun u : Int32 × Nat × Nat × Int32 × Nat × (Nat → Int32) => [(h0, .inr (10, [.ref tby, .int (nI kt), .ref tln, .ref tsp, .int u.1, .int (nI u.2.1), .int (nI u.2.2.1), .int u.2.2.2.1])), (tby, .inl (G.2.1, 240, .inl fby)), (tsp, .inr (8, [.int 120, .int 1, .ref tspc, .int (nI u.2.2.2.2.1)])), (tspc, .inl (G.2.1, 120, .inl u.2.2.2.2.2))]) := by
  refine MIo.start (by decide +kernel) (Nat.le_of_ble_eq_true rfl) ?_
  intro p e s m below meth c A ls hC hK hP hD hS hA hl hO
  have hl : lv_has ls 3 [(0, .ref h0), (1, .int 4)] := hl
  obtain ⟨hx, hb, hr, hml, hB, hown, hlocks, hnm⟩ := id hC
  refine lv_aload_n hx hb dX10_takesCond_0 rfl (lv_at hl 0 rfl) ?_
  refine lv_iload_n hx hb dX10_takesCond_1 rfl (lv_at hl 1 rfl) ?_
  refine iVo (wr := []) hO hC hK hl hP hD hS hA (t_all4 l G K h0 tby kt tln tsp tkd ks kn tf9 fby tspc ksp ftsp (by omega) (by omega) (by omega) (by omega)) si_X10_147 [0, 1, 2, 3] [] rfl rfl (by decide) rfl (by decide) (by decide) rfl rfl rfl rfl rfl (Nat.le_of_ble_eq_true rfl) ⟨Nat.le_of_ble_eq_true rfl, Nat.le_of_ble_eq_true rfl⟩ ⟨Nat.le_of_ble_eq_true rfl, Nat.le_of_ble_eq_true rfl⟩ dX10_takesCond_2 (fun r2846 u2847 H locs hr2846 hP hD hS => ?_)
  obtain ⟨kd12848, ks12849, kn12850, tf12851, ksp12852, gtsp2853⟩ := u2847
  try dsimp only at hr2846
  have hP : va_P G.1 vwCl [(h0, .inr (10, [.ref tby, .int (nI kt), .ref tln, .ref tsp, .int kd12848, .int (nI ks12849), .int (nI kn12850), .int tf12851])), (tby, .inl (G.2.1, 240, .inl fby)), (tsp, .inr (8, [.int 120, .int 1, .ref tspc, .int (nI ksp12852)])), (tspc, .inl (G.2.1, 120, .inl gtsp2853))] H := hP
  have hD : va_D A [(h0, .inr (10, [.ref tby, .int (nI kt), .ref tln, .ref tsp, .int kd12848, .int (nI ks12849), .int (nI kn12850), .int tf12851])), (tby, .inl (G.2.1, 240, .inl fby)), (tsp, .inr (8, [.int 120, .int 1, .ref tspc, .int (nI ksp12852)])), (tspc, .inl (G.2.1, 120, .inl gtsp2853))] := hD
  obtain ⟨hr2846, w2854⟩ := hr2846
  rcases hr2846 with rfl | rfl
  · refine lv_if_ne (tgt := 10) hx hb dX10_takesCond_5 (by decide) (fun _ => ?_) (fun c9 => absurd c9 (by decide))
    refine lv_iconst (v := 0) hx hb dX10_takesCond_10 (by decide) ?_
    refine lv_istore_n (lv' := [(2, .int 0), (0, .ref h0), (1, .int 4)]) hx hb dX10_takesCond_11 rfl hl (by decide) rfl (fun ls hl => ?_)
    have keyP : ∀ (nP kP : Nat) (vkd : Int32) (vtf : Int32) (vtsp : Nat → Int32) (vks : Nat) (vkn : Nat) (vksp : Nat) (H : Heap) (locs : List Loc) (ls : Array Slot), kP + nP = 240 → (vks ≤ 240) → (vkn ≤ 240) → (vksp ≤ 120) → va_P G.1 vwCl [(h0, .inr (10, [.ref tby, .int (nI kt), .ref tln, .ref tsp, .int vkd, .int (nI vks), .int (nI vkn), .int vtf])), (tby, .inl (G.2.1, 240, .inl fby)), (tsp, .inr (8, [.int 120, .int 1, .ref tspc, .int (nI vksp)])), (tspc, .inl (G.2.1, 120, .inl vtsp))] H → va_D A [(h0, .inr (10, [.ref tby, .int (nI kt), .ref tln, .ref tsp, .int vkd, .int (nI vks), .int (nI vkn), .int vtf])), (tby, .inl (G.2.1, 240, .inl fby)), (tsp, .inr (8, [.int 120, .int 1, .ref tspc, .int (nI vksp)])), (tspc, .inl (G.2.1, 120, .inl vtsp))] → va_S A s.heap H locs → lv_has ls 3 [(2, .int (nI kP)), (0, .ref h0), (1, .int 4)] → W p l e (RM 11 0 0) s m ([.ref h0, .int 4] : List Value).toArray below meth c H locs 0 0 (MQ below (QI G (fun (r : Int32) (u : Int32 × Nat × Nat × Int32 × Nat × (Nat → Int32)) => (r = 1 ∨ r = 0) ∧ (u.2.1 ≤ 240 ∧ u.2.2.1 ≤ 240 ∧ u.2.2.2.2.1 ≤ 120)) (fun u : Int32 × Nat × Nat × Int32 × Nat × (Nat → Int32) => [(h0, .inr (10, [.ref tby, .int (nI kt), .ref tln, .ref tsp, .int u.1, .int (nI u.2.1), .int (nI u.2.2.1), .int u.2.2.2.1])), (tby, .inl (G.2.1, 240, .inl fby)), (tsp, .inr (8, [.int 120, .int 1, .ref tspc, .int (nI u.2.2.2.2.1)])), (tspc, .inl (G.2.1, 120, .inl u.2.2.2.2.2))]) A) ([.ref h0, .int 4] : List Value).toArray s 0 0 A) (F0 m 12 ls []) := by
      intro nP
      induction nP with
      | zero =>
        intro kP vkd vtf vtsp vks vkn vksp H locs ls hkP hvks hvkn hvksp hP hD hS hl
        obtain rfl : 240 = kP := by omega
        have hl : lv_has ls 3 [(2, .int 240), (0, .ref h0), (1, .int 4)] := hl
        refine lv_iload_n hx hb dX10_takesCond_12 rfl (lv_at hl 0 rfl) ?_
        refine lv_sipush (v := 240) hx hb dX10_takesCond_13 (by decide) ?_
        refine lv_icmp_ge (tgt := 54) hx hb dX10_takesCond_16 (by decide) (fun _ => ?_) (fun c9 => absurd (by decide) c9)
        refine lv_iconst (v := 1) hx hb dX10_takesCond_54 (by decide) ?_
        exact RI (v := 1) hC hP hD hS [0, 1, 2, 3] (vkd, vks, vkn, vtf, vksp, vtsp) rfl rfl (by decide) (⟨Or.inl (rfl), by dsimp only; omega⟩) (by decide +kernel) dX10_takesCond_55
      | succ nP ihP =>
        intro kP vkd vtf vtsp vks vkn vksp H locs ls hkP hvks hvkn hvksp hP hD hS hl
        refine lv_iload_n hx hb dX10_takesCond_12 rfl (lv_at hl 0 rfl) ?_
        refine lv_sipush (v := 240) hx hb dX10_takesCond_13 (by decide) ?_
        refine lv_icmp_ge (tgt := 54) hx hb dX10_takesCond_16 (by decide) (fun c9 => absurd c9 (nI_ge (a := kP) (b := 240) (by omega) (by omega))) (fun _ => ?_)
        refine lv_aload_n hx hb dX10_takesCond_19 rfl (lv_at hl 1 rfl) ?_
        refine va_ldcS (index := 150) (tx := "o\x72") hx hb hown (hO.2.1 8 (by decide)) dX10_takesCond_20 ?_
        refine pVo hO hS hC hK hl hP hD (t_isName l G K 8 h0 tby kt tln tsp vkd vks vkn vtf fby (by omega) (by omega) (by omega) ((by decide))) si_X10_102 [0, 1] rfl rfl (by decide) rfl rfl rfl rfl rfl (Nat.le_of_ble_eq_true rfl) ⟨Nat.le_of_ble_eq_true rfl, Nat.le_of_ble_eq_true rfl⟩ ⟨by first | exact Nat.le_of_ble_eq_true rfl | exact Nat.zero_le _, by first | exact Nat.le_of_ble_eq_true rfl | exact Nat.zero_le _⟩ dX10_takesCond_22 (fun r2856 hr2856 => ?_)
        rcases hr2856 with rfl | rfl
        · refine lv_if_eq (tgt := 54) hx hb dX10_takesCond_25 (by decide) (fun c9 => absurd c9 (by decide)) (fun _ => ?_)
          refine lv_aload_n hx hb dX10_takesCond_28 rfl (lv_at hl 1 rfl) ?_
          refine vV (wr := [(tsp, .inr (8, [.int 120, .int 1, .ref tspc, .int (nI vksp)])), (tspc, .inl (G.2.1, 120, .inl vtsp))]) hC hK hl hP hD hS hA (t_advance l G h0 tby kt tln tsp vkd vks vkn vtf fby (by omega) (by omega) (by omega)) si_X10_47 [0, 1] [2, 3] rfl rfl (by decide) rfl (by decide) (by decide) rfl rfl rfl rfl rfl (Nat.le_of_ble_eq_true rfl) ⟨Nat.le_of_ble_eq_true rfl, Nat.le_of_ble_eq_true rfl⟩ ⟨Nat.le_of_ble_eq_true rfl, Nat.le_of_ble_eq_true rfl⟩ dX10_takesCond_29 (fun u2859 H locs hr2858 hP hD hS => ?_)
          obtain ⟨kd12860, ks12861, kn12862⟩ := u2859
          try dsimp only at hr2858
          have hP : va_P G.1 vwCl [(tsp, .inr (8, [.int 120, .int 1, .ref tspc, .int (nI vksp)])), (tspc, .inl (G.2.1, 120, .inl vtsp)), (h0, .inr (10, [.ref tby, .int (nI kt), .ref tln, .ref tsp, .int kd12860, .int (nI ks12861), .int (nI kn12862), .int vtf])), (tby, .inl (G.2.1, 240, .inl fby))] H := hP
          have hD : va_D A [(tsp, .inr (8, [.int 120, .int 1, .ref tspc, .int (nI vksp)])), (tspc, .inl (G.2.1, 120, .inl vtsp)), (h0, .inr (10, [.ref tby, .int (nI kt), .ref tln, .ref tsp, .int kd12860, .int (nI ks12861), .int (nI kn12862), .int vtf])), (tby, .inl (G.2.1, 240, .inl fby))] := hD
          have w2863 := hr2858
          refine lv_aload_n hx hb dX10_takesCond_32 rfl (lv_at hl 1 rfl) ?_
          refine lv_iload_n hx hb dX10_takesCond_33 rfl (lv_at hl 2 rfl) ?_
          refine iVo (wr := []) hO hC hK hl hP hD hS hA (t_all4 l G K h0 tby kt tln tsp kd12860 ks12861 kn12862 vtf fby tspc vksp vtsp (by omega) (by omega) (by omega) (by omega)) si_X10_147 [2, 3, 0, 1] [] rfl rfl (by decide) rfl (by decide) (by decide) rfl rfl rfl rfl rfl (Nat.le_of_ble_eq_true rfl) ⟨Nat.le_of_ble_eq_true rfl, Nat.le_of_ble_eq_true rfl⟩ ⟨Nat.le_of_ble_eq_true rfl, Nat.le_of_ble_eq_true rfl⟩ dX10_takesCond_34 (fun r2864 u2865 H locs hr2864 hP hD hS => ?_)
          obtain ⟨kd12866, ks12867, kn12868, tf12869, ksp12870, gtsp2871⟩ := u2865
          try dsimp only at hr2864
          have hP : va_P G.1 vwCl [(h0, .inr (10, [.ref tby, .int (nI kt), .ref tln, .ref tsp, .int kd12866, .int (nI ks12867), .int (nI kn12868), .int tf12869])), (tby, .inl (G.2.1, 240, .inl fby)), (tsp, .inr (8, [.int 120, .int 1, .ref tspc, .int (nI ksp12870)])), (tspc, .inl (G.2.1, 120, .inl gtsp2871))] H := hP
          have hD : va_D A [(h0, .inr (10, [.ref tby, .int (nI kt), .ref tln, .ref tsp, .int kd12866, .int (nI ks12867), .int (nI kn12868), .int tf12869])), (tby, .inl (G.2.1, 240, .inl fby)), (tsp, .inr (8, [.int 120, .int 1, .ref tspc, .int (nI ksp12870)])), (tspc, .inl (G.2.1, 120, .inl gtsp2871))] := hD
          obtain ⟨hr2864, w2872⟩ := hr2864
          rcases hr2864 with rfl | rfl
          · refine lv_if_ne (tgt := 42) hx hb dX10_takesCond_37 (by decide) (fun _ => ?_) (fun c9 => absurd c9 (by decide))
            refine lv_aload_n hx hb dX10_takesCond_42 rfl (lv_at hl 1 rfl) ?_
            refine lv_bipush (v := (-3)) hx hb dX10_takesCond_43 (by decide) ?_
            refine vV (wr := [(tby, .inl (G.2.1, 240, .inl fby))]) hC hK hl hP hD hS hA (t_addStep l G h0 (-3) tby kt tln tsp kd12866 ks12867 kn12868 tf12869 tspc ksp12870 gtsp2871 (by omega)) si_X10_152 [0, 2, 3] [1] rfl rfl (by decide) rfl (by decide) (by decide) rfl rfl rfl rfl rfl (Nat.le_of_ble_eq_true rfl) ⟨Nat.le_of_ble_eq_true rfl, Nat.le_of_ble_eq_true rfl⟩ ⟨Nat.le_of_ble_eq_true rfl, Nat.le_of_ble_eq_true rfl⟩ dX10_takesCond_45 (fun u2875 H locs hr2874 hP hD hS => ?_)
            obtain ⟨ksp12876, gtsp2877⟩ := u2875
            try dsimp only at hr2874
            have hP : va_P G.1 vwCl [(tby, .inl (G.2.1, 240, .inl fby)), (h0, .inr (10, [.ref tby, .int (nI kt), .ref tln, .ref tsp, .int kd12866, .int (nI ks12867), .int (nI kn12868), .int tf12869])), (tsp, .inr (8, [.int 120, .int 1, .ref tspc, .int (nI ksp12876)])), (tspc, .inl (G.2.1, 120, .inl gtsp2877))] H := hP
            have hD : va_D A [(tby, .inl (G.2.1, 240, .inl fby)), (h0, .inr (10, [.ref tby, .int (nI kt), .ref tln, .ref tsp, .int kd12866, .int (nI ks12867), .int (nI kn12868), .int tf12869])), (tsp, .inr (8, [.int 120, .int 1, .ref tspc, .int (nI ksp12876)])), (tspc, .inl (G.2.1, 120, .inl gtsp2877))] := hD
            have w2878 := hr2874
            refine lv_iinc (v := nI (kP + 1)) (lv' := [(2, .int (nI (kP + 1))), (0, .ref h0), (1, .int 4)]) hx hb dX10_takesCond_48 hl (k := 0) rfl (nI_1 _) (by decide) rfl (fun ls hl => ?_)
            refine lv_goto (tgt := 12) hx hb dX10_takesCond_51 (by decide) ?_
            have hP := hP.sub (ws' := [(h0, .inr (10, [.ref tby, .int (nI kt), .ref tln, .ref tsp, .int kd12866, .int (nI ks12867), .int (nI kn12868), .int tf12869])), (tby, .inl (G.2.1, 240, .inl fby)), (tsp, .inr (8, [.int 120, .int 1, .ref tspc, .int (nI ksp12876)])), (tspc, .inl (G.2.1, 120, .inl gtsp2877))]) [1, 0, 2, 3] rfl
            have hD := hD.sub (ws' := [(h0, .inr (10, [.ref tby, .int (nI kt), .ref tln, .ref tsp, .int kd12866, .int (nI ks12867), .int (nI kn12868), .int tf12869])), (tby, .inl (G.2.1, 240, .inl fby)), (tsp, .inr (8, [.int 120, .int 1, .ref tspc, .int (nI ksp12876)])), (tspc, .inl (G.2.1, 120, .inl gtsp2877))]) [1, 0, 2, 3] (by decide) rfl
            exact ihP (kP + 1) kd12866 tf12869 gtsp2877 ks12867 kn12868 ksp12876 _ _ _ (by omega) (by first | assumption | exact Or.inl rfl | exact Or.inr rfl | omega) (by first | assumption | exact Or.inl rfl | exact Or.inr rfl | omega) (by first | assumption | exact Or.inl rfl | exact Or.inr rfl | omega) hP hD hS (lv_sub hl [0, 1, 2] rfl)
          · refine lv_if_ne (tgt := 42) hx hb dX10_takesCond_37 (by decide) (fun c9 => absurd (by decide) c9) (fun _ => ?_)
            refine lv_iconst (v := 0) hx hb dX10_takesCond_40 (by decide) ?_
            exact RI (v := 0) hC hP hD hS [0, 1, 2, 3] (kd12866, ks12867, kn12868, tf12869, ksp12870, gtsp2871) rfl rfl (by decide) (⟨Or.inr (rfl), by dsimp only; omega⟩) (by decide +kernel) dX10_takesCond_41
        · refine lv_if_eq (tgt := 54) hx hb dX10_takesCond_25 (by decide) (fun _ => ?_) (fun c9 => absurd (by decide) c9)
          refine lv_iconst (v := 1) hx hb dX10_takesCond_54 (by decide) ?_
          exact RI (v := 1) hC hP hD hS [0, 1, 2, 3] (vkd, vks, vkn, vtf, vksp, vtsp) rfl rfl (by decide) (⟨Or.inl (rfl), by dsimp only; omega⟩) (by decide +kernel) dX10_takesCond_55
    exact keyP 240 0 kd12848 tf12851 gtsp2853 ks12849 kn12850 ksp12852 _ _ _ (by omega) (by first | assumption | exact Or.inl rfl | exact Or.inr rfl | omega) (by first | assumption | exact Or.inl rfl | exact Or.inr rfl | omega) (by first | assumption | exact Or.inl rfl | exact Or.inr rfl | omega) hP hD hS (lv_sub hl [0, 1, 2] rfl)
  · refine lv_if_ne (tgt := 10) hx hb dX10_takesCond_5 (by decide) (fun c9 => absurd (by decide) c9) (fun _ => ?_)
    refine lv_iconst (v := 0) hx hb dX10_takesCond_8 (by decide) ?_
    exact RI (v := 0) hC hP hD hS [0, 1, 2, 3] (kd12848, ks12849, kn12850, tf12851, ksp12852, gtsp2853) rfl rfl (by decide) (⟨Or.inr (rfl), by dsimp only; omega⟩) (by decide +kernel) dX10_takesCond_9
set_option maxHeartbeats 4000000 in
set_option maxRecDepth 100000 in
theorem t_one3 (l : Launch) (G : GG) (K : OO) (h0 : Nat) (tby : Nat) (kt : Nat) (tln : Nat) (tsp : Nat) (tkd : Int32) (ks : Nat) (kn : Nat) (tf9 : Int32) (fby : Nat → Int32) (tspc : Nat) (ksp : Nat) (ftsp : Nat → Int32) (hkt : kt ≤ 240) (hks : ks ≤ 240) (hkn : kn ≤ 240) (hksp : ksp ≤ 120) : MIo l G K yX10_takesOne cX10_takesOne 4 (some .boolean) 13 0 0 [.ref h0, .int 3] [(h0, .inr (10, [.ref tby, .int (nI kt), .ref tln, .ref tsp, .int tkd, .int (nI ks), .int (nI kn), .int tf9])), (tby, .inl (G.2.1, 240, .inl fby)), (tsp, .inr (8, [.int 120, .int 1, .ref tspc, .int (nI ksp)])), (tspc, .inl (G.2.1, 120, .inl ftsp))] (fun (r : Int32) (u : Int32 × Nat × Nat × Int32 × Nat × (Nat → Int32)) => (r = 1 ∨ r = 0) ∧ (u.2.1 ≤ 240 ∧ u.2.2.1 ≤ 240 ∧ u.2.2.2.2.1 ≤ 120)) (fun u : Int32 × Nat × Nat × Int32 × Nat × (Nat → Int32) => [(h0, .inr (10, [.ref tby, .int (nI kt), .ref tln, .ref tsp, .int u.1, .int (nI u.2.1), .int (nI u.2.2.1), .int u.2.2.2.1])), (tby, .inl (G.2.1, 240, .inl fby)), (tsp, .inr (8, [.int 120, .int 1, .ref tspc, .int (nI u.2.2.2.2.1)])), (tspc, .inl (G.2.1, 120, .inl u.2.2.2.2.2))]) := by
  refine MIo.start (by decide +kernel) (Nat.le_of_ble_eq_true rfl) ?_
  intro p e s m below meth c A ls hC hK hP hD hS hA hl hO
  have hl : lv_has ls 4 [(0, .ref h0), (1, .int 3)] := hl
  obtain ⟨hx, hb, hr, hml, hB, hown, hlocks, hnm⟩ := id hC
  refine lv_iconst (v := 0) hx hb dX10_takesOne_0 (by decide) ?_
  refine lv_istore_n (lv' := [(2, .int 0), (0, .ref h0), (1, .int 3)]) hx hb dX10_takesOne_1 rfl hl (by decide) rfl (fun ls hl => ?_)
  refine lv_iconst (v := 0) hx hb dX10_takesOne_2 (by decide) ?_
  refine lv_istore_n (lv' := [(3, .int 0), (2, .int 0), (0, .ref h0), (1, .int 3)]) hx hb dX10_takesOne_3 rfl hl (by decide) rfl (fun ls hl => ?_)
  have keyP : ∀ (nP kP : Nat) (tu : Int32) (vkd : Int32) (vtf : Int32) (vks : Nat) (vkn : Nat) (H : Heap) (locs : List Loc) (ls : Array Slot), kP + nP = 240 → (vks ≤ 240) → (vkn ≤ 240) → va_P G.1 vwCl [(h0, .inr (10, [.ref tby, .int (nI kt), .ref tln, .ref tsp, .int vkd, .int (nI vks), .int (nI vkn), .int vtf])), (tby, .inl (G.2.1, 240, .inl fby)), (tsp, .inr (8, [.int 120, .int 1, .ref tspc, .int (nI ksp)])), (tspc, .inl (G.2.1, 120, .inl ftsp))] H → va_D A [(h0, .inr (10, [.ref tby, .int (nI kt), .ref tln, .ref tsp, .int vkd, .int (nI vks), .int (nI vkn), .int vtf])), (tby, .inl (G.2.1, 240, .inl fby)), (tsp, .inr (8, [.int 120, .int 1, .ref tspc, .int (nI ksp)])), (tspc, .inl (G.2.1, 120, .inl ftsp))] → va_S A s.heap H locs → lv_has ls 4 [(3, .int (nI kP)), (2, .int tu), (0, .ref h0), (1, .int 3)] → W p l e (RM 13 0 0) s m ([.ref h0, .int 3] : List Value).toArray below meth c H locs 0 0 (MQ below (QI G (fun (r : Int32) (u : Int32 × Nat × Nat × Int32 × Nat × (Nat → Int32)) => (r = 1 ∨ r = 0) ∧ (u.2.1 ≤ 240 ∧ u.2.2.1 ≤ 240 ∧ u.2.2.2.2.1 ≤ 120)) (fun u : Int32 × Nat × Nat × Int32 × Nat × (Nat → Int32) => [(h0, .inr (10, [.ref tby, .int (nI kt), .ref tln, .ref tsp, .int u.1, .int (nI u.2.1), .int (nI u.2.2.1), .int u.2.2.2.1])), (tby, .inl (G.2.1, 240, .inl fby)), (tsp, .inr (8, [.int 120, .int 1, .ref tspc, .int (nI u.2.2.2.2.1)])), (tspc, .inl (G.2.1, 120, .inl u.2.2.2.2.2))]) A) ([.ref h0, .int 3] : List Value).toArray s 0 0 A) (F0 m 4 ls []) := by
    intro nP
    induction nP with
    | zero =>
      intro kP tu vkd vtf vks vkn H locs ls hkP hvks hvkn hP hD hS hl
      obtain rfl : 240 = kP := by omega
      have hl : lv_has ls 4 [(3, .int 240), (2, .int tu), (0, .ref h0), (1, .int 3)] := hl
      refine lv_iload_n hx hb dX10_takesOne_4 rfl (lv_at hl 0 rfl) ?_
      refine lv_sipush (v := 240) hx hb dX10_takesOne_5 (by decide) ?_
      refine lv_icmp_ge (tgt := 40) hx hb dX10_takesOne_8 (by decide) (fun _ => ?_) (fun c9 => absurd (by decide) c9)
      refine lv_aload_n hx hb dX10_takesOne_40 rfl (lv_at hl 2 rfl) ?_
      refine gf_X10_31 hC rfl hK hP 0 rfl rfl dX10_takesOne_41 ?_
      refine lv_bipush (v := 40) hx hb dX10_takesOne_44 (by decide) ?_
      refine lv_icmp_eq (tgt := 58) hx hb dX10_takesOne_46 (by decide) (fun c_46_2879 => ?_) (fun c_46_2879 => ?_)
      · refine lv_iload_n hx hb dX10_takesOne_58 rfl (lv_at hl 3 rfl) ?_
        refine lv_iconst (v := 4) hx hb dX10_takesOne_59 (by decide) ?_
        refine lv_icmp_lt (tgt := 68) hx hb dX10_takesOne_60 (by decide) (fun _ => ?_) (fun c9 => absurd (by decide) c9)
        refine lv_aload_n hx hb dX10_takesOne_68 rfl (lv_at hl 2 rfl) ?_
        refine vV (wr := [(tsp, .inr (8, [.int 120, .int 1, .ref tspc, .int (nI ksp)])), (tspc, .inl (G.2.1, 120, .inl ftsp))]) hC hK hl hP hD hS hA (t_advance l G h0 tby kt tln tsp vkd vks vkn vtf fby (by omega) (by omega) (by omega)) si_X10_47 [0, 1] [2, 3] rfl rfl (by decide) rfl (by decide) (by decide) rfl rfl rfl rfl rfl (Nat.le_of_ble_eq_true rfl) ⟨Nat.le_of_ble_eq_true rfl, Nat.le_of_ble_eq_true rfl⟩ ⟨Nat.le_of_ble_eq_true rfl, Nat.le_of_ble_eq_true rfl⟩ dX10_takesOne_69 (fun u2881 H locs hr2880 hP hD hS => ?_)
        obtain ⟨kd12882, ks12883, kn12884⟩ := u2881
        try dsimp only at hr2880
        have hP : va_P G.1 vwCl [(tsp, .inr (8, [.int 120, .int 1, .ref tspc, .int (nI ksp)])), (tspc, .inl (G.2.1, 120, .inl ftsp)), (h0, .inr (10, [.ref tby, .int (nI kt), .ref tln, .ref tsp, .int kd12882, .int (nI ks12883), .int (nI kn12884), .int vtf])), (tby, .inl (G.2.1, 240, .inl fby))] H := hP
        have hD : va_D A [(tsp, .inr (8, [.int 120, .int 1, .ref tspc, .int (nI ksp)])), (tspc, .inl (G.2.1, 120, .inl ftsp)), (h0, .inr (10, [.ref tby, .int (nI kt), .ref tln, .ref tsp, .int kd12882, .int (nI ks12883), .int (nI kn12884), .int vtf])), (tby, .inl (G.2.1, 240, .inl fby))] := hD
        have w2885 := hr2880
        refine lv_aload_n hx hb dX10_takesOne_72 rfl (lv_at hl 2 rfl) ?_
        refine lv_iload_n hx hb dX10_takesOne_73 rfl (lv_at hl 3 rfl) ?_
        refine lv_iconst (v := 1) hx hb dX10_takesOne_74 (by decide) ?_
        refine lv_iadd hx hb dX10_takesOne_75 ?_
        refine eqi (x1 := 4) (by decide) ?_
        refine iVo (wr := []) hO hC hK hl hP hD hS hA (t_cond4 l G K h0 tby kt tln tsp kd12882 ks12883 kn12884 vtf fby tspc ksp ftsp (by omega) (by omega) (by omega) (by omega)) si_X10_121 [2, 3, 0, 1] [] rfl rfl (by decide) rfl (by decide) (by decide) rfl rfl rfl rfl rfl (Nat.le_of_ble_eq_true rfl) ⟨Nat.le_of_ble_eq_true rfl, Nat.le_of_ble_eq_true rfl⟩ ⟨Nat.le_of_ble_eq_true rfl, Nat.le_of_ble_eq_true rfl⟩ dX10_takesOne_76 (fun r2886 u2887 H locs hr2886 hP hD hS => ?_)
        obtain ⟨kd12888, ks12889, kn12890, tf12891, ksp12892, gtsp2893⟩ := u2887
        try dsimp only at hr2886
        have hP : va_P G.1 vwCl [(h0, .inr (10, [.ref tby, .int (nI kt), .ref tln, .ref tsp, .int kd12888, .int (nI ks12889), .int (nI kn12890), .int tf12891])), (tby, .inl (G.2.1, 240, .inl fby)), (tsp, .inr (8, [.int 120, .int 1, .ref tspc, .int (nI ksp12892)])), (tspc, .inl (G.2.1, 120, .inl gtsp2893))] H := hP
        have hD : va_D A [(h0, .inr (10, [.ref tby, .int (nI kt), .ref tln, .ref tsp, .int kd12888, .int (nI ks12889), .int (nI kn12890), .int tf12891])), (tby, .inl (G.2.1, 240, .inl fby)), (tsp, .inr (8, [.int 120, .int 1, .ref tspc, .int (nI ksp12892)])), (tspc, .inl (G.2.1, 120, .inl gtsp2893))] := hD
        obtain ⟨hr2886, w2894⟩ := hr2886
        rcases hr2886 with rfl | rfl
        · refine lv_if_eq (tgt := 91) hx hb dX10_takesOne_79 (by decide) (fun c9 => absurd c9 (by decide)) (fun _ => ?_)
          refine lv_aload_n hx hb dX10_takesOne_82 rfl (lv_at hl 2 rfl) ?_
          refine lv_bipush (v := 41) hx hb dX10_takesOne_83 (by decide) ?_
          refine iV (wr := [(tsp, .inr (8, [.int 120, .int 1, .ref tspc, .int (nI ksp12892)])), (tspc, .inl (G.2.1, 120, .inl gtsp2893))]) hC hK hl hP hD hS hA (t_takesByte l G h0 41 tby kt tln tsp kd12888 ks12889 kn12890 tf12891 fby (by omega) (by omega) (by omega)) si_X10_124 [0, 1] [2, 3] rfl rfl (by decide) rfl (by decide) (by decide) rfl rfl rfl rfl rfl (Nat.le_of_ble_eq_true rfl) ⟨Nat.le_of_ble_eq_true rfl, Nat.le_of_ble_eq_true rfl⟩ ⟨Nat.le_of_ble_eq_true rfl, Nat.le_of_ble_eq_true rfl⟩ dX10_takesOne_85 (fun r2896 u2897 H locs hr2896 hP hD hS => ?_)
          obtain ⟨kd12898, ks12899, kn12900, tf12901⟩ := u2897
          try dsimp only at hr2896
          have hP : va_P G.1 vwCl [(tsp, .inr (8, [.int 120, .int 1, .ref tspc, .int (nI ksp12892)])), (tspc, .inl (G.2.1, 120, .inl gtsp2893)), (h0, .inr (10, [.ref tby, .int (nI kt), .ref tln, .ref tsp, .int kd12898, .int (nI ks12899), .int (nI kn12900), .int tf12901])), (tby, .inl (G.2.1, 240, .inl fby))] H := hP
          have hD : va_D A [(tsp, .inr (8, [.int 120, .int 1, .ref tspc, .int (nI ksp12892)])), (tspc, .inl (G.2.1, 120, .inl gtsp2893)), (h0, .inr (10, [.ref tby, .int (nI kt), .ref tln, .ref tsp, .int kd12898, .int (nI ks12899), .int (nI kn12900), .int tf12901])), (tby, .inl (G.2.1, 240, .inl fby))] := hD
          obtain ⟨hr2896, w2902⟩ := hr2896
          rcases hr2896 with rfl | rfl
          · refine lv_if_ne (tgt := 93) hx hb dX10_takesOne_88 (by decide) (fun _ => ?_) (fun c9 => absurd c9 (by decide))
            refine lv_iload_n hx hb dX10_takesOne_93 rfl (lv_at hl 1 rfl) ?_
            refine lv_if_eq (tgt := 102) hx hb dX10_takesOne_94 (by decide) (fun c_94_2904 => ?_) (fun c_94_2904 => ?_)
            · refine lv_iconst (v := 1) hx hb dX10_takesOne_102 (by decide) ?_
              exact RI (v := 1) hC hP hD hS [2, 3, 0, 1] (kd12898, ks12899, kn12900, tf12901, ksp12892, gtsp2893) rfl rfl (by decide) (⟨Or.inl (rfl), by dsimp only; omega⟩) (by decide +kernel) dX10_takesOne_103
            · refine lv_aload_n hx hb dX10_takesOne_97 rfl (lv_at hl 2 rfl) ?_
              refine lv_iconst (v := (-1)) hx hb dX10_takesOne_98 (by decide) ?_
              refine vV (wr := [(tby, .inl (G.2.1, 240, .inl fby))]) hC hK hl hP hD hS hA (t_addStep l G h0 (-1) tby kt tln tsp kd12898 ks12899 kn12900 tf12901 tspc ksp12892 gtsp2893 (by omega)) si_X10_152 [2, 0, 1] [3] rfl rfl (by decide) rfl (by decide) (by decide) rfl rfl rfl rfl rfl (Nat.le_of_ble_eq_true rfl) ⟨Nat.le_of_ble_eq_true rfl, Nat.le_of_ble_eq_true rfl⟩ ⟨Nat.le_of_ble_eq_true rfl, Nat.le_of_ble_eq_true rfl⟩ dX10_takesOne_99 (fun u2906 H locs hr2905 hP hD hS => ?_)
              obtain ⟨ksp12907, gtsp2908⟩ := u2906
              try dsimp only at hr2905
              have hP : va_P G.1 vwCl [(tby, .inl (G.2.1, 240, .inl fby)), (h0, .inr (10, [.ref tby, .int (nI kt), .ref tln, .ref tsp, .int kd12898, .int (nI ks12899), .int (nI kn12900), .int tf12901])), (tsp, .inr (8, [.int 120, .int 1, .ref tspc, .int (nI ksp12907)])), (tspc, .inl (G.2.1, 120, .inl gtsp2908))] H := hP
              have hD : va_D A [(tby, .inl (G.2.1, 240, .inl fby)), (h0, .inr (10, [.ref tby, .int (nI kt), .ref tln, .ref tsp, .int kd12898, .int (nI ks12899), .int (nI kn12900), .int tf12901])), (tsp, .inr (8, [.int 120, .int 1, .ref tspc, .int (nI ksp12907)])), (tspc, .inl (G.2.1, 120, .inl gtsp2908))] := hD
              have w2909 := hr2905
              refine lv_iconst (v := 1) hx hb dX10_takesOne_102 (by decide) ?_
              exact RI (v := 1) hC hP hD hS [1, 0, 2, 3] (kd12898, ks12899, kn12900, tf12901, ksp12907, gtsp2908) rfl rfl (by decide) (⟨Or.inl (rfl), by dsimp only; omega⟩) (by decide +kernel) dX10_takesOne_103
          · refine lv_if_ne (tgt := 93) hx hb dX10_takesOne_88 (by decide) (fun c9 => absurd (by decide) c9) (fun _ => ?_)
            refine lv_iconst (v := 0) hx hb dX10_takesOne_91 (by decide) ?_
            exact RI (v := 0) hC hP hD hS [2, 3, 0, 1] (kd12898, ks12899, kn12900, tf12901, ksp12892, gtsp2893) rfl rfl (by decide) (⟨Or.inr (rfl), by dsimp only; omega⟩) (by decide +kernel) dX10_takesOne_92
        · refine lv_if_eq (tgt := 91) hx hb dX10_takesOne_79 (by decide) (fun _ => ?_) (fun c9 => absurd (by decide) c9)
          refine lv_iconst (v := 0) hx hb dX10_takesOne_91 (by decide) ?_
          exact RI (v := 0) hC hP hD hS [0, 1, 2, 3] (kd12888, ks12889, kn12890, tf12891, ksp12892, gtsp2893) rfl rfl (by decide) (⟨Or.inr (rfl), by dsimp only; omega⟩) (by decide +kernel) dX10_takesOne_92
      · refine lv_aload_n hx hb dX10_takesOne_49 rfl (lv_at hl 2 rfl) ?_
        refine iVo (wr := []) hO hC hK hl hP hD hS hA (t_takesComparison l G K h0 tby kt tln tsp vkd vks vkn vtf fby tspc ksp ftsp (by omega) (by omega) (by omega) (by omega)) si_X10_162 [0, 1, 2, 3] [] rfl rfl (by decide) rfl (by decide) (by decide) rfl rfl rfl rfl rfl (Nat.le_of_ble_eq_true rfl) ⟨Nat.le_of_ble_eq_true rfl, Nat.le_of_ble_eq_true rfl⟩ ⟨Nat.le_of_ble_eq_true rfl, Nat.le_of_ble_eq_true rfl⟩ dX10_takesOne_50 (fun r2910 u2911 H locs hr2910 hP hD hS => ?_)
        obtain ⟨kd12912, ks12913, kn12914, tf12915, ksp12916, gtsp2917⟩ := u2911
        try dsimp only at hr2910
        have hP : va_P G.1 vwCl [(h0, .inr (10, [.ref tby, .int (nI kt), .ref tln, .ref tsp, .int kd12912, .int (nI ks12913), .int (nI kn12914), .int tf12915])), (tby, .inl (G.2.1, 240, .inl fby)), (tsp, .inr (8, [.int 120, .int 1, .ref tspc, .int (nI ksp12916)])), (tspc, .inl (G.2.1, 120, .inl gtsp2917))] H := hP
        have hD : va_D A [(h0, .inr (10, [.ref tby, .int (nI kt), .ref tln, .ref tsp, .int kd12912, .int (nI ks12913), .int (nI kn12914), .int tf12915])), (tby, .inl (G.2.1, 240, .inl fby)), (tsp, .inr (8, [.int 120, .int 1, .ref tspc, .int (nI ksp12916)])), (tspc, .inl (G.2.1, 120, .inl gtsp2917))] := hD
        obtain ⟨hr2910, w2918⟩ := hr2910
        rcases hr2910 with rfl | rfl
        · refine lv_if_ne (tgt := 93) hx hb dX10_takesOne_53 (by decide) (fun _ => ?_) (fun c9 => absurd c9 (by decide))
          refine lv_iload_n hx hb dX10_takesOne_93 rfl (lv_at hl 1 rfl) ?_
          refine lv_if_eq (tgt := 102) hx hb dX10_takesOne_94 (by decide) (fun c_94_2920 => ?_) (fun c_94_2920 => ?_)
          · refine lv_iconst (v := 1) hx hb dX10_takesOne_102 (by decide) ?_
            exact RI (v := 1) hC hP hD hS [0, 1, 2, 3] (kd12912, ks12913, kn12914, tf12915, ksp12916, gtsp2917) rfl rfl (by decide) (⟨Or.inl (rfl), by dsimp only; omega⟩) (by decide +kernel) dX10_takesOne_103
          · refine lv_aload_n hx hb dX10_takesOne_97 rfl (lv_at hl 2 rfl) ?_
            refine lv_iconst (v := (-1)) hx hb dX10_takesOne_98 (by decide) ?_
            refine vV (wr := [(tby, .inl (G.2.1, 240, .inl fby))]) hC hK hl hP hD hS hA (t_addStep l G h0 (-1) tby kt tln tsp kd12912 ks12913 kn12914 tf12915 tspc ksp12916 gtsp2917 (by omega)) si_X10_152 [0, 2, 3] [1] rfl rfl (by decide) rfl (by decide) (by decide) rfl rfl rfl rfl rfl (Nat.le_of_ble_eq_true rfl) ⟨Nat.le_of_ble_eq_true rfl, Nat.le_of_ble_eq_true rfl⟩ ⟨Nat.le_of_ble_eq_true rfl, Nat.le_of_ble_eq_true rfl⟩ dX10_takesOne_99 (fun u2922 H locs hr2921 hP hD hS => ?_)
            obtain ⟨ksp12923, gtsp2924⟩ := u2922
            try dsimp only at hr2921
            have hP : va_P G.1 vwCl [(tby, .inl (G.2.1, 240, .inl fby)), (h0, .inr (10, [.ref tby, .int (nI kt), .ref tln, .ref tsp, .int kd12912, .int (nI ks12913), .int (nI kn12914), .int tf12915])), (tsp, .inr (8, [.int 120, .int 1, .ref tspc, .int (nI ksp12923)])), (tspc, .inl (G.2.1, 120, .inl gtsp2924))] H := hP
            have hD : va_D A [(tby, .inl (G.2.1, 240, .inl fby)), (h0, .inr (10, [.ref tby, .int (nI kt), .ref tln, .ref tsp, .int kd12912, .int (nI ks12913), .int (nI kn12914), .int tf12915])), (tsp, .inr (8, [.int 120, .int 1, .ref tspc, .int (nI ksp12923)])), (tspc, .inl (G.2.1, 120, .inl gtsp2924))] := hD
            have w2925 := hr2921
            refine lv_iconst (v := 1) hx hb dX10_takesOne_102 (by decide) ?_
            exact RI (v := 1) hC hP hD hS [1, 0, 2, 3] (kd12912, ks12913, kn12914, tf12915, ksp12923, gtsp2924) rfl rfl (by decide) (⟨Or.inl (rfl), by dsimp only; omega⟩) (by decide +kernel) dX10_takesOne_103
        · refine lv_if_ne (tgt := 93) hx hb dX10_takesOne_53 (by decide) (fun c9 => absurd (by decide) c9) (fun _ => ?_)
          refine lv_iconst (v := 0) hx hb dX10_takesOne_56 (by decide) ?_
          exact RI (v := 0) hC hP hD hS [0, 1, 2, 3] (kd12912, ks12913, kn12914, tf12915, ksp12916, gtsp2917) rfl rfl (by decide) (⟨Or.inr (rfl), by dsimp only; omega⟩) (by decide +kernel) dX10_takesOne_57
    | succ nP ihP =>
      intro kP tu vkd vtf vks vkn H locs ls hkP hvks hvkn hP hD hS hl
      refine lv_iload_n hx hb dX10_takesOne_4 rfl (lv_at hl 0 rfl) ?_
      refine lv_sipush (v := 240) hx hb dX10_takesOne_5 (by decide) ?_
      refine lv_icmp_ge (tgt := 40) hx hb dX10_takesOne_8 (by decide) (fun c9 => absurd c9 (nI_ge (a := kP) (b := 240) (by omega) (by omega))) (fun _ => ?_)
      refine lv_aload_n hx hb dX10_takesOne_11 rfl (lv_at hl 2 rfl) ?_
      refine va_ldcS (index := 160) (tx := "not") hx hb hown (hO.2.1 10 (by decide)) dX10_takesOne_12 ?_
      refine pVo hO hS hC hK hl hP hD (t_isName l G K 10 h0 tby kt tln tsp vkd vks vkn vtf fby (by omega) (by omega) (by omega) ((by decide))) si_X10_102 [0, 1] rfl rfl (by decide) rfl rfl rfl rfl rfl (Nat.le_of_ble_eq_true rfl) ⟨Nat.le_of_ble_eq_true rfl, Nat.le_of_ble_eq_true rfl⟩ ⟨by first | exact Nat.le_of_ble_eq_true rfl | exact Nat.zero_le _, by first | exact Nat.le_of_ble_eq_true rfl | exact Nat.zero_le _⟩ dX10_takesOne_14 (fun r2926 hr2926 => ?_)
      rcases hr2926 with rfl | rfl
      · refine lv_if_eq (tgt := 40) hx hb dX10_takesOne_17 (by decide) (fun c9 => absurd c9 (by decide)) (fun _ => ?_)
        refine lv_aload_n hx hb dX10_takesOne_20 rfl (lv_at hl 2 rfl) ?_
        refine vV (wr := [(tsp, .inr (8, [.int 120, .int 1, .ref tspc, .int (nI ksp)])), (tspc, .inl (G.2.1, 120, .inl ftsp))]) hC hK hl hP hD hS hA (t_advance l G h0 tby kt tln tsp vkd vks vkn vtf fby (by omega) (by omega) (by omega)) si_X10_47 [0, 1] [2, 3] rfl rfl (by decide) rfl (by decide) (by decide) rfl rfl rfl rfl rfl (Nat.le_of_ble_eq_true rfl) ⟨Nat.le_of_ble_eq_true rfl, Nat.le_of_ble_eq_true rfl⟩ ⟨Nat.le_of_ble_eq_true rfl, Nat.le_of_ble_eq_true rfl⟩ dX10_takesOne_21 (fun u2929 H locs hr2928 hP hD hS => ?_)
        obtain ⟨kd12930, ks12931, kn12932⟩ := u2929
        try dsimp only at hr2928
        have hP : va_P G.1 vwCl [(tsp, .inr (8, [.int 120, .int 1, .ref tspc, .int (nI ksp)])), (tspc, .inl (G.2.1, 120, .inl ftsp)), (h0, .inr (10, [.ref tby, .int (nI kt), .ref tln, .ref tsp, .int kd12930, .int (nI ks12931), .int (nI kn12932), .int vtf])), (tby, .inl (G.2.1, 240, .inl fby))] H := hP
        have hD : va_D A [(tsp, .inr (8, [.int 120, .int 1, .ref tspc, .int (nI ksp)])), (tspc, .inl (G.2.1, 120, .inl ftsp)), (h0, .inr (10, [.ref tby, .int (nI kt), .ref tln, .ref tsp, .int kd12930, .int (nI ks12931), .int (nI kn12932), .int vtf])), (tby, .inl (G.2.1, 240, .inl fby))] := hD
        have w2933 := hr2928
        refine lv_iload_n hx hb dX10_takesOne_24 rfl (lv_at hl 1 rfl) ?_
        refine lv_if_ne (tgt := 32) hx hb dX10_takesOne_25 (by decide) (fun c_25_2934 => ?_) (fun c_25_2934 => ?_)
        · refine lv_iconst (v := 0) hx hb dX10_takesOne_32 (by decide) ?_
          refine lv_istore_n (lv' := [(2, .int 0), (3, .int (nI kP)), (0, .ref h0), (1, .int 3)]) hx hb dX10_takesOne_33 rfl hl (by decide) rfl (fun ls hl => ?_)
          refine lv_iinc (v := nI (kP + 1)) (lv' := [(3, .int (nI (kP + 1))), (2, .int 0), (0, .ref h0), (1, .int 3)]) hx hb dX10_takesOne_34 hl (k := 1) rfl (nI_1 _) (by decide) rfl (fun ls hl => ?_)
          refine lv_goto (tgt := 4) hx hb dX10_takesOne_37 (by decide) ?_
          have hP := hP.sub (ws' := [(h0, .inr (10, [.ref tby, .int (nI kt), .ref tln, .ref tsp, .int kd12930, .int (nI ks12931), .int (nI kn12932), .int vtf])), (tby, .inl (G.2.1, 240, .inl fby)), (tsp, .inr (8, [.int 120, .int 1, .ref tspc, .int (nI ksp)])), (tspc, .inl (G.2.1, 120, .inl ftsp))]) [2, 3, 0, 1] rfl
          have hD := hD.sub (ws' := [(h0, .inr (10, [.ref tby, .int (nI kt), .ref tln, .ref tsp, .int kd12930, .int (nI ks12931), .int (nI kn12932), .int vtf])), (tby, .inl (G.2.1, 240, .inl fby)), (tsp, .inr (8, [.int 120, .int 1, .ref tspc, .int (nI ksp)])), (tspc, .inl (G.2.1, 120, .inl ftsp))]) [2, 3, 0, 1] (by decide) rfl
          exact ihP (kP + 1) 0 kd12930 vtf ks12931 kn12932 _ _ _ (by omega) (by first | assumption | exact Or.inl rfl | exact Or.inr rfl | omega) (by first | assumption | exact Or.inl rfl | exact Or.inr rfl | omega) hP hD hS (lv_sub hl [0, 1, 2, 3] rfl)
        · refine lv_iconst (v := 1) hx hb dX10_takesOne_28 (by decide) ?_
          refine lv_goto (tgt := 33) hx hb dX10_takesOne_29 (by decide) ?_
          refine lv_istore_n (lv' := [(2, .int 1), (3, .int (nI kP)), (0, .ref h0), (1, .int 3)]) hx hb dX10_takesOne_33 rfl hl (by decide) rfl (fun ls hl => ?_)
          refine lv_iinc (v := nI (kP + 1)) (lv' := [(3, .int (nI (kP + 1))), (2, .int 1), (0, .ref h0), (1, .int 3)]) hx hb dX10_takesOne_34 hl (k := 1) rfl (nI_1 _) (by decide) rfl (fun ls hl => ?_)
          refine lv_goto (tgt := 4) hx hb dX10_takesOne_37 (by decide) ?_
          have hP := hP.sub (ws' := [(h0, .inr (10, [.ref tby, .int (nI kt), .ref tln, .ref tsp, .int kd12930, .int (nI ks12931), .int (nI kn12932), .int vtf])), (tby, .inl (G.2.1, 240, .inl fby)), (tsp, .inr (8, [.int 120, .int 1, .ref tspc, .int (nI ksp)])), (tspc, .inl (G.2.1, 120, .inl ftsp))]) [2, 3, 0, 1] rfl
          have hD := hD.sub (ws' := [(h0, .inr (10, [.ref tby, .int (nI kt), .ref tln, .ref tsp, .int kd12930, .int (nI ks12931), .int (nI kn12932), .int vtf])), (tby, .inl (G.2.1, 240, .inl fby)), (tsp, .inr (8, [.int 120, .int 1, .ref tspc, .int (nI ksp)])), (tspc, .inl (G.2.1, 120, .inl ftsp))]) [2, 3, 0, 1] (by decide) rfl
          exact ihP (kP + 1) 1 kd12930 vtf ks12931 kn12932 _ _ _ (by omega) (by first | assumption | exact Or.inl rfl | exact Or.inr rfl | omega) (by first | assumption | exact Or.inl rfl | exact Or.inr rfl | omega) hP hD hS (lv_sub hl [0, 1, 2, 3] rfl)
      · refine lv_if_eq (tgt := 40) hx hb dX10_takesOne_17 (by decide) (fun _ => ?_) (fun c9 => absurd (by decide) c9)
        refine lv_aload_n hx hb dX10_takesOne_40 rfl (lv_at hl 2 rfl) ?_
        refine gf_X10_31 hC rfl hK hP 0 rfl rfl dX10_takesOne_41 ?_
        refine lv_bipush (v := 40) hx hb dX10_takesOne_44 (by decide) ?_
        refine lv_icmp_eq (tgt := 58) hx hb dX10_takesOne_46 (by decide) (fun c_46_2935 => ?_) (fun c_46_2935 => ?_)
        · refine lv_iload_n hx hb dX10_takesOne_58 rfl (lv_at hl 3 rfl) ?_
          refine lv_iconst (v := 4) hx hb dX10_takesOne_59 (by decide) ?_
          refine lv_icmp_lt (tgt := 68) hx hb dX10_takesOne_60 (by decide) (fun _ => ?_) (fun c9 => absurd (by decide) c9)
          refine lv_aload_n hx hb dX10_takesOne_68 rfl (lv_at hl 2 rfl) ?_
          refine vV (wr := [(tsp, .inr (8, [.int 120, .int 1, .ref tspc, .int (nI ksp)])), (tspc, .inl (G.2.1, 120, .inl ftsp))]) hC hK hl hP hD hS hA (t_advance l G h0 tby kt tln tsp vkd vks vkn vtf fby (by omega) (by omega) (by omega)) si_X10_47 [0, 1] [2, 3] rfl rfl (by decide) rfl (by decide) (by decide) rfl rfl rfl rfl rfl (Nat.le_of_ble_eq_true rfl) ⟨Nat.le_of_ble_eq_true rfl, Nat.le_of_ble_eq_true rfl⟩ ⟨Nat.le_of_ble_eq_true rfl, Nat.le_of_ble_eq_true rfl⟩ dX10_takesOne_69 (fun u2937 H locs hr2936 hP hD hS => ?_)
          obtain ⟨kd12938, ks12939, kn12940⟩ := u2937
          try dsimp only at hr2936
          have hP : va_P G.1 vwCl [(tsp, .inr (8, [.int 120, .int 1, .ref tspc, .int (nI ksp)])), (tspc, .inl (G.2.1, 120, .inl ftsp)), (h0, .inr (10, [.ref tby, .int (nI kt), .ref tln, .ref tsp, .int kd12938, .int (nI ks12939), .int (nI kn12940), .int vtf])), (tby, .inl (G.2.1, 240, .inl fby))] H := hP
          have hD : va_D A [(tsp, .inr (8, [.int 120, .int 1, .ref tspc, .int (nI ksp)])), (tspc, .inl (G.2.1, 120, .inl ftsp)), (h0, .inr (10, [.ref tby, .int (nI kt), .ref tln, .ref tsp, .int kd12938, .int (nI ks12939), .int (nI kn12940), .int vtf])), (tby, .inl (G.2.1, 240, .inl fby))] := hD
          have w2941 := hr2936
          refine lv_aload_n hx hb dX10_takesOne_72 rfl (lv_at hl 2 rfl) ?_
          refine lv_iload_n hx hb dX10_takesOne_73 rfl (lv_at hl 3 rfl) ?_
          refine lv_iconst (v := 1) hx hb dX10_takesOne_74 (by decide) ?_
          refine lv_iadd hx hb dX10_takesOne_75 ?_
          refine eqi (x1 := 4) (by decide) ?_
          refine iVo (wr := []) hO hC hK hl hP hD hS hA (t_cond4 l G K h0 tby kt tln tsp kd12938 ks12939 kn12940 vtf fby tspc ksp ftsp (by omega) (by omega) (by omega) (by omega)) si_X10_121 [2, 3, 0, 1] [] rfl rfl (by decide) rfl (by decide) (by decide) rfl rfl rfl rfl rfl (Nat.le_of_ble_eq_true rfl) ⟨Nat.le_of_ble_eq_true rfl, Nat.le_of_ble_eq_true rfl⟩ ⟨Nat.le_of_ble_eq_true rfl, Nat.le_of_ble_eq_true rfl⟩ dX10_takesOne_76 (fun r2942 u2943 H locs hr2942 hP hD hS => ?_)
          obtain ⟨kd12944, ks12945, kn12946, tf12947, ksp12948, gtsp2949⟩ := u2943
          try dsimp only at hr2942
          have hP : va_P G.1 vwCl [(h0, .inr (10, [.ref tby, .int (nI kt), .ref tln, .ref tsp, .int kd12944, .int (nI ks12945), .int (nI kn12946), .int tf12947])), (tby, .inl (G.2.1, 240, .inl fby)), (tsp, .inr (8, [.int 120, .int 1, .ref tspc, .int (nI ksp12948)])), (tspc, .inl (G.2.1, 120, .inl gtsp2949))] H := hP
          have hD : va_D A [(h0, .inr (10, [.ref tby, .int (nI kt), .ref tln, .ref tsp, .int kd12944, .int (nI ks12945), .int (nI kn12946), .int tf12947])), (tby, .inl (G.2.1, 240, .inl fby)), (tsp, .inr (8, [.int 120, .int 1, .ref tspc, .int (nI ksp12948)])), (tspc, .inl (G.2.1, 120, .inl gtsp2949))] := hD
          obtain ⟨hr2942, w2950⟩ := hr2942
          rcases hr2942 with rfl | rfl
          · refine lv_if_eq (tgt := 91) hx hb dX10_takesOne_79 (by decide) (fun c9 => absurd c9 (by decide)) (fun _ => ?_)
            refine lv_aload_n hx hb dX10_takesOne_82 rfl (lv_at hl 2 rfl) ?_
            refine lv_bipush (v := 41) hx hb dX10_takesOne_83 (by decide) ?_
            refine iV (wr := [(tsp, .inr (8, [.int 120, .int 1, .ref tspc, .int (nI ksp12948)])), (tspc, .inl (G.2.1, 120, .inl gtsp2949))]) hC hK hl hP hD hS hA (t_takesByte l G h0 41 tby kt tln tsp kd12944 ks12945 kn12946 tf12947 fby (by omega) (by omega) (by omega)) si_X10_124 [0, 1] [2, 3] rfl rfl (by decide) rfl (by decide) (by decide) rfl rfl rfl rfl rfl (Nat.le_of_ble_eq_true rfl) ⟨Nat.le_of_ble_eq_true rfl, Nat.le_of_ble_eq_true rfl⟩ ⟨Nat.le_of_ble_eq_true rfl, Nat.le_of_ble_eq_true rfl⟩ dX10_takesOne_85 (fun r2952 u2953 H locs hr2952 hP hD hS => ?_)
            obtain ⟨kd12954, ks12955, kn12956, tf12957⟩ := u2953
            try dsimp only at hr2952
            have hP : va_P G.1 vwCl [(tsp, .inr (8, [.int 120, .int 1, .ref tspc, .int (nI ksp12948)])), (tspc, .inl (G.2.1, 120, .inl gtsp2949)), (h0, .inr (10, [.ref tby, .int (nI kt), .ref tln, .ref tsp, .int kd12954, .int (nI ks12955), .int (nI kn12956), .int tf12957])), (tby, .inl (G.2.1, 240, .inl fby))] H := hP
            have hD : va_D A [(tsp, .inr (8, [.int 120, .int 1, .ref tspc, .int (nI ksp12948)])), (tspc, .inl (G.2.1, 120, .inl gtsp2949)), (h0, .inr (10, [.ref tby, .int (nI kt), .ref tln, .ref tsp, .int kd12954, .int (nI ks12955), .int (nI kn12956), .int tf12957])), (tby, .inl (G.2.1, 240, .inl fby))] := hD
            obtain ⟨hr2952, w2958⟩ := hr2952
            rcases hr2952 with rfl | rfl
            · refine lv_if_ne (tgt := 93) hx hb dX10_takesOne_88 (by decide) (fun _ => ?_) (fun c9 => absurd c9 (by decide))
              refine lv_iload_n hx hb dX10_takesOne_93 rfl (lv_at hl 1 rfl) ?_
              refine lv_if_eq (tgt := 102) hx hb dX10_takesOne_94 (by decide) (fun c_94_2960 => ?_) (fun c_94_2960 => ?_)
              · refine lv_iconst (v := 1) hx hb dX10_takesOne_102 (by decide) ?_
                exact RI (v := 1) hC hP hD hS [2, 3, 0, 1] (kd12954, ks12955, kn12956, tf12957, ksp12948, gtsp2949) rfl rfl (by decide) (⟨Or.inl (rfl), by dsimp only; omega⟩) (by decide +kernel) dX10_takesOne_103
              · refine lv_aload_n hx hb dX10_takesOne_97 rfl (lv_at hl 2 rfl) ?_
                refine lv_iconst (v := (-1)) hx hb dX10_takesOne_98 (by decide) ?_
                refine vV (wr := [(tby, .inl (G.2.1, 240, .inl fby))]) hC hK hl hP hD hS hA (t_addStep l G h0 (-1) tby kt tln tsp kd12954 ks12955 kn12956 tf12957 tspc ksp12948 gtsp2949 (by omega)) si_X10_152 [2, 0, 1] [3] rfl rfl (by decide) rfl (by decide) (by decide) rfl rfl rfl rfl rfl (Nat.le_of_ble_eq_true rfl) ⟨Nat.le_of_ble_eq_true rfl, Nat.le_of_ble_eq_true rfl⟩ ⟨Nat.le_of_ble_eq_true rfl, Nat.le_of_ble_eq_true rfl⟩ dX10_takesOne_99 (fun u2962 H locs hr2961 hP hD hS => ?_)
                obtain ⟨ksp12963, gtsp2964⟩ := u2962
                try dsimp only at hr2961
                have hP : va_P G.1 vwCl [(tby, .inl (G.2.1, 240, .inl fby)), (h0, .inr (10, [.ref tby, .int (nI kt), .ref tln, .ref tsp, .int kd12954, .int (nI ks12955), .int (nI kn12956), .int tf12957])), (tsp, .inr (8, [.int 120, .int 1, .ref tspc, .int (nI ksp12963)])), (tspc, .inl (G.2.1, 120, .inl gtsp2964))] H := hP
                have hD : va_D A [(tby, .inl (G.2.1, 240, .inl fby)), (h0, .inr (10, [.ref tby, .int (nI kt), .ref tln, .ref tsp, .int kd12954, .int (nI ks12955), .int (nI kn12956), .int tf12957])), (tsp, .inr (8, [.int 120, .int 1, .ref tspc, .int (nI ksp12963)])), (tspc, .inl (G.2.1, 120, .inl gtsp2964))] := hD
                have w2965 := hr2961
                refine lv_iconst (v := 1) hx hb dX10_takesOne_102 (by decide) ?_
                exact RI (v := 1) hC hP hD hS [1, 0, 2, 3] (kd12954, ks12955, kn12956, tf12957, ksp12963, gtsp2964) rfl rfl (by decide) (⟨Or.inl (rfl), by dsimp only; omega⟩) (by decide +kernel) dX10_takesOne_103
            · refine lv_if_ne (tgt := 93) hx hb dX10_takesOne_88 (by decide) (fun c9 => absurd (by decide) c9) (fun _ => ?_)
              refine lv_iconst (v := 0) hx hb dX10_takesOne_91 (by decide) ?_
              exact RI (v := 0) hC hP hD hS [2, 3, 0, 1] (kd12954, ks12955, kn12956, tf12957, ksp12948, gtsp2949) rfl rfl (by decide) (⟨Or.inr (rfl), by dsimp only; omega⟩) (by decide +kernel) dX10_takesOne_92
          · refine lv_if_eq (tgt := 91) hx hb dX10_takesOne_79 (by decide) (fun _ => ?_) (fun c9 => absurd (by decide) c9)
            refine lv_iconst (v := 0) hx hb dX10_takesOne_91 (by decide) ?_
            exact RI (v := 0) hC hP hD hS [0, 1, 2, 3] (kd12944, ks12945, kn12946, tf12947, ksp12948, gtsp2949) rfl rfl (by decide) (⟨Or.inr (rfl), by dsimp only; omega⟩) (by decide +kernel) dX10_takesOne_92
        · refine lv_aload_n hx hb dX10_takesOne_49 rfl (lv_at hl 2 rfl) ?_
          refine iVo (wr := []) hO hC hK hl hP hD hS hA (t_takesComparison l G K h0 tby kt tln tsp vkd vks vkn vtf fby tspc ksp ftsp (by omega) (by omega) (by omega) (by omega)) si_X10_162 [0, 1, 2, 3] [] rfl rfl (by decide) rfl (by decide) (by decide) rfl rfl rfl rfl rfl (Nat.le_of_ble_eq_true rfl) ⟨Nat.le_of_ble_eq_true rfl, Nat.le_of_ble_eq_true rfl⟩ ⟨Nat.le_of_ble_eq_true rfl, Nat.le_of_ble_eq_true rfl⟩ dX10_takesOne_50 (fun r2966 u2967 H locs hr2966 hP hD hS => ?_)
          obtain ⟨kd12968, ks12969, kn12970, tf12971, ksp12972, gtsp2973⟩ := u2967
          try dsimp only at hr2966
          have hP : va_P G.1 vwCl [(h0, .inr (10, [.ref tby, .int (nI kt), .ref tln, .ref tsp, .int kd12968, .int (nI ks12969), .int (nI kn12970), .int tf12971])), (tby, .inl (G.2.1, 240, .inl fby)), (tsp, .inr (8, [.int 120, .int 1, .ref tspc, .int (nI ksp12972)])), (tspc, .inl (G.2.1, 120, .inl gtsp2973))] H := hP
          have hD : va_D A [(h0, .inr (10, [.ref tby, .int (nI kt), .ref tln, .ref tsp, .int kd12968, .int (nI ks12969), .int (nI kn12970), .int tf12971])), (tby, .inl (G.2.1, 240, .inl fby)), (tsp, .inr (8, [.int 120, .int 1, .ref tspc, .int (nI ksp12972)])), (tspc, .inl (G.2.1, 120, .inl gtsp2973))] := hD
          obtain ⟨hr2966, w2974⟩ := hr2966
          rcases hr2966 with rfl | rfl
          · refine lv_if_ne (tgt := 93) hx hb dX10_takesOne_53 (by decide) (fun _ => ?_) (fun c9 => absurd c9 (by decide))
            refine lv_iload_n hx hb dX10_takesOne_93 rfl (lv_at hl 1 rfl) ?_
            refine lv_if_eq (tgt := 102) hx hb dX10_takesOne_94 (by decide) (fun c_94_2976 => ?_) (fun c_94_2976 => ?_)
            · refine lv_iconst (v := 1) hx hb dX10_takesOne_102 (by decide) ?_
              exact RI (v := 1) hC hP hD hS [0, 1, 2, 3] (kd12968, ks12969, kn12970, tf12971, ksp12972, gtsp2973) rfl rfl (by decide) (⟨Or.inl (rfl), by dsimp only; omega⟩) (by decide +kernel) dX10_takesOne_103
            · refine lv_aload_n hx hb dX10_takesOne_97 rfl (lv_at hl 2 rfl) ?_
              refine lv_iconst (v := (-1)) hx hb dX10_takesOne_98 (by decide) ?_
              refine vV (wr := [(tby, .inl (G.2.1, 240, .inl fby))]) hC hK hl hP hD hS hA (t_addStep l G h0 (-1) tby kt tln tsp kd12968 ks12969 kn12970 tf12971 tspc ksp12972 gtsp2973 (by omega)) si_X10_152 [0, 2, 3] [1] rfl rfl (by decide) rfl (by decide) (by decide) rfl rfl rfl rfl rfl (Nat.le_of_ble_eq_true rfl) ⟨Nat.le_of_ble_eq_true rfl, Nat.le_of_ble_eq_true rfl⟩ ⟨Nat.le_of_ble_eq_true rfl, Nat.le_of_ble_eq_true rfl⟩ dX10_takesOne_99 (fun u2978 H locs hr2977 hP hD hS => ?_)
              obtain ⟨ksp12979, gtsp2980⟩ := u2978
              try dsimp only at hr2977
              have hP : va_P G.1 vwCl [(tby, .inl (G.2.1, 240, .inl fby)), (h0, .inr (10, [.ref tby, .int (nI kt), .ref tln, .ref tsp, .int kd12968, .int (nI ks12969), .int (nI kn12970), .int tf12971])), (tsp, .inr (8, [.int 120, .int 1, .ref tspc, .int (nI ksp12979)])), (tspc, .inl (G.2.1, 120, .inl gtsp2980))] H := hP
              have hD : va_D A [(tby, .inl (G.2.1, 240, .inl fby)), (h0, .inr (10, [.ref tby, .int (nI kt), .ref tln, .ref tsp, .int kd12968, .int (nI ks12969), .int (nI kn12970), .int tf12971])), (tsp, .inr (8, [.int 120, .int 1, .ref tspc, .int (nI ksp12979)])), (tspc, .inl (G.2.1, 120, .inl gtsp2980))] := hD
              have w2981 := hr2977
              refine lv_iconst (v := 1) hx hb dX10_takesOne_102 (by decide) ?_
              exact RI (v := 1) hC hP hD hS [1, 0, 2, 3] (kd12968, ks12969, kn12970, tf12971, ksp12979, gtsp2980) rfl rfl (by decide) (⟨Or.inl (rfl), by dsimp only; omega⟩) (by decide +kernel) dX10_takesOne_103
          · refine lv_if_ne (tgt := 93) hx hb dX10_takesOne_53 (by decide) (fun c9 => absurd (by decide) c9) (fun _ => ?_)
            refine lv_iconst (v := 0) hx hb dX10_takesOne_56 (by decide) ?_
            exact RI (v := 0) hC hP hD hS [0, 1, 2, 3] (kd12968, ks12969, kn12970, tf12971, ksp12972, gtsp2973) rfl rfl (by decide) (⟨Or.inr (rfl), by dsimp only; omega⟩) (by decide +kernel) dX10_takesOne_57
  exact keyP 240 0 0 tkd tf9 ks kn _ _ _ (by omega) (by first | assumption | exact Or.inl rfl | exact Or.inr rfl | omega) (by first | assumption | exact Or.inl rfl | exact Or.inr rfl | omega) hP hD hS (lv_sub hl [0, 1, 2, 3] rfl)
set_option maxHeartbeats 4000000 in
set_option maxRecDepth 100000 in
theorem t_all3 (l : Launch) (G : GG) (K : OO) (h0 : Nat) (tby : Nat) (kt : Nat) (tln : Nat) (tsp : Nat) (tkd : Int32) (ks : Nat) (kn : Nat) (tf9 : Int32) (fby : Nat → Int32) (tspc : Nat) (ksp : Nat) (ftsp : Nat → Int32) (hkt : kt ≤ 240) (hks : ks ≤ 240) (hkn : kn ≤ 240) (hksp : ksp ≤ 120) : MIo l G K yX10_takesAll cX10_takesAll 3 (some .boolean) 14 0 0 [.ref h0, .int 3] [(h0, .inr (10, [.ref tby, .int (nI kt), .ref tln, .ref tsp, .int tkd, .int (nI ks), .int (nI kn), .int tf9])), (tby, .inl (G.2.1, 240, .inl fby)), (tsp, .inr (8, [.int 120, .int 1, .ref tspc, .int (nI ksp)])), (tspc, .inl (G.2.1, 120, .inl ftsp))] (fun (r : Int32) (u : Int32 × Nat × Nat × Int32 × Nat × (Nat → Int32)) => (r = 1 ∨ r = 0) ∧ (u.2.1 ≤ 240 ∧ u.2.2.1 ≤ 240 ∧ u.2.2.2.2.1 ≤ 120)) (fun u : Int32 × Nat × Nat × Int32 × Nat × (Nat → Int32) => [(h0, .inr (10, [.ref tby, .int (nI kt), .ref tln, .ref tsp, .int u.1, .int (nI u.2.1), .int (nI u.2.2.1), .int u.2.2.2.1])), (tby, .inl (G.2.1, 240, .inl fby)), (tsp, .inr (8, [.int 120, .int 1, .ref tspc, .int (nI u.2.2.2.2.1)])), (tspc, .inl (G.2.1, 120, .inl u.2.2.2.2.2))]) := by
  refine MIo.start (by decide +kernel) (Nat.le_of_ble_eq_true rfl) ?_
  intro p e s m below meth c A ls hC hK hP hD hS hA hl hO
  have hl : lv_has ls 3 [(0, .ref h0), (1, .int 3)] := hl
  obtain ⟨hx, hb, hr, hml, hB, hown, hlocks, hnm⟩ := id hC
  refine lv_aload_n hx hb dX10_takesAll_0 rfl (lv_at hl 0 rfl) ?_
  refine lv_iload_n hx hb dX10_takesAll_1 rfl (lv_at hl 1 rfl) ?_
  refine iVo (wr := []) hO hC hK hl hP hD hS hA (t_one3 l G K h0 tby kt tln tsp tkd ks kn tf9 fby tspc ksp ftsp (by omega) (by omega) (by omega) (by omega)) si_X10_155 [0, 1, 2, 3] [] rfl rfl (by decide) rfl (by decide) (by decide) rfl rfl rfl rfl rfl (Nat.le_of_ble_eq_true rfl) ⟨Nat.le_of_ble_eq_true rfl, Nat.le_of_ble_eq_true rfl⟩ ⟨Nat.le_of_ble_eq_true rfl, Nat.le_of_ble_eq_true rfl⟩ dX10_takesAll_2 (fun r2982 u2983 H locs hr2982 hP hD hS => ?_)
  obtain ⟨kd12984, ks12985, kn12986, tf12987, ksp12988, gtsp2989⟩ := u2983
  try dsimp only at hr2982
  have hP : va_P G.1 vwCl [(h0, .inr (10, [.ref tby, .int (nI kt), .ref tln, .ref tsp, .int kd12984, .int (nI ks12985), .int (nI kn12986), .int tf12987])), (tby, .inl (G.2.1, 240, .inl fby)), (tsp, .inr (8, [.int 120, .int 1, .ref tspc, .int (nI ksp12988)])), (tspc, .inl (G.2.1, 120, .inl gtsp2989))] H := hP
  have hD : va_D A [(h0, .inr (10, [.ref tby, .int (nI kt), .ref tln, .ref tsp, .int kd12984, .int (nI ks12985), .int (nI kn12986), .int tf12987])), (tby, .inl (G.2.1, 240, .inl fby)), (tsp, .inr (8, [.int 120, .int 1, .ref tspc, .int (nI ksp12988)])), (tspc, .inl (G.2.1, 120, .inl gtsp2989))] := hD
  obtain ⟨hr2982, w2990⟩ := hr2982
  rcases hr2982 with rfl | rfl
  · refine lv_if_ne (tgt := 10) hx hb dX10_takesAll_5 (by decide) (fun _ => ?_) (fun c9 => absurd c9 (by decide))
    refine lv_iconst (v := 0) hx hb dX10_takesAll_10 (by decide) ?_
    refine lv_istore_n (lv' := [(2, .int 0), (0, .ref h0), (1, .int 3)]) hx hb dX10_takesAll_11 rfl hl (by decide) rfl (fun ls hl => ?_)
    have keyP : ∀ (nP kP : Nat) (vkd : Int32) (vtf : Int32) (vtsp : Nat → Int32) (vks : Nat) (vkn : Nat) (vksp : Nat) (H : Heap) (locs : List Loc) (ls : Array Slot), kP + nP = 240 → (vks ≤ 240) → (vkn ≤ 240) → (vksp ≤ 120) → va_P G.1 vwCl [(h0, .inr (10, [.ref tby, .int (nI kt), .ref tln, .ref tsp, .int vkd, .int (nI vks), .int (nI vkn), .int vtf])), (tby, .inl (G.2.1, 240, .inl fby)), (tsp, .inr (8, [.int 120, .int 1, .ref tspc, .int (nI vksp)])), (tspc, .inl (G.2.1, 120, .inl vtsp))] H → va_D A [(h0, .inr (10, [.ref tby, .int (nI kt), .ref tln, .ref tsp, .int vkd, .int (nI vks), .int (nI vkn), .int vtf])), (tby, .inl (G.2.1, 240, .inl fby)), (tsp, .inr (8, [.int 120, .int 1, .ref tspc, .int (nI vksp)])), (tspc, .inl (G.2.1, 120, .inl vtsp))] → va_S A s.heap H locs → lv_has ls 3 [(2, .int (nI kP)), (0, .ref h0), (1, .int 3)] → W p l e (RM 14 0 0) s m ([.ref h0, .int 3] : List Value).toArray below meth c H locs 0 0 (MQ below (QI G (fun (r : Int32) (u : Int32 × Nat × Nat × Int32 × Nat × (Nat → Int32)) => (r = 1 ∨ r = 0) ∧ (u.2.1 ≤ 240 ∧ u.2.2.1 ≤ 240 ∧ u.2.2.2.2.1 ≤ 120)) (fun u : Int32 × Nat × Nat × Int32 × Nat × (Nat → Int32) => [(h0, .inr (10, [.ref tby, .int (nI kt), .ref tln, .ref tsp, .int u.1, .int (nI u.2.1), .int (nI u.2.2.1), .int u.2.2.2.1])), (tby, .inl (G.2.1, 240, .inl fby)), (tsp, .inr (8, [.int 120, .int 1, .ref tspc, .int (nI u.2.2.2.2.1)])), (tspc, .inl (G.2.1, 120, .inl u.2.2.2.2.2))]) A) ([.ref h0, .int 3] : List Value).toArray s 0 0 A) (F0 m 12 ls []) := by
      intro nP
      induction nP with
      | zero =>
        intro kP vkd vtf vtsp vks vkn vksp H locs ls hkP hvks hvkn hvksp hP hD hS hl
        obtain rfl : 240 = kP := by omega
        have hl : lv_has ls 3 [(2, .int 240), (0, .ref h0), (1, .int 3)] := hl
        refine lv_iload_n hx hb dX10_takesAll_12 rfl (lv_at hl 0 rfl) ?_
        refine lv_sipush (v := 240) hx hb dX10_takesAll_13 (by decide) ?_
        refine lv_icmp_ge (tgt := 54) hx hb dX10_takesAll_16 (by decide) (fun _ => ?_) (fun c9 => absurd (by decide) c9)
        refine lv_iconst (v := 1) hx hb dX10_takesAll_54 (by decide) ?_
        exact RI (v := 1) hC hP hD hS [0, 1, 2, 3] (vkd, vks, vkn, vtf, vksp, vtsp) rfl rfl (by decide) (⟨Or.inl (rfl), by dsimp only; omega⟩) (by decide +kernel) dX10_takesAll_55
      | succ nP ihP =>
        intro kP vkd vtf vtsp vks vkn vksp H locs ls hkP hvks hvkn hvksp hP hD hS hl
        refine lv_iload_n hx hb dX10_takesAll_12 rfl (lv_at hl 0 rfl) ?_
        refine lv_sipush (v := 240) hx hb dX10_takesAll_13 (by decide) ?_
        refine lv_icmp_ge (tgt := 54) hx hb dX10_takesAll_16 (by decide) (fun c9 => absurd c9 (nI_ge (a := kP) (b := 240) (by omega) (by omega))) (fun _ => ?_)
        refine lv_aload_n hx hb dX10_takesAll_19 rfl (lv_at hl 1 rfl) ?_
        refine va_ldcS (index := 158) (tx := "and") hx hb hown (hO.2.1 9 (by decide)) dX10_takesAll_20 ?_
        refine pVo hO hS hC hK hl hP hD (t_isName l G K 9 h0 tby kt tln tsp vkd vks vkn vtf fby (by omega) (by omega) (by omega) ((by decide))) si_X10_102 [0, 1] rfl rfl (by decide) rfl rfl rfl rfl rfl (Nat.le_of_ble_eq_true rfl) ⟨Nat.le_of_ble_eq_true rfl, Nat.le_of_ble_eq_true rfl⟩ ⟨by first | exact Nat.le_of_ble_eq_true rfl | exact Nat.zero_le _, by first | exact Nat.le_of_ble_eq_true rfl | exact Nat.zero_le _⟩ dX10_takesAll_22 (fun r2992 hr2992 => ?_)
        rcases hr2992 with rfl | rfl
        · refine lv_if_eq (tgt := 54) hx hb dX10_takesAll_25 (by decide) (fun c9 => absurd c9 (by decide)) (fun _ => ?_)
          refine lv_aload_n hx hb dX10_takesAll_28 rfl (lv_at hl 1 rfl) ?_
          refine vV (wr := [(tsp, .inr (8, [.int 120, .int 1, .ref tspc, .int (nI vksp)])), (tspc, .inl (G.2.1, 120, .inl vtsp))]) hC hK hl hP hD hS hA (t_advance l G h0 tby kt tln tsp vkd vks vkn vtf fby (by omega) (by omega) (by omega)) si_X10_47 [0, 1] [2, 3] rfl rfl (by decide) rfl (by decide) (by decide) rfl rfl rfl rfl rfl (Nat.le_of_ble_eq_true rfl) ⟨Nat.le_of_ble_eq_true rfl, Nat.le_of_ble_eq_true rfl⟩ ⟨Nat.le_of_ble_eq_true rfl, Nat.le_of_ble_eq_true rfl⟩ dX10_takesAll_29 (fun u2995 H locs hr2994 hP hD hS => ?_)
          obtain ⟨kd12996, ks12997, kn12998⟩ := u2995
          try dsimp only at hr2994
          have hP : va_P G.1 vwCl [(tsp, .inr (8, [.int 120, .int 1, .ref tspc, .int (nI vksp)])), (tspc, .inl (G.2.1, 120, .inl vtsp)), (h0, .inr (10, [.ref tby, .int (nI kt), .ref tln, .ref tsp, .int kd12996, .int (nI ks12997), .int (nI kn12998), .int vtf])), (tby, .inl (G.2.1, 240, .inl fby))] H := hP
          have hD : va_D A [(tsp, .inr (8, [.int 120, .int 1, .ref tspc, .int (nI vksp)])), (tspc, .inl (G.2.1, 120, .inl vtsp)), (h0, .inr (10, [.ref tby, .int (nI kt), .ref tln, .ref tsp, .int kd12996, .int (nI ks12997), .int (nI kn12998), .int vtf])), (tby, .inl (G.2.1, 240, .inl fby))] := hD
          have w2999 := hr2994
          refine lv_aload_n hx hb dX10_takesAll_32 rfl (lv_at hl 1 rfl) ?_
          refine lv_iload_n hx hb dX10_takesAll_33 rfl (lv_at hl 2 rfl) ?_
          refine iVo (wr := []) hO hC hK hl hP hD hS hA (t_one3 l G K h0 tby kt tln tsp kd12996 ks12997 kn12998 vtf fby tspc vksp vtsp (by omega) (by omega) (by omega) (by omega)) si_X10_155 [2, 3, 0, 1] [] rfl rfl (by decide) rfl (by decide) (by decide) rfl rfl rfl rfl rfl (Nat.le_of_ble_eq_true rfl) ⟨Nat.le_of_ble_eq_true rfl, Nat.le_of_ble_eq_true rfl⟩ ⟨Nat.le_of_ble_eq_true rfl, Nat.le_of_ble_eq_true rfl⟩ dX10_takesAll_34 (fun r3000 u3001 H locs hr3000 hP hD hS => ?_)
          obtain ⟨kd13002, ks13003, kn13004, tf13005, ksp13006, gtsp3007⟩ := u3001
          try dsimp only at hr3000
          have hP : va_P G.1 vwCl [(h0, .inr (10, [.ref tby, .int (nI kt), .ref tln, .ref tsp, .int kd13002, .int (nI ks13003), .int (nI kn13004), .int tf13005])), (tby, .inl (G.2.1, 240, .inl fby)), (tsp, .inr (8, [.int 120, .int 1, .ref tspc, .int (nI ksp13006)])), (tspc, .inl (G.2.1, 120, .inl gtsp3007))] H := hP
          have hD : va_D A [(h0, .inr (10, [.ref tby, .int (nI kt), .ref tln, .ref tsp, .int kd13002, .int (nI ks13003), .int (nI kn13004), .int tf13005])), (tby, .inl (G.2.1, 240, .inl fby)), (tsp, .inr (8, [.int 120, .int 1, .ref tspc, .int (nI ksp13006)])), (tspc, .inl (G.2.1, 120, .inl gtsp3007))] := hD
          obtain ⟨hr3000, w3008⟩ := hr3000
          rcases hr3000 with rfl | rfl
          · refine lv_if_ne (tgt := 42) hx hb dX10_takesAll_37 (by decide) (fun _ => ?_) (fun c9 => absurd c9 (by decide))
            refine lv_aload_n hx hb dX10_takesAll_42 rfl (lv_at hl 1 rfl) ?_
            refine lv_bipush (v := (-2)) hx hb dX10_takesAll_43 (by decide) ?_
            refine vV (wr := [(tby, .inl (G.2.1, 240, .inl fby))]) hC hK hl hP hD hS hA (t_addStep l G h0 (-2) tby kt tln tsp kd13002 ks13003 kn13004 tf13005 tspc ksp13006 gtsp3007 (by omega)) si_X10_152 [0, 2, 3] [1] rfl rfl (by decide) rfl (by decide) (by decide) rfl rfl rfl rfl rfl (Nat.le_of_ble_eq_true rfl) ⟨Nat.le_of_ble_eq_true rfl, Nat.le_of_ble_eq_true rfl⟩ ⟨Nat.le_of_ble_eq_true rfl, Nat.le_of_ble_eq_true rfl⟩ dX10_takesAll_45 (fun u3011 H locs hr3010 hP hD hS => ?_)
            obtain ⟨ksp13012, gtsp3013⟩ := u3011
            try dsimp only at hr3010
            have hP : va_P G.1 vwCl [(tby, .inl (G.2.1, 240, .inl fby)), (h0, .inr (10, [.ref tby, .int (nI kt), .ref tln, .ref tsp, .int kd13002, .int (nI ks13003), .int (nI kn13004), .int tf13005])), (tsp, .inr (8, [.int 120, .int 1, .ref tspc, .int (nI ksp13012)])), (tspc, .inl (G.2.1, 120, .inl gtsp3013))] H := hP
            have hD : va_D A [(tby, .inl (G.2.1, 240, .inl fby)), (h0, .inr (10, [.ref tby, .int (nI kt), .ref tln, .ref tsp, .int kd13002, .int (nI ks13003), .int (nI kn13004), .int tf13005])), (tsp, .inr (8, [.int 120, .int 1, .ref tspc, .int (nI ksp13012)])), (tspc, .inl (G.2.1, 120, .inl gtsp3013))] := hD
            have w3014 := hr3010
            refine lv_iinc (v := nI (kP + 1)) (lv' := [(2, .int (nI (kP + 1))), (0, .ref h0), (1, .int 3)]) hx hb dX10_takesAll_48 hl (k := 0) rfl (nI_1 _) (by decide) rfl (fun ls hl => ?_)
            refine lv_goto (tgt := 12) hx hb dX10_takesAll_51 (by decide) ?_
            have hP := hP.sub (ws' := [(h0, .inr (10, [.ref tby, .int (nI kt), .ref tln, .ref tsp, .int kd13002, .int (nI ks13003), .int (nI kn13004), .int tf13005])), (tby, .inl (G.2.1, 240, .inl fby)), (tsp, .inr (8, [.int 120, .int 1, .ref tspc, .int (nI ksp13012)])), (tspc, .inl (G.2.1, 120, .inl gtsp3013))]) [1, 0, 2, 3] rfl
            have hD := hD.sub (ws' := [(h0, .inr (10, [.ref tby, .int (nI kt), .ref tln, .ref tsp, .int kd13002, .int (nI ks13003), .int (nI kn13004), .int tf13005])), (tby, .inl (G.2.1, 240, .inl fby)), (tsp, .inr (8, [.int 120, .int 1, .ref tspc, .int (nI ksp13012)])), (tspc, .inl (G.2.1, 120, .inl gtsp3013))]) [1, 0, 2, 3] (by decide) rfl
            exact ihP (kP + 1) kd13002 tf13005 gtsp3013 ks13003 kn13004 ksp13012 _ _ _ (by omega) (by first | assumption | exact Or.inl rfl | exact Or.inr rfl | omega) (by first | assumption | exact Or.inl rfl | exact Or.inr rfl | omega) (by first | assumption | exact Or.inl rfl | exact Or.inr rfl | omega) hP hD hS (lv_sub hl [0, 1, 2] rfl)
          · refine lv_if_ne (tgt := 42) hx hb dX10_takesAll_37 (by decide) (fun c9 => absurd (by decide) c9) (fun _ => ?_)
            refine lv_iconst (v := 0) hx hb dX10_takesAll_40 (by decide) ?_
            exact RI (v := 0) hC hP hD hS [0, 1, 2, 3] (kd13002, ks13003, kn13004, tf13005, ksp13006, gtsp3007) rfl rfl (by decide) (⟨Or.inr (rfl), by dsimp only; omega⟩) (by decide +kernel) dX10_takesAll_41
        · refine lv_if_eq (tgt := 54) hx hb dX10_takesAll_25 (by decide) (fun _ => ?_) (fun c9 => absurd (by decide) c9)
          refine lv_iconst (v := 1) hx hb dX10_takesAll_54 (by decide) ?_
          exact RI (v := 1) hC hP hD hS [0, 1, 2, 3] (vkd, vks, vkn, vtf, vksp, vtsp) rfl rfl (by decide) (⟨Or.inl (rfl), by dsimp only; omega⟩) (by decide +kernel) dX10_takesAll_55
    exact keyP 240 0 kd12984 tf12987 gtsp2989 ks12985 kn12986 ksp12988 _ _ _ (by omega) (by first | assumption | exact Or.inl rfl | exact Or.inr rfl | omega) (by first | assumption | exact Or.inl rfl | exact Or.inr rfl | omega) (by first | assumption | exact Or.inl rfl | exact Or.inr rfl | omega) hP hD hS (lv_sub hl [0, 1, 2] rfl)
  · refine lv_if_ne (tgt := 10) hx hb dX10_takesAll_5 (by decide) (fun c9 => absurd (by decide) c9) (fun _ => ?_)
    refine lv_iconst (v := 0) hx hb dX10_takesAll_8 (by decide) ?_
    exact RI (v := 0) hC hP hD hS [0, 1, 2, 3] (kd12984, ks12985, kn12986, tf12987, ksp12988, gtsp2989) rfl rfl (by decide) (⟨Or.inr (rfl), by dsimp only; omega⟩) (by decide +kernel) dX10_takesAll_9
set_option maxHeartbeats 4000000 in
set_option maxRecDepth 100000 in
theorem t_cond3 (l : Launch) (G : GG) (K : OO) (h0 : Nat) (tby : Nat) (kt : Nat) (tln : Nat) (tsp : Nat) (tkd : Int32) (ks : Nat) (kn : Nat) (tf9 : Int32) (fby : Nat → Int32) (tspc : Nat) (ksp : Nat) (ftsp : Nat → Int32) (hkt : kt ≤ 240) (hks : ks ≤ 240) (hkn : kn ≤ 240) (hksp : ksp ≤ 120) : MIo l G K yX10_takesCond cX10_takesCond 3 (some .boolean) 15 0 0 [.ref h0, .int 3] [(h0, .inr (10, [.ref tby, .int (nI kt), .ref tln, .ref tsp, .int tkd, .int (nI ks), .int (nI kn), .int tf9])), (tby, .inl (G.2.1, 240, .inl fby)), (tsp, .inr (8, [.int 120, .int 1, .ref tspc, .int (nI ksp)])), (tspc, .inl (G.2.1, 120, .inl ftsp))] (fun (r : Int32) (u : Int32 × Nat × Nat × Int32 × Nat × (Nat → Int32)) => (r = 1 ∨ r = 0) ∧ (u.2.1 ≤ 240 ∧ u.2.2.1 ≤ 240 ∧ u.2.2.2.2.1 ≤ 120)) (fun u : Int32 × Nat × Nat × Int32 × Nat × (Nat → Int32) => [(h0, .inr (10, [.ref tby, .int (nI kt), .ref tln, .ref tsp, .int u.1, .int (nI u.2.1), .int (nI u.2.2.1), .int u.2.2.2.1])), (tby, .inl (G.2.1, 240, .inl fby)), (tsp, .inr (8, [.int 120, .int 1, .ref tspc, .int (nI u.2.2.2.2.1)])), (tspc, .inl (G.2.1, 120, .inl u.2.2.2.2.2))]) := by
  refine MIo.start (by decide +kernel) (Nat.le_of_ble_eq_true rfl) ?_
  intro p e s m below meth c A ls hC hK hP hD hS hA hl hO
  have hl : lv_has ls 3 [(0, .ref h0), (1, .int 3)] := hl
  obtain ⟨hx, hb, hr, hml, hB, hown, hlocks, hnm⟩ := id hC
  refine lv_aload_n hx hb dX10_takesCond_0 rfl (lv_at hl 0 rfl) ?_
  refine lv_iload_n hx hb dX10_takesCond_1 rfl (lv_at hl 1 rfl) ?_
  refine iVo (wr := []) hO hC hK hl hP hD hS hA (t_all3 l G K h0 tby kt tln tsp tkd ks kn tf9 fby tspc ksp ftsp (by omega) (by omega) (by omega) (by omega)) si_X10_147 [0, 1, 2, 3] [] rfl rfl (by decide) rfl (by decide) (by decide) rfl rfl rfl rfl rfl (Nat.le_of_ble_eq_true rfl) ⟨Nat.le_of_ble_eq_true rfl, Nat.le_of_ble_eq_true rfl⟩ ⟨Nat.le_of_ble_eq_true rfl, Nat.le_of_ble_eq_true rfl⟩ dX10_takesCond_2 (fun r3015 u3016 H locs hr3015 hP hD hS => ?_)
  obtain ⟨kd13017, ks13018, kn13019, tf13020, ksp13021, gtsp3022⟩ := u3016
  try dsimp only at hr3015
  have hP : va_P G.1 vwCl [(h0, .inr (10, [.ref tby, .int (nI kt), .ref tln, .ref tsp, .int kd13017, .int (nI ks13018), .int (nI kn13019), .int tf13020])), (tby, .inl (G.2.1, 240, .inl fby)), (tsp, .inr (8, [.int 120, .int 1, .ref tspc, .int (nI ksp13021)])), (tspc, .inl (G.2.1, 120, .inl gtsp3022))] H := hP
  have hD : va_D A [(h0, .inr (10, [.ref tby, .int (nI kt), .ref tln, .ref tsp, .int kd13017, .int (nI ks13018), .int (nI kn13019), .int tf13020])), (tby, .inl (G.2.1, 240, .inl fby)), (tsp, .inr (8, [.int 120, .int 1, .ref tspc, .int (nI ksp13021)])), (tspc, .inl (G.2.1, 120, .inl gtsp3022))] := hD
  obtain ⟨hr3015, w3023⟩ := hr3015
  rcases hr3015 with rfl | rfl
  · refine lv_if_ne (tgt := 10) hx hb dX10_takesCond_5 (by decide) (fun _ => ?_) (fun c9 => absurd c9 (by decide))
    refine lv_iconst (v := 0) hx hb dX10_takesCond_10 (by decide) ?_
    refine lv_istore_n (lv' := [(2, .int 0), (0, .ref h0), (1, .int 3)]) hx hb dX10_takesCond_11 rfl hl (by decide) rfl (fun ls hl => ?_)
    have keyP : ∀ (nP kP : Nat) (vkd : Int32) (vtf : Int32) (vtsp : Nat → Int32) (vks : Nat) (vkn : Nat) (vksp : Nat) (H : Heap) (locs : List Loc) (ls : Array Slot), kP + nP = 240 → (vks ≤ 240) → (vkn ≤ 240) → (vksp ≤ 120) → va_P G.1 vwCl [(h0, .inr (10, [.ref tby, .int (nI kt), .ref tln, .ref tsp, .int vkd, .int (nI vks), .int (nI vkn), .int vtf])), (tby, .inl (G.2.1, 240, .inl fby)), (tsp, .inr (8, [.int 120, .int 1, .ref tspc, .int (nI vksp)])), (tspc, .inl (G.2.1, 120, .inl vtsp))] H → va_D A [(h0, .inr (10, [.ref tby, .int (nI kt), .ref tln, .ref tsp, .int vkd, .int (nI vks), .int (nI vkn), .int vtf])), (tby, .inl (G.2.1, 240, .inl fby)), (tsp, .inr (8, [.int 120, .int 1, .ref tspc, .int (nI vksp)])), (tspc, .inl (G.2.1, 120, .inl vtsp))] → va_S A s.heap H locs → lv_has ls 3 [(2, .int (nI kP)), (0, .ref h0), (1, .int 3)] → W p l e (RM 15 0 0) s m ([.ref h0, .int 3] : List Value).toArray below meth c H locs 0 0 (MQ below (QI G (fun (r : Int32) (u : Int32 × Nat × Nat × Int32 × Nat × (Nat → Int32)) => (r = 1 ∨ r = 0) ∧ (u.2.1 ≤ 240 ∧ u.2.2.1 ≤ 240 ∧ u.2.2.2.2.1 ≤ 120)) (fun u : Int32 × Nat × Nat × Int32 × Nat × (Nat → Int32) => [(h0, .inr (10, [.ref tby, .int (nI kt), .ref tln, .ref tsp, .int u.1, .int (nI u.2.1), .int (nI u.2.2.1), .int u.2.2.2.1])), (tby, .inl (G.2.1, 240, .inl fby)), (tsp, .inr (8, [.int 120, .int 1, .ref tspc, .int (nI u.2.2.2.2.1)])), (tspc, .inl (G.2.1, 120, .inl u.2.2.2.2.2))]) A) ([.ref h0, .int 3] : List Value).toArray s 0 0 A) (F0 m 12 ls []) := by
      intro nP
      induction nP with
      | zero =>
        intro kP vkd vtf vtsp vks vkn vksp H locs ls hkP hvks hvkn hvksp hP hD hS hl
        obtain rfl : 240 = kP := by omega
        have hl : lv_has ls 3 [(2, .int 240), (0, .ref h0), (1, .int 3)] := hl
        refine lv_iload_n hx hb dX10_takesCond_12 rfl (lv_at hl 0 rfl) ?_
        refine lv_sipush (v := 240) hx hb dX10_takesCond_13 (by decide) ?_
        refine lv_icmp_ge (tgt := 54) hx hb dX10_takesCond_16 (by decide) (fun _ => ?_) (fun c9 => absurd (by decide) c9)
        refine lv_iconst (v := 1) hx hb dX10_takesCond_54 (by decide) ?_
        exact RI (v := 1) hC hP hD hS [0, 1, 2, 3] (vkd, vks, vkn, vtf, vksp, vtsp) rfl rfl (by decide) (⟨Or.inl (rfl), by dsimp only; omega⟩) (by decide +kernel) dX10_takesCond_55
      | succ nP ihP =>
        intro kP vkd vtf vtsp vks vkn vksp H locs ls hkP hvks hvkn hvksp hP hD hS hl
        refine lv_iload_n hx hb dX10_takesCond_12 rfl (lv_at hl 0 rfl) ?_
        refine lv_sipush (v := 240) hx hb dX10_takesCond_13 (by decide) ?_
        refine lv_icmp_ge (tgt := 54) hx hb dX10_takesCond_16 (by decide) (fun c9 => absurd c9 (nI_ge (a := kP) (b := 240) (by omega) (by omega))) (fun _ => ?_)
        refine lv_aload_n hx hb dX10_takesCond_19 rfl (lv_at hl 1 rfl) ?_
        refine va_ldcS (index := 150) (tx := "o\x72") hx hb hown (hO.2.1 8 (by decide)) dX10_takesCond_20 ?_
        refine pVo hO hS hC hK hl hP hD (t_isName l G K 8 h0 tby kt tln tsp vkd vks vkn vtf fby (by omega) (by omega) (by omega) ((by decide))) si_X10_102 [0, 1] rfl rfl (by decide) rfl rfl rfl rfl rfl (Nat.le_of_ble_eq_true rfl) ⟨Nat.le_of_ble_eq_true rfl, Nat.le_of_ble_eq_true rfl⟩ ⟨by first | exact Nat.le_of_ble_eq_true rfl | exact Nat.zero_le _, by first | exact Nat.le_of_ble_eq_true rfl | exact Nat.zero_le _⟩ dX10_takesCond_22 (fun r3025 hr3025 => ?_)
        rcases hr3025 with rfl | rfl
        · refine lv_if_eq (tgt := 54) hx hb dX10_takesCond_25 (by decide) (fun c9 => absurd c9 (by decide)) (fun _ => ?_)
          refine lv_aload_n hx hb dX10_takesCond_28 rfl (lv_at hl 1 rfl) ?_
          refine vV (wr := [(tsp, .inr (8, [.int 120, .int 1, .ref tspc, .int (nI vksp)])), (tspc, .inl (G.2.1, 120, .inl vtsp))]) hC hK hl hP hD hS hA (t_advance l G h0 tby kt tln tsp vkd vks vkn vtf fby (by omega) (by omega) (by omega)) si_X10_47 [0, 1] [2, 3] rfl rfl (by decide) rfl (by decide) (by decide) rfl rfl rfl rfl rfl (Nat.le_of_ble_eq_true rfl) ⟨Nat.le_of_ble_eq_true rfl, Nat.le_of_ble_eq_true rfl⟩ ⟨Nat.le_of_ble_eq_true rfl, Nat.le_of_ble_eq_true rfl⟩ dX10_takesCond_29 (fun u3028 H locs hr3027 hP hD hS => ?_)
          obtain ⟨kd13029, ks13030, kn13031⟩ := u3028
          try dsimp only at hr3027
          have hP : va_P G.1 vwCl [(tsp, .inr (8, [.int 120, .int 1, .ref tspc, .int (nI vksp)])), (tspc, .inl (G.2.1, 120, .inl vtsp)), (h0, .inr (10, [.ref tby, .int (nI kt), .ref tln, .ref tsp, .int kd13029, .int (nI ks13030), .int (nI kn13031), .int vtf])), (tby, .inl (G.2.1, 240, .inl fby))] H := hP
          have hD : va_D A [(tsp, .inr (8, [.int 120, .int 1, .ref tspc, .int (nI vksp)])), (tspc, .inl (G.2.1, 120, .inl vtsp)), (h0, .inr (10, [.ref tby, .int (nI kt), .ref tln, .ref tsp, .int kd13029, .int (nI ks13030), .int (nI kn13031), .int vtf])), (tby, .inl (G.2.1, 240, .inl fby))] := hD
          have w3032 := hr3027
          refine lv_aload_n hx hb dX10_takesCond_32 rfl (lv_at hl 1 rfl) ?_
          refine lv_iload_n hx hb dX10_takesCond_33 rfl (lv_at hl 2 rfl) ?_
          refine iVo (wr := []) hO hC hK hl hP hD hS hA (t_all3 l G K h0 tby kt tln tsp kd13029 ks13030 kn13031 vtf fby tspc vksp vtsp (by omega) (by omega) (by omega) (by omega)) si_X10_147 [2, 3, 0, 1] [] rfl rfl (by decide) rfl (by decide) (by decide) rfl rfl rfl rfl rfl (Nat.le_of_ble_eq_true rfl) ⟨Nat.le_of_ble_eq_true rfl, Nat.le_of_ble_eq_true rfl⟩ ⟨Nat.le_of_ble_eq_true rfl, Nat.le_of_ble_eq_true rfl⟩ dX10_takesCond_34 (fun r3033 u3034 H locs hr3033 hP hD hS => ?_)
          obtain ⟨kd13035, ks13036, kn13037, tf13038, ksp13039, gtsp3040⟩ := u3034
          try dsimp only at hr3033
          have hP : va_P G.1 vwCl [(h0, .inr (10, [.ref tby, .int (nI kt), .ref tln, .ref tsp, .int kd13035, .int (nI ks13036), .int (nI kn13037), .int tf13038])), (tby, .inl (G.2.1, 240, .inl fby)), (tsp, .inr (8, [.int 120, .int 1, .ref tspc, .int (nI ksp13039)])), (tspc, .inl (G.2.1, 120, .inl gtsp3040))] H := hP
          have hD : va_D A [(h0, .inr (10, [.ref tby, .int (nI kt), .ref tln, .ref tsp, .int kd13035, .int (nI ks13036), .int (nI kn13037), .int tf13038])), (tby, .inl (G.2.1, 240, .inl fby)), (tsp, .inr (8, [.int 120, .int 1, .ref tspc, .int (nI ksp13039)])), (tspc, .inl (G.2.1, 120, .inl gtsp3040))] := hD
          obtain ⟨hr3033, w3041⟩ := hr3033
          rcases hr3033 with rfl | rfl
          · refine lv_if_ne (tgt := 42) hx hb dX10_takesCond_37 (by decide) (fun _ => ?_) (fun c9 => absurd c9 (by decide))
            refine lv_aload_n hx hb dX10_takesCond_42 rfl (lv_at hl 1 rfl) ?_
            refine lv_bipush (v := (-3)) hx hb dX10_takesCond_43 (by decide) ?_
            refine vV (wr := [(tby, .inl (G.2.1, 240, .inl fby))]) hC hK hl hP hD hS hA (t_addStep l G h0 (-3) tby kt tln tsp kd13035 ks13036 kn13037 tf13038 tspc ksp13039 gtsp3040 (by omega)) si_X10_152 [0, 2, 3] [1] rfl rfl (by decide) rfl (by decide) (by decide) rfl rfl rfl rfl rfl (Nat.le_of_ble_eq_true rfl) ⟨Nat.le_of_ble_eq_true rfl, Nat.le_of_ble_eq_true rfl⟩ ⟨Nat.le_of_ble_eq_true rfl, Nat.le_of_ble_eq_true rfl⟩ dX10_takesCond_45 (fun u3044 H locs hr3043 hP hD hS => ?_)
            obtain ⟨ksp13045, gtsp3046⟩ := u3044
            try dsimp only at hr3043
            have hP : va_P G.1 vwCl [(tby, .inl (G.2.1, 240, .inl fby)), (h0, .inr (10, [.ref tby, .int (nI kt), .ref tln, .ref tsp, .int kd13035, .int (nI ks13036), .int (nI kn13037), .int tf13038])), (tsp, .inr (8, [.int 120, .int 1, .ref tspc, .int (nI ksp13045)])), (tspc, .inl (G.2.1, 120, .inl gtsp3046))] H := hP
            have hD : va_D A [(tby, .inl (G.2.1, 240, .inl fby)), (h0, .inr (10, [.ref tby, .int (nI kt), .ref tln, .ref tsp, .int kd13035, .int (nI ks13036), .int (nI kn13037), .int tf13038])), (tsp, .inr (8, [.int 120, .int 1, .ref tspc, .int (nI ksp13045)])), (tspc, .inl (G.2.1, 120, .inl gtsp3046))] := hD
            have w3047 := hr3043
            refine lv_iinc (v := nI (kP + 1)) (lv' := [(2, .int (nI (kP + 1))), (0, .ref h0), (1, .int 3)]) hx hb dX10_takesCond_48 hl (k := 0) rfl (nI_1 _) (by decide) rfl (fun ls hl => ?_)
            refine lv_goto (tgt := 12) hx hb dX10_takesCond_51 (by decide) ?_
            have hP := hP.sub (ws' := [(h0, .inr (10, [.ref tby, .int (nI kt), .ref tln, .ref tsp, .int kd13035, .int (nI ks13036), .int (nI kn13037), .int tf13038])), (tby, .inl (G.2.1, 240, .inl fby)), (tsp, .inr (8, [.int 120, .int 1, .ref tspc, .int (nI ksp13045)])), (tspc, .inl (G.2.1, 120, .inl gtsp3046))]) [1, 0, 2, 3] rfl
            have hD := hD.sub (ws' := [(h0, .inr (10, [.ref tby, .int (nI kt), .ref tln, .ref tsp, .int kd13035, .int (nI ks13036), .int (nI kn13037), .int tf13038])), (tby, .inl (G.2.1, 240, .inl fby)), (tsp, .inr (8, [.int 120, .int 1, .ref tspc, .int (nI ksp13045)])), (tspc, .inl (G.2.1, 120, .inl gtsp3046))]) [1, 0, 2, 3] (by decide) rfl
            exact ihP (kP + 1) kd13035 tf13038 gtsp3046 ks13036 kn13037 ksp13045 _ _ _ (by omega) (by first | assumption | exact Or.inl rfl | exact Or.inr rfl | omega) (by first | assumption | exact Or.inl rfl | exact Or.inr rfl | omega) (by first | assumption | exact Or.inl rfl | exact Or.inr rfl | omega) hP hD hS (lv_sub hl [0, 1, 2] rfl)
          · refine lv_if_ne (tgt := 42) hx hb dX10_takesCond_37 (by decide) (fun c9 => absurd (by decide) c9) (fun _ => ?_)
            refine lv_iconst (v := 0) hx hb dX10_takesCond_40 (by decide) ?_
            exact RI (v := 0) hC hP hD hS [0, 1, 2, 3] (kd13035, ks13036, kn13037, tf13038, ksp13039, gtsp3040) rfl rfl (by decide) (⟨Or.inr (rfl), by dsimp only; omega⟩) (by decide +kernel) dX10_takesCond_41
        · refine lv_if_eq (tgt := 54) hx hb dX10_takesCond_25 (by decide) (fun _ => ?_) (fun c9 => absurd (by decide) c9)
          refine lv_iconst (v := 1) hx hb dX10_takesCond_54 (by decide) ?_
          exact RI (v := 1) hC hP hD hS [0, 1, 2, 3] (vkd, vks, vkn, vtf, vksp, vtsp) rfl rfl (by decide) (⟨Or.inl (rfl), by dsimp only; omega⟩) (by decide +kernel) dX10_takesCond_55
    exact keyP 240 0 kd13017 tf13020 gtsp3022 ks13018 kn13019 ksp13021 _ _ _ (by omega) (by first | assumption | exact Or.inl rfl | exact Or.inr rfl | omega) (by first | assumption | exact Or.inl rfl | exact Or.inr rfl | omega) (by first | assumption | exact Or.inl rfl | exact Or.inr rfl | omega) hP hD hS (lv_sub hl [0, 1, 2] rfl)
  · refine lv_if_ne (tgt := 10) hx hb dX10_takesCond_5 (by decide) (fun c9 => absurd (by decide) c9) (fun _ => ?_)
    refine lv_iconst (v := 0) hx hb dX10_takesCond_8 (by decide) ?_
    exact RI (v := 0) hC hP hD hS [0, 1, 2, 3] (kd13017, ks13018, kn13019, tf13020, ksp13021, gtsp3022) rfl rfl (by decide) (⟨Or.inr (rfl), by dsimp only; omega⟩) (by decide +kernel) dX10_takesCond_9
set_option maxHeartbeats 4000000 in
set_option maxRecDepth 100000 in
theorem t_one2 (l : Launch) (G : GG) (K : OO) (h0 : Nat) (tby : Nat) (kt : Nat) (tln : Nat) (tsp : Nat) (tkd : Int32) (ks : Nat) (kn : Nat) (tf9 : Int32) (fby : Nat → Int32) (tspc : Nat) (ksp : Nat) (ftsp : Nat → Int32) (hkt : kt ≤ 240) (hks : ks ≤ 240) (hkn : kn ≤ 240) (hksp : ksp ≤ 120) : MIo l G K yX10_takesOne cX10_takesOne 4 (some .boolean) 17 0 0 [.ref h0, .int 2] [(h0, .inr (10, [.ref tby, .int (nI kt), .ref tln, .ref tsp, .int tkd, .int (nI ks), .int (nI kn), .int tf9])), (tby, .inl (G.2.1, 240, .inl fby)), (tsp, .inr (8, [.int 120, .int 1, .ref tspc, .int (nI ksp)])), (tspc, .inl (G.2.1, 120, .inl ftsp))] (fun (r : Int32) (u : Int32 × Nat × Nat × Int32 × Nat × (Nat → Int32)) => (r = 1 ∨ r = 0) ∧ (u.2.1 ≤ 240 ∧ u.2.2.1 ≤ 240 ∧ u.2.2.2.2.1 ≤ 120)) (fun u : Int32 × Nat × Nat × Int32 × Nat × (Nat → Int32) => [(h0, .inr (10, [.ref tby, .int (nI kt), .ref tln, .ref tsp, .int u.1, .int (nI u.2.1), .int (nI u.2.2.1), .int u.2.2.2.1])), (tby, .inl (G.2.1, 240, .inl fby)), (tsp, .inr (8, [.int 120, .int 1, .ref tspc, .int (nI u.2.2.2.2.1)])), (tspc, .inl (G.2.1, 120, .inl u.2.2.2.2.2))]) := by
  refine MIo.start (by decide +kernel) (Nat.le_of_ble_eq_true rfl) ?_
  intro p e s m below meth c A ls hC hK hP hD hS hA hl hO
  have hl : lv_has ls 4 [(0, .ref h0), (1, .int 2)] := hl
  obtain ⟨hx, hb, hr, hml, hB, hown, hlocks, hnm⟩ := id hC
  refine lv_iconst (v := 0) hx hb dX10_takesOne_0 (by decide) ?_
  refine lv_istore_n (lv' := [(2, .int 0), (0, .ref h0), (1, .int 2)]) hx hb dX10_takesOne_1 rfl hl (by decide) rfl (fun ls hl => ?_)
  refine lv_iconst (v := 0) hx hb dX10_takesOne_2 (by decide) ?_
  refine lv_istore_n (lv' := [(3, .int 0), (2, .int 0), (0, .ref h0), (1, .int 2)]) hx hb dX10_takesOne_3 rfl hl (by decide) rfl (fun ls hl => ?_)
  have keyP : ∀ (nP kP : Nat) (tu : Int32) (vkd : Int32) (vtf : Int32) (vks : Nat) (vkn : Nat) (H : Heap) (locs : List Loc) (ls : Array Slot), kP + nP = 240 → (vks ≤ 240) → (vkn ≤ 240) → va_P G.1 vwCl [(h0, .inr (10, [.ref tby, .int (nI kt), .ref tln, .ref tsp, .int vkd, .int (nI vks), .int (nI vkn), .int vtf])), (tby, .inl (G.2.1, 240, .inl fby)), (tsp, .inr (8, [.int 120, .int 1, .ref tspc, .int (nI ksp)])), (tspc, .inl (G.2.1, 120, .inl ftsp))] H → va_D A [(h0, .inr (10, [.ref tby, .int (nI kt), .ref tln, .ref tsp, .int vkd, .int (nI vks), .int (nI vkn), .int vtf])), (tby, .inl (G.2.1, 240, .inl fby)), (tsp, .inr (8, [.int 120, .int 1, .ref tspc, .int (nI ksp)])), (tspc, .inl (G.2.1, 120, .inl ftsp))] → va_S A s.heap H locs → lv_has ls 4 [(3, .int (nI kP)), (2, .int tu), (0, .ref h0), (1, .int 2)] → W p l e (RM 17 0 0) s m ([.ref h0, .int 2] : List Value).toArray below meth c H locs 0 0 (MQ below (QI G (fun (r : Int32) (u : Int32 × Nat × Nat × Int32 × Nat × (Nat → Int32)) => (r = 1 ∨ r = 0) ∧ (u.2.1 ≤ 240 ∧ u.2.2.1 ≤ 240 ∧ u.2.2.2.2.1 ≤ 120)) (fun u : Int32 × Nat × Nat × Int32 × Nat × (Nat → Int32) => [(h0, .inr (10, [.ref tby, .int (nI kt), .ref tln, .ref tsp, .int u.1, .int (nI u.2.1), .int (nI u.2.2.1), .int u.2.2.2.1])), (tby, .inl (G.2.1, 240, .inl fby)), (tsp, .inr (8, [.int 120, .int 1, .ref tspc, .int (nI u.2.2.2.2.1)])), (tspc, .inl (G.2.1, 120, .inl u.2.2.2.2.2))]) A) ([.ref h0, .int 2] : List Value).toArray s 0 0 A) (F0 m 4 ls []) := by
    intro nP
    induction nP with
    | zero =>
      intro kP tu vkd vtf vks vkn H locs ls hkP hvks hvkn hP hD hS hl
      obtain rfl : 240 = kP := by omega
      have hl : lv_has ls 4 [(3, .int 240), (2, .int tu), (0, .ref h0), (1, .int 2)] := hl
      refine lv_iload_n hx hb dX10_takesOne_4 rfl (lv_at hl 0 rfl) ?_
      refine lv_sipush (v := 240) hx hb dX10_takesOne_5 (by decide) ?_
      refine lv_icmp_ge (tgt := 40) hx hb dX10_takesOne_8 (by decide) (fun _ => ?_) (fun c9 => absurd (by decide) c9)
      refine lv_aload_n hx hb dX10_takesOne_40 rfl (lv_at hl 2 rfl) ?_
      refine gf_X10_31 hC rfl hK hP 0 rfl rfl dX10_takesOne_41 ?_
      refine lv_bipush (v := 40) hx hb dX10_takesOne_44 (by decide) ?_
      refine lv_icmp_eq (tgt := 58) hx hb dX10_takesOne_46 (by decide) (fun c_46_3048 => ?_) (fun c_46_3048 => ?_)
      · refine lv_iload_n hx hb dX10_takesOne_58 rfl (lv_at hl 3 rfl) ?_
        refine lv_iconst (v := 4) hx hb dX10_takesOne_59 (by decide) ?_
        refine lv_icmp_lt (tgt := 68) hx hb dX10_takesOne_60 (by decide) (fun _ => ?_) (fun c9 => absurd (by decide) c9)
        refine lv_aload_n hx hb dX10_takesOne_68 rfl (lv_at hl 2 rfl) ?_
        refine vV (wr := [(tsp, .inr (8, [.int 120, .int 1, .ref tspc, .int (nI ksp)])), (tspc, .inl (G.2.1, 120, .inl ftsp))]) hC hK hl hP hD hS hA (t_advance l G h0 tby kt tln tsp vkd vks vkn vtf fby (by omega) (by omega) (by omega)) si_X10_47 [0, 1] [2, 3] rfl rfl (by decide) rfl (by decide) (by decide) rfl rfl rfl rfl rfl (Nat.le_of_ble_eq_true rfl) ⟨Nat.le_of_ble_eq_true rfl, Nat.le_of_ble_eq_true rfl⟩ ⟨Nat.le_of_ble_eq_true rfl, Nat.le_of_ble_eq_true rfl⟩ dX10_takesOne_69 (fun u3050 H locs hr3049 hP hD hS => ?_)
        obtain ⟨kd13051, ks13052, kn13053⟩ := u3050
        try dsimp only at hr3049
        have hP : va_P G.1 vwCl [(tsp, .inr (8, [.int 120, .int 1, .ref tspc, .int (nI ksp)])), (tspc, .inl (G.2.1, 120, .inl ftsp)), (h0, .inr (10, [.ref tby, .int (nI kt), .ref tln, .ref tsp, .int kd13051, .int (nI ks13052), .int (nI kn13053), .int vtf])), (tby, .inl (G.2.1, 240, .inl fby))] H := hP
        have hD : va_D A [(tsp, .inr (8, [.int 120, .int 1, .ref tspc, .int (nI ksp)])), (tspc, .inl (G.2.1, 120, .inl ftsp)), (h0, .inr (10, [.ref tby, .int (nI kt), .ref tln, .ref tsp, .int kd13051, .int (nI ks13052), .int (nI kn13053), .int vtf])), (tby, .inl (G.2.1, 240, .inl fby))] := hD
        have w3054 := hr3049
        refine lv_aload_n hx hb dX10_takesOne_72 rfl (lv_at hl 2 rfl) ?_
        refine lv_iload_n hx hb dX10_takesOne_73 rfl (lv_at hl 3 rfl) ?_
        refine lv_iconst (v := 1) hx hb dX10_takesOne_74 (by decide) ?_
        refine lv_iadd hx hb dX10_takesOne_75 ?_
        refine eqi (x1 := 3) (by decide) ?_
        refine iVo (wr := []) hO hC hK hl hP hD hS hA (t_cond3 l G K h0 tby kt tln tsp kd13051 ks13052 kn13053 vtf fby tspc ksp ftsp (by omega) (by omega) (by omega) (by omega)) si_X10_121 [2, 3, 0, 1] [] rfl rfl (by decide) rfl (by decide) (by decide) rfl rfl rfl rfl rfl (Nat.le_of_ble_eq_true rfl) ⟨Nat.le_of_ble_eq_true rfl, Nat.le_of_ble_eq_true rfl⟩ ⟨Nat.le_of_ble_eq_true rfl, Nat.le_of_ble_eq_true rfl⟩ dX10_takesOne_76 (fun r3055 u3056 H locs hr3055 hP hD hS => ?_)
        obtain ⟨kd13057, ks13058, kn13059, tf13060, ksp13061, gtsp3062⟩ := u3056
        try dsimp only at hr3055
        have hP : va_P G.1 vwCl [(h0, .inr (10, [.ref tby, .int (nI kt), .ref tln, .ref tsp, .int kd13057, .int (nI ks13058), .int (nI kn13059), .int tf13060])), (tby, .inl (G.2.1, 240, .inl fby)), (tsp, .inr (8, [.int 120, .int 1, .ref tspc, .int (nI ksp13061)])), (tspc, .inl (G.2.1, 120, .inl gtsp3062))] H := hP
        have hD : va_D A [(h0, .inr (10, [.ref tby, .int (nI kt), .ref tln, .ref tsp, .int kd13057, .int (nI ks13058), .int (nI kn13059), .int tf13060])), (tby, .inl (G.2.1, 240, .inl fby)), (tsp, .inr (8, [.int 120, .int 1, .ref tspc, .int (nI ksp13061)])), (tspc, .inl (G.2.1, 120, .inl gtsp3062))] := hD
        obtain ⟨hr3055, w3063⟩ := hr3055
        rcases hr3055 with rfl | rfl
        · refine lv_if_eq (tgt := 91) hx hb dX10_takesOne_79 (by decide) (fun c9 => absurd c9 (by decide)) (fun _ => ?_)
          refine lv_aload_n hx hb dX10_takesOne_82 rfl (lv_at hl 2 rfl) ?_
          refine lv_bipush (v := 41) hx hb dX10_takesOne_83 (by decide) ?_
          refine iV (wr := [(tsp, .inr (8, [.int 120, .int 1, .ref tspc, .int (nI ksp13061)])), (tspc, .inl (G.2.1, 120, .inl gtsp3062))]) hC hK hl hP hD hS hA (t_takesByte l G h0 41 tby kt tln tsp kd13057 ks13058 kn13059 tf13060 fby (by omega) (by omega) (by omega)) si_X10_124 [0, 1] [2, 3] rfl rfl (by decide) rfl (by decide) (by decide) rfl rfl rfl rfl rfl (Nat.le_of_ble_eq_true rfl) ⟨Nat.le_of_ble_eq_true rfl, Nat.le_of_ble_eq_true rfl⟩ ⟨Nat.le_of_ble_eq_true rfl, Nat.le_of_ble_eq_true rfl⟩ dX10_takesOne_85 (fun r3065 u3066 H locs hr3065 hP hD hS => ?_)
          obtain ⟨kd13067, ks13068, kn13069, tf13070⟩ := u3066
          try dsimp only at hr3065
          have hP : va_P G.1 vwCl [(tsp, .inr (8, [.int 120, .int 1, .ref tspc, .int (nI ksp13061)])), (tspc, .inl (G.2.1, 120, .inl gtsp3062)), (h0, .inr (10, [.ref tby, .int (nI kt), .ref tln, .ref tsp, .int kd13067, .int (nI ks13068), .int (nI kn13069), .int tf13070])), (tby, .inl (G.2.1, 240, .inl fby))] H := hP
          have hD : va_D A [(tsp, .inr (8, [.int 120, .int 1, .ref tspc, .int (nI ksp13061)])), (tspc, .inl (G.2.1, 120, .inl gtsp3062)), (h0, .inr (10, [.ref tby, .int (nI kt), .ref tln, .ref tsp, .int kd13067, .int (nI ks13068), .int (nI kn13069), .int tf13070])), (tby, .inl (G.2.1, 240, .inl fby))] := hD
          obtain ⟨hr3065, w3071⟩ := hr3065
          rcases hr3065 with rfl | rfl
          · refine lv_if_ne (tgt := 93) hx hb dX10_takesOne_88 (by decide) (fun _ => ?_) (fun c9 => absurd c9 (by decide))
            refine lv_iload_n hx hb dX10_takesOne_93 rfl (lv_at hl 1 rfl) ?_
            refine lv_if_eq (tgt := 102) hx hb dX10_takesOne_94 (by decide) (fun c_94_3073 => ?_) (fun c_94_3073 => ?_)
            · refine lv_iconst (v := 1) hx hb dX10_takesOne_102 (by decide) ?_
              exact RI (v := 1) hC hP hD hS [2, 3, 0, 1] (kd13067, ks13068, kn13069, tf13070, ksp13061, gtsp3062) rfl rfl (by decide) (⟨Or.inl (rfl), by dsimp only; omega⟩) (by decide +kernel) dX10_takesOne_103
            · refine lv_aload_n hx hb dX10_takesOne_97 rfl (lv_at hl 2 rfl) ?_
              refine lv_iconst (v := (-1)) hx hb dX10_takesOne_98 (by decide) ?_
              refine vV (wr := [(tby, .inl (G.2.1, 240, .inl fby))]) hC hK hl hP hD hS hA (t_addStep l G h0 (-1) tby kt tln tsp kd13067 ks13068 kn13069 tf13070 tspc ksp13061 gtsp3062 (by omega)) si_X10_152 [2, 0, 1] [3] rfl rfl (by decide) rfl (by decide) (by decide) rfl rfl rfl rfl rfl (Nat.le_of_ble_eq_true rfl) ⟨Nat.le_of_ble_eq_true rfl, Nat.le_of_ble_eq_true rfl⟩ ⟨Nat.le_of_ble_eq_true rfl, Nat.le_of_ble_eq_true rfl⟩ dX10_takesOne_99 (fun u3075 H locs hr3074 hP hD hS => ?_)
              obtain ⟨ksp13076, gtsp3077⟩ := u3075
              try dsimp only at hr3074
              have hP : va_P G.1 vwCl [(tby, .inl (G.2.1, 240, .inl fby)), (h0, .inr (10, [.ref tby, .int (nI kt), .ref tln, .ref tsp, .int kd13067, .int (nI ks13068), .int (nI kn13069), .int tf13070])), (tsp, .inr (8, [.int 120, .int 1, .ref tspc, .int (nI ksp13076)])), (tspc, .inl (G.2.1, 120, .inl gtsp3077))] H := hP
              have hD : va_D A [(tby, .inl (G.2.1, 240, .inl fby)), (h0, .inr (10, [.ref tby, .int (nI kt), .ref tln, .ref tsp, .int kd13067, .int (nI ks13068), .int (nI kn13069), .int tf13070])), (tsp, .inr (8, [.int 120, .int 1, .ref tspc, .int (nI ksp13076)])), (tspc, .inl (G.2.1, 120, .inl gtsp3077))] := hD
              have w3078 := hr3074
              refine lv_iconst (v := 1) hx hb dX10_takesOne_102 (by decide) ?_
              exact RI (v := 1) hC hP hD hS [1, 0, 2, 3] (kd13067, ks13068, kn13069, tf13070, ksp13076, gtsp3077) rfl rfl (by decide) (⟨Or.inl (rfl), by dsimp only; omega⟩) (by decide +kernel) dX10_takesOne_103
          · refine lv_if_ne (tgt := 93) hx hb dX10_takesOne_88 (by decide) (fun c9 => absurd (by decide) c9) (fun _ => ?_)
            refine lv_iconst (v := 0) hx hb dX10_takesOne_91 (by decide) ?_
            exact RI (v := 0) hC hP hD hS [2, 3, 0, 1] (kd13067, ks13068, kn13069, tf13070, ksp13061, gtsp3062) rfl rfl (by decide) (⟨Or.inr (rfl), by dsimp only; omega⟩) (by decide +kernel) dX10_takesOne_92
        · refine lv_if_eq (tgt := 91) hx hb dX10_takesOne_79 (by decide) (fun _ => ?_) (fun c9 => absurd (by decide) c9)
          refine lv_iconst (v := 0) hx hb dX10_takesOne_91 (by decide) ?_
          exact RI (v := 0) hC hP hD hS [0, 1, 2, 3] (kd13057, ks13058, kn13059, tf13060, ksp13061, gtsp3062) rfl rfl (by decide) (⟨Or.inr (rfl), by dsimp only; omega⟩) (by decide +kernel) dX10_takesOne_92
      · refine lv_aload_n hx hb dX10_takesOne_49 rfl (lv_at hl 2 rfl) ?_
        refine iVo (wr := []) hO hC hK hl hP hD hS hA (t_takesComparison l G K h0 tby kt tln tsp vkd vks vkn vtf fby tspc ksp ftsp (by omega) (by omega) (by omega) (by omega)) si_X10_162 [0, 1, 2, 3] [] rfl rfl (by decide) rfl (by decide) (by decide) rfl rfl rfl rfl rfl (Nat.le_of_ble_eq_true rfl) ⟨Nat.le_of_ble_eq_true rfl, Nat.le_of_ble_eq_true rfl⟩ ⟨Nat.le_of_ble_eq_true rfl, Nat.le_of_ble_eq_true rfl⟩ dX10_takesOne_50 (fun r3079 u3080 H locs hr3079 hP hD hS => ?_)
        obtain ⟨kd13081, ks13082, kn13083, tf13084, ksp13085, gtsp3086⟩ := u3080
        try dsimp only at hr3079
        have hP : va_P G.1 vwCl [(h0, .inr (10, [.ref tby, .int (nI kt), .ref tln, .ref tsp, .int kd13081, .int (nI ks13082), .int (nI kn13083), .int tf13084])), (tby, .inl (G.2.1, 240, .inl fby)), (tsp, .inr (8, [.int 120, .int 1, .ref tspc, .int (nI ksp13085)])), (tspc, .inl (G.2.1, 120, .inl gtsp3086))] H := hP
        have hD : va_D A [(h0, .inr (10, [.ref tby, .int (nI kt), .ref tln, .ref tsp, .int kd13081, .int (nI ks13082), .int (nI kn13083), .int tf13084])), (tby, .inl (G.2.1, 240, .inl fby)), (tsp, .inr (8, [.int 120, .int 1, .ref tspc, .int (nI ksp13085)])), (tspc, .inl (G.2.1, 120, .inl gtsp3086))] := hD
        obtain ⟨hr3079, w3087⟩ := hr3079
        rcases hr3079 with rfl | rfl
        · refine lv_if_ne (tgt := 93) hx hb dX10_takesOne_53 (by decide) (fun _ => ?_) (fun c9 => absurd c9 (by decide))
          refine lv_iload_n hx hb dX10_takesOne_93 rfl (lv_at hl 1 rfl) ?_
          refine lv_if_eq (tgt := 102) hx hb dX10_takesOne_94 (by decide) (fun c_94_3089 => ?_) (fun c_94_3089 => ?_)
          · refine lv_iconst (v := 1) hx hb dX10_takesOne_102 (by decide) ?_
            exact RI (v := 1) hC hP hD hS [0, 1, 2, 3] (kd13081, ks13082, kn13083, tf13084, ksp13085, gtsp3086) rfl rfl (by decide) (⟨Or.inl (rfl), by dsimp only; omega⟩) (by decide +kernel) dX10_takesOne_103
          · refine lv_aload_n hx hb dX10_takesOne_97 rfl (lv_at hl 2 rfl) ?_
            refine lv_iconst (v := (-1)) hx hb dX10_takesOne_98 (by decide) ?_
            refine vV (wr := [(tby, .inl (G.2.1, 240, .inl fby))]) hC hK hl hP hD hS hA (t_addStep l G h0 (-1) tby kt tln tsp kd13081 ks13082 kn13083 tf13084 tspc ksp13085 gtsp3086 (by omega)) si_X10_152 [0, 2, 3] [1] rfl rfl (by decide) rfl (by decide) (by decide) rfl rfl rfl rfl rfl (Nat.le_of_ble_eq_true rfl) ⟨Nat.le_of_ble_eq_true rfl, Nat.le_of_ble_eq_true rfl⟩ ⟨Nat.le_of_ble_eq_true rfl, Nat.le_of_ble_eq_true rfl⟩ dX10_takesOne_99 (fun u3091 H locs hr3090 hP hD hS => ?_)
            obtain ⟨ksp13092, gtsp3093⟩ := u3091
            try dsimp only at hr3090
            have hP : va_P G.1 vwCl [(tby, .inl (G.2.1, 240, .inl fby)), (h0, .inr (10, [.ref tby, .int (nI kt), .ref tln, .ref tsp, .int kd13081, .int (nI ks13082), .int (nI kn13083), .int tf13084])), (tsp, .inr (8, [.int 120, .int 1, .ref tspc, .int (nI ksp13092)])), (tspc, .inl (G.2.1, 120, .inl gtsp3093))] H := hP
            have hD : va_D A [(tby, .inl (G.2.1, 240, .inl fby)), (h0, .inr (10, [.ref tby, .int (nI kt), .ref tln, .ref tsp, .int kd13081, .int (nI ks13082), .int (nI kn13083), .int tf13084])), (tsp, .inr (8, [.int 120, .int 1, .ref tspc, .int (nI ksp13092)])), (tspc, .inl (G.2.1, 120, .inl gtsp3093))] := hD
            have w3094 := hr3090
            refine lv_iconst (v := 1) hx hb dX10_takesOne_102 (by decide) ?_
            exact RI (v := 1) hC hP hD hS [1, 0, 2, 3] (kd13081, ks13082, kn13083, tf13084, ksp13092, gtsp3093) rfl rfl (by decide) (⟨Or.inl (rfl), by dsimp only; omega⟩) (by decide +kernel) dX10_takesOne_103
        · refine lv_if_ne (tgt := 93) hx hb dX10_takesOne_53 (by decide) (fun c9 => absurd (by decide) c9) (fun _ => ?_)
          refine lv_iconst (v := 0) hx hb dX10_takesOne_56 (by decide) ?_
          exact RI (v := 0) hC hP hD hS [0, 1, 2, 3] (kd13081, ks13082, kn13083, tf13084, ksp13085, gtsp3086) rfl rfl (by decide) (⟨Or.inr (rfl), by dsimp only; omega⟩) (by decide +kernel) dX10_takesOne_57
    | succ nP ihP =>
      intro kP tu vkd vtf vks vkn H locs ls hkP hvks hvkn hP hD hS hl
      refine lv_iload_n hx hb dX10_takesOne_4 rfl (lv_at hl 0 rfl) ?_
      refine lv_sipush (v := 240) hx hb dX10_takesOne_5 (by decide) ?_
      refine lv_icmp_ge (tgt := 40) hx hb dX10_takesOne_8 (by decide) (fun c9 => absurd c9 (nI_ge (a := kP) (b := 240) (by omega) (by omega))) (fun _ => ?_)
      refine lv_aload_n hx hb dX10_takesOne_11 rfl (lv_at hl 2 rfl) ?_
      refine va_ldcS (index := 160) (tx := "not") hx hb hown (hO.2.1 10 (by decide)) dX10_takesOne_12 ?_
      refine pVo hO hS hC hK hl hP hD (t_isName l G K 10 h0 tby kt tln tsp vkd vks vkn vtf fby (by omega) (by omega) (by omega) ((by decide))) si_X10_102 [0, 1] rfl rfl (by decide) rfl rfl rfl rfl rfl (Nat.le_of_ble_eq_true rfl) ⟨Nat.le_of_ble_eq_true rfl, Nat.le_of_ble_eq_true rfl⟩ ⟨by first | exact Nat.le_of_ble_eq_true rfl | exact Nat.zero_le _, by first | exact Nat.le_of_ble_eq_true rfl | exact Nat.zero_le _⟩ dX10_takesOne_14 (fun r3095 hr3095 => ?_)
      rcases hr3095 with rfl | rfl
      · refine lv_if_eq (tgt := 40) hx hb dX10_takesOne_17 (by decide) (fun c9 => absurd c9 (by decide)) (fun _ => ?_)
        refine lv_aload_n hx hb dX10_takesOne_20 rfl (lv_at hl 2 rfl) ?_
        refine vV (wr := [(tsp, .inr (8, [.int 120, .int 1, .ref tspc, .int (nI ksp)])), (tspc, .inl (G.2.1, 120, .inl ftsp))]) hC hK hl hP hD hS hA (t_advance l G h0 tby kt tln tsp vkd vks vkn vtf fby (by omega) (by omega) (by omega)) si_X10_47 [0, 1] [2, 3] rfl rfl (by decide) rfl (by decide) (by decide) rfl rfl rfl rfl rfl (Nat.le_of_ble_eq_true rfl) ⟨Nat.le_of_ble_eq_true rfl, Nat.le_of_ble_eq_true rfl⟩ ⟨Nat.le_of_ble_eq_true rfl, Nat.le_of_ble_eq_true rfl⟩ dX10_takesOne_21 (fun u3098 H locs hr3097 hP hD hS => ?_)
        obtain ⟨kd13099, ks13100, kn13101⟩ := u3098
        try dsimp only at hr3097
        have hP : va_P G.1 vwCl [(tsp, .inr (8, [.int 120, .int 1, .ref tspc, .int (nI ksp)])), (tspc, .inl (G.2.1, 120, .inl ftsp)), (h0, .inr (10, [.ref tby, .int (nI kt), .ref tln, .ref tsp, .int kd13099, .int (nI ks13100), .int (nI kn13101), .int vtf])), (tby, .inl (G.2.1, 240, .inl fby))] H := hP
        have hD : va_D A [(tsp, .inr (8, [.int 120, .int 1, .ref tspc, .int (nI ksp)])), (tspc, .inl (G.2.1, 120, .inl ftsp)), (h0, .inr (10, [.ref tby, .int (nI kt), .ref tln, .ref tsp, .int kd13099, .int (nI ks13100), .int (nI kn13101), .int vtf])), (tby, .inl (G.2.1, 240, .inl fby))] := hD
        have w3102 := hr3097
        refine lv_iload_n hx hb dX10_takesOne_24 rfl (lv_at hl 1 rfl) ?_
        refine lv_if_ne (tgt := 32) hx hb dX10_takesOne_25 (by decide) (fun c_25_3103 => ?_) (fun c_25_3103 => ?_)
        · refine lv_iconst (v := 0) hx hb dX10_takesOne_32 (by decide) ?_
          refine lv_istore_n (lv' := [(2, .int 0), (3, .int (nI kP)), (0, .ref h0), (1, .int 2)]) hx hb dX10_takesOne_33 rfl hl (by decide) rfl (fun ls hl => ?_)
          refine lv_iinc (v := nI (kP + 1)) (lv' := [(3, .int (nI (kP + 1))), (2, .int 0), (0, .ref h0), (1, .int 2)]) hx hb dX10_takesOne_34 hl (k := 1) rfl (nI_1 _) (by decide) rfl (fun ls hl => ?_)
          refine lv_goto (tgt := 4) hx hb dX10_takesOne_37 (by decide) ?_
          have hP := hP.sub (ws' := [(h0, .inr (10, [.ref tby, .int (nI kt), .ref tln, .ref tsp, .int kd13099, .int (nI ks13100), .int (nI kn13101), .int vtf])), (tby, .inl (G.2.1, 240, .inl fby)), (tsp, .inr (8, [.int 120, .int 1, .ref tspc, .int (nI ksp)])), (tspc, .inl (G.2.1, 120, .inl ftsp))]) [2, 3, 0, 1] rfl
          have hD := hD.sub (ws' := [(h0, .inr (10, [.ref tby, .int (nI kt), .ref tln, .ref tsp, .int kd13099, .int (nI ks13100), .int (nI kn13101), .int vtf])), (tby, .inl (G.2.1, 240, .inl fby)), (tsp, .inr (8, [.int 120, .int 1, .ref tspc, .int (nI ksp)])), (tspc, .inl (G.2.1, 120, .inl ftsp))]) [2, 3, 0, 1] (by decide) rfl
          exact ihP (kP + 1) 0 kd13099 vtf ks13100 kn13101 _ _ _ (by omega) (by first | assumption | exact Or.inl rfl | exact Or.inr rfl | omega) (by first | assumption | exact Or.inl rfl | exact Or.inr rfl | omega) hP hD hS (lv_sub hl [0, 1, 2, 3] rfl)
        · refine lv_iconst (v := 1) hx hb dX10_takesOne_28 (by decide) ?_
          refine lv_goto (tgt := 33) hx hb dX10_takesOne_29 (by decide) ?_
          refine lv_istore_n (lv' := [(2, .int 1), (3, .int (nI kP)), (0, .ref h0), (1, .int 2)]) hx hb dX10_takesOne_33 rfl hl (by decide) rfl (fun ls hl => ?_)
          refine lv_iinc (v := nI (kP + 1)) (lv' := [(3, .int (nI (kP + 1))), (2, .int 1), (0, .ref h0), (1, .int 2)]) hx hb dX10_takesOne_34 hl (k := 1) rfl (nI_1 _) (by decide) rfl (fun ls hl => ?_)
          refine lv_goto (tgt := 4) hx hb dX10_takesOne_37 (by decide) ?_
          have hP := hP.sub (ws' := [(h0, .inr (10, [.ref tby, .int (nI kt), .ref tln, .ref tsp, .int kd13099, .int (nI ks13100), .int (nI kn13101), .int vtf])), (tby, .inl (G.2.1, 240, .inl fby)), (tsp, .inr (8, [.int 120, .int 1, .ref tspc, .int (nI ksp)])), (tspc, .inl (G.2.1, 120, .inl ftsp))]) [2, 3, 0, 1] rfl
          have hD := hD.sub (ws' := [(h0, .inr (10, [.ref tby, .int (nI kt), .ref tln, .ref tsp, .int kd13099, .int (nI ks13100), .int (nI kn13101), .int vtf])), (tby, .inl (G.2.1, 240, .inl fby)), (tsp, .inr (8, [.int 120, .int 1, .ref tspc, .int (nI ksp)])), (tspc, .inl (G.2.1, 120, .inl ftsp))]) [2, 3, 0, 1] (by decide) rfl
          exact ihP (kP + 1) 1 kd13099 vtf ks13100 kn13101 _ _ _ (by omega) (by first | assumption | exact Or.inl rfl | exact Or.inr rfl | omega) (by first | assumption | exact Or.inl rfl | exact Or.inr rfl | omega) hP hD hS (lv_sub hl [0, 1, 2, 3] rfl)
      · refine lv_if_eq (tgt := 40) hx hb dX10_takesOne_17 (by decide) (fun _ => ?_) (fun c9 => absurd (by decide) c9)
        refine lv_aload_n hx hb dX10_takesOne_40 rfl (lv_at hl 2 rfl) ?_
        refine gf_X10_31 hC rfl hK hP 0 rfl rfl dX10_takesOne_41 ?_
        refine lv_bipush (v := 40) hx hb dX10_takesOne_44 (by decide) ?_
        refine lv_icmp_eq (tgt := 58) hx hb dX10_takesOne_46 (by decide) (fun c_46_3104 => ?_) (fun c_46_3104 => ?_)
        · refine lv_iload_n hx hb dX10_takesOne_58 rfl (lv_at hl 3 rfl) ?_
          refine lv_iconst (v := 4) hx hb dX10_takesOne_59 (by decide) ?_
          refine lv_icmp_lt (tgt := 68) hx hb dX10_takesOne_60 (by decide) (fun _ => ?_) (fun c9 => absurd (by decide) c9)
          refine lv_aload_n hx hb dX10_takesOne_68 rfl (lv_at hl 2 rfl) ?_
          refine vV (wr := [(tsp, .inr (8, [.int 120, .int 1, .ref tspc, .int (nI ksp)])), (tspc, .inl (G.2.1, 120, .inl ftsp))]) hC hK hl hP hD hS hA (t_advance l G h0 tby kt tln tsp vkd vks vkn vtf fby (by omega) (by omega) (by omega)) si_X10_47 [0, 1] [2, 3] rfl rfl (by decide) rfl (by decide) (by decide) rfl rfl rfl rfl rfl (Nat.le_of_ble_eq_true rfl) ⟨Nat.le_of_ble_eq_true rfl, Nat.le_of_ble_eq_true rfl⟩ ⟨Nat.le_of_ble_eq_true rfl, Nat.le_of_ble_eq_true rfl⟩ dX10_takesOne_69 (fun u3106 H locs hr3105 hP hD hS => ?_)
          obtain ⟨kd13107, ks13108, kn13109⟩ := u3106
          try dsimp only at hr3105
          have hP : va_P G.1 vwCl [(tsp, .inr (8, [.int 120, .int 1, .ref tspc, .int (nI ksp)])), (tspc, .inl (G.2.1, 120, .inl ftsp)), (h0, .inr (10, [.ref tby, .int (nI kt), .ref tln, .ref tsp, .int kd13107, .int (nI ks13108), .int (nI kn13109), .int vtf])), (tby, .inl (G.2.1, 240, .inl fby))] H := hP
          have hD : va_D A [(tsp, .inr (8, [.int 120, .int 1, .ref tspc, .int (nI ksp)])), (tspc, .inl (G.2.1, 120, .inl ftsp)), (h0, .inr (10, [.ref tby, .int (nI kt), .ref tln, .ref tsp, .int kd13107, .int (nI ks13108), .int (nI kn13109), .int vtf])), (tby, .inl (G.2.1, 240, .inl fby))] := hD
          have w3110 := hr3105
          refine lv_aload_n hx hb dX10_takesOne_72 rfl (lv_at hl 2 rfl) ?_
          refine lv_iload_n hx hb dX10_takesOne_73 rfl (lv_at hl 3 rfl) ?_
          refine lv_iconst (v := 1) hx hb dX10_takesOne_74 (by decide) ?_
          refine lv_iadd hx hb dX10_takesOne_75 ?_
          refine eqi (x1 := 3) (by decide) ?_
          refine iVo (wr := []) hO hC hK hl hP hD hS hA (t_cond3 l G K h0 tby kt tln tsp kd13107 ks13108 kn13109 vtf fby tspc ksp ftsp (by omega) (by omega) (by omega) (by omega)) si_X10_121 [2, 3, 0, 1] [] rfl rfl (by decide) rfl (by decide) (by decide) rfl rfl rfl rfl rfl (Nat.le_of_ble_eq_true rfl) ⟨Nat.le_of_ble_eq_true rfl, Nat.le_of_ble_eq_true rfl⟩ ⟨Nat.le_of_ble_eq_true rfl, Nat.le_of_ble_eq_true rfl⟩ dX10_takesOne_76 (fun r3111 u3112 H locs hr3111 hP hD hS => ?_)
          obtain ⟨kd13113, ks13114, kn13115, tf13116, ksp13117, gtsp3118⟩ := u3112
          try dsimp only at hr3111
          have hP : va_P G.1 vwCl [(h0, .inr (10, [.ref tby, .int (nI kt), .ref tln, .ref tsp, .int kd13113, .int (nI ks13114), .int (nI kn13115), .int tf13116])), (tby, .inl (G.2.1, 240, .inl fby)), (tsp, .inr (8, [.int 120, .int 1, .ref tspc, .int (nI ksp13117)])), (tspc, .inl (G.2.1, 120, .inl gtsp3118))] H := hP
          have hD : va_D A [(h0, .inr (10, [.ref tby, .int (nI kt), .ref tln, .ref tsp, .int kd13113, .int (nI ks13114), .int (nI kn13115), .int tf13116])), (tby, .inl (G.2.1, 240, .inl fby)), (tsp, .inr (8, [.int 120, .int 1, .ref tspc, .int (nI ksp13117)])), (tspc, .inl (G.2.1, 120, .inl gtsp3118))] := hD
          obtain ⟨hr3111, w3119⟩ := hr3111
          rcases hr3111 with rfl | rfl
          · refine lv_if_eq (tgt := 91) hx hb dX10_takesOne_79 (by decide) (fun c9 => absurd c9 (by decide)) (fun _ => ?_)
            refine lv_aload_n hx hb dX10_takesOne_82 rfl (lv_at hl 2 rfl) ?_
            refine lv_bipush (v := 41) hx hb dX10_takesOne_83 (by decide) ?_
            refine iV (wr := [(tsp, .inr (8, [.int 120, .int 1, .ref tspc, .int (nI ksp13117)])), (tspc, .inl (G.2.1, 120, .inl gtsp3118))]) hC hK hl hP hD hS hA (t_takesByte l G h0 41 tby kt tln tsp kd13113 ks13114 kn13115 tf13116 fby (by omega) (by omega) (by omega)) si_X10_124 [0, 1] [2, 3] rfl rfl (by decide) rfl (by decide) (by decide) rfl rfl rfl rfl rfl (Nat.le_of_ble_eq_true rfl) ⟨Nat.le_of_ble_eq_true rfl, Nat.le_of_ble_eq_true rfl⟩ ⟨Nat.le_of_ble_eq_true rfl, Nat.le_of_ble_eq_true rfl⟩ dX10_takesOne_85 (fun r3121 u3122 H locs hr3121 hP hD hS => ?_)
            obtain ⟨kd13123, ks13124, kn13125, tf13126⟩ := u3122
            try dsimp only at hr3121
            have hP : va_P G.1 vwCl [(tsp, .inr (8, [.int 120, .int 1, .ref tspc, .int (nI ksp13117)])), (tspc, .inl (G.2.1, 120, .inl gtsp3118)), (h0, .inr (10, [.ref tby, .int (nI kt), .ref tln, .ref tsp, .int kd13123, .int (nI ks13124), .int (nI kn13125), .int tf13126])), (tby, .inl (G.2.1, 240, .inl fby))] H := hP
            have hD : va_D A [(tsp, .inr (8, [.int 120, .int 1, .ref tspc, .int (nI ksp13117)])), (tspc, .inl (G.2.1, 120, .inl gtsp3118)), (h0, .inr (10, [.ref tby, .int (nI kt), .ref tln, .ref tsp, .int kd13123, .int (nI ks13124), .int (nI kn13125), .int tf13126])), (tby, .inl (G.2.1, 240, .inl fby))] := hD
            obtain ⟨hr3121, w3127⟩ := hr3121
            rcases hr3121 with rfl | rfl
            · refine lv_if_ne (tgt := 93) hx hb dX10_takesOne_88 (by decide) (fun _ => ?_) (fun c9 => absurd c9 (by decide))
              refine lv_iload_n hx hb dX10_takesOne_93 rfl (lv_at hl 1 rfl) ?_
              refine lv_if_eq (tgt := 102) hx hb dX10_takesOne_94 (by decide) (fun c_94_3129 => ?_) (fun c_94_3129 => ?_)
              · refine lv_iconst (v := 1) hx hb dX10_takesOne_102 (by decide) ?_
                exact RI (v := 1) hC hP hD hS [2, 3, 0, 1] (kd13123, ks13124, kn13125, tf13126, ksp13117, gtsp3118) rfl rfl (by decide) (⟨Or.inl (rfl), by dsimp only; omega⟩) (by decide +kernel) dX10_takesOne_103
              · refine lv_aload_n hx hb dX10_takesOne_97 rfl (lv_at hl 2 rfl) ?_
                refine lv_iconst (v := (-1)) hx hb dX10_takesOne_98 (by decide) ?_
                refine vV (wr := [(tby, .inl (G.2.1, 240, .inl fby))]) hC hK hl hP hD hS hA (t_addStep l G h0 (-1) tby kt tln tsp kd13123 ks13124 kn13125 tf13126 tspc ksp13117 gtsp3118 (by omega)) si_X10_152 [2, 0, 1] [3] rfl rfl (by decide) rfl (by decide) (by decide) rfl rfl rfl rfl rfl (Nat.le_of_ble_eq_true rfl) ⟨Nat.le_of_ble_eq_true rfl, Nat.le_of_ble_eq_true rfl⟩ ⟨Nat.le_of_ble_eq_true rfl, Nat.le_of_ble_eq_true rfl⟩ dX10_takesOne_99 (fun u3131 H locs hr3130 hP hD hS => ?_)
                obtain ⟨ksp13132, gtsp3133⟩ := u3131
                try dsimp only at hr3130
                have hP : va_P G.1 vwCl [(tby, .inl (G.2.1, 240, .inl fby)), (h0, .inr (10, [.ref tby, .int (nI kt), .ref tln, .ref tsp, .int kd13123, .int (nI ks13124), .int (nI kn13125), .int tf13126])), (tsp, .inr (8, [.int 120, .int 1, .ref tspc, .int (nI ksp13132)])), (tspc, .inl (G.2.1, 120, .inl gtsp3133))] H := hP
                have hD : va_D A [(tby, .inl (G.2.1, 240, .inl fby)), (h0, .inr (10, [.ref tby, .int (nI kt), .ref tln, .ref tsp, .int kd13123, .int (nI ks13124), .int (nI kn13125), .int tf13126])), (tsp, .inr (8, [.int 120, .int 1, .ref tspc, .int (nI ksp13132)])), (tspc, .inl (G.2.1, 120, .inl gtsp3133))] := hD
                have w3134 := hr3130
                refine lv_iconst (v := 1) hx hb dX10_takesOne_102 (by decide) ?_
                exact RI (v := 1) hC hP hD hS [1, 0, 2, 3] (kd13123, ks13124, kn13125, tf13126, ksp13132, gtsp3133) rfl rfl (by decide) (⟨Or.inl (rfl), by dsimp only; omega⟩) (by decide +kernel) dX10_takesOne_103
            · refine lv_if_ne (tgt := 93) hx hb dX10_takesOne_88 (by decide) (fun c9 => absurd (by decide) c9) (fun _ => ?_)
              refine lv_iconst (v := 0) hx hb dX10_takesOne_91 (by decide) ?_
              exact RI (v := 0) hC hP hD hS [2, 3, 0, 1] (kd13123, ks13124, kn13125, tf13126, ksp13117, gtsp3118) rfl rfl (by decide) (⟨Or.inr (rfl), by dsimp only; omega⟩) (by decide +kernel) dX10_takesOne_92
          · refine lv_if_eq (tgt := 91) hx hb dX10_takesOne_79 (by decide) (fun _ => ?_) (fun c9 => absurd (by decide) c9)
            refine lv_iconst (v := 0) hx hb dX10_takesOne_91 (by decide) ?_
            exact RI (v := 0) hC hP hD hS [0, 1, 2, 3] (kd13113, ks13114, kn13115, tf13116, ksp13117, gtsp3118) rfl rfl (by decide) (⟨Or.inr (rfl), by dsimp only; omega⟩) (by decide +kernel) dX10_takesOne_92
        · refine lv_aload_n hx hb dX10_takesOne_49 rfl (lv_at hl 2 rfl) ?_
          refine iVo (wr := []) hO hC hK hl hP hD hS hA (t_takesComparison l G K h0 tby kt tln tsp vkd vks vkn vtf fby tspc ksp ftsp (by omega) (by omega) (by omega) (by omega)) si_X10_162 [0, 1, 2, 3] [] rfl rfl (by decide) rfl (by decide) (by decide) rfl rfl rfl rfl rfl (Nat.le_of_ble_eq_true rfl) ⟨Nat.le_of_ble_eq_true rfl, Nat.le_of_ble_eq_true rfl⟩ ⟨Nat.le_of_ble_eq_true rfl, Nat.le_of_ble_eq_true rfl⟩ dX10_takesOne_50 (fun r3135 u3136 H locs hr3135 hP hD hS => ?_)
          obtain ⟨kd13137, ks13138, kn13139, tf13140, ksp13141, gtsp3142⟩ := u3136
          try dsimp only at hr3135
          have hP : va_P G.1 vwCl [(h0, .inr (10, [.ref tby, .int (nI kt), .ref tln, .ref tsp, .int kd13137, .int (nI ks13138), .int (nI kn13139), .int tf13140])), (tby, .inl (G.2.1, 240, .inl fby)), (tsp, .inr (8, [.int 120, .int 1, .ref tspc, .int (nI ksp13141)])), (tspc, .inl (G.2.1, 120, .inl gtsp3142))] H := hP
          have hD : va_D A [(h0, .inr (10, [.ref tby, .int (nI kt), .ref tln, .ref tsp, .int kd13137, .int (nI ks13138), .int (nI kn13139), .int tf13140])), (tby, .inl (G.2.1, 240, .inl fby)), (tsp, .inr (8, [.int 120, .int 1, .ref tspc, .int (nI ksp13141)])), (tspc, .inl (G.2.1, 120, .inl gtsp3142))] := hD
          obtain ⟨hr3135, w3143⟩ := hr3135
          rcases hr3135 with rfl | rfl
          · refine lv_if_ne (tgt := 93) hx hb dX10_takesOne_53 (by decide) (fun _ => ?_) (fun c9 => absurd c9 (by decide))
            refine lv_iload_n hx hb dX10_takesOne_93 rfl (lv_at hl 1 rfl) ?_
            refine lv_if_eq (tgt := 102) hx hb dX10_takesOne_94 (by decide) (fun c_94_3145 => ?_) (fun c_94_3145 => ?_)
            · refine lv_iconst (v := 1) hx hb dX10_takesOne_102 (by decide) ?_
              exact RI (v := 1) hC hP hD hS [0, 1, 2, 3] (kd13137, ks13138, kn13139, tf13140, ksp13141, gtsp3142) rfl rfl (by decide) (⟨Or.inl (rfl), by dsimp only; omega⟩) (by decide +kernel) dX10_takesOne_103
            · refine lv_aload_n hx hb dX10_takesOne_97 rfl (lv_at hl 2 rfl) ?_
              refine lv_iconst (v := (-1)) hx hb dX10_takesOne_98 (by decide) ?_
              refine vV (wr := [(tby, .inl (G.2.1, 240, .inl fby))]) hC hK hl hP hD hS hA (t_addStep l G h0 (-1) tby kt tln tsp kd13137 ks13138 kn13139 tf13140 tspc ksp13141 gtsp3142 (by omega)) si_X10_152 [0, 2, 3] [1] rfl rfl (by decide) rfl (by decide) (by decide) rfl rfl rfl rfl rfl (Nat.le_of_ble_eq_true rfl) ⟨Nat.le_of_ble_eq_true rfl, Nat.le_of_ble_eq_true rfl⟩ ⟨Nat.le_of_ble_eq_true rfl, Nat.le_of_ble_eq_true rfl⟩ dX10_takesOne_99 (fun u3147 H locs hr3146 hP hD hS => ?_)
              obtain ⟨ksp13148, gtsp3149⟩ := u3147
              try dsimp only at hr3146
              have hP : va_P G.1 vwCl [(tby, .inl (G.2.1, 240, .inl fby)), (h0, .inr (10, [.ref tby, .int (nI kt), .ref tln, .ref tsp, .int kd13137, .int (nI ks13138), .int (nI kn13139), .int tf13140])), (tsp, .inr (8, [.int 120, .int 1, .ref tspc, .int (nI ksp13148)])), (tspc, .inl (G.2.1, 120, .inl gtsp3149))] H := hP
              have hD : va_D A [(tby, .inl (G.2.1, 240, .inl fby)), (h0, .inr (10, [.ref tby, .int (nI kt), .ref tln, .ref tsp, .int kd13137, .int (nI ks13138), .int (nI kn13139), .int tf13140])), (tsp, .inr (8, [.int 120, .int 1, .ref tspc, .int (nI ksp13148)])), (tspc, .inl (G.2.1, 120, .inl gtsp3149))] := hD
              have w3150 := hr3146
              refine lv_iconst (v := 1) hx hb dX10_takesOne_102 (by decide) ?_
              exact RI (v := 1) hC hP hD hS [1, 0, 2, 3] (kd13137, ks13138, kn13139, tf13140, ksp13148, gtsp3149) rfl rfl (by decide) (⟨Or.inl (rfl), by dsimp only; omega⟩) (by decide +kernel) dX10_takesOne_103
          · refine lv_if_ne (tgt := 93) hx hb dX10_takesOne_53 (by decide) (fun c9 => absurd (by decide) c9) (fun _ => ?_)
            refine lv_iconst (v := 0) hx hb dX10_takesOne_56 (by decide) ?_
            exact RI (v := 0) hC hP hD hS [0, 1, 2, 3] (kd13137, ks13138, kn13139, tf13140, ksp13141, gtsp3142) rfl rfl (by decide) (⟨Or.inr (rfl), by dsimp only; omega⟩) (by decide +kernel) dX10_takesOne_57
  exact keyP 240 0 0 tkd tf9 ks kn _ _ _ (by omega) (by first | assumption | exact Or.inl rfl | exact Or.inr rfl | omega) (by first | assumption | exact Or.inl rfl | exact Or.inr rfl | omega) hP hD hS (lv_sub hl [0, 1, 2, 3] rfl)
set_option maxHeartbeats 4000000 in
set_option maxRecDepth 100000 in
theorem t_all2 (l : Launch) (G : GG) (K : OO) (h0 : Nat) (tby : Nat) (kt : Nat) (tln : Nat) (tsp : Nat) (tkd : Int32) (ks : Nat) (kn : Nat) (tf9 : Int32) (fby : Nat → Int32) (tspc : Nat) (ksp : Nat) (ftsp : Nat → Int32) (hkt : kt ≤ 240) (hks : ks ≤ 240) (hkn : kn ≤ 240) (hksp : ksp ≤ 120) : MIo l G K yX10_takesAll cX10_takesAll 3 (some .boolean) 18 0 0 [.ref h0, .int 2] [(h0, .inr (10, [.ref tby, .int (nI kt), .ref tln, .ref tsp, .int tkd, .int (nI ks), .int (nI kn), .int tf9])), (tby, .inl (G.2.1, 240, .inl fby)), (tsp, .inr (8, [.int 120, .int 1, .ref tspc, .int (nI ksp)])), (tspc, .inl (G.2.1, 120, .inl ftsp))] (fun (r : Int32) (u : Int32 × Nat × Nat × Int32 × Nat × (Nat → Int32)) => (r = 1 ∨ r = 0) ∧ (u.2.1 ≤ 240 ∧ u.2.2.1 ≤ 240 ∧ u.2.2.2.2.1 ≤ 120)) (fun u : Int32 × Nat × Nat × Int32 × Nat × (Nat → Int32) => [(h0, .inr (10, [.ref tby, .int (nI kt), .ref tln, .ref tsp, .int u.1, .int (nI u.2.1), .int (nI u.2.2.1), .int u.2.2.2.1])), (tby, .inl (G.2.1, 240, .inl fby)), (tsp, .inr (8, [.int 120, .int 1, .ref tspc, .int (nI u.2.2.2.2.1)])), (tspc, .inl (G.2.1, 120, .inl u.2.2.2.2.2))]) := by
  refine MIo.start (by decide +kernel) (Nat.le_of_ble_eq_true rfl) ?_
  intro p e s m below meth c A ls hC hK hP hD hS hA hl hO
  have hl : lv_has ls 3 [(0, .ref h0), (1, .int 2)] := hl
  obtain ⟨hx, hb, hr, hml, hB, hown, hlocks, hnm⟩ := id hC
  refine lv_aload_n hx hb dX10_takesAll_0 rfl (lv_at hl 0 rfl) ?_
  refine lv_iload_n hx hb dX10_takesAll_1 rfl (lv_at hl 1 rfl) ?_
  refine iVo (wr := []) hO hC hK hl hP hD hS hA (t_one2 l G K h0 tby kt tln tsp tkd ks kn tf9 fby tspc ksp ftsp (by omega) (by omega) (by omega) (by omega)) si_X10_155 [0, 1, 2, 3] [] rfl rfl (by decide) rfl (by decide) (by decide) rfl rfl rfl rfl rfl (Nat.le_of_ble_eq_true rfl) ⟨Nat.le_of_ble_eq_true rfl, Nat.le_of_ble_eq_true rfl⟩ ⟨Nat.le_of_ble_eq_true rfl, Nat.le_of_ble_eq_true rfl⟩ dX10_takesAll_2 (fun r3151 u3152 H locs hr3151 hP hD hS => ?_)
  obtain ⟨kd13153, ks13154, kn13155, tf13156, ksp13157, gtsp3158⟩ := u3152
  try dsimp only at hr3151
  have hP : va_P G.1 vwCl [(h0, .inr (10, [.ref tby, .int (nI kt), .ref tln, .ref tsp, .int kd13153, .int (nI ks13154), .int (nI kn13155), .int tf13156])), (tby, .inl (G.2.1, 240, .inl fby)), (tsp, .inr (8, [.int 120, .int 1, .ref tspc, .int (nI ksp13157)])), (tspc, .inl (G.2.1, 120, .inl gtsp3158))] H := hP
  have hD : va_D A [(h0, .inr (10, [.ref tby, .int (nI kt), .ref tln, .ref tsp, .int kd13153, .int (nI ks13154), .int (nI kn13155), .int tf13156])), (tby, .inl (G.2.1, 240, .inl fby)), (tsp, .inr (8, [.int 120, .int 1, .ref tspc, .int (nI ksp13157)])), (tspc, .inl (G.2.1, 120, .inl gtsp3158))] := hD
  obtain ⟨hr3151, w3159⟩ := hr3151
  rcases hr3151 with rfl | rfl
  · refine lv_if_ne (tgt := 10) hx hb dX10_takesAll_5 (by decide) (fun _ => ?_) (fun c9 => absurd c9 (by decide))
    refine lv_iconst (v := 0) hx hb dX10_takesAll_10 (by decide) ?_
    refine lv_istore_n (lv' := [(2, .int 0), (0, .ref h0), (1, .int 2)]) hx hb dX10_takesAll_11 rfl hl (by decide) rfl (fun ls hl => ?_)
    have keyP : ∀ (nP kP : Nat) (vkd : Int32) (vtf : Int32) (vtsp : Nat → Int32) (vks : Nat) (vkn : Nat) (vksp : Nat) (H : Heap) (locs : List Loc) (ls : Array Slot), kP + nP = 240 → (vks ≤ 240) → (vkn ≤ 240) → (vksp ≤ 120) → va_P G.1 vwCl [(h0, .inr (10, [.ref tby, .int (nI kt), .ref tln, .ref tsp, .int vkd, .int (nI vks), .int (nI vkn), .int vtf])), (tby, .inl (G.2.1, 240, .inl fby)), (tsp, .inr (8, [.int 120, .int 1, .ref tspc, .int (nI vksp)])), (tspc, .inl (G.2.1, 120, .inl vtsp))] H → va_D A [(h0, .inr (10, [.ref tby, .int (nI kt), .ref tln, .ref tsp, .int vkd, .int (nI vks), .int (nI vkn), .int vtf])), (tby, .inl (G.2.1, 240, .inl fby)), (tsp, .inr (8, [.int 120, .int 1, .ref tspc, .int (nI vksp)])), (tspc, .inl (G.2.1, 120, .inl vtsp))] → va_S A s.heap H locs → lv_has ls 3 [(2, .int (nI kP)), (0, .ref h0), (1, .int 2)] → W p l e (RM 18 0 0) s m ([.ref h0, .int 2] : List Value).toArray below meth c H locs 0 0 (MQ below (QI G (fun (r : Int32) (u : Int32 × Nat × Nat × Int32 × Nat × (Nat → Int32)) => (r = 1 ∨ r = 0) ∧ (u.2.1 ≤ 240 ∧ u.2.2.1 ≤ 240 ∧ u.2.2.2.2.1 ≤ 120)) (fun u : Int32 × Nat × Nat × Int32 × Nat × (Nat → Int32) => [(h0, .inr (10, [.ref tby, .int (nI kt), .ref tln, .ref tsp, .int u.1, .int (nI u.2.1), .int (nI u.2.2.1), .int u.2.2.2.1])), (tby, .inl (G.2.1, 240, .inl fby)), (tsp, .inr (8, [.int 120, .int 1, .ref tspc, .int (nI u.2.2.2.2.1)])), (tspc, .inl (G.2.1, 120, .inl u.2.2.2.2.2))]) A) ([.ref h0, .int 2] : List Value).toArray s 0 0 A) (F0 m 12 ls []) := by
      intro nP
      induction nP with
      | zero =>
        intro kP vkd vtf vtsp vks vkn vksp H locs ls hkP hvks hvkn hvksp hP hD hS hl
        obtain rfl : 240 = kP := by omega
        have hl : lv_has ls 3 [(2, .int 240), (0, .ref h0), (1, .int 2)] := hl
        refine lv_iload_n hx hb dX10_takesAll_12 rfl (lv_at hl 0 rfl) ?_
        refine lv_sipush (v := 240) hx hb dX10_takesAll_13 (by decide) ?_
        refine lv_icmp_ge (tgt := 54) hx hb dX10_takesAll_16 (by decide) (fun _ => ?_) (fun c9 => absurd (by decide) c9)
        refine lv_iconst (v := 1) hx hb dX10_takesAll_54 (by decide) ?_
        exact RI (v := 1) hC hP hD hS [0, 1, 2, 3] (vkd, vks, vkn, vtf, vksp, vtsp) rfl rfl (by decide) (⟨Or.inl (rfl), by dsimp only; omega⟩) (by decide +kernel) dX10_takesAll_55
      | succ nP ihP =>
        intro kP vkd vtf vtsp vks vkn vksp H locs ls hkP hvks hvkn hvksp hP hD hS hl
        refine lv_iload_n hx hb dX10_takesAll_12 rfl (lv_at hl 0 rfl) ?_
        refine lv_sipush (v := 240) hx hb dX10_takesAll_13 (by decide) ?_
        refine lv_icmp_ge (tgt := 54) hx hb dX10_takesAll_16 (by decide) (fun c9 => absurd c9 (nI_ge (a := kP) (b := 240) (by omega) (by omega))) (fun _ => ?_)
        refine lv_aload_n hx hb dX10_takesAll_19 rfl (lv_at hl 1 rfl) ?_
        refine va_ldcS (index := 158) (tx := "and") hx hb hown (hO.2.1 9 (by decide)) dX10_takesAll_20 ?_
        refine pVo hO hS hC hK hl hP hD (t_isName l G K 9 h0 tby kt tln tsp vkd vks vkn vtf fby (by omega) (by omega) (by omega) ((by decide))) si_X10_102 [0, 1] rfl rfl (by decide) rfl rfl rfl rfl rfl (Nat.le_of_ble_eq_true rfl) ⟨Nat.le_of_ble_eq_true rfl, Nat.le_of_ble_eq_true rfl⟩ ⟨by first | exact Nat.le_of_ble_eq_true rfl | exact Nat.zero_le _, by first | exact Nat.le_of_ble_eq_true rfl | exact Nat.zero_le _⟩ dX10_takesAll_22 (fun r3161 hr3161 => ?_)
        rcases hr3161 with rfl | rfl
        · refine lv_if_eq (tgt := 54) hx hb dX10_takesAll_25 (by decide) (fun c9 => absurd c9 (by decide)) (fun _ => ?_)
          refine lv_aload_n hx hb dX10_takesAll_28 rfl (lv_at hl 1 rfl) ?_
          refine vV (wr := [(tsp, .inr (8, [.int 120, .int 1, .ref tspc, .int (nI vksp)])), (tspc, .inl (G.2.1, 120, .inl vtsp))]) hC hK hl hP hD hS hA (t_advance l G h0 tby kt tln tsp vkd vks vkn vtf fby (by omega) (by omega) (by omega)) si_X10_47 [0, 1] [2, 3] rfl rfl (by decide) rfl (by decide) (by decide) rfl rfl rfl rfl rfl (Nat.le_of_ble_eq_true rfl) ⟨Nat.le_of_ble_eq_true rfl, Nat.le_of_ble_eq_true rfl⟩ ⟨Nat.le_of_ble_eq_true rfl, Nat.le_of_ble_eq_true rfl⟩ dX10_takesAll_29 (fun u3164 H locs hr3163 hP hD hS => ?_)
          obtain ⟨kd13165, ks13166, kn13167⟩ := u3164
          try dsimp only at hr3163
          have hP : va_P G.1 vwCl [(tsp, .inr (8, [.int 120, .int 1, .ref tspc, .int (nI vksp)])), (tspc, .inl (G.2.1, 120, .inl vtsp)), (h0, .inr (10, [.ref tby, .int (nI kt), .ref tln, .ref tsp, .int kd13165, .int (nI ks13166), .int (nI kn13167), .int vtf])), (tby, .inl (G.2.1, 240, .inl fby))] H := hP
          have hD : va_D A [(tsp, .inr (8, [.int 120, .int 1, .ref tspc, .int (nI vksp)])), (tspc, .inl (G.2.1, 120, .inl vtsp)), (h0, .inr (10, [.ref tby, .int (nI kt), .ref tln, .ref tsp, .int kd13165, .int (nI ks13166), .int (nI kn13167), .int vtf])), (tby, .inl (G.2.1, 240, .inl fby))] := hD
          have w3168 := hr3163
          refine lv_aload_n hx hb dX10_takesAll_32 rfl (lv_at hl 1 rfl) ?_
          refine lv_iload_n hx hb dX10_takesAll_33 rfl (lv_at hl 2 rfl) ?_
          refine iVo (wr := []) hO hC hK hl hP hD hS hA (t_one2 l G K h0 tby kt tln tsp kd13165 ks13166 kn13167 vtf fby tspc vksp vtsp (by omega) (by omega) (by omega) (by omega)) si_X10_155 [2, 3, 0, 1] [] rfl rfl (by decide) rfl (by decide) (by decide) rfl rfl rfl rfl rfl (Nat.le_of_ble_eq_true rfl) ⟨Nat.le_of_ble_eq_true rfl, Nat.le_of_ble_eq_true rfl⟩ ⟨Nat.le_of_ble_eq_true rfl, Nat.le_of_ble_eq_true rfl⟩ dX10_takesAll_34 (fun r3169 u3170 H locs hr3169 hP hD hS => ?_)
          obtain ⟨kd13171, ks13172, kn13173, tf13174, ksp13175, gtsp3176⟩ := u3170
          try dsimp only at hr3169
          have hP : va_P G.1 vwCl [(h0, .inr (10, [.ref tby, .int (nI kt), .ref tln, .ref tsp, .int kd13171, .int (nI ks13172), .int (nI kn13173), .int tf13174])), (tby, .inl (G.2.1, 240, .inl fby)), (tsp, .inr (8, [.int 120, .int 1, .ref tspc, .int (nI ksp13175)])), (tspc, .inl (G.2.1, 120, .inl gtsp3176))] H := hP
          have hD : va_D A [(h0, .inr (10, [.ref tby, .int (nI kt), .ref tln, .ref tsp, .int kd13171, .int (nI ks13172), .int (nI kn13173), .int tf13174])), (tby, .inl (G.2.1, 240, .inl fby)), (tsp, .inr (8, [.int 120, .int 1, .ref tspc, .int (nI ksp13175)])), (tspc, .inl (G.2.1, 120, .inl gtsp3176))] := hD
          obtain ⟨hr3169, w3177⟩ := hr3169
          rcases hr3169 with rfl | rfl
          · refine lv_if_ne (tgt := 42) hx hb dX10_takesAll_37 (by decide) (fun _ => ?_) (fun c9 => absurd c9 (by decide))
            refine lv_aload_n hx hb dX10_takesAll_42 rfl (lv_at hl 1 rfl) ?_
            refine lv_bipush (v := (-2)) hx hb dX10_takesAll_43 (by decide) ?_
            refine vV (wr := [(tby, .inl (G.2.1, 240, .inl fby))]) hC hK hl hP hD hS hA (t_addStep l G h0 (-2) tby kt tln tsp kd13171 ks13172 kn13173 tf13174 tspc ksp13175 gtsp3176 (by omega)) si_X10_152 [0, 2, 3] [1] rfl rfl (by decide) rfl (by decide) (by decide) rfl rfl rfl rfl rfl (Nat.le_of_ble_eq_true rfl) ⟨Nat.le_of_ble_eq_true rfl, Nat.le_of_ble_eq_true rfl⟩ ⟨Nat.le_of_ble_eq_true rfl, Nat.le_of_ble_eq_true rfl⟩ dX10_takesAll_45 (fun u3180 H locs hr3179 hP hD hS => ?_)
            obtain ⟨ksp13181, gtsp3182⟩ := u3180
            try dsimp only at hr3179
            have hP : va_P G.1 vwCl [(tby, .inl (G.2.1, 240, .inl fby)), (h0, .inr (10, [.ref tby, .int (nI kt), .ref tln, .ref tsp, .int kd13171, .int (nI ks13172), .int (nI kn13173), .int tf13174])), (tsp, .inr (8, [.int 120, .int 1, .ref tspc, .int (nI ksp13181)])), (tspc, .inl (G.2.1, 120, .inl gtsp3182))] H := hP
            have hD : va_D A [(tby, .inl (G.2.1, 240, .inl fby)), (h0, .inr (10, [.ref tby, .int (nI kt), .ref tln, .ref tsp, .int kd13171, .int (nI ks13172), .int (nI kn13173), .int tf13174])), (tsp, .inr (8, [.int 120, .int 1, .ref tspc, .int (nI ksp13181)])), (tspc, .inl (G.2.1, 120, .inl gtsp3182))] := hD
            have w3183 := hr3179
            refine lv_iinc (v := nI (kP + 1)) (lv' := [(2, .int (nI (kP + 1))), (0, .ref h0), (1, .int 2)]) hx hb dX10_takesAll_48 hl (k := 0) rfl (nI_1 _) (by decide) rfl (fun ls hl => ?_)
            refine lv_goto (tgt := 12) hx hb dX10_takesAll_51 (by decide) ?_
            have hP := hP.sub (ws' := [(h0, .inr (10, [.ref tby, .int (nI kt), .ref tln, .ref tsp, .int kd13171, .int (nI ks13172), .int (nI kn13173), .int tf13174])), (tby, .inl (G.2.1, 240, .inl fby)), (tsp, .inr (8, [.int 120, .int 1, .ref tspc, .int (nI ksp13181)])), (tspc, .inl (G.2.1, 120, .inl gtsp3182))]) [1, 0, 2, 3] rfl
            have hD := hD.sub (ws' := [(h0, .inr (10, [.ref tby, .int (nI kt), .ref tln, .ref tsp, .int kd13171, .int (nI ks13172), .int (nI kn13173), .int tf13174])), (tby, .inl (G.2.1, 240, .inl fby)), (tsp, .inr (8, [.int 120, .int 1, .ref tspc, .int (nI ksp13181)])), (tspc, .inl (G.2.1, 120, .inl gtsp3182))]) [1, 0, 2, 3] (by decide) rfl
            exact ihP (kP + 1) kd13171 tf13174 gtsp3182 ks13172 kn13173 ksp13181 _ _ _ (by omega) (by first | assumption | exact Or.inl rfl | exact Or.inr rfl | omega) (by first | assumption | exact Or.inl rfl | exact Or.inr rfl | omega) (by first | assumption | exact Or.inl rfl | exact Or.inr rfl | omega) hP hD hS (lv_sub hl [0, 1, 2] rfl)
          · refine lv_if_ne (tgt := 42) hx hb dX10_takesAll_37 (by decide) (fun c9 => absurd (by decide) c9) (fun _ => ?_)
            refine lv_iconst (v := 0) hx hb dX10_takesAll_40 (by decide) ?_
            exact RI (v := 0) hC hP hD hS [0, 1, 2, 3] (kd13171, ks13172, kn13173, tf13174, ksp13175, gtsp3176) rfl rfl (by decide) (⟨Or.inr (rfl), by dsimp only; omega⟩) (by decide +kernel) dX10_takesAll_41
        · refine lv_if_eq (tgt := 54) hx hb dX10_takesAll_25 (by decide) (fun _ => ?_) (fun c9 => absurd (by decide) c9)
          refine lv_iconst (v := 1) hx hb dX10_takesAll_54 (by decide) ?_
          exact RI (v := 1) hC hP hD hS [0, 1, 2, 3] (vkd, vks, vkn, vtf, vksp, vtsp) rfl rfl (by decide) (⟨Or.inl (rfl), by dsimp only; omega⟩) (by decide +kernel) dX10_takesAll_55
    exact keyP 240 0 kd13153 tf13156 gtsp3158 ks13154 kn13155 ksp13157 _ _ _ (by omega) (by first | assumption | exact Or.inl rfl | exact Or.inr rfl | omega) (by first | assumption | exact Or.inl rfl | exact Or.inr rfl | omega) (by first | assumption | exact Or.inl rfl | exact Or.inr rfl | omega) hP hD hS (lv_sub hl [0, 1, 2] rfl)
  · refine lv_if_ne (tgt := 10) hx hb dX10_takesAll_5 (by decide) (fun c9 => absurd (by decide) c9) (fun _ => ?_)
    refine lv_iconst (v := 0) hx hb dX10_takesAll_8 (by decide) ?_
    exact RI (v := 0) hC hP hD hS [0, 1, 2, 3] (kd13153, ks13154, kn13155, tf13156, ksp13157, gtsp3158) rfl rfl (by decide) (⟨Or.inr (rfl), by dsimp only; omega⟩) (by decide +kernel) dX10_takesAll_9
set_option maxHeartbeats 4000000 in
set_option maxRecDepth 100000 in
theorem t_cond2 (l : Launch) (G : GG) (K : OO) (h0 : Nat) (tby : Nat) (kt : Nat) (tln : Nat) (tsp : Nat) (tkd : Int32) (ks : Nat) (kn : Nat) (tf9 : Int32) (fby : Nat → Int32) (tspc : Nat) (ksp : Nat) (ftsp : Nat → Int32) (hkt : kt ≤ 240) (hks : ks ≤ 240) (hkn : kn ≤ 240) (hksp : ksp ≤ 120) : MIo l G K yX10_takesCond cX10_takesCond 3 (some .boolean) 19 0 0 [.ref h0, .int 2] [(h0, .inr (10, [.ref tby, .int (nI kt), .ref tln, .ref tsp, .int tkd, .int (nI ks), .int (nI kn), .int tf9])), (tby, .inl (G.2.1, 240, .inl fby)), (tsp, .inr (8, [.int 120, .int 1, .ref tspc, .int (nI ksp)])), (tspc, .inl (G.2.1, 120, .inl ftsp))] (fun (r : Int32) (u : Int32 × Nat × Nat × Int32 × Nat × (Nat → Int32)) => (r = 1 ∨ r = 0) ∧ (u.2.1 ≤ 240 ∧ u.2.2.1 ≤ 240 ∧ u.2.2.2.2.1 ≤ 120)) (fun u : Int32 × Nat × Nat × Int32 × Nat × (Nat → Int32) => [(h0, .inr (10, [.ref tby, .int (nI kt), .ref tln, .ref tsp, .int u.1, .int (nI u.2.1), .int (nI u.2.2.1), .int u.2.2.2.1])), (tby, .inl (G.2.1, 240, .inl fby)), (tsp, .inr (8, [.int 120, .int 1, .ref tspc, .int (nI u.2.2.2.2.1)])), (tspc, .inl (G.2.1, 120, .inl u.2.2.2.2.2))]) := by
  refine MIo.start (by decide +kernel) (Nat.le_of_ble_eq_true rfl) ?_
  intro p e s m below meth c A ls hC hK hP hD hS hA hl hO
  have hl : lv_has ls 3 [(0, .ref h0), (1, .int 2)] := hl
  obtain ⟨hx, hb, hr, hml, hB, hown, hlocks, hnm⟩ := id hC
  refine lv_aload_n hx hb dX10_takesCond_0 rfl (lv_at hl 0 rfl) ?_
  refine lv_iload_n hx hb dX10_takesCond_1 rfl (lv_at hl 1 rfl) ?_
  refine iVo (wr := []) hO hC hK hl hP hD hS hA (t_all2 l G K h0 tby kt tln tsp tkd ks kn tf9 fby tspc ksp ftsp (by omega) (by omega) (by omega) (by omega)) si_X10_147 [0, 1, 2, 3] [] rfl rfl (by decide) rfl (by decide) (by decide) rfl rfl rfl rfl rfl (Nat.le_of_ble_eq_true rfl) ⟨Nat.le_of_ble_eq_true rfl, Nat.le_of_ble_eq_true rfl⟩ ⟨Nat.le_of_ble_eq_true rfl, Nat.le_of_ble_eq_true rfl⟩ dX10_takesCond_2 (fun r3184 u3185 H locs hr3184 hP hD hS => ?_)
  obtain ⟨kd13186, ks13187, kn13188, tf13189, ksp13190, gtsp3191⟩ := u3185
  try dsimp only at hr3184
  have hP : va_P G.1 vwCl [(h0, .inr (10, [.ref tby, .int (nI kt), .ref tln, .ref tsp, .int kd13186, .int (nI ks13187), .int (nI kn13188), .int tf13189])), (tby, .inl (G.2.1, 240, .inl fby)), (tsp, .inr (8, [.int 120, .int 1, .ref tspc, .int (nI ksp13190)])), (tspc, .inl (G.2.1, 120, .inl gtsp3191))] H := hP
  have hD : va_D A [(h0, .inr (10, [.ref tby, .int (nI kt), .ref tln, .ref tsp, .int kd13186, .int (nI ks13187), .int (nI kn13188), .int tf13189])), (tby, .inl (G.2.1, 240, .inl fby)), (tsp, .inr (8, [.int 120, .int 1, .ref tspc, .int (nI ksp13190)])), (tspc, .inl (G.2.1, 120, .inl gtsp3191))] := hD
  obtain ⟨hr3184, w3192⟩ := hr3184
  rcases hr3184 with rfl | rfl
  · refine lv_if_ne (tgt := 10) hx hb dX10_takesCond_5 (by decide) (fun _ => ?_) (fun c9 => absurd c9 (by decide))
    refine lv_iconst (v := 0) hx hb dX10_takesCond_10 (by decide) ?_
    refine lv_istore_n (lv' := [(2, .int 0), (0, .ref h0), (1, .int 2)]) hx hb dX10_takesCond_11 rfl hl (by decide) rfl (fun ls hl => ?_)
    have keyP : ∀ (nP kP : Nat) (vkd : Int32) (vtf : Int32) (vtsp : Nat → Int32) (vks : Nat) (vkn : Nat) (vksp : Nat) (H : Heap) (locs : List Loc) (ls : Array Slot), kP + nP = 240 → (vks ≤ 240) → (vkn ≤ 240) → (vksp ≤ 120) → va_P G.1 vwCl [(h0, .inr (10, [.ref tby, .int (nI kt), .ref tln, .ref tsp, .int vkd, .int (nI vks), .int (nI vkn), .int vtf])), (tby, .inl (G.2.1, 240, .inl fby)), (tsp, .inr (8, [.int 120, .int 1, .ref tspc, .int (nI vksp)])), (tspc, .inl (G.2.1, 120, .inl vtsp))] H → va_D A [(h0, .inr (10, [.ref tby, .int (nI kt), .ref tln, .ref tsp, .int vkd, .int (nI vks), .int (nI vkn), .int vtf])), (tby, .inl (G.2.1, 240, .inl fby)), (tsp, .inr (8, [.int 120, .int 1, .ref tspc, .int (nI vksp)])), (tspc, .inl (G.2.1, 120, .inl vtsp))] → va_S A s.heap H locs → lv_has ls 3 [(2, .int (nI kP)), (0, .ref h0), (1, .int 2)] → W p l e (RM 19 0 0) s m ([.ref h0, .int 2] : List Value).toArray below meth c H locs 0 0 (MQ below (QI G (fun (r : Int32) (u : Int32 × Nat × Nat × Int32 × Nat × (Nat → Int32)) => (r = 1 ∨ r = 0) ∧ (u.2.1 ≤ 240 ∧ u.2.2.1 ≤ 240 ∧ u.2.2.2.2.1 ≤ 120)) (fun u : Int32 × Nat × Nat × Int32 × Nat × (Nat → Int32) => [(h0, .inr (10, [.ref tby, .int (nI kt), .ref tln, .ref tsp, .int u.1, .int (nI u.2.1), .int (nI u.2.2.1), .int u.2.2.2.1])), (tby, .inl (G.2.1, 240, .inl fby)), (tsp, .inr (8, [.int 120, .int 1, .ref tspc, .int (nI u.2.2.2.2.1)])), (tspc, .inl (G.2.1, 120, .inl u.2.2.2.2.2))]) A) ([.ref h0, .int 2] : List Value).toArray s 0 0 A) (F0 m 12 ls []) := by
      intro nP
      induction nP with
      | zero =>
        intro kP vkd vtf vtsp vks vkn vksp H locs ls hkP hvks hvkn hvksp hP hD hS hl
        obtain rfl : 240 = kP := by omega
        have hl : lv_has ls 3 [(2, .int 240), (0, .ref h0), (1, .int 2)] := hl
        refine lv_iload_n hx hb dX10_takesCond_12 rfl (lv_at hl 0 rfl) ?_
        refine lv_sipush (v := 240) hx hb dX10_takesCond_13 (by decide) ?_
        refine lv_icmp_ge (tgt := 54) hx hb dX10_takesCond_16 (by decide) (fun _ => ?_) (fun c9 => absurd (by decide) c9)
        refine lv_iconst (v := 1) hx hb dX10_takesCond_54 (by decide) ?_
        exact RI (v := 1) hC hP hD hS [0, 1, 2, 3] (vkd, vks, vkn, vtf, vksp, vtsp) rfl rfl (by decide) (⟨Or.inl (rfl), by dsimp only; omega⟩) (by decide +kernel) dX10_takesCond_55
      | succ nP ihP =>
        intro kP vkd vtf vtsp vks vkn vksp H locs ls hkP hvks hvkn hvksp hP hD hS hl
        refine lv_iload_n hx hb dX10_takesCond_12 rfl (lv_at hl 0 rfl) ?_
        refine lv_sipush (v := 240) hx hb dX10_takesCond_13 (by decide) ?_
        refine lv_icmp_ge (tgt := 54) hx hb dX10_takesCond_16 (by decide) (fun c9 => absurd c9 (nI_ge (a := kP) (b := 240) (by omega) (by omega))) (fun _ => ?_)
        refine lv_aload_n hx hb dX10_takesCond_19 rfl (lv_at hl 1 rfl) ?_
        refine va_ldcS (index := 150) (tx := "o\x72") hx hb hown (hO.2.1 8 (by decide)) dX10_takesCond_20 ?_
        refine pVo hO hS hC hK hl hP hD (t_isName l G K 8 h0 tby kt tln tsp vkd vks vkn vtf fby (by omega) (by omega) (by omega) ((by decide))) si_X10_102 [0, 1] rfl rfl (by decide) rfl rfl rfl rfl rfl (Nat.le_of_ble_eq_true rfl) ⟨Nat.le_of_ble_eq_true rfl, Nat.le_of_ble_eq_true rfl⟩ ⟨by first | exact Nat.le_of_ble_eq_true rfl | exact Nat.zero_le _, by first | exact Nat.le_of_ble_eq_true rfl | exact Nat.zero_le _⟩ dX10_takesCond_22 (fun r3194 hr3194 => ?_)
        rcases hr3194 with rfl | rfl
        · refine lv_if_eq (tgt := 54) hx hb dX10_takesCond_25 (by decide) (fun c9 => absurd c9 (by decide)) (fun _ => ?_)
          refine lv_aload_n hx hb dX10_takesCond_28 rfl (lv_at hl 1 rfl) ?_
          refine vV (wr := [(tsp, .inr (8, [.int 120, .int 1, .ref tspc, .int (nI vksp)])), (tspc, .inl (G.2.1, 120, .inl vtsp))]) hC hK hl hP hD hS hA (t_advance l G h0 tby kt tln tsp vkd vks vkn vtf fby (by omega) (by omega) (by omega)) si_X10_47 [0, 1] [2, 3] rfl rfl (by decide) rfl (by decide) (by decide) rfl rfl rfl rfl rfl (Nat.le_of_ble_eq_true rfl) ⟨Nat.le_of_ble_eq_true rfl, Nat.le_of_ble_eq_true rfl⟩ ⟨Nat.le_of_ble_eq_true rfl, Nat.le_of_ble_eq_true rfl⟩ dX10_takesCond_29 (fun u3197 H locs hr3196 hP hD hS => ?_)
          obtain ⟨kd13198, ks13199, kn13200⟩ := u3197
          try dsimp only at hr3196
          have hP : va_P G.1 vwCl [(tsp, .inr (8, [.int 120, .int 1, .ref tspc, .int (nI vksp)])), (tspc, .inl (G.2.1, 120, .inl vtsp)), (h0, .inr (10, [.ref tby, .int (nI kt), .ref tln, .ref tsp, .int kd13198, .int (nI ks13199), .int (nI kn13200), .int vtf])), (tby, .inl (G.2.1, 240, .inl fby))] H := hP
          have hD : va_D A [(tsp, .inr (8, [.int 120, .int 1, .ref tspc, .int (nI vksp)])), (tspc, .inl (G.2.1, 120, .inl vtsp)), (h0, .inr (10, [.ref tby, .int (nI kt), .ref tln, .ref tsp, .int kd13198, .int (nI ks13199), .int (nI kn13200), .int vtf])), (tby, .inl (G.2.1, 240, .inl fby))] := hD
          have w3201 := hr3196
          refine lv_aload_n hx hb dX10_takesCond_32 rfl (lv_at hl 1 rfl) ?_
          refine lv_iload_n hx hb dX10_takesCond_33 rfl (lv_at hl 2 rfl) ?_
          refine iVo (wr := []) hO hC hK hl hP hD hS hA (t_all2 l G K h0 tby kt tln tsp kd13198 ks13199 kn13200 vtf fby tspc vksp vtsp (by omega) (by omega) (by omega) (by omega)) si_X10_147 [2, 3, 0, 1] [] rfl rfl (by decide) rfl (by decide) (by decide) rfl rfl rfl rfl rfl (Nat.le_of_ble_eq_true rfl) ⟨Nat.le_of_ble_eq_true rfl, Nat.le_of_ble_eq_true rfl⟩ ⟨Nat.le_of_ble_eq_true rfl, Nat.le_of_ble_eq_true rfl⟩ dX10_takesCond_34 (fun r3202 u3203 H locs hr3202 hP hD hS => ?_)
          obtain ⟨kd13204, ks13205, kn13206, tf13207, ksp13208, gtsp3209⟩ := u3203
          try dsimp only at hr3202
          have hP : va_P G.1 vwCl [(h0, .inr (10, [.ref tby, .int (nI kt), .ref tln, .ref tsp, .int kd13204, .int (nI ks13205), .int (nI kn13206), .int tf13207])), (tby, .inl (G.2.1, 240, .inl fby)), (tsp, .inr (8, [.int 120, .int 1, .ref tspc, .int (nI ksp13208)])), (tspc, .inl (G.2.1, 120, .inl gtsp3209))] H := hP
          have hD : va_D A [(h0, .inr (10, [.ref tby, .int (nI kt), .ref tln, .ref tsp, .int kd13204, .int (nI ks13205), .int (nI kn13206), .int tf13207])), (tby, .inl (G.2.1, 240, .inl fby)), (tsp, .inr (8, [.int 120, .int 1, .ref tspc, .int (nI ksp13208)])), (tspc, .inl (G.2.1, 120, .inl gtsp3209))] := hD
          obtain ⟨hr3202, w3210⟩ := hr3202
          rcases hr3202 with rfl | rfl
          · refine lv_if_ne (tgt := 42) hx hb dX10_takesCond_37 (by decide) (fun _ => ?_) (fun c9 => absurd c9 (by decide))
            refine lv_aload_n hx hb dX10_takesCond_42 rfl (lv_at hl 1 rfl) ?_
            refine lv_bipush (v := (-3)) hx hb dX10_takesCond_43 (by decide) ?_
            refine vV (wr := [(tby, .inl (G.2.1, 240, .inl fby))]) hC hK hl hP hD hS hA (t_addStep l G h0 (-3) tby kt tln tsp kd13204 ks13205 kn13206 tf13207 tspc ksp13208 gtsp3209 (by omega)) si_X10_152 [0, 2, 3] [1] rfl rfl (by decide) rfl (by decide) (by decide) rfl rfl rfl rfl rfl (Nat.le_of_ble_eq_true rfl) ⟨Nat.le_of_ble_eq_true rfl, Nat.le_of_ble_eq_true rfl⟩ ⟨Nat.le_of_ble_eq_true rfl, Nat.le_of_ble_eq_true rfl⟩ dX10_takesCond_45 (fun u3213 H locs hr3212 hP hD hS => ?_)
            obtain ⟨ksp13214, gtsp3215⟩ := u3213
            try dsimp only at hr3212
            have hP : va_P G.1 vwCl [(tby, .inl (G.2.1, 240, .inl fby)), (h0, .inr (10, [.ref tby, .int (nI kt), .ref tln, .ref tsp, .int kd13204, .int (nI ks13205), .int (nI kn13206), .int tf13207])), (tsp, .inr (8, [.int 120, .int 1, .ref tspc, .int (nI ksp13214)])), (tspc, .inl (G.2.1, 120, .inl gtsp3215))] H := hP
            have hD : va_D A [(tby, .inl (G.2.1, 240, .inl fby)), (h0, .inr (10, [.ref tby, .int (nI kt), .ref tln, .ref tsp, .int kd13204, .int (nI ks13205), .int (nI kn13206), .int tf13207])), (tsp, .inr (8, [.int 120, .int 1, .ref tspc, .int (nI ksp13214)])), (tspc, .inl (G.2.1, 120, .inl gtsp3215))] := hD
            have w3216 := hr3212
            refine lv_iinc (v := nI (kP + 1)) (lv' := [(2, .int (nI (kP + 1))), (0, .ref h0), (1, .int 2)]) hx hb dX10_takesCond_48 hl (k := 0) rfl (nI_1 _) (by decide) rfl (fun ls hl => ?_)
            refine lv_goto (tgt := 12) hx hb dX10_takesCond_51 (by decide) ?_
            have hP := hP.sub (ws' := [(h0, .inr (10, [.ref tby, .int (nI kt), .ref tln, .ref tsp, .int kd13204, .int (nI ks13205), .int (nI kn13206), .int tf13207])), (tby, .inl (G.2.1, 240, .inl fby)), (tsp, .inr (8, [.int 120, .int 1, .ref tspc, .int (nI ksp13214)])), (tspc, .inl (G.2.1, 120, .inl gtsp3215))]) [1, 0, 2, 3] rfl
            have hD := hD.sub (ws' := [(h0, .inr (10, [.ref tby, .int (nI kt), .ref tln, .ref tsp, .int kd13204, .int (nI ks13205), .int (nI kn13206), .int tf13207])), (tby, .inl (G.2.1, 240, .inl fby)), (tsp, .inr (8, [.int 120, .int 1, .ref tspc, .int (nI ksp13214)])), (tspc, .inl (G.2.1, 120, .inl gtsp3215))]) [1, 0, 2, 3] (by decide) rfl
            exact ihP (kP + 1) kd13204 tf13207 gtsp3215 ks13205 kn13206 ksp13214 _ _ _ (by omega) (by first | assumption | exact Or.inl rfl | exact Or.inr rfl | omega) (by first | assumption | exact Or.inl rfl | exact Or.inr rfl | omega) (by first | assumption | exact Or.inl rfl | exact Or.inr rfl | omega) hP hD hS (lv_sub hl [0, 1, 2] rfl)
          · refine lv_if_ne (tgt := 42) hx hb dX10_takesCond_37 (by decide) (fun c9 => absurd (by decide) c9) (fun _ => ?_)
            refine lv_iconst (v := 0) hx hb dX10_takesCond_40 (by decide) ?_
            exact RI (v := 0) hC hP hD hS [0, 1, 2, 3] (kd13204, ks13205, kn13206, tf13207, ksp13208, gtsp3209) rfl rfl (by decide) (⟨Or.inr (rfl), by dsimp only; omega⟩) (by decide +kernel) dX10_takesCond_41
        · refine lv_if_eq (tgt := 54) hx hb dX10_takesCond_25 (by decide) (fun _ => ?_) (fun c9 => absurd (by decide) c9)
          refine lv_iconst (v := 1) hx hb dX10_takesCond_54 (by decide) ?_
          exact RI (v := 1) hC hP hD hS [0, 1, 2, 3] (vkd, vks, vkn, vtf, vksp, vtsp) rfl rfl (by decide) (⟨Or.inl (rfl), by dsimp only; omega⟩) (by decide +kernel) dX10_takesCond_55
    exact keyP 240 0 kd13186 tf13189 gtsp3191 ks13187 kn13188 ksp13190 _ _ _ (by omega) (by first | assumption | exact Or.inl rfl | exact Or.inr rfl | omega) (by first | assumption | exact Or.inl rfl | exact Or.inr rfl | omega) (by first | assumption | exact Or.inl rfl | exact Or.inr rfl | omega) hP hD hS (lv_sub hl [0, 1, 2] rfl)
  · refine lv_if_ne (tgt := 10) hx hb dX10_takesCond_5 (by decide) (fun c9 => absurd (by decide) c9) (fun _ => ?_)
    refine lv_iconst (v := 0) hx hb dX10_takesCond_8 (by decide) ?_
    exact RI (v := 0) hC hP hD hS [0, 1, 2, 3] (kd13186, ks13187, kn13188, tf13189, ksp13190, gtsp3191) rfl rfl (by decide) (⟨Or.inr (rfl), by dsimp only; omega⟩) (by decide +kernel) dX10_takesCond_9
set_option maxHeartbeats 4000000 in
set_option maxRecDepth 100000 in
theorem t_one1 (l : Launch) (G : GG) (K : OO) (h0 : Nat) (tby : Nat) (kt : Nat) (tln : Nat) (tsp : Nat) (tkd : Int32) (ks : Nat) (kn : Nat) (tf9 : Int32) (fby : Nat → Int32) (tspc : Nat) (ksp : Nat) (ftsp : Nat → Int32) (hkt : kt ≤ 240) (hks : ks ≤ 240) (hkn : kn ≤ 240) (hksp : ksp ≤ 120) : MIo l G K yX10_takesOne cX10_takesOne 4 (some .boolean) 21 0 0 [.ref h0, .int 1] [(h0, .inr (10, [.ref tby, .int (nI kt), .ref tln, .ref tsp, .int tkd, .int (nI ks), .int (nI kn), .int tf9])), (tby, .inl (G.2.1, 240, .inl fby)), (tsp, .inr (8, [.int 120, .int 1, .ref tspc, .int (nI ksp)])), (tspc, .inl (G.2.1, 120, .inl ftsp))] (fun (r : Int32) (u : Int32 × Nat × Nat × Int32 × Nat × (Nat → Int32)) => (r = 1 ∨ r = 0) ∧ (u.2.1 ≤ 240 ∧ u.2.2.1 ≤ 240 ∧ u.2.2.2.2.1 ≤ 120)) (fun u : Int32 × Nat × Nat × Int32 × Nat × (Nat → Int32) => [(h0, .inr (10, [.ref tby, .int (nI kt), .ref tln, .ref tsp, .int u.1, .int (nI u.2.1), .int (nI u.2.2.1), .int u.2.2.2.1])), (tby, .inl (G.2.1, 240, .inl fby)), (tsp, .inr (8, [.int 120, .int 1, .ref tspc, .int (nI u.2.2.2.2.1)])), (tspc, .inl (G.2.1, 120, .inl u.2.2.2.2.2))]) := by
  refine MIo.start (by decide +kernel) (Nat.le_of_ble_eq_true rfl) ?_
  intro p e s m below meth c A ls hC hK hP hD hS hA hl hO
  have hl : lv_has ls 4 [(0, .ref h0), (1, .int 1)] := hl
  obtain ⟨hx, hb, hr, hml, hB, hown, hlocks, hnm⟩ := id hC
  refine lv_iconst (v := 0) hx hb dX10_takesOne_0 (by decide) ?_
  refine lv_istore_n (lv' := [(2, .int 0), (0, .ref h0), (1, .int 1)]) hx hb dX10_takesOne_1 rfl hl (by decide) rfl (fun ls hl => ?_)
  refine lv_iconst (v := 0) hx hb dX10_takesOne_2 (by decide) ?_
  refine lv_istore_n (lv' := [(3, .int 0), (2, .int 0), (0, .ref h0), (1, .int 1)]) hx hb dX10_takesOne_3 rfl hl (by decide) rfl (fun ls hl => ?_)
  have keyP : ∀ (nP kP : Nat) (tu : Int32) (vkd : Int32) (vtf : Int32) (vks : Nat) (vkn : Nat) (H : Heap) (locs : List Loc) (ls : Array Slot), kP + nP = 240 → (vks ≤ 240) → (vkn ≤ 240) → va_P G.1 vwCl [(h0, .inr (10, [.ref tby, .int (nI kt), .ref tln, .ref tsp, .int vkd, .int (nI vks), .int (nI vkn), .int vtf])), (tby, .inl (G.2.1, 240, .inl fby)), (tsp, .inr (8, [.int 120, .int 1, .ref tspc, .int (nI ksp)])), (tspc, .inl (G.2.1, 120, .inl ftsp))] H → va_D A [(h0, .inr (10, [.ref tby, .int (nI kt), .ref tln, .ref tsp, .int vkd, .int (nI vks), .int (nI vkn), .int vtf])), (tby, .inl (G.2.1, 240, .inl fby)), (tsp, .inr (8, [.int 120, .int 1, .ref tspc, .int (nI ksp)])), (tspc, .inl (G.2.1, 120, .inl ftsp))] → va_S A s.heap H locs → lv_has ls 4 [(3, .int (nI kP)), (2, .int tu), (0, .ref h0), (1, .int 1)] → W p l e (RM 21 0 0) s m ([.ref h0, .int 1] : List Value).toArray below meth c H locs 0 0 (MQ below (QI G (fun (r : Int32) (u : Int32 × Nat × Nat × Int32 × Nat × (Nat → Int32)) => (r = 1 ∨ r = 0) ∧ (u.2.1 ≤ 240 ∧ u.2.2.1 ≤ 240 ∧ u.2.2.2.2.1 ≤ 120)) (fun u : Int32 × Nat × Nat × Int32 × Nat × (Nat → Int32) => [(h0, .inr (10, [.ref tby, .int (nI kt), .ref tln, .ref tsp, .int u.1, .int (nI u.2.1), .int (nI u.2.2.1), .int u.2.2.2.1])), (tby, .inl (G.2.1, 240, .inl fby)), (tsp, .inr (8, [.int 120, .int 1, .ref tspc, .int (nI u.2.2.2.2.1)])), (tspc, .inl (G.2.1, 120, .inl u.2.2.2.2.2))]) A) ([.ref h0, .int 1] : List Value).toArray s 0 0 A) (F0 m 4 ls []) := by
    intro nP
    induction nP with
    | zero =>
      intro kP tu vkd vtf vks vkn H locs ls hkP hvks hvkn hP hD hS hl
      obtain rfl : 240 = kP := by omega
      have hl : lv_has ls 4 [(3, .int 240), (2, .int tu), (0, .ref h0), (1, .int 1)] := hl
      refine lv_iload_n hx hb dX10_takesOne_4 rfl (lv_at hl 0 rfl) ?_
      refine lv_sipush (v := 240) hx hb dX10_takesOne_5 (by decide) ?_
      refine lv_icmp_ge (tgt := 40) hx hb dX10_takesOne_8 (by decide) (fun _ => ?_) (fun c9 => absurd (by decide) c9)
      refine lv_aload_n hx hb dX10_takesOne_40 rfl (lv_at hl 2 rfl) ?_
      refine gf_X10_31 hC rfl hK hP 0 rfl rfl dX10_takesOne_41 ?_
      refine lv_bipush (v := 40) hx hb dX10_takesOne_44 (by decide) ?_
      refine lv_icmp_eq (tgt := 58) hx hb dX10_takesOne_46 (by decide) (fun c_46_3217 => ?_) (fun c_46_3217 => ?_)
      · refine lv_iload_n hx hb dX10_takesOne_58 rfl (lv_at hl 3 rfl) ?_
        refine lv_iconst (v := 4) hx hb dX10_takesOne_59 (by decide) ?_
        refine lv_icmp_lt (tgt := 68) hx hb dX10_takesOne_60 (by decide) (fun _ => ?_) (fun c9 => absurd (by decide) c9)
        refine lv_aload_n hx hb dX10_takesOne_68 rfl (lv_at hl 2 rfl) ?_
        refine vV (wr := [(tsp, .inr (8, [.int 120, .int 1, .ref tspc, .int (nI ksp)])), (tspc, .inl (G.2.1, 120, .inl ftsp))]) hC hK hl hP hD hS hA (t_advance l G h0 tby kt tln tsp vkd vks vkn vtf fby (by omega) (by omega) (by omega)) si_X10_47 [0, 1] [2, 3] rfl rfl (by decide) rfl (by decide) (by decide) rfl rfl rfl rfl rfl (Nat.le_of_ble_eq_true rfl) ⟨Nat.le_of_ble_eq_true rfl, Nat.le_of_ble_eq_true rfl⟩ ⟨Nat.le_of_ble_eq_true rfl, Nat.le_of_ble_eq_true rfl⟩ dX10_takesOne_69 (fun u3219 H locs hr3218 hP hD hS => ?_)
        obtain ⟨kd13220, ks13221, kn13222⟩ := u3219
        try dsimp only at hr3218
        have hP : va_P G.1 vwCl [(tsp, .inr (8, [.int 120, .int 1, .ref tspc, .int (nI ksp)])), (tspc, .inl (G.2.1, 120, .inl ftsp)), (h0, .inr (10, [.ref tby, .int (nI kt), .ref tln, .ref tsp, .int kd13220, .int (nI ks13221), .int (nI kn13222), .int vtf])), (tby, .inl (G.2.1, 240, .inl fby))] H := hP
        have hD : va_D A [(tsp, .inr (8, [.int 120, .int 1, .ref tspc, .int (nI ksp)])), (tspc, .inl (G.2.1, 120, .inl ftsp)), (h0, .inr (10, [.ref tby, .int (nI kt), .ref tln, .ref tsp, .int kd13220, .int (nI ks13221), .int (nI kn13222), .int vtf])), (tby, .inl (G.2.1, 240, .inl fby))] := hD
        have w3223 := hr3218
        refine lv_aload_n hx hb dX10_takesOne_72 rfl (lv_at hl 2 rfl) ?_
        refine lv_iload_n hx hb dX10_takesOne_73 rfl (lv_at hl 3 rfl) ?_
        refine lv_iconst (v := 1) hx hb dX10_takesOne_74 (by decide) ?_
        refine lv_iadd hx hb dX10_takesOne_75 ?_
        refine eqi (x1 := 2) (by decide) ?_
        refine iVo (wr := []) hO hC hK hl hP hD hS hA (t_cond2 l G K h0 tby kt tln tsp kd13220 ks13221 kn13222 vtf fby tspc ksp ftsp (by omega) (by omega) (by omega) (by omega)) si_X10_121 [2, 3, 0, 1] [] rfl rfl (by decide) rfl (by decide) (by decide) rfl rfl rfl rfl rfl (Nat.le_of_ble_eq_true rfl) ⟨Nat.le_of_ble_eq_true rfl, Nat.le_of_ble_eq_true rfl⟩ ⟨Nat.le_of_ble_eq_true rfl, Nat.le_of_ble_eq_true rfl⟩ dX10_takesOne_76 (fun r3224 u3225 H locs hr3224 hP hD hS => ?_)
        obtain ⟨kd13226, ks13227, kn13228, tf13229, ksp13230, gtsp3231⟩ := u3225
        try dsimp only at hr3224
        have hP : va_P G.1 vwCl [(h0, .inr (10, [.ref tby, .int (nI kt), .ref tln, .ref tsp, .int kd13226, .int (nI ks13227), .int (nI kn13228), .int tf13229])), (tby, .inl (G.2.1, 240, .inl fby)), (tsp, .inr (8, [.int 120, .int 1, .ref tspc, .int (nI ksp13230)])), (tspc, .inl (G.2.1, 120, .inl gtsp3231))] H := hP
        have hD : va_D A [(h0, .inr (10, [.ref tby, .int (nI kt), .ref tln, .ref tsp, .int kd13226, .int (nI ks13227), .int (nI kn13228), .int tf13229])), (tby, .inl (G.2.1, 240, .inl fby)), (tsp, .inr (8, [.int 120, .int 1, .ref tspc, .int (nI ksp13230)])), (tspc, .inl (G.2.1, 120, .inl gtsp3231))] := hD
        obtain ⟨hr3224, w3232⟩ := hr3224
        rcases hr3224 with rfl | rfl
        · refine lv_if_eq (tgt := 91) hx hb dX10_takesOne_79 (by decide) (fun c9 => absurd c9 (by decide)) (fun _ => ?_)
          refine lv_aload_n hx hb dX10_takesOne_82 rfl (lv_at hl 2 rfl) ?_
          refine lv_bipush (v := 41) hx hb dX10_takesOne_83 (by decide) ?_
          refine iV (wr := [(tsp, .inr (8, [.int 120, .int 1, .ref tspc, .int (nI ksp13230)])), (tspc, .inl (G.2.1, 120, .inl gtsp3231))]) hC hK hl hP hD hS hA (t_takesByte l G h0 41 tby kt tln tsp kd13226 ks13227 kn13228 tf13229 fby (by omega) (by omega) (by omega)) si_X10_124 [0, 1] [2, 3] rfl rfl (by decide) rfl (by decide) (by decide) rfl rfl rfl rfl rfl (Nat.le_of_ble_eq_true rfl) ⟨Nat.le_of_ble_eq_true rfl, Nat.le_of_ble_eq_true rfl⟩ ⟨Nat.le_of_ble_eq_true rfl, Nat.le_of_ble_eq_true rfl⟩ dX10_takesOne_85 (fun r3234 u3235 H locs hr3234 hP hD hS => ?_)
          obtain ⟨kd13236, ks13237, kn13238, tf13239⟩ := u3235
          try dsimp only at hr3234
          have hP : va_P G.1 vwCl [(tsp, .inr (8, [.int 120, .int 1, .ref tspc, .int (nI ksp13230)])), (tspc, .inl (G.2.1, 120, .inl gtsp3231)), (h0, .inr (10, [.ref tby, .int (nI kt), .ref tln, .ref tsp, .int kd13236, .int (nI ks13237), .int (nI kn13238), .int tf13239])), (tby, .inl (G.2.1, 240, .inl fby))] H := hP
          have hD : va_D A [(tsp, .inr (8, [.int 120, .int 1, .ref tspc, .int (nI ksp13230)])), (tspc, .inl (G.2.1, 120, .inl gtsp3231)), (h0, .inr (10, [.ref tby, .int (nI kt), .ref tln, .ref tsp, .int kd13236, .int (nI ks13237), .int (nI kn13238), .int tf13239])), (tby, .inl (G.2.1, 240, .inl fby))] := hD
          obtain ⟨hr3234, w3240⟩ := hr3234
          rcases hr3234 with rfl | rfl
          · refine lv_if_ne (tgt := 93) hx hb dX10_takesOne_88 (by decide) (fun _ => ?_) (fun c9 => absurd c9 (by decide))
            refine lv_iload_n hx hb dX10_takesOne_93 rfl (lv_at hl 1 rfl) ?_
            refine lv_if_eq (tgt := 102) hx hb dX10_takesOne_94 (by decide) (fun c_94_3242 => ?_) (fun c_94_3242 => ?_)
            · refine lv_iconst (v := 1) hx hb dX10_takesOne_102 (by decide) ?_
              exact RI (v := 1) hC hP hD hS [2, 3, 0, 1] (kd13236, ks13237, kn13238, tf13239, ksp13230, gtsp3231) rfl rfl (by decide) (⟨Or.inl (rfl), by dsimp only; omega⟩) (by decide +kernel) dX10_takesOne_103
            · refine lv_aload_n hx hb dX10_takesOne_97 rfl (lv_at hl 2 rfl) ?_
              refine lv_iconst (v := (-1)) hx hb dX10_takesOne_98 (by decide) ?_
              refine vV (wr := [(tby, .inl (G.2.1, 240, .inl fby))]) hC hK hl hP hD hS hA (t_addStep l G h0 (-1) tby kt tln tsp kd13236 ks13237 kn13238 tf13239 tspc ksp13230 gtsp3231 (by omega)) si_X10_152 [2, 0, 1] [3] rfl rfl (by decide) rfl (by decide) (by decide) rfl rfl rfl rfl rfl (Nat.le_of_ble_eq_true rfl) ⟨Nat.le_of_ble_eq_true rfl, Nat.le_of_ble_eq_true rfl⟩ ⟨Nat.le_of_ble_eq_true rfl, Nat.le_of_ble_eq_true rfl⟩ dX10_takesOne_99 (fun u3244 H locs hr3243 hP hD hS => ?_)
              obtain ⟨ksp13245, gtsp3246⟩ := u3244
              try dsimp only at hr3243
              have hP : va_P G.1 vwCl [(tby, .inl (G.2.1, 240, .inl fby)), (h0, .inr (10, [.ref tby, .int (nI kt), .ref tln, .ref tsp, .int kd13236, .int (nI ks13237), .int (nI kn13238), .int tf13239])), (tsp, .inr (8, [.int 120, .int 1, .ref tspc, .int (nI ksp13245)])), (tspc, .inl (G.2.1, 120, .inl gtsp3246))] H := hP
              have hD : va_D A [(tby, .inl (G.2.1, 240, .inl fby)), (h0, .inr (10, [.ref tby, .int (nI kt), .ref tln, .ref tsp, .int kd13236, .int (nI ks13237), .int (nI kn13238), .int tf13239])), (tsp, .inr (8, [.int 120, .int 1, .ref tspc, .int (nI ksp13245)])), (tspc, .inl (G.2.1, 120, .inl gtsp3246))] := hD
              have w3247 := hr3243
              refine lv_iconst (v := 1) hx hb dX10_takesOne_102 (by decide) ?_
              exact RI (v := 1) hC hP hD hS [1, 0, 2, 3] (kd13236, ks13237, kn13238, tf13239, ksp13245, gtsp3246) rfl rfl (by decide) (⟨Or.inl (rfl), by dsimp only; omega⟩) (by decide +kernel) dX10_takesOne_103
          · refine lv_if_ne (tgt := 93) hx hb dX10_takesOne_88 (by decide) (fun c9 => absurd (by decide) c9) (fun _ => ?_)
            refine lv_iconst (v := 0) hx hb dX10_takesOne_91 (by decide) ?_
            exact RI (v := 0) hC hP hD hS [2, 3, 0, 1] (kd13236, ks13237, kn13238, tf13239, ksp13230, gtsp3231) rfl rfl (by decide) (⟨Or.inr (rfl), by dsimp only; omega⟩) (by decide +kernel) dX10_takesOne_92
        · refine lv_if_eq (tgt := 91) hx hb dX10_takesOne_79 (by decide) (fun _ => ?_) (fun c9 => absurd (by decide) c9)
          refine lv_iconst (v := 0) hx hb dX10_takesOne_91 (by decide) ?_
          exact RI (v := 0) hC hP hD hS [0, 1, 2, 3] (kd13226, ks13227, kn13228, tf13229, ksp13230, gtsp3231) rfl rfl (by decide) (⟨Or.inr (rfl), by dsimp only; omega⟩) (by decide +kernel) dX10_takesOne_92
      · refine lv_aload_n hx hb dX10_takesOne_49 rfl (lv_at hl 2 rfl) ?_
        refine iVo (wr := []) hO hC hK hl hP hD hS hA (t_takesComparison l G K h0 tby kt tln tsp vkd vks vkn vtf fby tspc ksp ftsp (by omega) (by omega) (by omega) (by omega)) si_X10_162 [0, 1, 2, 3] [] rfl rfl (by decide) rfl (by decide) (by decide) rfl rfl rfl rfl rfl (Nat.le_of_ble_eq_true rfl) ⟨Nat.le_of_ble_eq_true rfl, Nat.le_of_ble_eq_true rfl⟩ ⟨Nat.le_of_ble_eq_true rfl, Nat.le_of_ble_eq_true rfl⟩ dX10_takesOne_50 (fun r3248 u3249 H locs hr3248 hP hD hS => ?_)
        obtain ⟨kd13250, ks13251, kn13252, tf13253, ksp13254, gtsp3255⟩ := u3249
        try dsimp only at hr3248
        have hP : va_P G.1 vwCl [(h0, .inr (10, [.ref tby, .int (nI kt), .ref tln, .ref tsp, .int kd13250, .int (nI ks13251), .int (nI kn13252), .int tf13253])), (tby, .inl (G.2.1, 240, .inl fby)), (tsp, .inr (8, [.int 120, .int 1, .ref tspc, .int (nI ksp13254)])), (tspc, .inl (G.2.1, 120, .inl gtsp3255))] H := hP
        have hD : va_D A [(h0, .inr (10, [.ref tby, .int (nI kt), .ref tln, .ref tsp, .int kd13250, .int (nI ks13251), .int (nI kn13252), .int tf13253])), (tby, .inl (G.2.1, 240, .inl fby)), (tsp, .inr (8, [.int 120, .int 1, .ref tspc, .int (nI ksp13254)])), (tspc, .inl (G.2.1, 120, .inl gtsp3255))] := hD
        obtain ⟨hr3248, w3256⟩ := hr3248
        rcases hr3248 with rfl | rfl
        · refine lv_if_ne (tgt := 93) hx hb dX10_takesOne_53 (by decide) (fun _ => ?_) (fun c9 => absurd c9 (by decide))
          refine lv_iload_n hx hb dX10_takesOne_93 rfl (lv_at hl 1 rfl) ?_
          refine lv_if_eq (tgt := 102) hx hb dX10_takesOne_94 (by decide) (fun c_94_3258 => ?_) (fun c_94_3258 => ?_)
          · refine lv_iconst (v := 1) hx hb dX10_takesOne_102 (by decide) ?_
            exact RI (v := 1) hC hP hD hS [0, 1, 2, 3] (kd13250, ks13251, kn13252, tf13253, ksp13254, gtsp3255) rfl rfl (by decide) (⟨Or.inl (rfl), by dsimp only; omega⟩) (by decide +kernel) dX10_takesOne_103
          · refine lv_aload_n hx hb dX10_takesOne_97 rfl (lv_at hl 2 rfl) ?_
            refine lv_iconst (v := (-1)) hx hb dX10_takesOne_98 (by decide) ?_
            refine vV (wr := [(tby, .inl (G.2.1, 240, .inl fby))]) hC hK hl hP hD hS hA (t_addStep l G h0 (-1) tby kt tln tsp kd13250 ks13251 kn13252 tf13253 tspc ksp13254 gtsp3255 (by omega)) si_X10_152 [0, 2, 3] [1] rfl rfl (by decide) rfl (by decide) (by decide) rfl rfl rfl rfl rfl (Nat.le_of_ble_eq_true rfl) ⟨Nat.le_of_ble_eq_true rfl, Nat.le_of_ble_eq_true rfl⟩ ⟨Nat.le_of_ble_eq_true rfl, Nat.le_of_ble_eq_true rfl⟩ dX10_takesOne_99 (fun u3260 H locs hr3259 hP hD hS => ?_)
            obtain ⟨ksp13261, gtsp3262⟩ := u3260
            try dsimp only at hr3259
            have hP : va_P G.1 vwCl [(tby, .inl (G.2.1, 240, .inl fby)), (h0, .inr (10, [.ref tby, .int (nI kt), .ref tln, .ref tsp, .int kd13250, .int (nI ks13251), .int (nI kn13252), .int tf13253])), (tsp, .inr (8, [.int 120, .int 1, .ref tspc, .int (nI ksp13261)])), (tspc, .inl (G.2.1, 120, .inl gtsp3262))] H := hP
            have hD : va_D A [(tby, .inl (G.2.1, 240, .inl fby)), (h0, .inr (10, [.ref tby, .int (nI kt), .ref tln, .ref tsp, .int kd13250, .int (nI ks13251), .int (nI kn13252), .int tf13253])), (tsp, .inr (8, [.int 120, .int 1, .ref tspc, .int (nI ksp13261)])), (tspc, .inl (G.2.1, 120, .inl gtsp3262))] := hD
            have w3263 := hr3259
            refine lv_iconst (v := 1) hx hb dX10_takesOne_102 (by decide) ?_
            exact RI (v := 1) hC hP hD hS [1, 0, 2, 3] (kd13250, ks13251, kn13252, tf13253, ksp13261, gtsp3262) rfl rfl (by decide) (⟨Or.inl (rfl), by dsimp only; omega⟩) (by decide +kernel) dX10_takesOne_103
        · refine lv_if_ne (tgt := 93) hx hb dX10_takesOne_53 (by decide) (fun c9 => absurd (by decide) c9) (fun _ => ?_)
          refine lv_iconst (v := 0) hx hb dX10_takesOne_56 (by decide) ?_
          exact RI (v := 0) hC hP hD hS [0, 1, 2, 3] (kd13250, ks13251, kn13252, tf13253, ksp13254, gtsp3255) rfl rfl (by decide) (⟨Or.inr (rfl), by dsimp only; omega⟩) (by decide +kernel) dX10_takesOne_57
    | succ nP ihP =>
      intro kP tu vkd vtf vks vkn H locs ls hkP hvks hvkn hP hD hS hl
      refine lv_iload_n hx hb dX10_takesOne_4 rfl (lv_at hl 0 rfl) ?_
      refine lv_sipush (v := 240) hx hb dX10_takesOne_5 (by decide) ?_
      refine lv_icmp_ge (tgt := 40) hx hb dX10_takesOne_8 (by decide) (fun c9 => absurd c9 (nI_ge (a := kP) (b := 240) (by omega) (by omega))) (fun _ => ?_)
      refine lv_aload_n hx hb dX10_takesOne_11 rfl (lv_at hl 2 rfl) ?_
      refine va_ldcS (index := 160) (tx := "not") hx hb hown (hO.2.1 10 (by decide)) dX10_takesOne_12 ?_
      refine pVo hO hS hC hK hl hP hD (t_isName l G K 10 h0 tby kt tln tsp vkd vks vkn vtf fby (by omega) (by omega) (by omega) ((by decide))) si_X10_102 [0, 1] rfl rfl (by decide) rfl rfl rfl rfl rfl (Nat.le_of_ble_eq_true rfl) ⟨Nat.le_of_ble_eq_true rfl, Nat.le_of_ble_eq_true rfl⟩ ⟨by first | exact Nat.le_of_ble_eq_true rfl | exact Nat.zero_le _, by first | exact Nat.le_of_ble_eq_true rfl | exact Nat.zero_le _⟩ dX10_takesOne_14 (fun r3264 hr3264 => ?_)
      rcases hr3264 with rfl | rfl
      · refine lv_if_eq (tgt := 40) hx hb dX10_takesOne_17 (by decide) (fun c9 => absurd c9 (by decide)) (fun _ => ?_)
        refine lv_aload_n hx hb dX10_takesOne_20 rfl (lv_at hl 2 rfl) ?_
        refine vV (wr := [(tsp, .inr (8, [.int 120, .int 1, .ref tspc, .int (nI ksp)])), (tspc, .inl (G.2.1, 120, .inl ftsp))]) hC hK hl hP hD hS hA (t_advance l G h0 tby kt tln tsp vkd vks vkn vtf fby (by omega) (by omega) (by omega)) si_X10_47 [0, 1] [2, 3] rfl rfl (by decide) rfl (by decide) (by decide) rfl rfl rfl rfl rfl (Nat.le_of_ble_eq_true rfl) ⟨Nat.le_of_ble_eq_true rfl, Nat.le_of_ble_eq_true rfl⟩ ⟨Nat.le_of_ble_eq_true rfl, Nat.le_of_ble_eq_true rfl⟩ dX10_takesOne_21 (fun u3267 H locs hr3266 hP hD hS => ?_)
        obtain ⟨kd13268, ks13269, kn13270⟩ := u3267
        try dsimp only at hr3266
        have hP : va_P G.1 vwCl [(tsp, .inr (8, [.int 120, .int 1, .ref tspc, .int (nI ksp)])), (tspc, .inl (G.2.1, 120, .inl ftsp)), (h0, .inr (10, [.ref tby, .int (nI kt), .ref tln, .ref tsp, .int kd13268, .int (nI ks13269), .int (nI kn13270), .int vtf])), (tby, .inl (G.2.1, 240, .inl fby))] H := hP
        have hD : va_D A [(tsp, .inr (8, [.int 120, .int 1, .ref tspc, .int (nI ksp)])), (tspc, .inl (G.2.1, 120, .inl ftsp)), (h0, .inr (10, [.ref tby, .int (nI kt), .ref tln, .ref tsp, .int kd13268, .int (nI ks13269), .int (nI kn13270), .int vtf])), (tby, .inl (G.2.1, 240, .inl fby))] := hD
        have w3271 := hr3266
        refine lv_iload_n hx hb dX10_takesOne_24 rfl (lv_at hl 1 rfl) ?_
        refine lv_if_ne (tgt := 32) hx hb dX10_takesOne_25 (by decide) (fun c_25_3272 => ?_) (fun c_25_3272 => ?_)
        · refine lv_iconst (v := 0) hx hb dX10_takesOne_32 (by decide) ?_
          refine lv_istore_n (lv' := [(2, .int 0), (3, .int (nI kP)), (0, .ref h0), (1, .int 1)]) hx hb dX10_takesOne_33 rfl hl (by decide) rfl (fun ls hl => ?_)
          refine lv_iinc (v := nI (kP + 1)) (lv' := [(3, .int (nI (kP + 1))), (2, .int 0), (0, .ref h0), (1, .int 1)]) hx hb dX10_takesOne_34 hl (k := 1) rfl (nI_1 _) (by decide) rfl (fun ls hl => ?_)
          refine lv_goto (tgt := 4) hx hb dX10_takesOne_37 (by decide) ?_
          have hP := hP.sub (ws' := [(h0, .inr (10, [.ref tby, .int (nI kt), .ref tln, .ref tsp, .int kd13268, .int (nI ks13269), .int (nI kn13270), .int vtf])), (tby, .inl (G.2.1, 240, .inl fby)), (tsp, .inr (8, [.int 120, .int 1, .ref tspc, .int (nI ksp)])), (tspc, .inl (G.2.1, 120, .inl ftsp))]) [2, 3, 0, 1] rfl
          have hD := hD.sub (ws' := [(h0, .inr (10, [.ref tby, .int (nI kt), .ref tln, .ref tsp, .int kd13268, .int (nI ks13269), .int (nI kn13270), .int vtf])), (tby, .inl (G.2.1, 240, .inl fby)), (tsp, .inr (8, [.int 120, .int 1, .ref tspc, .int (nI ksp)])), (tspc, .inl (G.2.1, 120, .inl ftsp))]) [2, 3, 0, 1] (by decide) rfl
          exact ihP (kP + 1) 0 kd13268 vtf ks13269 kn13270 _ _ _ (by omega) (by first | assumption | exact Or.inl rfl | exact Or.inr rfl | omega) (by first | assumption | exact Or.inl rfl | exact Or.inr rfl | omega) hP hD hS (lv_sub hl [0, 1, 2, 3] rfl)
        · refine lv_iconst (v := 1) hx hb dX10_takesOne_28 (by decide) ?_
          refine lv_goto (tgt := 33) hx hb dX10_takesOne_29 (by decide) ?_
          refine lv_istore_n (lv' := [(2, .int 1), (3, .int (nI kP)), (0, .ref h0), (1, .int 1)]) hx hb dX10_takesOne_33 rfl hl (by decide) rfl (fun ls hl => ?_)
          refine lv_iinc (v := nI (kP + 1)) (lv' := [(3, .int (nI (kP + 1))), (2, .int 1), (0, .ref h0), (1, .int 1)]) hx hb dX10_takesOne_34 hl (k := 1) rfl (nI_1 _) (by decide) rfl (fun ls hl => ?_)
          refine lv_goto (tgt := 4) hx hb dX10_takesOne_37 (by decide) ?_
          have hP := hP.sub (ws' := [(h0, .inr (10, [.ref tby, .int (nI kt), .ref tln, .ref tsp, .int kd13268, .int (nI ks13269), .int (nI kn13270), .int vtf])), (tby, .inl (G.2.1, 240, .inl fby)), (tsp, .inr (8, [.int 120, .int 1, .ref tspc, .int (nI ksp)])), (tspc, .inl (G.2.1, 120, .inl ftsp))]) [2, 3, 0, 1] rfl
          have hD := hD.sub (ws' := [(h0, .inr (10, [.ref tby, .int (nI kt), .ref tln, .ref tsp, .int kd13268, .int (nI ks13269), .int (nI kn13270), .int vtf])), (tby, .inl (G.2.1, 240, .inl fby)), (tsp, .inr (8, [.int 120, .int 1, .ref tspc, .int (nI ksp)])), (tspc, .inl (G.2.1, 120, .inl ftsp))]) [2, 3, 0, 1] (by decide) rfl
          exact ihP (kP + 1) 1 kd13268 vtf ks13269 kn13270 _ _ _ (by omega) (by first | assumption | exact Or.inl rfl | exact Or.inr rfl | omega) (by first | assumption | exact Or.inl rfl | exact Or.inr rfl | omega) hP hD hS (lv_sub hl [0, 1, 2, 3] rfl)
      · refine lv_if_eq (tgt := 40) hx hb dX10_takesOne_17 (by decide) (fun _ => ?_) (fun c9 => absurd (by decide) c9)
        refine lv_aload_n hx hb dX10_takesOne_40 rfl (lv_at hl 2 rfl) ?_
        refine gf_X10_31 hC rfl hK hP 0 rfl rfl dX10_takesOne_41 ?_
        refine lv_bipush (v := 40) hx hb dX10_takesOne_44 (by decide) ?_
        refine lv_icmp_eq (tgt := 58) hx hb dX10_takesOne_46 (by decide) (fun c_46_3273 => ?_) (fun c_46_3273 => ?_)
        · refine lv_iload_n hx hb dX10_takesOne_58 rfl (lv_at hl 3 rfl) ?_
          refine lv_iconst (v := 4) hx hb dX10_takesOne_59 (by decide) ?_
          refine lv_icmp_lt (tgt := 68) hx hb dX10_takesOne_60 (by decide) (fun _ => ?_) (fun c9 => absurd (by decide) c9)
          refine lv_aload_n hx hb dX10_takesOne_68 rfl (lv_at hl 2 rfl) ?_
          refine vV (wr := [(tsp, .inr (8, [.int 120, .int 1, .ref tspc, .int (nI ksp)])), (tspc, .inl (G.2.1, 120, .inl ftsp))]) hC hK hl hP hD hS hA (t_advance l G h0 tby kt tln tsp vkd vks vkn vtf fby (by omega) (by omega) (by omega)) si_X10_47 [0, 1] [2, 3] rfl rfl (by decide) rfl (by decide) (by decide) rfl rfl rfl rfl rfl (Nat.le_of_ble_eq_true rfl) ⟨Nat.le_of_ble_eq_true rfl, Nat.le_of_ble_eq_true rfl⟩ ⟨Nat.le_of_ble_eq_true rfl, Nat.le_of_ble_eq_true rfl⟩ dX10_takesOne_69 (fun u3275 H locs hr3274 hP hD hS => ?_)
          obtain ⟨kd13276, ks13277, kn13278⟩ := u3275
          try dsimp only at hr3274
          have hP : va_P G.1 vwCl [(tsp, .inr (8, [.int 120, .int 1, .ref tspc, .int (nI ksp)])), (tspc, .inl (G.2.1, 120, .inl ftsp)), (h0, .inr (10, [.ref tby, .int (nI kt), .ref tln, .ref tsp, .int kd13276, .int (nI ks13277), .int (nI kn13278), .int vtf])), (tby, .inl (G.2.1, 240, .inl fby))] H := hP
          have hD : va_D A [(tsp, .inr (8, [.int 120, .int 1, .ref tspc, .int (nI ksp)])), (tspc, .inl (G.2.1, 120, .inl ftsp)), (h0, .inr (10, [.ref tby, .int (nI kt), .ref tln, .ref tsp, .int kd13276, .int (nI ks13277), .int (nI kn13278), .int vtf])), (tby, .inl (G.2.1, 240, .inl fby))] := hD
          have w3279 := hr3274
          refine lv_aload_n hx hb dX10_takesOne_72 rfl (lv_at hl 2 rfl) ?_
          refine lv_iload_n hx hb dX10_takesOne_73 rfl (lv_at hl 3 rfl) ?_
          refine lv_iconst (v := 1) hx hb dX10_takesOne_74 (by decide) ?_
          refine lv_iadd hx hb dX10_takesOne_75 ?_
          refine eqi (x1 := 2) (by decide) ?_
          refine iVo (wr := []) hO hC hK hl hP hD hS hA (t_cond2 l G K h0 tby kt tln tsp kd13276 ks13277 kn13278 vtf fby tspc ksp ftsp (by omega) (by omega) (by omega) (by omega)) si_X10_121 [2, 3, 0, 1] [] rfl rfl (by decide) rfl (by decide) (by decide) rfl rfl rfl rfl rfl (Nat.le_of_ble_eq_true rfl) ⟨Nat.le_of_ble_eq_true rfl, Nat.le_of_ble_eq_true rfl⟩ ⟨Nat.le_of_ble_eq_true rfl, Nat.le_of_ble_eq_true rfl⟩ dX10_takesOne_76 (fun r3280 u3281 H locs hr3280 hP hD hS => ?_)
          obtain ⟨kd13282, ks13283, kn13284, tf13285, ksp13286, gtsp3287⟩ := u3281
          try dsimp only at hr3280
          have hP : va_P G.1 vwCl [(h0, .inr (10, [.ref tby, .int (nI kt), .ref tln, .ref tsp, .int kd13282, .int (nI ks13283), .int (nI kn13284), .int tf13285])), (tby, .inl (G.2.1, 240, .inl fby)), (tsp, .inr (8, [.int 120, .int 1, .ref tspc, .int (nI ksp13286)])), (tspc, .inl (G.2.1, 120, .inl gtsp3287))] H := hP
          have hD : va_D A [(h0, .inr (10, [.ref tby, .int (nI kt), .ref tln, .ref tsp, .int kd13282, .int (nI ks13283), .int (nI kn13284), .int tf13285])), (tby, .inl (G.2.1, 240, .inl fby)), (tsp, .inr (8, [.int 120, .int 1, .ref tspc, .int (nI ksp13286)])), (tspc, .inl (G.2.1, 120, .inl gtsp3287))] := hD
          obtain ⟨hr3280, w3288⟩ := hr3280
          rcases hr3280 with rfl | rfl
          · refine lv_if_eq (tgt := 91) hx hb dX10_takesOne_79 (by decide) (fun c9 => absurd c9 (by decide)) (fun _ => ?_)
            refine lv_aload_n hx hb dX10_takesOne_82 rfl (lv_at hl 2 rfl) ?_
            refine lv_bipush (v := 41) hx hb dX10_takesOne_83 (by decide) ?_
            refine iV (wr := [(tsp, .inr (8, [.int 120, .int 1, .ref tspc, .int (nI ksp13286)])), (tspc, .inl (G.2.1, 120, .inl gtsp3287))]) hC hK hl hP hD hS hA (t_takesByte l G h0 41 tby kt tln tsp kd13282 ks13283 kn13284 tf13285 fby (by omega) (by omega) (by omega)) si_X10_124 [0, 1] [2, 3] rfl rfl (by decide) rfl (by decide) (by decide) rfl rfl rfl rfl rfl (Nat.le_of_ble_eq_true rfl) ⟨Nat.le_of_ble_eq_true rfl, Nat.le_of_ble_eq_true rfl⟩ ⟨Nat.le_of_ble_eq_true rfl, Nat.le_of_ble_eq_true rfl⟩ dX10_takesOne_85 (fun r3290 u3291 H locs hr3290 hP hD hS => ?_)
            obtain ⟨kd13292, ks13293, kn13294, tf13295⟩ := u3291
            try dsimp only at hr3290
            have hP : va_P G.1 vwCl [(tsp, .inr (8, [.int 120, .int 1, .ref tspc, .int (nI ksp13286)])), (tspc, .inl (G.2.1, 120, .inl gtsp3287)), (h0, .inr (10, [.ref tby, .int (nI kt), .ref tln, .ref tsp, .int kd13292, .int (nI ks13293), .int (nI kn13294), .int tf13295])), (tby, .inl (G.2.1, 240, .inl fby))] H := hP
            have hD : va_D A [(tsp, .inr (8, [.int 120, .int 1, .ref tspc, .int (nI ksp13286)])), (tspc, .inl (G.2.1, 120, .inl gtsp3287)), (h0, .inr (10, [.ref tby, .int (nI kt), .ref tln, .ref tsp, .int kd13292, .int (nI ks13293), .int (nI kn13294), .int tf13295])), (tby, .inl (G.2.1, 240, .inl fby))] := hD
            obtain ⟨hr3290, w3296⟩ := hr3290
            rcases hr3290 with rfl | rfl
            · refine lv_if_ne (tgt := 93) hx hb dX10_takesOne_88 (by decide) (fun _ => ?_) (fun c9 => absurd c9 (by decide))
              refine lv_iload_n hx hb dX10_takesOne_93 rfl (lv_at hl 1 rfl) ?_
              refine lv_if_eq (tgt := 102) hx hb dX10_takesOne_94 (by decide) (fun c_94_3298 => ?_) (fun c_94_3298 => ?_)
              · refine lv_iconst (v := 1) hx hb dX10_takesOne_102 (by decide) ?_
                exact RI (v := 1) hC hP hD hS [2, 3, 0, 1] (kd13292, ks13293, kn13294, tf13295, ksp13286, gtsp3287) rfl rfl (by decide) (⟨Or.inl (rfl), by dsimp only; omega⟩) (by decide +kernel) dX10_takesOne_103
              · refine lv_aload_n hx hb dX10_takesOne_97 rfl (lv_at hl 2 rfl) ?_
                refine lv_iconst (v := (-1)) hx hb dX10_takesOne_98 (by decide) ?_
                refine vV (wr := [(tby, .inl (G.2.1, 240, .inl fby))]) hC hK hl hP hD hS hA (t_addStep l G h0 (-1) tby kt tln tsp kd13292 ks13293 kn13294 tf13295 tspc ksp13286 gtsp3287 (by omega)) si_X10_152 [2, 0, 1] [3] rfl rfl (by decide) rfl (by decide) (by decide) rfl rfl rfl rfl rfl (Nat.le_of_ble_eq_true rfl) ⟨Nat.le_of_ble_eq_true rfl, Nat.le_of_ble_eq_true rfl⟩ ⟨Nat.le_of_ble_eq_true rfl, Nat.le_of_ble_eq_true rfl⟩ dX10_takesOne_99 (fun u3300 H locs hr3299 hP hD hS => ?_)
                obtain ⟨ksp13301, gtsp3302⟩ := u3300
                try dsimp only at hr3299
                have hP : va_P G.1 vwCl [(tby, .inl (G.2.1, 240, .inl fby)), (h0, .inr (10, [.ref tby, .int (nI kt), .ref tln, .ref tsp, .int kd13292, .int (nI ks13293), .int (nI kn13294), .int tf13295])), (tsp, .inr (8, [.int 120, .int 1, .ref tspc, .int (nI ksp13301)])), (tspc, .inl (G.2.1, 120, .inl gtsp3302))] H := hP
                have hD : va_D A [(tby, .inl (G.2.1, 240, .inl fby)), (h0, .inr (10, [.ref tby, .int (nI kt), .ref tln, .ref tsp, .int kd13292, .int (nI ks13293), .int (nI kn13294), .int tf13295])), (tsp, .inr (8, [.int 120, .int 1, .ref tspc, .int (nI ksp13301)])), (tspc, .inl (G.2.1, 120, .inl gtsp3302))] := hD
                have w3303 := hr3299
                refine lv_iconst (v := 1) hx hb dX10_takesOne_102 (by decide) ?_
                exact RI (v := 1) hC hP hD hS [1, 0, 2, 3] (kd13292, ks13293, kn13294, tf13295, ksp13301, gtsp3302) rfl rfl (by decide) (⟨Or.inl (rfl), by dsimp only; omega⟩) (by decide +kernel) dX10_takesOne_103
            · refine lv_if_ne (tgt := 93) hx hb dX10_takesOne_88 (by decide) (fun c9 => absurd (by decide) c9) (fun _ => ?_)
              refine lv_iconst (v := 0) hx hb dX10_takesOne_91 (by decide) ?_
              exact RI (v := 0) hC hP hD hS [2, 3, 0, 1] (kd13292, ks13293, kn13294, tf13295, ksp13286, gtsp3287) rfl rfl (by decide) (⟨Or.inr (rfl), by dsimp only; omega⟩) (by decide +kernel) dX10_takesOne_92
          · refine lv_if_eq (tgt := 91) hx hb dX10_takesOne_79 (by decide) (fun _ => ?_) (fun c9 => absurd (by decide) c9)
            refine lv_iconst (v := 0) hx hb dX10_takesOne_91 (by decide) ?_
            exact RI (v := 0) hC hP hD hS [0, 1, 2, 3] (kd13282, ks13283, kn13284, tf13285, ksp13286, gtsp3287) rfl rfl (by decide) (⟨Or.inr (rfl), by dsimp only; omega⟩) (by decide +kernel) dX10_takesOne_92
        · refine lv_aload_n hx hb dX10_takesOne_49 rfl (lv_at hl 2 rfl) ?_
          refine iVo (wr := []) hO hC hK hl hP hD hS hA (t_takesComparison l G K h0 tby kt tln tsp vkd vks vkn vtf fby tspc ksp ftsp (by omega) (by omega) (by omega) (by omega)) si_X10_162 [0, 1, 2, 3] [] rfl rfl (by decide) rfl (by decide) (by decide) rfl rfl rfl rfl rfl (Nat.le_of_ble_eq_true rfl) ⟨Nat.le_of_ble_eq_true rfl, Nat.le_of_ble_eq_true rfl⟩ ⟨Nat.le_of_ble_eq_true rfl, Nat.le_of_ble_eq_true rfl⟩ dX10_takesOne_50 (fun r3304 u3305 H locs hr3304 hP hD hS => ?_)
          obtain ⟨kd13306, ks13307, kn13308, tf13309, ksp13310, gtsp3311⟩ := u3305
          try dsimp only at hr3304
          have hP : va_P G.1 vwCl [(h0, .inr (10, [.ref tby, .int (nI kt), .ref tln, .ref tsp, .int kd13306, .int (nI ks13307), .int (nI kn13308), .int tf13309])), (tby, .inl (G.2.1, 240, .inl fby)), (tsp, .inr (8, [.int 120, .int 1, .ref tspc, .int (nI ksp13310)])), (tspc, .inl (G.2.1, 120, .inl gtsp3311))] H := hP
          have hD : va_D A [(h0, .inr (10, [.ref tby, .int (nI kt), .ref tln, .ref tsp, .int kd13306, .int (nI ks13307), .int (nI kn13308), .int tf13309])), (tby, .inl (G.2.1, 240, .inl fby)), (tsp, .inr (8, [.int 120, .int 1, .ref tspc, .int (nI ksp13310)])), (tspc, .inl (G.2.1, 120, .inl gtsp3311))] := hD
          obtain ⟨hr3304, w3312⟩ := hr3304
          rcases hr3304 with rfl | rfl
          · refine lv_if_ne (tgt := 93) hx hb dX10_takesOne_53 (by decide) (fun _ => ?_) (fun c9 => absurd c9 (by decide))
            refine lv_iload_n hx hb dX10_takesOne_93 rfl (lv_at hl 1 rfl) ?_
            refine lv_if_eq (tgt := 102) hx hb dX10_takesOne_94 (by decide) (fun c_94_3314 => ?_) (fun c_94_3314 => ?_)
            · refine lv_iconst (v := 1) hx hb dX10_takesOne_102 (by decide) ?_
              exact RI (v := 1) hC hP hD hS [0, 1, 2, 3] (kd13306, ks13307, kn13308, tf13309, ksp13310, gtsp3311) rfl rfl (by decide) (⟨Or.inl (rfl), by dsimp only; omega⟩) (by decide +kernel) dX10_takesOne_103
            · refine lv_aload_n hx hb dX10_takesOne_97 rfl (lv_at hl 2 rfl) ?_
              refine lv_iconst (v := (-1)) hx hb dX10_takesOne_98 (by decide) ?_
              refine vV (wr := [(tby, .inl (G.2.1, 240, .inl fby))]) hC hK hl hP hD hS hA (t_addStep l G h0 (-1) tby kt tln tsp kd13306 ks13307 kn13308 tf13309 tspc ksp13310 gtsp3311 (by omega)) si_X10_152 [0, 2, 3] [1] rfl rfl (by decide) rfl (by decide) (by decide) rfl rfl rfl rfl rfl (Nat.le_of_ble_eq_true rfl) ⟨Nat.le_of_ble_eq_true rfl, Nat.le_of_ble_eq_true rfl⟩ ⟨Nat.le_of_ble_eq_true rfl, Nat.le_of_ble_eq_true rfl⟩ dX10_takesOne_99 (fun u3316 H locs hr3315 hP hD hS => ?_)
              obtain ⟨ksp13317, gtsp3318⟩ := u3316
              try dsimp only at hr3315
              have hP : va_P G.1 vwCl [(tby, .inl (G.2.1, 240, .inl fby)), (h0, .inr (10, [.ref tby, .int (nI kt), .ref tln, .ref tsp, .int kd13306, .int (nI ks13307), .int (nI kn13308), .int tf13309])), (tsp, .inr (8, [.int 120, .int 1, .ref tspc, .int (nI ksp13317)])), (tspc, .inl (G.2.1, 120, .inl gtsp3318))] H := hP
              have hD : va_D A [(tby, .inl (G.2.1, 240, .inl fby)), (h0, .inr (10, [.ref tby, .int (nI kt), .ref tln, .ref tsp, .int kd13306, .int (nI ks13307), .int (nI kn13308), .int tf13309])), (tsp, .inr (8, [.int 120, .int 1, .ref tspc, .int (nI ksp13317)])), (tspc, .inl (G.2.1, 120, .inl gtsp3318))] := hD
              have w3319 := hr3315
              refine lv_iconst (v := 1) hx hb dX10_takesOne_102 (by decide) ?_
              exact RI (v := 1) hC hP hD hS [1, 0, 2, 3] (kd13306, ks13307, kn13308, tf13309, ksp13317, gtsp3318) rfl rfl (by decide) (⟨Or.inl (rfl), by dsimp only; omega⟩) (by decide +kernel) dX10_takesOne_103
          · refine lv_if_ne (tgt := 93) hx hb dX10_takesOne_53 (by decide) (fun c9 => absurd (by decide) c9) (fun _ => ?_)
            refine lv_iconst (v := 0) hx hb dX10_takesOne_56 (by decide) ?_
            exact RI (v := 0) hC hP hD hS [0, 1, 2, 3] (kd13306, ks13307, kn13308, tf13309, ksp13310, gtsp3311) rfl rfl (by decide) (⟨Or.inr (rfl), by dsimp only; omega⟩) (by decide +kernel) dX10_takesOne_57
  exact keyP 240 0 0 tkd tf9 ks kn _ _ _ (by omega) (by first | assumption | exact Or.inl rfl | exact Or.inr rfl | omega) (by first | assumption | exact Or.inl rfl | exact Or.inr rfl | omega) hP hD hS (lv_sub hl [0, 1, 2, 3] rfl)
set_option maxHeartbeats 4000000 in
set_option maxRecDepth 100000 in
theorem t_all1 (l : Launch) (G : GG) (K : OO) (h0 : Nat) (tby : Nat) (kt : Nat) (tln : Nat) (tsp : Nat) (tkd : Int32) (ks : Nat) (kn : Nat) (tf9 : Int32) (fby : Nat → Int32) (tspc : Nat) (ksp : Nat) (ftsp : Nat → Int32) (hkt : kt ≤ 240) (hks : ks ≤ 240) (hkn : kn ≤ 240) (hksp : ksp ≤ 120) : MIo l G K yX10_takesAll cX10_takesAll 3 (some .boolean) 22 0 0 [.ref h0, .int 1] [(h0, .inr (10, [.ref tby, .int (nI kt), .ref tln, .ref tsp, .int tkd, .int (nI ks), .int (nI kn), .int tf9])), (tby, .inl (G.2.1, 240, .inl fby)), (tsp, .inr (8, [.int 120, .int 1, .ref tspc, .int (nI ksp)])), (tspc, .inl (G.2.1, 120, .inl ftsp))] (fun (r : Int32) (u : Int32 × Nat × Nat × Int32 × Nat × (Nat → Int32)) => (r = 1 ∨ r = 0) ∧ (u.2.1 ≤ 240 ∧ u.2.2.1 ≤ 240 ∧ u.2.2.2.2.1 ≤ 120)) (fun u : Int32 × Nat × Nat × Int32 × Nat × (Nat → Int32) => [(h0, .inr (10, [.ref tby, .int (nI kt), .ref tln, .ref tsp, .int u.1, .int (nI u.2.1), .int (nI u.2.2.1), .int u.2.2.2.1])), (tby, .inl (G.2.1, 240, .inl fby)), (tsp, .inr (8, [.int 120, .int 1, .ref tspc, .int (nI u.2.2.2.2.1)])), (tspc, .inl (G.2.1, 120, .inl u.2.2.2.2.2))]) := by
  refine MIo.start (by decide +kernel) (Nat.le_of_ble_eq_true rfl) ?_
  intro p e s m below meth c A ls hC hK hP hD hS hA hl hO
  have hl : lv_has ls 3 [(0, .ref h0), (1, .int 1)] := hl
  obtain ⟨hx, hb, hr, hml, hB, hown, hlocks, hnm⟩ := id hC
  refine lv_aload_n hx hb dX10_takesAll_0 rfl (lv_at hl 0 rfl) ?_
  refine lv_iload_n hx hb dX10_takesAll_1 rfl (lv_at hl 1 rfl) ?_
  refine iVo (wr := []) hO hC hK hl hP hD hS hA (t_one1 l G K h0 tby kt tln tsp tkd ks kn tf9 fby tspc ksp ftsp (by omega) (by omega) (by omega) (by omega)) si_X10_155 [0, 1, 2, 3] [] rfl rfl (by decide) rfl (by decide) (by decide) rfl rfl rfl rfl rfl (Nat.le_of_ble_eq_true rfl) ⟨Nat.le_of_ble_eq_true rfl, Nat.le_of_ble_eq_true rfl⟩ ⟨Nat.le_of_ble_eq_true rfl, Nat.le_of_ble_eq_true rfl⟩ dX10_takesAll_2 (fun r3320 u3321 H locs hr3320 hP hD hS => ?_)
  obtain ⟨kd13322, ks13323, kn13324, tf13325, ksp13326, gtsp3327⟩ := u3321
  try dsimp only at hr3320
  have hP : va_P G.1 vwCl [(h0, .inr (10, [.ref tby, .int (nI kt), .ref tln, .ref tsp, .int kd13322, .int (nI ks13323), .int (nI kn13324), .int tf13325])), (tby, .inl (G.2.1, 240, .inl fby)), (tsp, .inr (8, [.int 120, .int 1, .ref tspc, .int (nI ksp13326)])), (tspc, .inl (G.2.1, 120, .inl gtsp3327))] H := hP
  have hD : va_D A [(h0, .inr (10, [.ref tby, .int (nI kt), .ref tln, .ref tsp, .int kd13322, .int (nI ks13323), .int (nI kn13324), .int tf13325])), (tby, .inl (G.2.1, 240, .inl fby)), (tsp, .inr (8, [.int 120, .int 1, .ref tspc, .int (nI ksp13326)])), (tspc, .inl (G.2.1, 120, .inl gtsp3327))] := hD
  obtain ⟨hr3320, w3328⟩ := hr3320
  rcases hr3320 with rfl | rfl
  · refine lv_if_ne (tgt := 10) hx hb dX10_takesAll_5 (by decide) (fun _ => ?_) (fun c9 => absurd c9 (by decide))
    refine lv_iconst (v := 0) hx hb dX10_takesAll_10 (by decide) ?_
    refine lv_istore_n (lv' := [(2, .int 0), (0, .ref h0), (1, .int 1)]) hx hb dX10_takesAll_11 rfl hl (by decide) rfl (fun ls hl => ?_)
    have keyP : ∀ (nP kP : Nat) (vkd : Int32) (vtf : Int32) (vtsp : Nat → Int32) (vks : Nat) (vkn : Nat) (vksp : Nat) (H : Heap) (locs : List Loc) (ls : Array Slot), kP + nP = 240 → (vks ≤ 240) → (vkn ≤ 240) → (vksp ≤ 120) → va_P G.1 vwCl [(h0, .inr (10, [.ref tby, .int (nI kt), .ref tln, .ref tsp, .int vkd, .int (nI vks), .int (nI vkn), .int vtf])), (tby, .inl (G.2.1, 240, .inl fby)), (tsp, .inr (8, [.int 120, .int 1, .ref tspc, .int (nI vksp)])), (tspc, .inl (G.2.1, 120, .inl vtsp))] H → va_D A [(h0, .inr (10, [.ref tby, .int (nI kt), .ref tln, .ref tsp, .int vkd, .int (nI vks), .int (nI vkn), .int vtf])), (tby, .inl (G.2.1, 240, .inl fby)), (tsp, .inr (8, [.int 120, .int 1, .ref tspc, .int (nI vksp)])), (tspc, .inl (G.2.1, 120, .inl vtsp))] → va_S A s.heap H locs → lv_has ls 3 [(2, .int (nI kP)), (0, .ref h0), (1, .int 1)] → W p l e (RM 22 0 0) s m ([.ref h0, .int 1] : List Value).toArray below meth c H locs 0 0 (MQ below (QI G (fun (r : Int32) (u : Int32 × Nat × Nat × Int32 × Nat × (Nat → Int32)) => (r = 1 ∨ r = 0) ∧ (u.2.1 ≤ 240 ∧ u.2.2.1 ≤ 240 ∧ u.2.2.2.2.1 ≤ 120)) (fun u : Int32 × Nat × Nat × Int32 × Nat × (Nat → Int32) => [(h0, .inr (10, [.ref tby, .int (nI kt), .ref tln, .ref tsp, .int u.1, .int (nI u.2.1), .int (nI u.2.2.1), .int u.2.2.2.1])), (tby, .inl (G.2.1, 240, .inl fby)), (tsp, .inr (8, [.int 120, .int 1, .ref tspc, .int (nI u.2.2.2.2.1)])), (tspc, .inl (G.2.1, 120, .inl u.2.2.2.2.2))]) A) ([.ref h0, .int 1] : List Value).toArray s 0 0 A) (F0 m 12 ls []) := by
      intro nP
      induction nP with
      | zero =>
        intro kP vkd vtf vtsp vks vkn vksp H locs ls hkP hvks hvkn hvksp hP hD hS hl
        obtain rfl : 240 = kP := by omega
        have hl : lv_has ls 3 [(2, .int 240), (0, .ref h0), (1, .int 1)] := hl
        refine lv_iload_n hx hb dX10_takesAll_12 rfl (lv_at hl 0 rfl) ?_
        refine lv_sipush (v := 240) hx hb dX10_takesAll_13 (by decide) ?_
        refine lv_icmp_ge (tgt := 54) hx hb dX10_takesAll_16 (by decide) (fun _ => ?_) (fun c9 => absurd (by decide) c9)
        refine lv_iconst (v := 1) hx hb dX10_takesAll_54 (by decide) ?_
        exact RI (v := 1) hC hP hD hS [0, 1, 2, 3] (vkd, vks, vkn, vtf, vksp, vtsp) rfl rfl (by decide) (⟨Or.inl (rfl), by dsimp only; omega⟩) (by decide +kernel) dX10_takesAll_55
      | succ nP ihP =>
        intro kP vkd vtf vtsp vks vkn vksp H locs ls hkP hvks hvkn hvksp hP hD hS hl
        refine lv_iload_n hx hb dX10_takesAll_12 rfl (lv_at hl 0 rfl) ?_
        refine lv_sipush (v := 240) hx hb dX10_takesAll_13 (by decide) ?_
        refine lv_icmp_ge (tgt := 54) hx hb dX10_takesAll_16 (by decide) (fun c9 => absurd c9 (nI_ge (a := kP) (b := 240) (by omega) (by omega))) (fun _ => ?_)
        refine lv_aload_n hx hb dX10_takesAll_19 rfl (lv_at hl 1 rfl) ?_
        refine va_ldcS (index := 158) (tx := "and") hx hb hown (hO.2.1 9 (by decide)) dX10_takesAll_20 ?_
        refine pVo hO hS hC hK hl hP hD (t_isName l G K 9 h0 tby kt tln tsp vkd vks vkn vtf fby (by omega) (by omega) (by omega) ((by decide))) si_X10_102 [0, 1] rfl rfl (by decide) rfl rfl rfl rfl rfl (Nat.le_of_ble_eq_true rfl) ⟨Nat.le_of_ble_eq_true rfl, Nat.le_of_ble_eq_true rfl⟩ ⟨by first | exact Nat.le_of_ble_eq_true rfl | exact Nat.zero_le _, by first | exact Nat.le_of_ble_eq_true rfl | exact Nat.zero_le _⟩ dX10_takesAll_22 (fun r3330 hr3330 => ?_)
        rcases hr3330 with rfl | rfl
        · refine lv_if_eq (tgt := 54) hx hb dX10_takesAll_25 (by decide) (fun c9 => absurd c9 (by decide)) (fun _ => ?_)
          refine lv_aload_n hx hb dX10_takesAll_28 rfl (lv_at hl 1 rfl) ?_
          refine vV (wr := [(tsp, .inr (8, [.int 120, .int 1, .ref tspc, .int (nI vksp)])), (tspc, .inl (G.2.1, 120, .inl vtsp))]) hC hK hl hP hD hS hA (t_advance l G h0 tby kt tln tsp vkd vks vkn vtf fby (by omega) (by omega) (by omega)) si_X10_47 [0, 1] [2, 3] rfl rfl (by decide) rfl (by decide) (by decide) rfl rfl rfl rfl rfl (Nat.le_of_ble_eq_true rfl) ⟨Nat.le_of_ble_eq_true rfl, Nat.le_of_ble_eq_true rfl⟩ ⟨Nat.le_of_ble_eq_true rfl, Nat.le_of_ble_eq_true rfl⟩ dX10_takesAll_29 (fun u3333 H locs hr3332 hP hD hS => ?_)
          obtain ⟨kd13334, ks13335, kn13336⟩ := u3333
          try dsimp only at hr3332
          have hP : va_P G.1 vwCl [(tsp, .inr (8, [.int 120, .int 1, .ref tspc, .int (nI vksp)])), (tspc, .inl (G.2.1, 120, .inl vtsp)), (h0, .inr (10, [.ref tby, .int (nI kt), .ref tln, .ref tsp, .int kd13334, .int (nI ks13335), .int (nI kn13336), .int vtf])), (tby, .inl (G.2.1, 240, .inl fby))] H := hP
          have hD : va_D A [(tsp, .inr (8, [.int 120, .int 1, .ref tspc, .int (nI vksp)])), (tspc, .inl (G.2.1, 120, .inl vtsp)), (h0, .inr (10, [.ref tby, .int (nI kt), .ref tln, .ref tsp, .int kd13334, .int (nI ks13335), .int (nI kn13336), .int vtf])), (tby, .inl (G.2.1, 240, .inl fby))] := hD
          have w3337 := hr3332
          refine lv_aload_n hx hb dX10_takesAll_32 rfl (lv_at hl 1 rfl) ?_
          refine lv_iload_n hx hb dX10_takesAll_33 rfl (lv_at hl 2 rfl) ?_
          refine iVo (wr := []) hO hC hK hl hP hD hS hA (t_one1 l G K h0 tby kt tln tsp kd13334 ks13335 kn13336 vtf fby tspc vksp vtsp (by omega) (by omega) (by omega) (by omega)) si_X10_155 [2, 3, 0, 1] [] rfl rfl (by decide) rfl (by decide) (by decide) rfl rfl rfl rfl rfl (Nat.le_of_ble_eq_true rfl) ⟨Nat.le_of_ble_eq_true rfl, Nat.le_of_ble_eq_true rfl⟩ ⟨Nat.le_of_ble_eq_true rfl, Nat.le_of_ble_eq_true rfl⟩ dX10_takesAll_34 (fun r3338 u3339 H locs hr3338 hP hD hS => ?_)
          obtain ⟨kd13340, ks13341, kn13342, tf13343, ksp13344, gtsp3345⟩ := u3339
          try dsimp only at hr3338
          have hP : va_P G.1 vwCl [(h0, .inr (10, [.ref tby, .int (nI kt), .ref tln, .ref tsp, .int kd13340, .int (nI ks13341), .int (nI kn13342), .int tf13343])), (tby, .inl (G.2.1, 240, .inl fby)), (tsp, .inr (8, [.int 120, .int 1, .ref tspc, .int (nI ksp13344)])), (tspc, .inl (G.2.1, 120, .inl gtsp3345))] H := hP
          have hD : va_D A [(h0, .inr (10, [.ref tby, .int (nI kt), .ref tln, .ref tsp, .int kd13340, .int (nI ks13341), .int (nI kn13342), .int tf13343])), (tby, .inl (G.2.1, 240, .inl fby)), (tsp, .inr (8, [.int 120, .int 1, .ref tspc, .int (nI ksp13344)])), (tspc, .inl (G.2.1, 120, .inl gtsp3345))] := hD
          obtain ⟨hr3338, w3346⟩ := hr3338
          rcases hr3338 with rfl | rfl
          · refine lv_if_ne (tgt := 42) hx hb dX10_takesAll_37 (by decide) (fun _ => ?_) (fun c9 => absurd c9 (by decide))
            refine lv_aload_n hx hb dX10_takesAll_42 rfl (lv_at hl 1 rfl) ?_
            refine lv_bipush (v := (-2)) hx hb dX10_takesAll_43 (by decide) ?_
            refine vV (wr := [(tby, .inl (G.2.1, 240, .inl fby))]) hC hK hl hP hD hS hA (t_addStep l G h0 (-2) tby kt tln tsp kd13340 ks13341 kn13342 tf13343 tspc ksp13344 gtsp3345 (by omega)) si_X10_152 [0, 2, 3] [1] rfl rfl (by decide) rfl (by decide) (by decide) rfl rfl rfl rfl rfl (Nat.le_of_ble_eq_true rfl) ⟨Nat.le_of_ble_eq_true rfl, Nat.le_of_ble_eq_true rfl⟩ ⟨Nat.le_of_ble_eq_true rfl, Nat.le_of_ble_eq_true rfl⟩ dX10_takesAll_45 (fun u3349 H locs hr3348 hP hD hS => ?_)
            obtain ⟨ksp13350, gtsp3351⟩ := u3349
            try dsimp only at hr3348
            have hP : va_P G.1 vwCl [(tby, .inl (G.2.1, 240, .inl fby)), (h0, .inr (10, [.ref tby, .int (nI kt), .ref tln, .ref tsp, .int kd13340, .int (nI ks13341), .int (nI kn13342), .int tf13343])), (tsp, .inr (8, [.int 120, .int 1, .ref tspc, .int (nI ksp13350)])), (tspc, .inl (G.2.1, 120, .inl gtsp3351))] H := hP
            have hD : va_D A [(tby, .inl (G.2.1, 240, .inl fby)), (h0, .inr (10, [.ref tby, .int (nI kt), .ref tln, .ref tsp, .int kd13340, .int (nI ks13341), .int (nI kn13342), .int tf13343])), (tsp, .inr (8, [.int 120, .int 1, .ref tspc, .int (nI ksp13350)])), (tspc, .inl (G.2.1, 120, .inl gtsp3351))] := hD
            have w3352 := hr3348
            refine lv_iinc (v := nI (kP + 1)) (lv' := [(2, .int (nI (kP + 1))), (0, .ref h0), (1, .int 1)]) hx hb dX10_takesAll_48 hl (k := 0) rfl (nI_1 _) (by decide) rfl (fun ls hl => ?_)
            refine lv_goto (tgt := 12) hx hb dX10_takesAll_51 (by decide) ?_
            have hP := hP.sub (ws' := [(h0, .inr (10, [.ref tby, .int (nI kt), .ref tln, .ref tsp, .int kd13340, .int (nI ks13341), .int (nI kn13342), .int tf13343])), (tby, .inl (G.2.1, 240, .inl fby)), (tsp, .inr (8, [.int 120, .int 1, .ref tspc, .int (nI ksp13350)])), (tspc, .inl (G.2.1, 120, .inl gtsp3351))]) [1, 0, 2, 3] rfl
            have hD := hD.sub (ws' := [(h0, .inr (10, [.ref tby, .int (nI kt), .ref tln, .ref tsp, .int kd13340, .int (nI ks13341), .int (nI kn13342), .int tf13343])), (tby, .inl (G.2.1, 240, .inl fby)), (tsp, .inr (8, [.int 120, .int 1, .ref tspc, .int (nI ksp13350)])), (tspc, .inl (G.2.1, 120, .inl gtsp3351))]) [1, 0, 2, 3] (by decide) rfl
            exact ihP (kP + 1) kd13340 tf13343 gtsp3351 ks13341 kn13342 ksp13350 _ _ _ (by omega) (by first | assumption | exact Or.inl rfl | exact Or.inr rfl | omega) (by first | assumption | exact Or.inl rfl | exact Or.inr rfl | omega) (by first | assumption | exact Or.inl rfl | exact Or.inr rfl | omega) hP hD hS (lv_sub hl [0, 1, 2] rfl)
          · refine lv_if_ne (tgt := 42) hx hb dX10_takesAll_37 (by decide) (fun c9 => absurd (by decide) c9) (fun _ => ?_)
            refine lv_iconst (v := 0) hx hb dX10_takesAll_40 (by decide) ?_
            exact RI (v := 0) hC hP hD hS [0, 1, 2, 3] (kd13340, ks13341, kn13342, tf13343, ksp13344, gtsp3345) rfl rfl (by decide) (⟨Or.inr (rfl), by dsimp only; omega⟩) (by decide +kernel) dX10_takesAll_41
        · refine lv_if_eq (tgt := 54) hx hb dX10_takesAll_25 (by decide) (fun _ => ?_) (fun c9 => absurd (by decide) c9)
          refine lv_iconst (v := 1) hx hb dX10_takesAll_54 (by decide) ?_
          exact RI (v := 1) hC hP hD hS [0, 1, 2, 3] (vkd, vks, vkn, vtf, vksp, vtsp) rfl rfl (by decide) (⟨Or.inl (rfl), by dsimp only; omega⟩) (by decide +kernel) dX10_takesAll_55
    exact keyP 240 0 kd13322 tf13325 gtsp3327 ks13323 kn13324 ksp13326 _ _ _ (by omega) (by first | assumption | exact Or.inl rfl | exact Or.inr rfl | omega) (by first | assumption | exact Or.inl rfl | exact Or.inr rfl | omega) (by first | assumption | exact Or.inl rfl | exact Or.inr rfl | omega) hP hD hS (lv_sub hl [0, 1, 2] rfl)
  · refine lv_if_ne (tgt := 10) hx hb dX10_takesAll_5 (by decide) (fun c9 => absurd (by decide) c9) (fun _ => ?_)
    refine lv_iconst (v := 0) hx hb dX10_takesAll_8 (by decide) ?_
    exact RI (v := 0) hC hP hD hS [0, 1, 2, 3] (kd13322, ks13323, kn13324, tf13325, ksp13326, gtsp3327) rfl rfl (by decide) (⟨Or.inr (rfl), by dsimp only; omega⟩) (by decide +kernel) dX10_takesAll_9
set_option maxHeartbeats 4000000 in
set_option maxRecDepth 100000 in
theorem t_cond1 (l : Launch) (G : GG) (K : OO) (h0 : Nat) (tby : Nat) (kt : Nat) (tln : Nat) (tsp : Nat) (tkd : Int32) (ks : Nat) (kn : Nat) (tf9 : Int32) (fby : Nat → Int32) (tspc : Nat) (ksp : Nat) (ftsp : Nat → Int32) (hkt : kt ≤ 240) (hks : ks ≤ 240) (hkn : kn ≤ 240) (hksp : ksp ≤ 120) : MIo l G K yX10_takesCond cX10_takesCond 3 (some .boolean) 23 0 0 [.ref h0, .int 1] [(h0, .inr (10, [.ref tby, .int (nI kt), .ref tln, .ref tsp, .int tkd, .int (nI ks), .int (nI kn), .int tf9])), (tby, .inl (G.2.1, 240, .inl fby)), (tsp, .inr (8, [.int 120, .int 1, .ref tspc, .int (nI ksp)])), (tspc, .inl (G.2.1, 120, .inl ftsp))] (fun (r : Int32) (u : Int32 × Nat × Nat × Int32 × Nat × (Nat → Int32)) => (r = 1 ∨ r = 0) ∧ (u.2.1 ≤ 240 ∧ u.2.2.1 ≤ 240 ∧ u.2.2.2.2.1 ≤ 120)) (fun u : Int32 × Nat × Nat × Int32 × Nat × (Nat → Int32) => [(h0, .inr (10, [.ref tby, .int (nI kt), .ref tln, .ref tsp, .int u.1, .int (nI u.2.1), .int (nI u.2.2.1), .int u.2.2.2.1])), (tby, .inl (G.2.1, 240, .inl fby)), (tsp, .inr (8, [.int 120, .int 1, .ref tspc, .int (nI u.2.2.2.2.1)])), (tspc, .inl (G.2.1, 120, .inl u.2.2.2.2.2))]) := by
  refine MIo.start (by decide +kernel) (Nat.le_of_ble_eq_true rfl) ?_
  intro p e s m below meth c A ls hC hK hP hD hS hA hl hO
  have hl : lv_has ls 3 [(0, .ref h0), (1, .int 1)] := hl
  obtain ⟨hx, hb, hr, hml, hB, hown, hlocks, hnm⟩ := id hC
  refine lv_aload_n hx hb dX10_takesCond_0 rfl (lv_at hl 0 rfl) ?_
  refine lv_iload_n hx hb dX10_takesCond_1 rfl (lv_at hl 1 rfl) ?_
  refine iVo (wr := []) hO hC hK hl hP hD hS hA (t_all1 l G K h0 tby kt tln tsp tkd ks kn tf9 fby tspc ksp ftsp (by omega) (by omega) (by omega) (by omega)) si_X10_147 [0, 1, 2, 3] [] rfl rfl (by decide) rfl (by decide) (by decide) rfl rfl rfl rfl rfl (Nat.le_of_ble_eq_true rfl) ⟨Nat.le_of_ble_eq_true rfl, Nat.le_of_ble_eq_true rfl⟩ ⟨Nat.le_of_ble_eq_true rfl, Nat.le_of_ble_eq_true rfl⟩ dX10_takesCond_2 (fun r3353 u3354 H locs hr3353 hP hD hS => ?_)
  obtain ⟨kd13355, ks13356, kn13357, tf13358, ksp13359, gtsp3360⟩ := u3354
  try dsimp only at hr3353
  have hP : va_P G.1 vwCl [(h0, .inr (10, [.ref tby, .int (nI kt), .ref tln, .ref tsp, .int kd13355, .int (nI ks13356), .int (nI kn13357), .int tf13358])), (tby, .inl (G.2.1, 240, .inl fby)), (tsp, .inr (8, [.int 120, .int 1, .ref tspc, .int (nI ksp13359)])), (tspc, .inl (G.2.1, 120, .inl gtsp3360))] H := hP
  have hD : va_D A [(h0, .inr (10, [.ref tby, .int (nI kt), .ref tln, .ref tsp, .int kd13355, .int (nI ks13356), .int (nI kn13357), .int tf13358])), (tby, .inl (G.2.1, 240, .inl fby)), (tsp, .inr (8, [.int 120, .int 1, .ref tspc, .int (nI ksp13359)])), (tspc, .inl (G.2.1, 120, .inl gtsp3360))] := hD
  obtain ⟨hr3353, w3361⟩ := hr3353
  rcases hr3353 with rfl | rfl
  · refine lv_if_ne (tgt := 10) hx hb dX10_takesCond_5 (by decide) (fun _ => ?_) (fun c9 => absurd c9 (by decide))
    refine lv_iconst (v := 0) hx hb dX10_takesCond_10 (by decide) ?_
    refine lv_istore_n (lv' := [(2, .int 0), (0, .ref h0), (1, .int 1)]) hx hb dX10_takesCond_11 rfl hl (by decide) rfl (fun ls hl => ?_)
    have keyP : ∀ (nP kP : Nat) (vkd : Int32) (vtf : Int32) (vtsp : Nat → Int32) (vks : Nat) (vkn : Nat) (vksp : Nat) (H : Heap) (locs : List Loc) (ls : Array Slot), kP + nP = 240 → (vks ≤ 240) → (vkn ≤ 240) → (vksp ≤ 120) → va_P G.1 vwCl [(h0, .inr (10, [.ref tby, .int (nI kt), .ref tln, .ref tsp, .int vkd, .int (nI vks), .int (nI vkn), .int vtf])), (tby, .inl (G.2.1, 240, .inl fby)), (tsp, .inr (8, [.int 120, .int 1, .ref tspc, .int (nI vksp)])), (tspc, .inl (G.2.1, 120, .inl vtsp))] H → va_D A [(h0, .inr (10, [.ref tby, .int (nI kt), .ref tln, .ref tsp, .int vkd, .int (nI vks), .int (nI vkn), .int vtf])), (tby, .inl (G.2.1, 240, .inl fby)), (tsp, .inr (8, [.int 120, .int 1, .ref tspc, .int (nI vksp)])), (tspc, .inl (G.2.1, 120, .inl vtsp))] → va_S A s.heap H locs → lv_has ls 3 [(2, .int (nI kP)), (0, .ref h0), (1, .int 1)] → W p l e (RM 23 0 0) s m ([.ref h0, .int 1] : List Value).toArray below meth c H locs 0 0 (MQ below (QI G (fun (r : Int32) (u : Int32 × Nat × Nat × Int32 × Nat × (Nat → Int32)) => (r = 1 ∨ r = 0) ∧ (u.2.1 ≤ 240 ∧ u.2.2.1 ≤ 240 ∧ u.2.2.2.2.1 ≤ 120)) (fun u : Int32 × Nat × Nat × Int32 × Nat × (Nat → Int32) => [(h0, .inr (10, [.ref tby, .int (nI kt), .ref tln, .ref tsp, .int u.1, .int (nI u.2.1), .int (nI u.2.2.1), .int u.2.2.2.1])), (tby, .inl (G.2.1, 240, .inl fby)), (tsp, .inr (8, [.int 120, .int 1, .ref tspc, .int (nI u.2.2.2.2.1)])), (tspc, .inl (G.2.1, 120, .inl u.2.2.2.2.2))]) A) ([.ref h0, .int 1] : List Value).toArray s 0 0 A) (F0 m 12 ls []) := by
      intro nP
      induction nP with
      | zero =>
        intro kP vkd vtf vtsp vks vkn vksp H locs ls hkP hvks hvkn hvksp hP hD hS hl
        obtain rfl : 240 = kP := by omega
        have hl : lv_has ls 3 [(2, .int 240), (0, .ref h0), (1, .int 1)] := hl
        refine lv_iload_n hx hb dX10_takesCond_12 rfl (lv_at hl 0 rfl) ?_
        refine lv_sipush (v := 240) hx hb dX10_takesCond_13 (by decide) ?_
        refine lv_icmp_ge (tgt := 54) hx hb dX10_takesCond_16 (by decide) (fun _ => ?_) (fun c9 => absurd (by decide) c9)
        refine lv_iconst (v := 1) hx hb dX10_takesCond_54 (by decide) ?_
        exact RI (v := 1) hC hP hD hS [0, 1, 2, 3] (vkd, vks, vkn, vtf, vksp, vtsp) rfl rfl (by decide) (⟨Or.inl (rfl), by dsimp only; omega⟩) (by decide +kernel) dX10_takesCond_55
      | succ nP ihP =>
        intro kP vkd vtf vtsp vks vkn vksp H locs ls hkP hvks hvkn hvksp hP hD hS hl
        refine lv_iload_n hx hb dX10_takesCond_12 rfl (lv_at hl 0 rfl) ?_
        refine lv_sipush (v := 240) hx hb dX10_takesCond_13 (by decide) ?_
        refine lv_icmp_ge (tgt := 54) hx hb dX10_takesCond_16 (by decide) (fun c9 => absurd c9 (nI_ge (a := kP) (b := 240) (by omega) (by omega))) (fun _ => ?_)
        refine lv_aload_n hx hb dX10_takesCond_19 rfl (lv_at hl 1 rfl) ?_
        refine va_ldcS (index := 150) (tx := "o\x72") hx hb hown (hO.2.1 8 (by decide)) dX10_takesCond_20 ?_
        refine pVo hO hS hC hK hl hP hD (t_isName l G K 8 h0 tby kt tln tsp vkd vks vkn vtf fby (by omega) (by omega) (by omega) ((by decide))) si_X10_102 [0, 1] rfl rfl (by decide) rfl rfl rfl rfl rfl (Nat.le_of_ble_eq_true rfl) ⟨Nat.le_of_ble_eq_true rfl, Nat.le_of_ble_eq_true rfl⟩ ⟨by first | exact Nat.le_of_ble_eq_true rfl | exact Nat.zero_le _, by first | exact Nat.le_of_ble_eq_true rfl | exact Nat.zero_le _⟩ dX10_takesCond_22 (fun r3363 hr3363 => ?_)
        rcases hr3363 with rfl | rfl
        · refine lv_if_eq (tgt := 54) hx hb dX10_takesCond_25 (by decide) (fun c9 => absurd c9 (by decide)) (fun _ => ?_)
          refine lv_aload_n hx hb dX10_takesCond_28 rfl (lv_at hl 1 rfl) ?_
          refine vV (wr := [(tsp, .inr (8, [.int 120, .int 1, .ref tspc, .int (nI vksp)])), (tspc, .inl (G.2.1, 120, .inl vtsp))]) hC hK hl hP hD hS hA (t_advance l G h0 tby kt tln tsp vkd vks vkn vtf fby (by omega) (by omega) (by omega)) si_X10_47 [0, 1] [2, 3] rfl rfl (by decide) rfl (by decide) (by decide) rfl rfl rfl rfl rfl (Nat.le_of_ble_eq_true rfl) ⟨Nat.le_of_ble_eq_true rfl, Nat.le_of_ble_eq_true rfl⟩ ⟨Nat.le_of_ble_eq_true rfl, Nat.le_of_ble_eq_true rfl⟩ dX10_takesCond_29 (fun u3366 H locs hr3365 hP hD hS => ?_)
          obtain ⟨kd13367, ks13368, kn13369⟩ := u3366
          try dsimp only at hr3365
          have hP : va_P G.1 vwCl [(tsp, .inr (8, [.int 120, .int 1, .ref tspc, .int (nI vksp)])), (tspc, .inl (G.2.1, 120, .inl vtsp)), (h0, .inr (10, [.ref tby, .int (nI kt), .ref tln, .ref tsp, .int kd13367, .int (nI ks13368), .int (nI kn13369), .int vtf])), (tby, .inl (G.2.1, 240, .inl fby))] H := hP
          have hD : va_D A [(tsp, .inr (8, [.int 120, .int 1, .ref tspc, .int (nI vksp)])), (tspc, .inl (G.2.1, 120, .inl vtsp)), (h0, .inr (10, [.ref tby, .int (nI kt), .ref tln, .ref tsp, .int kd13367, .int (nI ks13368), .int (nI kn13369), .int vtf])), (tby, .inl (G.2.1, 240, .inl fby))] := hD
          have w3370 := hr3365
          refine lv_aload_n hx hb dX10_takesCond_32 rfl (lv_at hl 1 rfl) ?_
          refine lv_iload_n hx hb dX10_takesCond_33 rfl (lv_at hl 2 rfl) ?_
          refine iVo (wr := []) hO hC hK hl hP hD hS hA (t_all1 l G K h0 tby kt tln tsp kd13367 ks13368 kn13369 vtf fby tspc vksp vtsp (by omega) (by omega) (by omega) (by omega)) si_X10_147 [2, 3, 0, 1] [] rfl rfl (by decide) rfl (by decide) (by decide) rfl rfl rfl rfl rfl (Nat.le_of_ble_eq_true rfl) ⟨Nat.le_of_ble_eq_true rfl, Nat.le_of_ble_eq_true rfl⟩ ⟨Nat.le_of_ble_eq_true rfl, Nat.le_of_ble_eq_true rfl⟩ dX10_takesCond_34 (fun r3371 u3372 H locs hr3371 hP hD hS => ?_)
          obtain ⟨kd13373, ks13374, kn13375, tf13376, ksp13377, gtsp3378⟩ := u3372
          try dsimp only at hr3371
          have hP : va_P G.1 vwCl [(h0, .inr (10, [.ref tby, .int (nI kt), .ref tln, .ref tsp, .int kd13373, .int (nI ks13374), .int (nI kn13375), .int tf13376])), (tby, .inl (G.2.1, 240, .inl fby)), (tsp, .inr (8, [.int 120, .int 1, .ref tspc, .int (nI ksp13377)])), (tspc, .inl (G.2.1, 120, .inl gtsp3378))] H := hP
          have hD : va_D A [(h0, .inr (10, [.ref tby, .int (nI kt), .ref tln, .ref tsp, .int kd13373, .int (nI ks13374), .int (nI kn13375), .int tf13376])), (tby, .inl (G.2.1, 240, .inl fby)), (tsp, .inr (8, [.int 120, .int 1, .ref tspc, .int (nI ksp13377)])), (tspc, .inl (G.2.1, 120, .inl gtsp3378))] := hD
          obtain ⟨hr3371, w3379⟩ := hr3371
          rcases hr3371 with rfl | rfl
          · refine lv_if_ne (tgt := 42) hx hb dX10_takesCond_37 (by decide) (fun _ => ?_) (fun c9 => absurd c9 (by decide))
            refine lv_aload_n hx hb dX10_takesCond_42 rfl (lv_at hl 1 rfl) ?_
            refine lv_bipush (v := (-3)) hx hb dX10_takesCond_43 (by decide) ?_
            refine vV (wr := [(tby, .inl (G.2.1, 240, .inl fby))]) hC hK hl hP hD hS hA (t_addStep l G h0 (-3) tby kt tln tsp kd13373 ks13374 kn13375 tf13376 tspc ksp13377 gtsp3378 (by omega)) si_X10_152 [0, 2, 3] [1] rfl rfl (by decide) rfl (by decide) (by decide) rfl rfl rfl rfl rfl (Nat.le_of_ble_eq_true rfl) ⟨Nat.le_of_ble_eq_true rfl, Nat.le_of_ble_eq_true rfl⟩ ⟨Nat.le_of_ble_eq_true rfl, Nat.le_of_ble_eq_true rfl⟩ dX10_takesCond_45 (fun u3382 H locs hr3381 hP hD hS => ?_)
            obtain ⟨ksp13383, gtsp3384⟩ := u3382
            try dsimp only at hr3381
            have hP : va_P G.1 vwCl [(tby, .inl (G.2.1, 240, .inl fby)), (h0, .inr (10, [.ref tby, .int (nI kt), .ref tln, .ref tsp, .int kd13373, .int (nI ks13374), .int (nI kn13375), .int tf13376])), (tsp, .inr (8, [.int 120, .int 1, .ref tspc, .int (nI ksp13383)])), (tspc, .inl (G.2.1, 120, .inl gtsp3384))] H := hP
            have hD : va_D A [(tby, .inl (G.2.1, 240, .inl fby)), (h0, .inr (10, [.ref tby, .int (nI kt), .ref tln, .ref tsp, .int kd13373, .int (nI ks13374), .int (nI kn13375), .int tf13376])), (tsp, .inr (8, [.int 120, .int 1, .ref tspc, .int (nI ksp13383)])), (tspc, .inl (G.2.1, 120, .inl gtsp3384))] := hD
            have w3385 := hr3381
            refine lv_iinc (v := nI (kP + 1)) (lv' := [(2, .int (nI (kP + 1))), (0, .ref h0), (1, .int 1)]) hx hb dX10_takesCond_48 hl (k := 0) rfl (nI_1 _) (by decide) rfl (fun ls hl => ?_)
            refine lv_goto (tgt := 12) hx hb dX10_takesCond_51 (by decide) ?_
            have hP := hP.sub (ws' := [(h0, .inr (10, [.ref tby, .int (nI kt), .ref tln, .ref tsp, .int kd13373, .int (nI ks13374), .int (nI kn13375), .int tf13376])), (tby, .inl (G.2.1, 240, .inl fby)), (tsp, .inr (8, [.int 120, .int 1, .ref tspc, .int (nI ksp13383)])), (tspc, .inl (G.2.1, 120, .inl gtsp3384))]) [1, 0, 2, 3] rfl
            have hD := hD.sub (ws' := [(h0, .inr (10, [.ref tby, .int (nI kt), .ref tln, .ref tsp, .int kd13373, .int (nI ks13374), .int (nI kn13375), .int tf13376])), (tby, .inl (G.2.1, 240, .inl fby)), (tsp, .inr (8, [.int 120, .int 1, .ref tspc, .int (nI ksp13383)])), (tspc, .inl (G.2.1, 120, .inl gtsp3384))]) [1, 0, 2, 3] (by decide) rfl
            exact ihP (kP + 1) kd13373 tf13376 gtsp3384 ks13374 kn13375 ksp13383 _ _ _ (by omega) (by first | assumption | exact Or.inl rfl | exact Or.inr rfl | omega) (by first | assumption | exact Or.inl rfl | exact Or.inr rfl | omega) (by first | assumption | exact Or.inl rfl | exact Or.inr rfl | omega) hP hD hS (lv_sub hl [0, 1, 2] rfl)
          · refine lv_if_ne (tgt := 42) hx hb dX10_takesCond_37 (by decide) (fun c9 => absurd (by decide) c9) (fun _ => ?_)
            refine lv_iconst (v := 0) hx hb dX10_takesCond_40 (by decide) ?_
            exact RI (v := 0) hC hP hD hS [0, 1, 2, 3] (kd13373, ks13374, kn13375, tf13376, ksp13377, gtsp3378) rfl rfl (by decide) (⟨Or.inr (rfl), by dsimp only; omega⟩) (by decide +kernel) dX10_takesCond_41
        · refine lv_if_eq (tgt := 54) hx hb dX10_takesCond_25 (by decide) (fun _ => ?_) (fun c9 => absurd (by decide) c9)
          refine lv_iconst (v := 1) hx hb dX10_takesCond_54 (by decide) ?_
          exact RI (v := 1) hC hP hD hS [0, 1, 2, 3] (vkd, vks, vkn, vtf, vksp, vtsp) rfl rfl (by decide) (⟨Or.inl (rfl), by dsimp only; omega⟩) (by decide +kernel) dX10_takesCond_55
    exact keyP 240 0 kd13355 tf13358 gtsp3360 ks13356 kn13357 ksp13359 _ _ _ (by omega) (by first | assumption | exact Or.inl rfl | exact Or.inr rfl | omega) (by first | assumption | exact Or.inl rfl | exact Or.inr rfl | omega) (by first | assumption | exact Or.inl rfl | exact Or.inr rfl | omega) hP hD hS (lv_sub hl [0, 1, 2] rfl)
  · refine lv_if_ne (tgt := 10) hx hb dX10_takesCond_5 (by decide) (fun c9 => absurd (by decide) c9) (fun _ => ?_)
    refine lv_iconst (v := 0) hx hb dX10_takesCond_8 (by decide) ?_
    exact RI (v := 0) hC hP hD hS [0, 1, 2, 3] (kd13355, ks13356, kn13357, tf13358, ksp13359, gtsp3360) rfl rfl (by decide) (⟨Or.inr (rfl), by dsimp only; omega⟩) (by decide +kernel) dX10_takesCond_9
set_option maxHeartbeats 4000000 in
set_option maxRecDepth 100000 in
theorem t_one0 (l : Launch) (G : GG) (K : OO) (h0 : Nat) (tby : Nat) (kt : Nat) (tln : Nat) (tsp : Nat) (tkd : Int32) (ks : Nat) (kn : Nat) (tf9 : Int32) (fby : Nat → Int32) (tspc : Nat) (ksp : Nat) (ftsp : Nat → Int32) (hkt : kt ≤ 240) (hks : ks ≤ 240) (hkn : kn ≤ 240) (hksp : ksp ≤ 120) : MIo l G K yX10_takesOne cX10_takesOne 4 (some .boolean) 25 0 0 [.ref h0, .int 0] [(h0, .inr (10, [.ref tby, .int (nI kt), .ref tln, .ref tsp, .int tkd, .int (nI ks), .int (nI kn), .int tf9])), (tby, .inl (G.2.1, 240, .inl fby)), (tsp, .inr (8, [.int 120, .int 1, .ref tspc, .int (nI ksp)])), (tspc, .inl (G.2.1, 120, .inl ftsp))] (fun (r : Int32) (u : Int32 × Nat × Nat × Int32 × Nat × (Nat → Int32)) => (r = 1 ∨ r = 0) ∧ (u.2.1 ≤ 240 ∧ u.2.2.1 ≤ 240 ∧ u.2.2.2.2.1 ≤ 120)) (fun u : Int32 × Nat × Nat × Int32 × Nat × (Nat → Int32) => [(h0, .inr (10, [.ref tby, .int (nI kt), .ref tln, .ref tsp, .int u.1, .int (nI u.2.1), .int (nI u.2.2.1), .int u.2.2.2.1])), (tby, .inl (G.2.1, 240, .inl fby)), (tsp, .inr (8, [.int 120, .int 1, .ref tspc, .int (nI u.2.2.2.2.1)])), (tspc, .inl (G.2.1, 120, .inl u.2.2.2.2.2))]) := by
  refine MIo.start (by decide +kernel) (Nat.le_of_ble_eq_true rfl) ?_
  intro p e s m below meth c A ls hC hK hP hD hS hA hl hO
  have hl : lv_has ls 4 [(0, .ref h0), (1, .int 0)] := hl
  obtain ⟨hx, hb, hr, hml, hB, hown, hlocks, hnm⟩ := id hC
  refine lv_iconst (v := 0) hx hb dX10_takesOne_0 (by decide) ?_
  refine lv_istore_n (lv' := [(2, .int 0), (0, .ref h0), (1, .int 0)]) hx hb dX10_takesOne_1 rfl hl (by decide) rfl (fun ls hl => ?_)
  refine lv_iconst (v := 0) hx hb dX10_takesOne_2 (by decide) ?_
  refine lv_istore_n (lv' := [(3, .int 0), (2, .int 0), (0, .ref h0), (1, .int 0)]) hx hb dX10_takesOne_3 rfl hl (by decide) rfl (fun ls hl => ?_)
  have keyP : ∀ (nP kP : Nat) (tu : Int32) (vkd : Int32) (vtf : Int32) (vks : Nat) (vkn : Nat) (H : Heap) (locs : List Loc) (ls : Array Slot), kP + nP = 240 → (vks ≤ 240) → (vkn ≤ 240) → va_P G.1 vwCl [(h0, .inr (10, [.ref tby, .int (nI kt), .ref tln, .ref tsp, .int vkd, .int (nI vks), .int (nI vkn), .int vtf])), (tby, .inl (G.2.1, 240, .inl fby)), (tsp, .inr (8, [.int 120, .int 1, .ref tspc, .int (nI ksp)])), (tspc, .inl (G.2.1, 120, .inl ftsp))] H → va_D A [(h0, .inr (10, [.ref tby, .int (nI kt), .ref tln, .ref tsp, .int vkd, .int (nI vks), .int (nI vkn), .int vtf])), (tby, .inl (G.2.1, 240, .inl fby)), (tsp, .inr (8, [.int 120, .int 1, .ref tspc, .int (nI ksp)])), (tspc, .inl (G.2.1, 120, .inl ftsp))] → va_S A s.heap H locs → lv_has ls 4 [(3, .int (nI kP)), (2, .int tu), (0, .ref h0), (1, .int 0)] → W p l e (RM 25 0 0) s m ([.ref h0, .int 0] : List Value).toArray below meth c H locs 0 0 (MQ below (QI G (fun (r : Int32) (u : Int32 × Nat × Nat × Int32 × Nat × (Nat → Int32)) => (r = 1 ∨ r = 0) ∧ (u.2.1 ≤ 240 ∧ u.2.2.1 ≤ 240 ∧ u.2.2.2.2.1 ≤ 120)) (fun u : Int32 × Nat × Nat × Int32 × Nat × (Nat → Int32) => [(h0, .inr (10, [.ref tby, .int (nI kt), .ref tln, .ref tsp, .int u.1, .int (nI u.2.1), .int (nI u.2.2.1), .int u.2.2.2.1])), (tby, .inl (G.2.1, 240, .inl fby)), (tsp, .inr (8, [.int 120, .int 1, .ref tspc, .int (nI u.2.2.2.2.1)])), (tspc, .inl (G.2.1, 120, .inl u.2.2.2.2.2))]) A) ([.ref h0, .int 0] : List Value).toArray s 0 0 A) (F0 m 4 ls []) := by
    intro nP
    induction nP with
    | zero =>
      intro kP tu vkd vtf vks vkn H locs ls hkP hvks hvkn hP hD hS hl
      obtain rfl : 240 = kP := by omega
      have hl : lv_has ls 4 [(3, .int 240), (2, .int tu), (0, .ref h0), (1, .int 0)] := hl
      refine lv_iload_n hx hb dX10_takesOne_4 rfl (lv_at hl 0 rfl) ?_
      refine lv_sipush (v := 240) hx hb dX10_takesOne_5 (by decide) ?_
      refine lv_icmp_ge (tgt := 40) hx hb dX10_takesOne_8 (by decide) (fun _ => ?_) (fun c9 => absurd (by decide) c9)
      refine lv_aload_n hx hb dX10_takesOne_40 rfl (lv_at hl 2 rfl) ?_
      refine gf_X10_31 hC rfl hK hP 0 rfl rfl dX10_takesOne_41 ?_
      refine lv_bipush (v := 40) hx hb dX10_takesOne_44 (by decide) ?_
      refine lv_icmp_eq (tgt := 58) hx hb dX10_takesOne_46 (by decide) (fun c_46_3386 => ?_) (fun c_46_3386 => ?_)
      · refine lv_iload_n hx hb dX10_takesOne_58 rfl (lv_at hl 3 rfl) ?_
        refine lv_iconst (v := 4) hx hb dX10_takesOne_59 (by decide) ?_
        refine lv_icmp_lt (tgt := 68) hx hb dX10_takesOne_60 (by decide) (fun _ => ?_) (fun c9 => absurd (by decide) c9)
        refine lv_aload_n hx hb dX10_takesOne_68 rfl (lv_at hl 2 rfl) ?_
        refine vV (wr := [(tsp, .inr (8, [.int 120, .int 1, .ref tspc, .int (nI ksp)])), (tspc, .inl (G.2.1, 120, .inl ftsp))]) hC hK hl hP hD hS hA (t_advance l G h0 tby kt tln tsp vkd vks vkn vtf fby (by omega) (by omega) (by omega)) si_X10_47 [0, 1] [2, 3] rfl rfl (by decide) rfl (by decide) (by decide) rfl rfl rfl rfl rfl (Nat.le_of_ble_eq_true rfl) ⟨Nat.le_of_ble_eq_true rfl, Nat.le_of_ble_eq_true rfl⟩ ⟨Nat.le_of_ble_eq_true rfl, Nat.le_of_ble_eq_true rfl⟩ dX10_takesOne_69 (fun u3388 H locs hr3387 hP hD hS => ?_)
        obtain ⟨kd13389, ks13390, kn13391⟩ := u3388
        try dsimp only at hr3387
        have hP : va_P G.1 vwCl [(tsp, .inr (8, [.int 120, .int 1, .ref tspc, .int (nI ksp)])), (tspc, .inl (G.2.1, 120, .inl ftsp)), (h0, .inr (10, [.ref tby, .int (nI kt), .ref tln, .ref tsp, .int kd13389, .int (nI ks13390), .int (nI kn13391), .int vtf])), (tby, .inl (G.2.1, 240, .inl fby))] H := hP
        have hD : va_D A [(tsp, .inr (8, [.int 120, .int 1, .ref tspc, .int (nI ksp)])), (tspc, .inl (G.2.1, 120, .inl ftsp)), (h0, .inr (10, [.ref tby, .int (nI kt), .ref tln, .ref tsp, .int kd13389, .int (nI ks13390), .int (nI kn13391), .int vtf])), (tby, .inl (G.2.1, 240, .inl fby))] := hD
        have w3392 := hr3387
        refine lv_aload_n hx hb dX10_takesOne_72 rfl (lv_at hl 2 rfl) ?_
        refine lv_iload_n hx hb dX10_takesOne_73 rfl (lv_at hl 3 rfl) ?_
        refine lv_iconst (v := 1) hx hb dX10_takesOne_74 (by decide) ?_
        refine lv_iadd hx hb dX10_takesOne_75 ?_
        refine eqi (x1 := 1) (by decide) ?_
        refine iVo (wr := []) hO hC hK hl hP hD hS hA (t_cond1 l G K h0 tby kt tln tsp kd13389 ks13390 kn13391 vtf fby tspc ksp ftsp (by omega) (by omega) (by omega) (by omega)) si_X10_121 [2, 3, 0, 1] [] rfl rfl (by decide) rfl (by decide) (by decide) rfl rfl rfl rfl rfl (Nat.le_of_ble_eq_true rfl) ⟨Nat.le_of_ble_eq_true rfl, Nat.le_of_ble_eq_true rfl⟩ ⟨Nat.le_of_ble_eq_true rfl, Nat.le_of_ble_eq_true rfl⟩ dX10_takesOne_76 (fun r3393 u3394 H locs hr3393 hP hD hS => ?_)
        obtain ⟨kd13395, ks13396, kn13397, tf13398, ksp13399, gtsp3400⟩ := u3394
        try dsimp only at hr3393
        have hP : va_P G.1 vwCl [(h0, .inr (10, [.ref tby, .int (nI kt), .ref tln, .ref tsp, .int kd13395, .int (nI ks13396), .int (nI kn13397), .int tf13398])), (tby, .inl (G.2.1, 240, .inl fby)), (tsp, .inr (8, [.int 120, .int 1, .ref tspc, .int (nI ksp13399)])), (tspc, .inl (G.2.1, 120, .inl gtsp3400))] H := hP
        have hD : va_D A [(h0, .inr (10, [.ref tby, .int (nI kt), .ref tln, .ref tsp, .int kd13395, .int (nI ks13396), .int (nI kn13397), .int tf13398])), (tby, .inl (G.2.1, 240, .inl fby)), (tsp, .inr (8, [.int 120, .int 1, .ref tspc, .int (nI ksp13399)])), (tspc, .inl (G.2.1, 120, .inl gtsp3400))] := hD
        obtain ⟨hr3393, w3401⟩ := hr3393
        rcases hr3393 with rfl | rfl
        · refine lv_if_eq (tgt := 91) hx hb dX10_takesOne_79 (by decide) (fun c9 => absurd c9 (by decide)) (fun _ => ?_)
          refine lv_aload_n hx hb dX10_takesOne_82 rfl (lv_at hl 2 rfl) ?_
          refine lv_bipush (v := 41) hx hb dX10_takesOne_83 (by decide) ?_
          refine iV (wr := [(tsp, .inr (8, [.int 120, .int 1, .ref tspc, .int (nI ksp13399)])), (tspc, .inl (G.2.1, 120, .inl gtsp3400))]) hC hK hl hP hD hS hA (t_takesByte l G h0 41 tby kt tln tsp kd13395 ks13396 kn13397 tf13398 fby (by omega) (by omega) (by omega)) si_X10_124 [0, 1] [2, 3] rfl rfl (by decide) rfl (by decide) (by decide) rfl rfl rfl rfl rfl (Nat.le_of_ble_eq_true rfl) ⟨Nat.le_of_ble_eq_true rfl, Nat.le_of_ble_eq_true rfl⟩ ⟨Nat.le_of_ble_eq_true rfl, Nat.le_of_ble_eq_true rfl⟩ dX10_takesOne_85 (fun r3403 u3404 H locs hr3403 hP hD hS => ?_)
          obtain ⟨kd13405, ks13406, kn13407, tf13408⟩ := u3404
          try dsimp only at hr3403
          have hP : va_P G.1 vwCl [(tsp, .inr (8, [.int 120, .int 1, .ref tspc, .int (nI ksp13399)])), (tspc, .inl (G.2.1, 120, .inl gtsp3400)), (h0, .inr (10, [.ref tby, .int (nI kt), .ref tln, .ref tsp, .int kd13405, .int (nI ks13406), .int (nI kn13407), .int tf13408])), (tby, .inl (G.2.1, 240, .inl fby))] H := hP
          have hD : va_D A [(tsp, .inr (8, [.int 120, .int 1, .ref tspc, .int (nI ksp13399)])), (tspc, .inl (G.2.1, 120, .inl gtsp3400)), (h0, .inr (10, [.ref tby, .int (nI kt), .ref tln, .ref tsp, .int kd13405, .int (nI ks13406), .int (nI kn13407), .int tf13408])), (tby, .inl (G.2.1, 240, .inl fby))] := hD
          obtain ⟨hr3403, w3409⟩ := hr3403
          rcases hr3403 with rfl | rfl
          · refine lv_if_ne (tgt := 93) hx hb dX10_takesOne_88 (by decide) (fun _ => ?_) (fun c9 => absurd c9 (by decide))
            refine lv_iload_n hx hb dX10_takesOne_93 rfl (lv_at hl 1 rfl) ?_
            refine lv_if_eq (tgt := 102) hx hb dX10_takesOne_94 (by decide) (fun c_94_3411 => ?_) (fun c_94_3411 => ?_)
            · refine lv_iconst (v := 1) hx hb dX10_takesOne_102 (by decide) ?_
              exact RI (v := 1) hC hP hD hS [2, 3, 0, 1] (kd13405, ks13406, kn13407, tf13408, ksp13399, gtsp3400) rfl rfl (by decide) (⟨Or.inl (rfl), by dsimp only; omega⟩) (by decide +kernel) dX10_takesOne_103
            · refine lv_aload_n hx hb dX10_takesOne_97 rfl (lv_at hl 2 rfl) ?_
              refine lv_iconst (v := (-1)) hx hb dX10_takesOne_98 (by decide) ?_
              refine vV (wr := [(tby, .inl (G.2.1, 240, .inl fby))]) hC hK hl hP hD hS hA (t_addStep l G h0 (-1) tby kt tln tsp kd13405 ks13406 kn13407 tf13408 tspc ksp13399 gtsp3400 (by omega)) si_X10_152 [2, 0, 1] [3] rfl rfl (by decide) rfl (by decide) (by decide) rfl rfl rfl rfl rfl (Nat.le_of_ble_eq_true rfl) ⟨Nat.le_of_ble_eq_true rfl, Nat.le_of_ble_eq_true rfl⟩ ⟨Nat.le_of_ble_eq_true rfl, Nat.le_of_ble_eq_true rfl⟩ dX10_takesOne_99 (fun u3413 H locs hr3412 hP hD hS => ?_)
              obtain ⟨ksp13414, gtsp3415⟩ := u3413
              try dsimp only at hr3412
              have hP : va_P G.1 vwCl [(tby, .inl (G.2.1, 240, .inl fby)), (h0, .inr (10, [.ref tby, .int (nI kt), .ref tln, .ref tsp, .int kd13405, .int (nI ks13406), .int (nI kn13407), .int tf13408])), (tsp, .inr (8, [.int 120, .int 1, .ref tspc, .int (nI ksp13414)])), (tspc, .inl (G.2.1, 120, .inl gtsp3415))] H := hP
              have hD : va_D A [(tby, .inl (G.2.1, 240, .inl fby)), (h0, .inr (10, [.ref tby, .int (nI kt), .ref tln, .ref tsp, .int kd13405, .int (nI ks13406), .int (nI kn13407), .int tf13408])), (tsp, .inr (8, [.int 120, .int 1, .ref tspc, .int (nI ksp13414)])), (tspc, .inl (G.2.1, 120, .inl gtsp3415))] := hD
              have w3416 := hr3412
              refine lv_iconst (v := 1) hx hb dX10_takesOne_102 (by decide) ?_
              exact RI (v := 1) hC hP hD hS [1, 0, 2, 3] (kd13405, ks13406, kn13407, tf13408, ksp13414, gtsp3415) rfl rfl (by decide) (⟨Or.inl (rfl), by dsimp only; omega⟩) (by decide +kernel) dX10_takesOne_103
          · refine lv_if_ne (tgt := 93) hx hb dX10_takesOne_88 (by decide) (fun c9 => absurd (by decide) c9) (fun _ => ?_)
            refine lv_iconst (v := 0) hx hb dX10_takesOne_91 (by decide) ?_
            exact RI (v := 0) hC hP hD hS [2, 3, 0, 1] (kd13405, ks13406, kn13407, tf13408, ksp13399, gtsp3400) rfl rfl (by decide) (⟨Or.inr (rfl), by dsimp only; omega⟩) (by decide +kernel) dX10_takesOne_92
        · refine lv_if_eq (tgt := 91) hx hb dX10_takesOne_79 (by decide) (fun _ => ?_) (fun c9 => absurd (by decide) c9)
          refine lv_iconst (v := 0) hx hb dX10_takesOne_91 (by decide) ?_
          exact RI (v := 0) hC hP hD hS [0, 1, 2, 3] (kd13395, ks13396, kn13397, tf13398, ksp13399, gtsp3400) rfl rfl (by decide) (⟨Or.inr (rfl), by dsimp only; omega⟩) (by decide +kernel) dX10_takesOne_92
      · refine lv_aload_n hx hb dX10_takesOne_49 rfl (lv_at hl 2 rfl) ?_
        refine iVo (wr := []) hO hC hK hl hP hD hS hA (t_takesComparison l G K h0 tby kt tln tsp vkd vks vkn vtf fby tspc ksp ftsp (by omega) (by omega) (by omega) (by omega)) si_X10_162 [0, 1, 2, 3] [] rfl rfl (by decide) rfl (by decide) (by decide) rfl rfl rfl rfl rfl (Nat.le_of_ble_eq_true rfl) ⟨Nat.le_of_ble_eq_true rfl, Nat.le_of_ble_eq_true rfl⟩ ⟨Nat.le_of_ble_eq_true rfl, Nat.le_of_ble_eq_true rfl⟩ dX10_takesOne_50 (fun r3417 u3418 H locs hr3417 hP hD hS => ?_)
        obtain ⟨kd13419, ks13420, kn13421, tf13422, ksp13423, gtsp3424⟩ := u3418
        try dsimp only at hr3417
        have hP : va_P G.1 vwCl [(h0, .inr (10, [.ref tby, .int (nI kt), .ref tln, .ref tsp, .int kd13419, .int (nI ks13420), .int (nI kn13421), .int tf13422])), (tby, .inl (G.2.1, 240, .inl fby)), (tsp, .inr (8, [.int 120, .int 1, .ref tspc, .int (nI ksp13423)])), (tspc, .inl (G.2.1, 120, .inl gtsp3424))] H := hP
        have hD : va_D A [(h0, .inr (10, [.ref tby, .int (nI kt), .ref tln, .ref tsp, .int kd13419, .int (nI ks13420), .int (nI kn13421), .int tf13422])), (tby, .inl (G.2.1, 240, .inl fby)), (tsp, .inr (8, [.int 120, .int 1, .ref tspc, .int (nI ksp13423)])), (tspc, .inl (G.2.1, 120, .inl gtsp3424))] := hD
        obtain ⟨hr3417, w3425⟩ := hr3417
        rcases hr3417 with rfl | rfl
        · refine lv_if_ne (tgt := 93) hx hb dX10_takesOne_53 (by decide) (fun _ => ?_) (fun c9 => absurd c9 (by decide))
          refine lv_iload_n hx hb dX10_takesOne_93 rfl (lv_at hl 1 rfl) ?_
          refine lv_if_eq (tgt := 102) hx hb dX10_takesOne_94 (by decide) (fun c_94_3427 => ?_) (fun c_94_3427 => ?_)
          · refine lv_iconst (v := 1) hx hb dX10_takesOne_102 (by decide) ?_
            exact RI (v := 1) hC hP hD hS [0, 1, 2, 3] (kd13419, ks13420, kn13421, tf13422, ksp13423, gtsp3424) rfl rfl (by decide) (⟨Or.inl (rfl), by dsimp only; omega⟩) (by decide +kernel) dX10_takesOne_103
          · refine lv_aload_n hx hb dX10_takesOne_97 rfl (lv_at hl 2 rfl) ?_
            refine lv_iconst (v := (-1)) hx hb dX10_takesOne_98 (by decide) ?_
            refine vV (wr := [(tby, .inl (G.2.1, 240, .inl fby))]) hC hK hl hP hD hS hA (t_addStep l G h0 (-1) tby kt tln tsp kd13419 ks13420 kn13421 tf13422 tspc ksp13423 gtsp3424 (by omega)) si_X10_152 [0, 2, 3] [1] rfl rfl (by decide) rfl (by decide) (by decide) rfl rfl rfl rfl rfl (Nat.le_of_ble_eq_true rfl) ⟨Nat.le_of_ble_eq_true rfl, Nat.le_of_ble_eq_true rfl⟩ ⟨Nat.le_of_ble_eq_true rfl, Nat.le_of_ble_eq_true rfl⟩ dX10_takesOne_99 (fun u3429 H locs hr3428 hP hD hS => ?_)
            obtain ⟨ksp13430, gtsp3431⟩ := u3429
            try dsimp only at hr3428
            have hP : va_P G.1 vwCl [(tby, .inl (G.2.1, 240, .inl fby)), (h0, .inr (10, [.ref tby, .int (nI kt), .ref tln, .ref tsp, .int kd13419, .int (nI ks13420), .int (nI kn13421), .int tf13422])), (tsp, .inr (8, [.int 120, .int 1, .ref tspc, .int (nI ksp13430)])), (tspc, .inl (G.2.1, 120, .inl gtsp3431))] H := hP
            have hD : va_D A [(tby, .inl (G.2.1, 240, .inl fby)), (h0, .inr (10, [.ref tby, .int (nI kt), .ref tln, .ref tsp, .int kd13419, .int (nI ks13420), .int (nI kn13421), .int tf13422])), (tsp, .inr (8, [.int 120, .int 1, .ref tspc, .int (nI ksp13430)])), (tspc, .inl (G.2.1, 120, .inl gtsp3431))] := hD
            have w3432 := hr3428
            refine lv_iconst (v := 1) hx hb dX10_takesOne_102 (by decide) ?_
            exact RI (v := 1) hC hP hD hS [1, 0, 2, 3] (kd13419, ks13420, kn13421, tf13422, ksp13430, gtsp3431) rfl rfl (by decide) (⟨Or.inl (rfl), by dsimp only; omega⟩) (by decide +kernel) dX10_takesOne_103
        · refine lv_if_ne (tgt := 93) hx hb dX10_takesOne_53 (by decide) (fun c9 => absurd (by decide) c9) (fun _ => ?_)
          refine lv_iconst (v := 0) hx hb dX10_takesOne_56 (by decide) ?_
          exact RI (v := 0) hC hP hD hS [0, 1, 2, 3] (kd13419, ks13420, kn13421, tf13422, ksp13423, gtsp3424) rfl rfl (by decide) (⟨Or.inr (rfl), by dsimp only; omega⟩) (by decide +kernel) dX10_takesOne_57
    | succ nP ihP =>
      intro kP tu vkd vtf vks vkn H locs ls hkP hvks hvkn hP hD hS hl
      refine lv_iload_n hx hb dX10_takesOne_4 rfl (lv_at hl 0 rfl) ?_
      refine lv_sipush (v := 240) hx hb dX10_takesOne_5 (by decide) ?_
      refine lv_icmp_ge (tgt := 40) hx hb dX10_takesOne_8 (by decide) (fun c9 => absurd c9 (nI_ge (a := kP) (b := 240) (by omega) (by omega))) (fun _ => ?_)
      refine lv_aload_n hx hb dX10_takesOne_11 rfl (lv_at hl 2 rfl) ?_
      refine va_ldcS (index := 160) (tx := "not") hx hb hown (hO.2.1 10 (by decide)) dX10_takesOne_12 ?_
      refine pVo hO hS hC hK hl hP hD (t_isName l G K 10 h0 tby kt tln tsp vkd vks vkn vtf fby (by omega) (by omega) (by omega) ((by decide))) si_X10_102 [0, 1] rfl rfl (by decide) rfl rfl rfl rfl rfl (Nat.le_of_ble_eq_true rfl) ⟨Nat.le_of_ble_eq_true rfl, Nat.le_of_ble_eq_true rfl⟩ ⟨by first | exact Nat.le_of_ble_eq_true rfl | exact Nat.zero_le _, by first | exact Nat.le_of_ble_eq_true rfl | exact Nat.zero_le _⟩ dX10_takesOne_14 (fun r3433 hr3433 => ?_)
      rcases hr3433 with rfl | rfl
      · refine lv_if_eq (tgt := 40) hx hb dX10_takesOne_17 (by decide) (fun c9 => absurd c9 (by decide)) (fun _ => ?_)
        refine lv_aload_n hx hb dX10_takesOne_20 rfl (lv_at hl 2 rfl) ?_
        refine vV (wr := [(tsp, .inr (8, [.int 120, .int 1, .ref tspc, .int (nI ksp)])), (tspc, .inl (G.2.1, 120, .inl ftsp))]) hC hK hl hP hD hS hA (t_advance l G h0 tby kt tln tsp vkd vks vkn vtf fby (by omega) (by omega) (by omega)) si_X10_47 [0, 1] [2, 3] rfl rfl (by decide) rfl (by decide) (by decide) rfl rfl rfl rfl rfl (Nat.le_of_ble_eq_true rfl) ⟨Nat.le_of_ble_eq_true rfl, Nat.le_of_ble_eq_true rfl⟩ ⟨Nat.le_of_ble_eq_true rfl, Nat.le_of_ble_eq_true rfl⟩ dX10_takesOne_21 (fun u3436 H locs hr3435 hP hD hS => ?_)
        obtain ⟨kd13437, ks13438, kn13439⟩ := u3436
        try dsimp only at hr3435
        have hP : va_P G.1 vwCl [(tsp, .inr (8, [.int 120, .int 1, .ref tspc, .int (nI ksp)])), (tspc, .inl (G.2.1, 120, .inl ftsp)), (h0, .inr (10, [.ref tby, .int (nI kt), .ref tln, .ref tsp, .int kd13437, .int (nI ks13438), .int (nI kn13439), .int vtf])), (tby, .inl (G.2.1, 240, .inl fby))] H := hP
        have hD : va_D A [(tsp, .inr (8, [.int 120, .int 1, .ref tspc, .int (nI ksp)])), (tspc, .inl (G.2.1, 120, .inl ftsp)), (h0, .inr (10, [.ref tby, .int (nI kt), .ref tln, .ref tsp, .int kd13437, .int (nI ks13438), .int (nI kn13439), .int vtf])), (tby, .inl (G.2.1, 240, .inl fby))] := hD
        have w3440 := hr3435
        refine lv_iload_n hx hb dX10_takesOne_24 rfl (lv_at hl 1 rfl) ?_
        refine lv_if_ne (tgt := 32) hx hb dX10_takesOne_25 (by decide) (fun c_25_3441 => ?_) (fun c_25_3441 => ?_)
        · refine lv_iconst (v := 0) hx hb dX10_takesOne_32 (by decide) ?_
          refine lv_istore_n (lv' := [(2, .int 0), (3, .int (nI kP)), (0, .ref h0), (1, .int 0)]) hx hb dX10_takesOne_33 rfl hl (by decide) rfl (fun ls hl => ?_)
          refine lv_iinc (v := nI (kP + 1)) (lv' := [(3, .int (nI (kP + 1))), (2, .int 0), (0, .ref h0), (1, .int 0)]) hx hb dX10_takesOne_34 hl (k := 1) rfl (nI_1 _) (by decide) rfl (fun ls hl => ?_)
          refine lv_goto (tgt := 4) hx hb dX10_takesOne_37 (by decide) ?_
          have hP := hP.sub (ws' := [(h0, .inr (10, [.ref tby, .int (nI kt), .ref tln, .ref tsp, .int kd13437, .int (nI ks13438), .int (nI kn13439), .int vtf])), (tby, .inl (G.2.1, 240, .inl fby)), (tsp, .inr (8, [.int 120, .int 1, .ref tspc, .int (nI ksp)])), (tspc, .inl (G.2.1, 120, .inl ftsp))]) [2, 3, 0, 1] rfl
          have hD := hD.sub (ws' := [(h0, .inr (10, [.ref tby, .int (nI kt), .ref tln, .ref tsp, .int kd13437, .int (nI ks13438), .int (nI kn13439), .int vtf])), (tby, .inl (G.2.1, 240, .inl fby)), (tsp, .inr (8, [.int 120, .int 1, .ref tspc, .int (nI ksp)])), (tspc, .inl (G.2.1, 120, .inl ftsp))]) [2, 3, 0, 1] (by decide) rfl
          exact ihP (kP + 1) 0 kd13437 vtf ks13438 kn13439 _ _ _ (by omega) (by first | assumption | exact Or.inl rfl | exact Or.inr rfl | omega) (by first | assumption | exact Or.inl rfl | exact Or.inr rfl | omega) hP hD hS (lv_sub hl [0, 1, 2, 3] rfl)
        · refine lv_iconst (v := 1) hx hb dX10_takesOne_28 (by decide) ?_
          refine lv_goto (tgt := 33) hx hb dX10_takesOne_29 (by decide) ?_
          refine lv_istore_n (lv' := [(2, .int 1), (3, .int (nI kP)), (0, .ref h0), (1, .int 0)]) hx hb dX10_takesOne_33 rfl hl (by decide) rfl (fun ls hl => ?_)
          refine lv_iinc (v := nI (kP + 1)) (lv' := [(3, .int (nI (kP + 1))), (2, .int 1), (0, .ref h0), (1, .int 0)]) hx hb dX10_takesOne_34 hl (k := 1) rfl (nI_1 _) (by decide) rfl (fun ls hl => ?_)
          refine lv_goto (tgt := 4) hx hb dX10_takesOne_37 (by decide) ?_
          have hP := hP.sub (ws' := [(h0, .inr (10, [.ref tby, .int (nI kt), .ref tln, .ref tsp, .int kd13437, .int (nI ks13438), .int (nI kn13439), .int vtf])), (tby, .inl (G.2.1, 240, .inl fby)), (tsp, .inr (8, [.int 120, .int 1, .ref tspc, .int (nI ksp)])), (tspc, .inl (G.2.1, 120, .inl ftsp))]) [2, 3, 0, 1] rfl
          have hD := hD.sub (ws' := [(h0, .inr (10, [.ref tby, .int (nI kt), .ref tln, .ref tsp, .int kd13437, .int (nI ks13438), .int (nI kn13439), .int vtf])), (tby, .inl (G.2.1, 240, .inl fby)), (tsp, .inr (8, [.int 120, .int 1, .ref tspc, .int (nI ksp)])), (tspc, .inl (G.2.1, 120, .inl ftsp))]) [2, 3, 0, 1] (by decide) rfl
          exact ihP (kP + 1) 1 kd13437 vtf ks13438 kn13439 _ _ _ (by omega) (by first | assumption | exact Or.inl rfl | exact Or.inr rfl | omega) (by first | assumption | exact Or.inl rfl | exact Or.inr rfl | omega) hP hD hS (lv_sub hl [0, 1, 2, 3] rfl)
      · refine lv_if_eq (tgt := 40) hx hb dX10_takesOne_17 (by decide) (fun _ => ?_) (fun c9 => absurd (by decide) c9)
        refine lv_aload_n hx hb dX10_takesOne_40 rfl (lv_at hl 2 rfl) ?_
        refine gf_X10_31 hC rfl hK hP 0 rfl rfl dX10_takesOne_41 ?_
        refine lv_bipush (v := 40) hx hb dX10_takesOne_44 (by decide) ?_
        refine lv_icmp_eq (tgt := 58) hx hb dX10_takesOne_46 (by decide) (fun c_46_3442 => ?_) (fun c_46_3442 => ?_)
        · refine lv_iload_n hx hb dX10_takesOne_58 rfl (lv_at hl 3 rfl) ?_
          refine lv_iconst (v := 4) hx hb dX10_takesOne_59 (by decide) ?_
          refine lv_icmp_lt (tgt := 68) hx hb dX10_takesOne_60 (by decide) (fun _ => ?_) (fun c9 => absurd (by decide) c9)
          refine lv_aload_n hx hb dX10_takesOne_68 rfl (lv_at hl 2 rfl) ?_
          refine vV (wr := [(tsp, .inr (8, [.int 120, .int 1, .ref tspc, .int (nI ksp)])), (tspc, .inl (G.2.1, 120, .inl ftsp))]) hC hK hl hP hD hS hA (t_advance l G h0 tby kt tln tsp vkd vks vkn vtf fby (by omega) (by omega) (by omega)) si_X10_47 [0, 1] [2, 3] rfl rfl (by decide) rfl (by decide) (by decide) rfl rfl rfl rfl rfl (Nat.le_of_ble_eq_true rfl) ⟨Nat.le_of_ble_eq_true rfl, Nat.le_of_ble_eq_true rfl⟩ ⟨Nat.le_of_ble_eq_true rfl, Nat.le_of_ble_eq_true rfl⟩ dX10_takesOne_69 (fun u3444 H locs hr3443 hP hD hS => ?_)
          obtain ⟨kd13445, ks13446, kn13447⟩ := u3444
          try dsimp only at hr3443
          have hP : va_P G.1 vwCl [(tsp, .inr (8, [.int 120, .int 1, .ref tspc, .int (nI ksp)])), (tspc, .inl (G.2.1, 120, .inl ftsp)), (h0, .inr (10, [.ref tby, .int (nI kt), .ref tln, .ref tsp, .int kd13445, .int (nI ks13446), .int (nI kn13447), .int vtf])), (tby, .inl (G.2.1, 240, .inl fby))] H := hP
          have hD : va_D A [(tsp, .inr (8, [.int 120, .int 1, .ref tspc, .int (nI ksp)])), (tspc, .inl (G.2.1, 120, .inl ftsp)), (h0, .inr (10, [.ref tby, .int (nI kt), .ref tln, .ref tsp, .int kd13445, .int (nI ks13446), .int (nI kn13447), .int vtf])), (tby, .inl (G.2.1, 240, .inl fby))] := hD
          have w3448 := hr3443
          refine lv_aload_n hx hb dX10_takesOne_72 rfl (lv_at hl 2 rfl) ?_
          refine lv_iload_n hx hb dX10_takesOne_73 rfl (lv_at hl 3 rfl) ?_
          refine lv_iconst (v := 1) hx hb dX10_takesOne_74 (by decide) ?_
          refine lv_iadd hx hb dX10_takesOne_75 ?_
          refine eqi (x1 := 1) (by decide) ?_
          refine iVo (wr := []) hO hC hK hl hP hD hS hA (t_cond1 l G K h0 tby kt tln tsp kd13445 ks13446 kn13447 vtf fby tspc ksp ftsp (by omega) (by omega) (by omega) (by omega)) si_X10_121 [2, 3, 0, 1] [] rfl rfl (by decide) rfl (by decide) (by decide) rfl rfl rfl rfl rfl (Nat.le_of_ble_eq_true rfl) ⟨Nat.le_of_ble_eq_true rfl, Nat.le_of_ble_eq_true rfl⟩ ⟨Nat.le_of_ble_eq_true rfl, Nat.le_of_ble_eq_true rfl⟩ dX10_takesOne_76 (fun r3449 u3450 H locs hr3449 hP hD hS => ?_)
          obtain ⟨kd13451, ks13452, kn13453, tf13454, ksp13455, gtsp3456⟩ := u3450
          try dsimp only at hr3449
          have hP : va_P G.1 vwCl [(h0, .inr (10, [.ref tby, .int (nI kt), .ref tln, .ref tsp, .int kd13451, .int (nI ks13452), .int (nI kn13453), .int tf13454])), (tby, .inl (G.2.1, 240, .inl fby)), (tsp, .inr (8, [.int 120, .int 1, .ref tspc, .int (nI ksp13455)])), (tspc, .inl (G.2.1, 120, .inl gtsp3456))] H := hP
          have hD : va_D A [(h0, .inr (10, [.ref tby, .int (nI kt), .ref tln, .ref tsp, .int kd13451, .int (nI ks13452), .int (nI kn13453), .int tf13454])), (tby, .inl (G.2.1, 240, .inl fby)), (tsp, .inr (8, [.int 120, .int 1, .ref tspc, .int (nI ksp13455)])), (tspc, .inl (G.2.1, 120, .inl gtsp3456))] := hD
          obtain ⟨hr3449, w3457⟩ := hr3449
          rcases hr3449 with rfl | rfl
          · refine lv_if_eq (tgt := 91) hx hb dX10_takesOne_79 (by decide) (fun c9 => absurd c9 (by decide)) (fun _ => ?_)
            refine lv_aload_n hx hb dX10_takesOne_82 rfl (lv_at hl 2 rfl) ?_
            refine lv_bipush (v := 41) hx hb dX10_takesOne_83 (by decide) ?_
            refine iV (wr := [(tsp, .inr (8, [.int 120, .int 1, .ref tspc, .int (nI ksp13455)])), (tspc, .inl (G.2.1, 120, .inl gtsp3456))]) hC hK hl hP hD hS hA (t_takesByte l G h0 41 tby kt tln tsp kd13451 ks13452 kn13453 tf13454 fby (by omega) (by omega) (by omega)) si_X10_124 [0, 1] [2, 3] rfl rfl (by decide) rfl (by decide) (by decide) rfl rfl rfl rfl rfl (Nat.le_of_ble_eq_true rfl) ⟨Nat.le_of_ble_eq_true rfl, Nat.le_of_ble_eq_true rfl⟩ ⟨Nat.le_of_ble_eq_true rfl, Nat.le_of_ble_eq_true rfl⟩ dX10_takesOne_85 (fun r3459 u3460 H locs hr3459 hP hD hS => ?_)
            obtain ⟨kd13461, ks13462, kn13463, tf13464⟩ := u3460
            try dsimp only at hr3459
            have hP : va_P G.1 vwCl [(tsp, .inr (8, [.int 120, .int 1, .ref tspc, .int (nI ksp13455)])), (tspc, .inl (G.2.1, 120, .inl gtsp3456)), (h0, .inr (10, [.ref tby, .int (nI kt), .ref tln, .ref tsp, .int kd13461, .int (nI ks13462), .int (nI kn13463), .int tf13464])), (tby, .inl (G.2.1, 240, .inl fby))] H := hP
            have hD : va_D A [(tsp, .inr (8, [.int 120, .int 1, .ref tspc, .int (nI ksp13455)])), (tspc, .inl (G.2.1, 120, .inl gtsp3456)), (h0, .inr (10, [.ref tby, .int (nI kt), .ref tln, .ref tsp, .int kd13461, .int (nI ks13462), .int (nI kn13463), .int tf13464])), (tby, .inl (G.2.1, 240, .inl fby))] := hD
            obtain ⟨hr3459, w3465⟩ := hr3459
            rcases hr3459 with rfl | rfl
            · refine lv_if_ne (tgt := 93) hx hb dX10_takesOne_88 (by decide) (fun _ => ?_) (fun c9 => absurd c9 (by decide))
              refine lv_iload_n hx hb dX10_takesOne_93 rfl (lv_at hl 1 rfl) ?_
              refine lv_if_eq (tgt := 102) hx hb dX10_takesOne_94 (by decide) (fun c_94_3467 => ?_) (fun c_94_3467 => ?_)
              · refine lv_iconst (v := 1) hx hb dX10_takesOne_102 (by decide) ?_
                exact RI (v := 1) hC hP hD hS [2, 3, 0, 1] (kd13461, ks13462, kn13463, tf13464, ksp13455, gtsp3456) rfl rfl (by decide) (⟨Or.inl (rfl), by dsimp only; omega⟩) (by decide +kernel) dX10_takesOne_103
              · refine lv_aload_n hx hb dX10_takesOne_97 rfl (lv_at hl 2 rfl) ?_
                refine lv_iconst (v := (-1)) hx hb dX10_takesOne_98 (by decide) ?_
                refine vV (wr := [(tby, .inl (G.2.1, 240, .inl fby))]) hC hK hl hP hD hS hA (t_addStep l G h0 (-1) tby kt tln tsp kd13461 ks13462 kn13463 tf13464 tspc ksp13455 gtsp3456 (by omega)) si_X10_152 [2, 0, 1] [3] rfl rfl (by decide) rfl (by decide) (by decide) rfl rfl rfl rfl rfl (Nat.le_of_ble_eq_true rfl) ⟨Nat.le_of_ble_eq_true rfl, Nat.le_of_ble_eq_true rfl⟩ ⟨Nat.le_of_ble_eq_true rfl, Nat.le_of_ble_eq_true rfl⟩ dX10_takesOne_99 (fun u3469 H locs hr3468 hP hD hS => ?_)
                obtain ⟨ksp13470, gtsp3471⟩ := u3469
                try dsimp only at hr3468
                have hP : va_P G.1 vwCl [(tby, .inl (G.2.1, 240, .inl fby)), (h0, .inr (10, [.ref tby, .int (nI kt), .ref tln, .ref tsp, .int kd13461, .int (nI ks13462), .int (nI kn13463), .int tf13464])), (tsp, .inr (8, [.int 120, .int 1, .ref tspc, .int (nI ksp13470)])), (tspc, .inl (G.2.1, 120, .inl gtsp3471))] H := hP
                have hD : va_D A [(tby, .inl (G.2.1, 240, .inl fby)), (h0, .inr (10, [.ref tby, .int (nI kt), .ref tln, .ref tsp, .int kd13461, .int (nI ks13462), .int (nI kn13463), .int tf13464])), (tsp, .inr (8, [.int 120, .int 1, .ref tspc, .int (nI ksp13470)])), (tspc, .inl (G.2.1, 120, .inl gtsp3471))] := hD
                have w3472 := hr3468
                refine lv_iconst (v := 1) hx hb dX10_takesOne_102 (by decide) ?_
                exact RI (v := 1) hC hP hD hS [1, 0, 2, 3] (kd13461, ks13462, kn13463, tf13464, ksp13470, gtsp3471) rfl rfl (by decide) (⟨Or.inl (rfl), by dsimp only; omega⟩) (by decide +kernel) dX10_takesOne_103
            · refine lv_if_ne (tgt := 93) hx hb dX10_takesOne_88 (by decide) (fun c9 => absurd (by decide) c9) (fun _ => ?_)
              refine lv_iconst (v := 0) hx hb dX10_takesOne_91 (by decide) ?_
              exact RI (v := 0) hC hP hD hS [2, 3, 0, 1] (kd13461, ks13462, kn13463, tf13464, ksp13455, gtsp3456) rfl rfl (by decide) (⟨Or.inr (rfl), by dsimp only; omega⟩) (by decide +kernel) dX10_takesOne_92
          · refine lv_if_eq (tgt := 91) hx hb dX10_takesOne_79 (by decide) (fun _ => ?_) (fun c9 => absurd (by decide) c9)
            refine lv_iconst (v := 0) hx hb dX10_takesOne_91 (by decide) ?_
            exact RI (v := 0) hC hP hD hS [0, 1, 2, 3] (kd13451, ks13452, kn13453, tf13454, ksp13455, gtsp3456) rfl rfl (by decide) (⟨Or.inr (rfl), by dsimp only; omega⟩) (by decide +kernel) dX10_takesOne_92
        · refine lv_aload_n hx hb dX10_takesOne_49 rfl (lv_at hl 2 rfl) ?_
          refine iVo (wr := []) hO hC hK hl hP hD hS hA (t_takesComparison l G K h0 tby kt tln tsp vkd vks vkn vtf fby tspc ksp ftsp (by omega) (by omega) (by omega) (by omega)) si_X10_162 [0, 1, 2, 3] [] rfl rfl (by decide) rfl (by decide) (by decide) rfl rfl rfl rfl rfl (Nat.le_of_ble_eq_true rfl) ⟨Nat.le_of_ble_eq_true rfl, Nat.le_of_ble_eq_true rfl⟩ ⟨Nat.le_of_ble_eq_true rfl, Nat.le_of_ble_eq_true rfl⟩ dX10_takesOne_50 (fun r3473 u3474 H locs hr3473 hP hD hS => ?_)
          obtain ⟨kd13475, ks13476, kn13477, tf13478, ksp13479, gtsp3480⟩ := u3474
          try dsimp only at hr3473
          have hP : va_P G.1 vwCl [(h0, .inr (10, [.ref tby, .int (nI kt), .ref tln, .ref tsp, .int kd13475, .int (nI ks13476), .int (nI kn13477), .int tf13478])), (tby, .inl (G.2.1, 240, .inl fby)), (tsp, .inr (8, [.int 120, .int 1, .ref tspc, .int (nI ksp13479)])), (tspc, .inl (G.2.1, 120, .inl gtsp3480))] H := hP
          have hD : va_D A [(h0, .inr (10, [.ref tby, .int (nI kt), .ref tln, .ref tsp, .int kd13475, .int (nI ks13476), .int (nI kn13477), .int tf13478])), (tby, .inl (G.2.1, 240, .inl fby)), (tsp, .inr (8, [.int 120, .int 1, .ref tspc, .int (nI ksp13479)])), (tspc, .inl (G.2.1, 120, .inl gtsp3480))] := hD
          obtain ⟨hr3473, w3481⟩ := hr3473
          rcases hr3473 with rfl | rfl
          · refine lv_if_ne (tgt := 93) hx hb dX10_takesOne_53 (by decide) (fun _ => ?_) (fun c9 => absurd c9 (by decide))
            refine lv_iload_n hx hb dX10_takesOne_93 rfl (lv_at hl 1 rfl) ?_
            refine lv_if_eq (tgt := 102) hx hb dX10_takesOne_94 (by decide) (fun c_94_3483 => ?_) (fun c_94_3483 => ?_)
            · refine lv_iconst (v := 1) hx hb dX10_takesOne_102 (by decide) ?_
              exact RI (v := 1) hC hP hD hS [0, 1, 2, 3] (kd13475, ks13476, kn13477, tf13478, ksp13479, gtsp3480) rfl rfl (by decide) (⟨Or.inl (rfl), by dsimp only; omega⟩) (by decide +kernel) dX10_takesOne_103
            · refine lv_aload_n hx hb dX10_takesOne_97 rfl (lv_at hl 2 rfl) ?_
              refine lv_iconst (v := (-1)) hx hb dX10_takesOne_98 (by decide) ?_
              refine vV (wr := [(tby, .inl (G.2.1, 240, .inl fby))]) hC hK hl hP hD hS hA (t_addStep l G h0 (-1) tby kt tln tsp kd13475 ks13476 kn13477 tf13478 tspc ksp13479 gtsp3480 (by omega)) si_X10_152 [0, 2, 3] [1] rfl rfl (by decide) rfl (by decide) (by decide) rfl rfl rfl rfl rfl (Nat.le_of_ble_eq_true rfl) ⟨Nat.le_of_ble_eq_true rfl, Nat.le_of_ble_eq_true rfl⟩ ⟨Nat.le_of_ble_eq_true rfl, Nat.le_of_ble_eq_true rfl⟩ dX10_takesOne_99 (fun u3485 H locs hr3484 hP hD hS => ?_)
              obtain ⟨ksp13486, gtsp3487⟩ := u3485
              try dsimp only at hr3484
              have hP : va_P G.1 vwCl [(tby, .inl (G.2.1, 240, .inl fby)), (h0, .inr (10, [.ref tby, .int (nI kt), .ref tln, .ref tsp, .int kd13475, .int (nI ks13476), .int (nI kn13477), .int tf13478])), (tsp, .inr (8, [.int 120, .int 1, .ref tspc, .int (nI ksp13486)])), (tspc, .inl (G.2.1, 120, .inl gtsp3487))] H := hP
              have hD : va_D A [(tby, .inl (G.2.1, 240, .inl fby)), (h0, .inr (10, [.ref tby, .int (nI kt), .ref tln, .ref tsp, .int kd13475, .int (nI ks13476), .int (nI kn13477), .int tf13478])), (tsp, .inr (8, [.int 120, .int 1, .ref tspc, .int (nI ksp13486)])), (tspc, .inl (G.2.1, 120, .inl gtsp3487))] := hD
              have w3488 := hr3484
              refine lv_iconst (v := 1) hx hb dX10_takesOne_102 (by decide) ?_
              exact RI (v := 1) hC hP hD hS [1, 0, 2, 3] (kd13475, ks13476, kn13477, tf13478, ksp13486, gtsp3487) rfl rfl (by decide) (⟨Or.inl (rfl), by dsimp only; omega⟩) (by decide +kernel) dX10_takesOne_103
          · refine lv_if_ne (tgt := 93) hx hb dX10_takesOne_53 (by decide) (fun c9 => absurd (by decide) c9) (fun _ => ?_)
            refine lv_iconst (v := 0) hx hb dX10_takesOne_56 (by decide) ?_
            exact RI (v := 0) hC hP hD hS [0, 1, 2, 3] (kd13475, ks13476, kn13477, tf13478, ksp13479, gtsp3480) rfl rfl (by decide) (⟨Or.inr (rfl), by dsimp only; omega⟩) (by decide +kernel) dX10_takesOne_57
  exact keyP 240 0 0 tkd tf9 ks kn _ _ _ (by omega) (by first | assumption | exact Or.inl rfl | exact Or.inr rfl | omega) (by first | assumption | exact Or.inl rfl | exact Or.inr rfl | omega) hP hD hS (lv_sub hl [0, 1, 2, 3] rfl)
set_option maxHeartbeats 4000000 in
set_option maxRecDepth 100000 in
theorem t_all0 (l : Launch) (G : GG) (K : OO) (h0 : Nat) (tby : Nat) (kt : Nat) (tln : Nat) (tsp : Nat) (tkd : Int32) (ks : Nat) (kn : Nat) (tf9 : Int32) (fby : Nat → Int32) (tspc : Nat) (ksp : Nat) (ftsp : Nat → Int32) (hkt : kt ≤ 240) (hks : ks ≤ 240) (hkn : kn ≤ 240) (hksp : ksp ≤ 120) : MIo l G K yX10_takesAll cX10_takesAll 3 (some .boolean) 26 0 0 [.ref h0, .int 0] [(h0, .inr (10, [.ref tby, .int (nI kt), .ref tln, .ref tsp, .int tkd, .int (nI ks), .int (nI kn), .int tf9])), (tby, .inl (G.2.1, 240, .inl fby)), (tsp, .inr (8, [.int 120, .int 1, .ref tspc, .int (nI ksp)])), (tspc, .inl (G.2.1, 120, .inl ftsp))] (fun (r : Int32) (u : Int32 × Nat × Nat × Int32 × Nat × (Nat → Int32)) => (r = 1 ∨ r = 0) ∧ (u.2.1 ≤ 240 ∧ u.2.2.1 ≤ 240 ∧ u.2.2.2.2.1 ≤ 120)) (fun u : Int32 × Nat × Nat × Int32 × Nat × (Nat → Int32) => [(h0, .inr (10, [.ref tby, .int (nI kt), .ref tln, .ref tsp, .int u.1, .int (nI u.2.1), .int (nI u.2.2.1), .int u.2.2.2.1])), (tby, .inl (G.2.1, 240, .inl fby)), (tsp, .inr (8, [.int 120, .int 1, .ref tspc, .int (nI u.2.2.2.2.1)])), (tspc, .inl (G.2.1, 120, .inl u.2.2.2.2.2))]) := by
  refine MIo.start (by decide +kernel) (Nat.le_of_ble_eq_true rfl) ?_
  intro p e s m below meth c A ls hC hK hP hD hS hA hl hO
  have hl : lv_has ls 3 [(0, .ref h0), (1, .int 0)] := hl
  obtain ⟨hx, hb, hr, hml, hB, hown, hlocks, hnm⟩ := id hC
  refine lv_aload_n hx hb dX10_takesAll_0 rfl (lv_at hl 0 rfl) ?_
  refine lv_iload_n hx hb dX10_takesAll_1 rfl (lv_at hl 1 rfl) ?_
  refine iVo (wr := []) hO hC hK hl hP hD hS hA (t_one0 l G K h0 tby kt tln tsp tkd ks kn tf9 fby tspc ksp ftsp (by omega) (by omega) (by omega) (by omega)) si_X10_155 [0, 1, 2, 3] [] rfl rfl (by decide) rfl (by decide) (by decide) rfl rfl rfl rfl rfl (Nat.le_of_ble_eq_true rfl) ⟨Nat.le_of_ble_eq_true rfl, Nat.le_of_ble_eq_true rfl⟩ ⟨Nat.le_of_ble_eq_true rfl, Nat.le_of_ble_eq_true rfl⟩ dX10_takesAll_2 (fun r3489 u3490 H locs hr3489 hP hD hS => ?_)
  obtain ⟨kd13491, ks13492, kn13493, tf13494, ksp13495, gtsp3496⟩ := u3490
  try dsimp only at hr3489
  have hP : va_P G.1 vwCl [(h0, .inr (10, [.ref tby, .int (nI kt), .ref tln, .ref tsp, .int kd13491, .int (nI ks13492), .int (nI kn13493), .int tf13494])), (tby, .inl (G.2.1, 240, .inl fby)), (tsp, .inr (8, [.int 120, .int 1, .ref tspc, .int (nI ksp13495)])), (tspc, .inl (G.2.1, 120, .inl gtsp3496))] H := hP
  have hD : va_D A [(h0, .inr (10, [.ref tby, .int (nI kt), .ref tln, .ref tsp, .int kd13491, .int (nI ks13492), .int (nI kn13493), .int tf13494])), (tby, .inl (G.2.1, 240, .inl fby)), (tsp, .inr (8, [.int 120, .int 1, .ref tspc, .int (nI ksp13495)])), (tspc, .inl (G.2.1, 120, .inl gtsp3496))] := hD
  obtain ⟨hr3489, w3497⟩ := hr3489
  rcases hr3489 with rfl | rfl
  · refine lv_if_ne (tgt := 10) hx hb dX10_takesAll_5 (by decide) (fun _ => ?_) (fun c9 => absurd c9 (by decide))
    refine lv_iconst (v := 0) hx hb dX10_takesAll_10 (by decide) ?_
    refine lv_istore_n (lv' := [(2, .int 0), (0, .ref h0), (1, .int 0)]) hx hb dX10_takesAll_11 rfl hl (by decide) rfl (fun ls hl => ?_)
    have keyP : ∀ (nP kP : Nat) (vkd : Int32) (vtf : Int32) (vtsp : Nat → Int32) (vks : Nat) (vkn : Nat) (vksp : Nat) (H : Heap) (locs : List Loc) (ls : Array Slot), kP + nP = 240 → (vks ≤ 240) → (vkn ≤ 240) → (vksp ≤ 120) → va_P G.1 vwCl [(h0, .inr (10, [.ref tby, .int (nI kt), .ref tln, .ref tsp, .int vkd, .int (nI vks), .int (nI vkn), .int vtf])), (tby, .inl (G.2.1, 240, .inl fby)), (tsp, .inr (8, [.int 120, .int 1, .ref tspc, .int (nI vksp)])), (tspc, .inl (G.2.1, 120, .inl vtsp))] H → va_D A [(h0, .inr (10, [.ref tby, .int (nI kt), .ref tln, .ref tsp, .int vkd, .int (nI vks), .int (nI vkn), .int vtf])), (tby, .inl (G.2.1, 240, .inl fby)), (tsp, .inr (8, [.int 120, .int 1, .ref tspc, .int (nI vksp)])), (tspc, .inl (G.2.1, 120, .inl vtsp))] → va_S A s.heap H locs → lv_has ls 3 [(2, .int (nI kP)), (0, .ref h0), (1, .int 0)] → W p l e (RM 26 0 0) s m ([.ref h0, .int 0] : List Value).toArray below meth c H locs 0 0 (MQ below (QI G (fun (r : Int32) (u : Int32 × Nat × Nat × Int32 × Nat × (Nat → Int32)) => (r = 1 ∨ r = 0) ∧ (u.2.1 ≤ 240 ∧ u.2.2.1 ≤ 240 ∧ u.2.2.2.2.1 ≤ 120)) (fun u : Int32 × Nat × Nat × Int32 × Nat × (Nat → Int32) => [(h0, .inr (10, [.ref tby, .int (nI kt), .ref tln, .ref tsp, .int u.1, .int (nI u.2.1), .int (nI u.2.2.1), .int u.2.2.2.1])), (tby, .inl (G.2.1, 240, .inl fby)), (tsp, .inr (8, [.int 120, .int 1, .ref tspc, .int (nI u.2.2.2.2.1)])), (tspc, .inl (G.2.1, 120, .inl u.2.2.2.2.2))]) A) ([.ref h0, .int 0] : List Value).toArray s 0 0 A) (F0 m 12 ls []) := by
      intro nP
      induction nP with
      | zero =>
        intro kP vkd vtf vtsp vks vkn vksp H locs ls hkP hvks hvkn hvksp hP hD hS hl
        obtain rfl : 240 = kP := by omega
        have hl : lv_has ls 3 [(2, .int 240), (0, .ref h0), (1, .int 0)] := hl
        refine lv_iload_n hx hb dX10_takesAll_12 rfl (lv_at hl 0 rfl) ?_
        refine lv_sipush (v := 240) hx hb dX10_takesAll_13 (by decide) ?_
        refine lv_icmp_ge (tgt := 54) hx hb dX10_takesAll_16 (by decide) (fun _ => ?_) (fun c9 => absurd (by decide) c9)
        refine lv_iconst (v := 1) hx hb dX10_takesAll_54 (by decide) ?_
        exact RI (v := 1) hC hP hD hS [0, 1, 2, 3] (vkd, vks, vkn, vtf, vksp, vtsp) rfl rfl (by decide) (⟨Or.inl (rfl), by dsimp only; omega⟩) (by decide +kernel) dX10_takesAll_55
      | succ nP ihP =>
        intro kP vkd vtf vtsp vks vkn vksp H locs ls hkP hvks hvkn hvksp hP hD hS hl
        refine lv_iload_n hx hb dX10_takesAll_12 rfl (lv_at hl 0 rfl) ?_
        refine lv_sipush (v := 240) hx hb dX10_takesAll_13 (by decide) ?_
        refine lv_icmp_ge (tgt := 54) hx hb dX10_takesAll_16 (by decide) (fun c9 => absurd c9 (nI_ge (a := kP) (b := 240) (by omega) (by omega))) (fun _ => ?_)
        refine lv_aload_n hx hb dX10_takesAll_19 rfl (lv_at hl 1 rfl) ?_
        refine va_ldcS (index := 158) (tx := "and") hx hb hown (hO.2.1 9 (by decide)) dX10_takesAll_20 ?_
        refine pVo hO hS hC hK hl hP hD (t_isName l G K 9 h0 tby kt tln tsp vkd vks vkn vtf fby (by omega) (by omega) (by omega) ((by decide))) si_X10_102 [0, 1] rfl rfl (by decide) rfl rfl rfl rfl rfl (Nat.le_of_ble_eq_true rfl) ⟨Nat.le_of_ble_eq_true rfl, Nat.le_of_ble_eq_true rfl⟩ ⟨by first | exact Nat.le_of_ble_eq_true rfl | exact Nat.zero_le _, by first | exact Nat.le_of_ble_eq_true rfl | exact Nat.zero_le _⟩ dX10_takesAll_22 (fun r3499 hr3499 => ?_)
        rcases hr3499 with rfl | rfl
        · refine lv_if_eq (tgt := 54) hx hb dX10_takesAll_25 (by decide) (fun c9 => absurd c9 (by decide)) (fun _ => ?_)
          refine lv_aload_n hx hb dX10_takesAll_28 rfl (lv_at hl 1 rfl) ?_
          refine vV (wr := [(tsp, .inr (8, [.int 120, .int 1, .ref tspc, .int (nI vksp)])), (tspc, .inl (G.2.1, 120, .inl vtsp))]) hC hK hl hP hD hS hA (t_advance l G h0 tby kt tln tsp vkd vks vkn vtf fby (by omega) (by omega) (by omega)) si_X10_47 [0, 1] [2, 3] rfl rfl (by decide) rfl (by decide) (by decide) rfl rfl rfl rfl rfl (Nat.le_of_ble_eq_true rfl) ⟨Nat.le_of_ble_eq_true rfl, Nat.le_of_ble_eq_true rfl⟩ ⟨Nat.le_of_ble_eq_true rfl, Nat.le_of_ble_eq_true rfl⟩ dX10_takesAll_29 (fun u3502 H locs hr3501 hP hD hS => ?_)
          obtain ⟨kd13503, ks13504, kn13505⟩ := u3502
          try dsimp only at hr3501
          have hP : va_P G.1 vwCl [(tsp, .inr (8, [.int 120, .int 1, .ref tspc, .int (nI vksp)])), (tspc, .inl (G.2.1, 120, .inl vtsp)), (h0, .inr (10, [.ref tby, .int (nI kt), .ref tln, .ref tsp, .int kd13503, .int (nI ks13504), .int (nI kn13505), .int vtf])), (tby, .inl (G.2.1, 240, .inl fby))] H := hP
          have hD : va_D A [(tsp, .inr (8, [.int 120, .int 1, .ref tspc, .int (nI vksp)])), (tspc, .inl (G.2.1, 120, .inl vtsp)), (h0, .inr (10, [.ref tby, .int (nI kt), .ref tln, .ref tsp, .int kd13503, .int (nI ks13504), .int (nI kn13505), .int vtf])), (tby, .inl (G.2.1, 240, .inl fby))] := hD
          have w3506 := hr3501
          refine lv_aload_n hx hb dX10_takesAll_32 rfl (lv_at hl 1 rfl) ?_
          refine lv_iload_n hx hb dX10_takesAll_33 rfl (lv_at hl 2 rfl) ?_
          refine iVo (wr := []) hO hC hK hl hP hD hS hA (t_one0 l G K h0 tby kt tln tsp kd13503 ks13504 kn13505 vtf fby tspc vksp vtsp (by omega) (by omega) (by omega) (by omega)) si_X10_155 [2, 3, 0, 1] [] rfl rfl (by decide) rfl (by decide) (by decide) rfl rfl rfl rfl rfl (Nat.le_of_ble_eq_true rfl) ⟨Nat.le_of_ble_eq_true rfl, Nat.le_of_ble_eq_true rfl⟩ ⟨Nat.le_of_ble_eq_true rfl, Nat.le_of_ble_eq_true rfl⟩ dX10_takesAll_34 (fun r3507 u3508 H locs hr3507 hP hD hS => ?_)
          obtain ⟨kd13509, ks13510, kn13511, tf13512, ksp13513, gtsp3514⟩ := u3508
          try dsimp only at hr3507
          have hP : va_P G.1 vwCl [(h0, .inr (10, [.ref tby, .int (nI kt), .ref tln, .ref tsp, .int kd13509, .int (nI ks13510), .int (nI kn13511), .int tf13512])), (tby, .inl (G.2.1, 240, .inl fby)), (tsp, .inr (8, [.int 120, .int 1, .ref tspc, .int (nI ksp13513)])), (tspc, .inl (G.2.1, 120, .inl gtsp3514))] H := hP
          have hD : va_D A [(h0, .inr (10, [.ref tby, .int (nI kt), .ref tln, .ref tsp, .int kd13509, .int (nI ks13510), .int (nI kn13511), .int tf13512])), (tby, .inl (G.2.1, 240, .inl fby)), (tsp, .inr (8, [.int 120, .int 1, .ref tspc, .int (nI ksp13513)])), (tspc, .inl (G.2.1, 120, .inl gtsp3514))] := hD
          obtain ⟨hr3507, w3515⟩ := hr3507
          rcases hr3507 with rfl | rfl
          · refine lv_if_ne (tgt := 42) hx hb dX10_takesAll_37 (by decide) (fun _ => ?_) (fun c9 => absurd c9 (by decide))
            refine lv_aload_n hx hb dX10_takesAll_42 rfl (lv_at hl 1 rfl) ?_
            refine lv_bipush (v := (-2)) hx hb dX10_takesAll_43 (by decide) ?_
            refine vV (wr := [(tby, .inl (G.2.1, 240, .inl fby))]) hC hK hl hP hD hS hA (t_addStep l G h0 (-2) tby kt tln tsp kd13509 ks13510 kn13511 tf13512 tspc ksp13513 gtsp3514 (by omega)) si_X10_152 [0, 2, 3] [1] rfl rfl (by decide) rfl (by decide) (by decide) rfl rfl rfl rfl rfl (Nat.le_of_ble_eq_true rfl) ⟨Nat.le_of_ble_eq_true rfl, Nat.le_of_ble_eq_true rfl⟩ ⟨Nat.le_of_ble_eq_true rfl, Nat.le_of_ble_eq_true rfl⟩ dX10_takesAll_45 (fun u3518 H locs hr3517 hP hD hS => ?_)
            obtain ⟨ksp13519, gtsp3520⟩ := u3518
            try dsimp only at hr3517
            have hP : va_P G.1 vwCl [(tby, .inl (G.2.1, 240, .inl fby)), (h0, .inr (10, [.ref tby, .int (nI kt), .ref tln, .ref tsp, .int kd13509, .int (nI ks13510), .int (nI kn13511), .int tf13512])), (tsp, .inr (8, [.int 120, .int 1, .ref tspc, .int (nI ksp13519)])), (tspc, .inl (G.2.1, 120, .inl gtsp3520))] H := hP
            have hD : va_D A [(tby, .inl (G.2.1, 240, .inl fby)), (h0, .inr (10, [.ref tby, .int (nI kt), .ref tln, .ref tsp, .int kd13509, .int (nI ks13510), .int (nI kn13511), .int tf13512])), (tsp, .inr (8, [.int 120, .int 1, .ref tspc, .int (nI ksp13519)])), (tspc, .inl (G.2.1, 120, .inl gtsp3520))] := hD
            have w3521 := hr3517
            refine lv_iinc (v := nI (kP + 1)) (lv' := [(2, .int (nI (kP + 1))), (0, .ref h0), (1, .int 0)]) hx hb dX10_takesAll_48 hl (k := 0) rfl (nI_1 _) (by decide) rfl (fun ls hl => ?_)
            refine lv_goto (tgt := 12) hx hb dX10_takesAll_51 (by decide) ?_
            have hP := hP.sub (ws' := [(h0, .inr (10, [.ref tby, .int (nI kt), .ref tln, .ref tsp, .int kd13509, .int (nI ks13510), .int (nI kn13511), .int tf13512])), (tby, .inl (G.2.1, 240, .inl fby)), (tsp, .inr (8, [.int 120, .int 1, .ref tspc, .int (nI ksp13519)])), (tspc, .inl (G.2.1, 120, .inl gtsp3520))]) [1, 0, 2, 3] rfl
            have hD := hD.sub (ws' := [(h0, .inr (10, [.ref tby, .int (nI kt), .ref tln, .ref tsp, .int kd13509, .int (nI ks13510), .int (nI kn13511), .int tf13512])), (tby, .inl (G.2.1, 240, .inl fby)), (tsp, .inr (8, [.int 120, .int 1, .ref tspc, .int (nI ksp13519)])), (tspc, .inl (G.2.1, 120, .inl gtsp3520))]) [1, 0, 2, 3] (by decide) rfl
            exact ihP (kP + 1) kd13509 tf13512 gtsp3520 ks13510 kn13511 ksp13519 _ _ _ (by omega) (by first | assumption | exact Or.inl rfl | exact Or.inr rfl | omega) (by first | assumption | exact Or.inl rfl | exact Or.inr rfl | omega) (by first | assumption | exact Or.inl rfl | exact Or.inr rfl | omega) hP hD hS (lv_sub hl [0, 1, 2] rfl)
          · refine lv_if_ne (tgt := 42) hx hb dX10_takesAll_37 (by decide) (fun c9 => absurd (by decide) c9) (fun _ => ?_)
            refine lv_iconst (v := 0) hx hb dX10_takesAll_40 (by decide) ?_
            exact RI (v := 0) hC hP hD hS [0, 1, 2, 3] (kd13509, ks13510, kn13511, tf13512, ksp13513, gtsp3514) rfl rfl (by decide) (⟨Or.inr (rfl), by dsimp only; omega⟩) (by decide +kernel) dX10_takesAll_41
        · refine lv_if_eq (tgt := 54) hx hb dX10_takesAll_25 (by decide) (fun _ => ?_) (fun c9 => absurd (by decide) c9)
          refine lv_iconst (v := 1) hx hb dX10_takesAll_54 (by decide) ?_
          exact RI (v := 1) hC hP hD hS [0, 1, 2, 3] (vkd, vks, vkn, vtf, vksp, vtsp) rfl rfl (by decide) (⟨Or.inl (rfl), by dsimp only; omega⟩) (by decide +kernel) dX10_takesAll_55
    exact keyP 240 0 kd13491 tf13494 gtsp3496 ks13492 kn13493 ksp13495 _ _ _ (by omega) (by first | assumption | exact Or.inl rfl | exact Or.inr rfl | omega) (by first | assumption | exact Or.inl rfl | exact Or.inr rfl | omega) (by first | assumption | exact Or.inl rfl | exact Or.inr rfl | omega) hP hD hS (lv_sub hl [0, 1, 2] rfl)
  · refine lv_if_ne (tgt := 10) hx hb dX10_takesAll_5 (by decide) (fun c9 => absurd (by decide) c9) (fun _ => ?_)
    refine lv_iconst (v := 0) hx hb dX10_takesAll_8 (by decide) ?_
    exact RI (v := 0) hC hP hD hS [0, 1, 2, 3] (kd13491, ks13492, kn13493, tf13494, ksp13495, gtsp3496) rfl rfl (by decide) (⟨Or.inr (rfl), by dsimp only; omega⟩) (by decide +kernel) dX10_takesAll_9
set_option maxHeartbeats 4000000 in
set_option maxRecDepth 100000 in
theorem t_cond0 (l : Launch) (G : GG) (K : OO) (h0 : Nat) (tby : Nat) (kt : Nat) (tln : Nat) (tsp : Nat) (tkd : Int32) (ks : Nat) (kn : Nat) (tf9 : Int32) (fby : Nat → Int32) (tspc : Nat) (ksp : Nat) (ftsp : Nat → Int32) (hkt : kt ≤ 240) (hks : ks ≤ 240) (hkn : kn ≤ 240) (hksp : ksp ≤ 120) : MIo l G K yX10_takesCond cX10_takesCond 3 (some .boolean) 27 0 0 [.ref h0, .int 0] [(h0, .inr (10, [.ref tby, .int (nI kt), .ref tln, .ref tsp, .int tkd, .int (nI ks), .int (nI kn), .int tf9])), (tby, .inl (G.2.1, 240, .inl fby)), (tsp, .inr (8, [.int 120, .int 1, .ref tspc, .int (nI ksp)])), (tspc, .inl (G.2.1, 120, .inl ftsp))] (fun (r : Int32) (u : Int32 × Nat × Nat × Int32 × Nat × (Nat → Int32)) => (r = 1 ∨ r = 0) ∧ (u.2.1 ≤ 240 ∧ u.2.2.1 ≤ 240 ∧ u.2.2.2.2.1 ≤ 120)) (fun u : Int32 × Nat × Nat × Int32 × Nat × (Nat → Int32) => [(h0, .inr (10, [.ref tby, .int (nI kt), .ref tln, .ref tsp, .int u.1, .int (nI u.2.1), .int (nI u.2.2.1), .int u.2.2.2.1])), (tby, .inl (G.2.1, 240, .inl fby)), (tsp, .inr (8, [.int 120, .int 1, .ref tspc, .int (nI u.2.2.2.2.1)])), (tspc, .inl (G.2.1, 120, .inl u.2.2.2.2.2))]) := by
  refine MIo.start (by decide +kernel) (Nat.le_of_ble_eq_true rfl) ?_
  intro p e s m below meth c A ls hC hK hP hD hS hA hl hO
  have hl : lv_has ls 3 [(0, .ref h0), (1, .int 0)] := hl
  obtain ⟨hx, hb, hr, hml, hB, hown, hlocks, hnm⟩ := id hC
  refine lv_aload_n hx hb dX10_takesCond_0 rfl (lv_at hl 0 rfl) ?_
  refine lv_iload_n hx hb dX10_takesCond_1 rfl (lv_at hl 1 rfl) ?_
  refine iVo (wr := []) hO hC hK hl hP hD hS hA (t_all0 l G K h0 tby kt tln tsp tkd ks kn tf9 fby tspc ksp ftsp (by omega) (by omega) (by omega) (by omega)) si_X10_147 [0, 1, 2, 3] [] rfl rfl (by decide) rfl (by decide) (by decide) rfl rfl rfl rfl rfl (Nat.le_of_ble_eq_true rfl) ⟨Nat.le_of_ble_eq_true rfl, Nat.le_of_ble_eq_true rfl⟩ ⟨Nat.le_of_ble_eq_true rfl, Nat.le_of_ble_eq_true rfl⟩ dX10_takesCond_2 (fun r3522 u3523 H locs hr3522 hP hD hS => ?_)
  obtain ⟨kd13524, ks13525, kn13526, tf13527, ksp13528, gtsp3529⟩ := u3523
  try dsimp only at hr3522
  have hP : va_P G.1 vwCl [(h0, .inr (10, [.ref tby, .int (nI kt), .ref tln, .ref tsp, .int kd13524, .int (nI ks13525), .int (nI kn13526), .int tf13527])), (tby, .inl (G.2.1, 240, .inl fby)), (tsp, .inr (8, [.int 120, .int 1, .ref tspc, .int (nI ksp13528)])), (tspc, .inl (G.2.1, 120, .inl gtsp3529))] H := hP
  have hD : va_D A [(h0, .inr (10, [.ref tby, .int (nI kt), .ref tln, .ref tsp, .int kd13524, .int (nI ks13525), .int (nI kn13526), .int tf13527])), (tby, .inl (G.2.1, 240, .inl fby)), (tsp, .inr (8, [.int 120, .int 1, .ref tspc, .int (nI ksp13528)])), (tspc, .inl (G.2.1, 120, .inl gtsp3529))] := hD
  obtain ⟨hr3522, w3530⟩ := hr3522
  rcases hr3522 with rfl | rfl
  · refine lv_if_ne (tgt := 10) hx hb dX10_takesCond_5 (by decide) (fun _ => ?_) (fun c9 => absurd c9 (by decide))
    refine lv_iconst (v := 0) hx hb dX10_takesCond_10 (by decide) ?_
    refine lv_istore_n (lv' := [(2, .int 0), (0, .ref h0), (1, .int 0)]) hx hb dX10_takesCond_11 rfl hl (by decide) rfl (fun ls hl => ?_)
    have keyP : ∀ (nP kP : Nat) (vkd : Int32) (vtf : Int32) (vtsp : Nat → Int32) (vks : Nat) (vkn : Nat) (vksp : Nat) (H : Heap) (locs : List Loc) (ls : Array Slot), kP + nP = 240 → (vks ≤ 240) → (vkn ≤ 240) → (vksp ≤ 120) → va_P G.1 vwCl [(h0, .inr (10, [.ref tby, .int (nI kt), .ref tln, .ref tsp, .int vkd, .int (nI vks), .int (nI vkn), .int vtf])), (tby, .inl (G.2.1, 240, .inl fby)), (tsp, .inr (8, [.int 120, .int 1, .ref tspc, .int (nI vksp)])), (tspc, .inl (G.2.1, 120, .inl vtsp))] H → va_D A [(h0, .inr (10, [.ref tby, .int (nI kt), .ref tln, .ref tsp, .int vkd, .int (nI vks), .int (nI vkn), .int vtf])), (tby, .inl (G.2.1, 240, .inl fby)), (tsp, .inr (8, [.int 120, .int 1, .ref tspc, .int (nI vksp)])), (tspc, .inl (G.2.1, 120, .inl vtsp))] → va_S A s.heap H locs → lv_has ls 3 [(2, .int (nI kP)), (0, .ref h0), (1, .int 0)] → W p l e (RM 27 0 0) s m ([.ref h0, .int 0] : List Value).toArray below meth c H locs 0 0 (MQ below (QI G (fun (r : Int32) (u : Int32 × Nat × Nat × Int32 × Nat × (Nat → Int32)) => (r = 1 ∨ r = 0) ∧ (u.2.1 ≤ 240 ∧ u.2.2.1 ≤ 240 ∧ u.2.2.2.2.1 ≤ 120)) (fun u : Int32 × Nat × Nat × Int32 × Nat × (Nat → Int32) => [(h0, .inr (10, [.ref tby, .int (nI kt), .ref tln, .ref tsp, .int u.1, .int (nI u.2.1), .int (nI u.2.2.1), .int u.2.2.2.1])), (tby, .inl (G.2.1, 240, .inl fby)), (tsp, .inr (8, [.int 120, .int 1, .ref tspc, .int (nI u.2.2.2.2.1)])), (tspc, .inl (G.2.1, 120, .inl u.2.2.2.2.2))]) A) ([.ref h0, .int 0] : List Value).toArray s 0 0 A) (F0 m 12 ls []) := by
      intro nP
      induction nP with
      | zero =>
        intro kP vkd vtf vtsp vks vkn vksp H locs ls hkP hvks hvkn hvksp hP hD hS hl
        obtain rfl : 240 = kP := by omega
        have hl : lv_has ls 3 [(2, .int 240), (0, .ref h0), (1, .int 0)] := hl
        refine lv_iload_n hx hb dX10_takesCond_12 rfl (lv_at hl 0 rfl) ?_
        refine lv_sipush (v := 240) hx hb dX10_takesCond_13 (by decide) ?_
        refine lv_icmp_ge (tgt := 54) hx hb dX10_takesCond_16 (by decide) (fun _ => ?_) (fun c9 => absurd (by decide) c9)
        refine lv_iconst (v := 1) hx hb dX10_takesCond_54 (by decide) ?_
        exact RI (v := 1) hC hP hD hS [0, 1, 2, 3] (vkd, vks, vkn, vtf, vksp, vtsp) rfl rfl (by decide) (⟨Or.inl (rfl), by dsimp only; omega⟩) (by decide +kernel) dX10_takesCond_55
      | succ nP ihP =>
        intro kP vkd vtf vtsp vks vkn vksp H locs ls hkP hvks hvkn hvksp hP hD hS hl
        refine lv_iload_n hx hb dX10_takesCond_12 rfl (lv_at hl 0 rfl) ?_
        refine lv_sipush (v := 240) hx hb dX10_takesCond_13 (by decide) ?_
        refine lv_icmp_ge (tgt := 54) hx hb dX10_takesCond_16 (by decide) (fun c9 => absurd c9 (nI_ge (a := kP) (b := 240) (by omega) (by omega))) (fun _ => ?_)
        refine lv_aload_n hx hb dX10_takesCond_19 rfl (lv_at hl 1 rfl) ?_
        refine va_ldcS (index := 150) (tx := "o\x72") hx hb hown (hO.2.1 8 (by decide)) dX10_takesCond_20 ?_
        refine pVo hO hS hC hK hl hP hD (t_isName l G K 8 h0 tby kt tln tsp vkd vks vkn vtf fby (by omega) (by omega) (by omega) ((by decide))) si_X10_102 [0, 1] rfl rfl (by decide) rfl rfl rfl rfl rfl (Nat.le_of_ble_eq_true rfl) ⟨Nat.le_of_ble_eq_true rfl, Nat.le_of_ble_eq_true rfl⟩ ⟨by first | exact Nat.le_of_ble_eq_true rfl | exact Nat.zero_le _, by first | exact Nat.le_of_ble_eq_true rfl | exact Nat.zero_le _⟩ dX10_takesCond_22 (fun r3532 hr3532 => ?_)
        rcases hr3532 with rfl | rfl
        · refine lv_if_eq (tgt := 54) hx hb dX10_takesCond_25 (by decide) (fun c9 => absurd c9 (by decide)) (fun _ => ?_)
          refine lv_aload_n hx hb dX10_takesCond_28 rfl (lv_at hl 1 rfl) ?_
          refine vV (wr := [(tsp, .inr (8, [.int 120, .int 1, .ref tspc, .int (nI vksp)])), (tspc, .inl (G.2.1, 120, .inl vtsp))]) hC hK hl hP hD hS hA (t_advance l G h0 tby kt tln tsp vkd vks vkn vtf fby (by omega) (by omega) (by omega)) si_X10_47 [0, 1] [2, 3] rfl rfl (by decide) rfl (by decide) (by decide) rfl rfl rfl rfl rfl (Nat.le_of_ble_eq_true rfl) ⟨Nat.le_of_ble_eq_true rfl, Nat.le_of_ble_eq_true rfl⟩ ⟨Nat.le_of_ble_eq_true rfl, Nat.le_of_ble_eq_true rfl⟩ dX10_takesCond_29 (fun u3535 H locs hr3534 hP hD hS => ?_)
          obtain ⟨kd13536, ks13537, kn13538⟩ := u3535
          try dsimp only at hr3534
          have hP : va_P G.1 vwCl [(tsp, .inr (8, [.int 120, .int 1, .ref tspc, .int (nI vksp)])), (tspc, .inl (G.2.1, 120, .inl vtsp)), (h0, .inr (10, [.ref tby, .int (nI kt), .ref tln, .ref tsp, .int kd13536, .int (nI ks13537), .int (nI kn13538), .int vtf])), (tby, .inl (G.2.1, 240, .inl fby))] H := hP
          have hD : va_D A [(tsp, .inr (8, [.int 120, .int 1, .ref tspc, .int (nI vksp)])), (tspc, .inl (G.2.1, 120, .inl vtsp)), (h0, .inr (10, [.ref tby, .int (nI kt), .ref tln, .ref tsp, .int kd13536, .int (nI ks13537), .int (nI kn13538), .int vtf])), (tby, .inl (G.2.1, 240, .inl fby))] := hD
          have w3539 := hr3534
          refine lv_aload_n hx hb dX10_takesCond_32 rfl (lv_at hl 1 rfl) ?_
          refine lv_iload_n hx hb dX10_takesCond_33 rfl (lv_at hl 2 rfl) ?_
          refine iVo (wr := []) hO hC hK hl hP hD hS hA (t_all0 l G K h0 tby kt tln tsp kd13536 ks13537 kn13538 vtf fby tspc vksp vtsp (by omega) (by omega) (by omega) (by omega)) si_X10_147 [2, 3, 0, 1] [] rfl rfl (by decide) rfl (by decide) (by decide) rfl rfl rfl rfl rfl (Nat.le_of_ble_eq_true rfl) ⟨Nat.le_of_ble_eq_true rfl, Nat.le_of_ble_eq_true rfl⟩ ⟨Nat.le_of_ble_eq_true rfl, Nat.le_of_ble_eq_true rfl⟩ dX10_takesCond_34 (fun r3540 u3541 H locs hr3540 hP hD hS => ?_)
          obtain ⟨kd13542, ks13543, kn13544, tf13545, ksp13546, gtsp3547⟩ := u3541
          try dsimp only at hr3540
          have hP : va_P G.1 vwCl [(h0, .inr (10, [.ref tby, .int (nI kt), .ref tln, .ref tsp, .int kd13542, .int (nI ks13543), .int (nI kn13544), .int tf13545])), (tby, .inl (G.2.1, 240, .inl fby)), (tsp, .inr (8, [.int 120, .int 1, .ref tspc, .int (nI ksp13546)])), (tspc, .inl (G.2.1, 120, .inl gtsp3547))] H := hP
          have hD : va_D A [(h0, .inr (10, [.ref tby, .int (nI kt), .ref tln, .ref tsp, .int kd13542, .int (nI ks13543), .int (nI kn13544), .int tf13545])), (tby, .inl (G.2.1, 240, .inl fby)), (tsp, .inr (8, [.int 120, .int 1, .ref tspc, .int (nI ksp13546)])), (tspc, .inl (G.2.1, 120, .inl gtsp3547))] := hD
          obtain ⟨hr3540, w3548⟩ := hr3540
          rcases hr3540 with rfl | rfl
          · refine lv_if_ne (tgt := 42) hx hb dX10_takesCond_37 (by decide) (fun _ => ?_) (fun c9 => absurd c9 (by decide))
            refine lv_aload_n hx hb dX10_takesCond_42 rfl (lv_at hl 1 rfl) ?_
            refine lv_bipush (v := (-3)) hx hb dX10_takesCond_43 (by decide) ?_
            refine vV (wr := [(tby, .inl (G.2.1, 240, .inl fby))]) hC hK hl hP hD hS hA (t_addStep l G h0 (-3) tby kt tln tsp kd13542 ks13543 kn13544 tf13545 tspc ksp13546 gtsp3547 (by omega)) si_X10_152 [0, 2, 3] [1] rfl rfl (by decide) rfl (by decide) (by decide) rfl rfl rfl rfl rfl (Nat.le_of_ble_eq_true rfl) ⟨Nat.le_of_ble_eq_true rfl, Nat.le_of_ble_eq_true rfl⟩ ⟨Nat.le_of_ble_eq_true rfl, Nat.le_of_ble_eq_true rfl⟩ dX10_takesCond_45 (fun u3551 H locs hr3550 hP hD hS => ?_)
            obtain ⟨ksp13552, gtsp3553⟩ := u3551
            try dsimp only at hr3550
            have hP : va_P G.1 vwCl [(tby, .inl (G.2.1, 240, .inl fby)), (h0, .inr (10, [.ref tby, .int (nI kt), .ref tln, .ref tsp, .int kd13542, .int (nI ks13543), .int (nI kn13544), .int tf13545])), (tsp, .inr (8, [.int 120, .int 1, .ref tspc, .int (nI ksp13552)])), (tspc, .inl (G.2.1, 120, .inl gtsp3553))] H := hP
            have hD : va_D A [(tby, .inl (G.2.1, 240, .inl fby)), (h0, .inr (10, [.ref tby, .int (nI kt), .ref tln, .ref tsp, .int kd13542, .int (nI ks13543), .int (nI kn13544), .int tf13545])), (tsp, .inr (8, [.int 120, .int 1, .ref tspc, .int (nI ksp13552)])), (tspc, .inl (G.2.1, 120, .inl gtsp3553))] := hD
            have w3554 := hr3550
            refine lv_iinc (v := nI (kP + 1)) (lv' := [(2, .int (nI (kP + 1))), (0, .ref h0), (1, .int 0)]) hx hb dX10_takesCond_48 hl (k := 0) rfl (nI_1 _) (by decide) rfl (fun ls hl => ?_)
            refine lv_goto (tgt := 12) hx hb dX10_takesCond_51 (by decide) ?_
            have hP := hP.sub (ws' := [(h0, .inr (10, [.ref tby, .int (nI kt), .ref tln, .ref tsp, .int kd13542, .int (nI ks13543), .int (nI kn13544), .int tf13545])), (tby, .inl (G.2.1, 240, .inl fby)), (tsp, .inr (8, [.int 120, .int 1, .ref tspc, .int (nI ksp13552)])), (tspc, .inl (G.2.1, 120, .inl gtsp3553))]) [1, 0, 2, 3] rfl
            have hD := hD.sub (ws' := [(h0, .inr (10, [.ref tby, .int (nI kt), .ref tln, .ref tsp, .int kd13542, .int (nI ks13543), .int (nI kn13544), .int tf13545])), (tby, .inl (G.2.1, 240, .inl fby)), (tsp, .inr (8, [.int 120, .int 1, .ref tspc, .int (nI ksp13552)])), (tspc, .inl (G.2.1, 120, .inl gtsp3553))]) [1, 0, 2, 3] (by decide) rfl
            exact ihP (kP + 1) kd13542 tf13545 gtsp3553 ks13543 kn13544 ksp13552 _ _ _ (by omega) (by first | assumption | exact Or.inl rfl | exact Or.inr rfl | omega) (by first | assumption | exact Or.inl rfl | exact Or.inr rfl | omega) (by first | assumption | exact Or.inl rfl | exact Or.inr rfl | omega) hP hD hS (lv_sub hl [0, 1, 2] rfl)
          · refine lv_if_ne (tgt := 42) hx hb dX10_takesCond_37 (by decide) (fun c9 => absurd (by decide) c9) (fun _ => ?_)
            refine lv_iconst (v := 0) hx hb dX10_takesCond_40 (by decide) ?_
            exact RI (v := 0) hC hP hD hS [0, 1, 2, 3] (kd13542, ks13543, kn13544, tf13545, ksp13546, gtsp3547) rfl rfl (by decide) (⟨Or.inr (rfl), by dsimp only; omega⟩) (by decide +kernel) dX10_takesCond_41
        · refine lv_if_eq (tgt := 54) hx hb dX10_takesCond_25 (by decide) (fun _ => ?_) (fun c9 => absurd (by decide) c9)
          refine lv_iconst (v := 1) hx hb dX10_takesCond_54 (by decide) ?_
          exact RI (v := 1) hC hP hD hS [0, 1, 2, 3] (vkd, vks, vkn, vtf, vksp, vtsp) rfl rfl (by decide) (⟨Or.inl (rfl), by dsimp only; omega⟩) (by decide +kernel) dX10_takesCond_55
    exact keyP 240 0 kd13524 tf13527 gtsp3529 ks13525 kn13526 ksp13528 _ _ _ (by omega) (by first | assumption | exact Or.inl rfl | exact Or.inr rfl | omega) (by first | assumption | exact Or.inl rfl | exact Or.inr rfl | omega) (by first | assumption | exact Or.inl rfl | exact Or.inr rfl | omega) hP hD hS (lv_sub hl [0, 1, 2] rfl)
  · refine lv_if_ne (tgt := 10) hx hb dX10_takesCond_5 (by decide) (fun c9 => absurd (by decide) c9) (fun _ => ?_)
    refine lv_iconst (v := 0) hx hb dX10_takesCond_8 (by decide) ?_
    exact RI (v := 0) hC hP hD hS [0, 1, 2, 3] (kd13524, ks13525, kn13526, tf13527, ksp13528, gtsp3529) rfl rfl (by decide) (⟨Or.inr (rfl), by dsimp only; omega⟩) (by decide +kernel) dX10_takesCond_9
