section WR
variable {p : Program} {l : Launch} {e : Env} {R : Room} {s : State} {m : MethodId} {args : Array Value} {below : List Frame} {meth : Method} {c : Code} {H : Heap} {locs : List Loc} {cells slots : Nat} {Q : State → Prop}
variable {pc : Nat} {ls : Array Slot} {rest : List Value} {G : GG} {ws : va_W} {A : Nat → Prop} {y0 : MethodName} {b0 : ByteArray} {mL0 : Nat} {rt0 : Option FieldType} {a : Nat} {H0 : Heap}
theorem dX10_byteAt_0 : decode cX10_byteAt 0 = .ok (.iload_n 1, 1) := by decide +kernel
theorem dX10_byteAt_1 : decode cX10_byteAt 1 = .ok (.ifCond .lt 29, 3) := by decide +kernel
theorem dX10_byteAt_30 : decode cX10_byteAt 30 = .ok (.iconst (-1), 1) := by decide +kernel
theorem dX10_byteAt_31 : decode cX10_byteAt 31 = .ok (.ireturn, 1) := by decide +kernel
theorem dX10_byteAt_4 : decode cX10_byteAt 4 = .ok (.iload_n 1, 1) := by decide +kernel
theorem dX10_byteAt_5 : decode cX10_byteAt 5 = .ok (.aload_n 0, 1) := by decide +kernel
theorem dX10_byteAt_6 : decode cX10_byteAt 6 = .ok (.getfield 27, 3) := by decide +kernel
theorem dX10_byteAt_9 : decode cX10_byteAt 9 = .ok (.if_icmp .ge 21, 3) := by decide +kernel
theorem dX10_byteAt_12 : decode cX10_byteAt 12 = .ok (.iload_n 1, 1) := by decide +kernel
theorem dX10_byteAt_13 : decode cX10_byteAt 13 = .ok (.aload_n 0, 1) := by decide +kernel
theorem dX10_byteAt_14 : decode cX10_byteAt 14 = .ok (.getfield 9, 3) := by decide +kernel
theorem dX10_byteAt_17 : decode cX10_byteAt 17 = .ok (.arraylength, 1) := by decide +kernel
theorem dX10_byteAt_18 : decode cX10_byteAt 18 = .ok (.if_icmp .ge 12, 3) := by decide +kernel
theorem dX10_byteAt_21 : decode cX10_byteAt 21 = .ok (.aload_n 0, 1) := by decide +kernel
theorem dX10_byteAt_22 : decode cX10_byteAt 22 = .ok (.getfield 9, 3) := by decide +kernel
theorem dX10_byteAt_25 : decode cX10_byteAt 25 = .ok (.iload_n 1, 1) := by decide +kernel
theorem dX10_byteAt_26 : decode cX10_byteAt 26 = .ok (.iaload, 1) := by decide +kernel
theorem dX10_byteAt_27 : decode cX10_byteAt 27 = .ok (.goto 4, 3) := by decide +kernel
theorem dX10_isLetter_0 : decode cX10_isLetter 0 = .ok (.iload_n 0, 1) := by decide +kernel
theorem dX10_isLetter_1 : decode cX10_isLetter 1 = .ok (.bipush 97, 2) := by decide +kernel
theorem dX10_isLetter_3 : decode cX10_isLetter 3 = .ok (.bipush 122, 2) := by decide +kernel
theorem dX10_isLetter_5 : decode cX10_isLetter 5 = .ok (.invokestatic 89, 3) := by decide +kernel
theorem nm_50 : Cond.methodLinkNest RX10 89 yX11_within RX11 ∈ NestW := List.mem_of_getElem? (i := 50) (by decide +kernel)
theorem si_X10_89 : SSN RX10 RX11 89 yX11_within cX11_within 3 (some .boolean) 3 := ⟨⟨nm_50, m_213, m_2, m_214⟩, ⟨by decide +kernel, by decide +kernel, by decide +kernel⟩⟩
theorem dX10_isLetter_8 : decode cX10_isLetter 8 = .ok (.ireturn, 1) := by decide +kernel
theorem dX10_isDigit_0 : decode cX10_isDigit 0 = .ok (.iload_n 0, 1) := by decide +kernel
theorem dX10_isDigit_1 : decode cX10_isDigit 1 = .ok (.bipush 48, 2) := by decide +kernel
theorem dX10_isDigit_3 : decode cX10_isDigit 3 = .ok (.bipush 57, 2) := by decide +kernel
theorem dX10_isDigit_5 : decode cX10_isDigit 5 = .ok (.invokestatic 89, 3) := by decide +kernel
theorem dX10_isDigit_8 : decode cX10_isDigit 8 = .ok (.ireturn, 1) := by decide +kernel
theorem dX10_refuse_0 : decode cX10_refuse 0 = .ok (.aload_n 0, 1) := by decide +kernel
theorem dX10_refuse_1 : decode cX10_refuse 1 = .ok (.aload_n 0, 1) := by decide +kernel
theorem dX10_refuse_2 : decode cX10_refuse 2 = .ok (.getfield 34, 3) := by decide +kernel
theorem m_145 : Cond.fieldLink RX10 34 "InquiryBench$Tape" "start" "I" ∈ BW := List.mem_of_getElem? (i := 145) (by decide +kernel)
theorem gf_X10_34 (hC : CX p s m meth c y0 b0 mL0 rt0 args) (hy0 : y0.cls = RX10) (hK : KK G s) (hP : va_P G.1 vwCl ws H) (q0 : Nat) {fs : List Value} {v : Value} (he : ws[q0]? = some (a, .inr (10, fs))) (hv : fs[5]? = some v) (hdg : decode b0 pc = .ok (.getfield 34, 3)) (kk : W p l e R s m args below meth c H locs cells slots Q (F0 m (pc + 3) ls (v :: rest))) : W p l e R s m args below meth c H locs cells slots Q (F0 m pc ls (.ref a :: rest)) := by
  obtain ⟨hx, hb, hr, hml, hB, hown, hlocks, hnm⟩ := hC
  rw [hy0] at hown
  exact va_get (ci := 10) (C := RX10) (T := TX10) (N := 8) hx hb hB in_X10 hown hK.1 hP q0 he rfl 5 (by decide) (hB _ m_145) (fun _ h => h) hv hdg kk
theorem dX10_refuse_5 : decode cX10_refuse 5 = .ok (.putfield 40, 3) := by decide +kernel
theorem m_147 : Cond.fieldLink RX10 40 "InquiryBench$Tape" "fault" "I" ∈ BW := List.mem_of_getElem? (i := 147) (by decide +kernel)
theorem pf_X10_40 (hC : CX p s m meth c y0 b0 mL0 rt0 args) (hy0 : y0.cls = RX10) (hK : KK G s) (hP : va_P G.1 vwCl ws H) (hD : va_D A ws) (hS : va_S A H0 H locs) (q0 : Nat) {fs : List Value} {v : Value} {ws' : va_W} (he : ws[q0]? = some (a, .inr (10, fs))) (hl : 7 < fs.length) (hws : ws.set q0 (a, .inr (10, fs.set 7 v)) = ws') (hn : narrow .int v = v) (hfit : fits .int v = true) (hdg : decode b0 pc = .ok (.putfield 40, 3)) (kk : ∀ (H1 : Heap) (locs1 : List Loc), va_P G.1 vwCl ws' H1 → va_D A ws' → va_S A H0 H1 locs1 → W p l e R s m args below meth c H1 locs1 cells slots Q (F0 m (pc + 3) ls rest)) : W p l e R s m args below meth c H locs cells slots Q (F0 m pc ls (v :: .ref a :: rest)) := by
  obtain ⟨hx, hb, hr, hml, hB, hown, hlocks, hnm⟩ := hC
  rw [hy0] at hown
  subst hws
  exact va_put (ci := 10) (ty := .int) (C := RX10) (T := TX10) (N := 8) hx hb hB in_X10 tyX10 tyX10_ok nmX10 hown hK.1 hP hD hS q0 he rfl 7 (by decide) (hB _ m_147) (fun _ h => h) rfl (by decide +kernel) hn hfit hl hdg kk
theorem dX10_refuse_8 : decode cX10_refuse 8 = .ok (.iconst 0, 1) := by decide +kernel
theorem dX10_refuse_9 : decode cX10_refuse 9 = .ok (.ireturn, 1) := by decide +kernel
theorem dX10_clear_0 : decode cX10_clear 0 = .ok (.aload_n 0, 1) := by decide +kernel
theorem dX10_clear_1 : decode cX10_clear 1 = .ok (.iconst 0, 1) := by decide +kernel
theorem dX10_clear_2 : decode cX10_clear 2 = .ok (.putfield 27, 3) := by decide +kernel
theorem dX10_clear_5 : decode cX10_clear 5 = .ok (.return_, 1) := by decide +kernel
theorem dX10_advance_0 : decode cX10_advance 0 = .ok (.aload_n 0, 1) := by decide +kernel
theorem dX10_advance_1 : decode cX10_advance 1 = .ok (.aload_n 0, 1) := by decide +kernel
theorem dX10_advance_2 : decode cX10_advance 2 = .ok (.getfield 37, 3) := by decide +kernel
theorem m_146 : Cond.fieldLink RX10 37 "InquiryBench$Tape" "next" "I" ∈ BW := List.mem_of_getElem? (i := 146) (by decide +kernel)
theorem gf_X10_37 (hC : CX p s m meth c y0 b0 mL0 rt0 args) (hy0 : y0.cls = RX10) (hK : KK G s) (hP : va_P G.1 vwCl ws H) (q0 : Nat) {fs : List Value} {v : Value} (he : ws[q0]? = some (a, .inr (10, fs))) (hv : fs[6]? = some v) (hdg : decode b0 pc = .ok (.getfield 37, 3)) (kk : W p l e R s m args below meth c H locs cells slots Q (F0 m (pc + 3) ls (v :: rest))) : W p l e R s m args below meth c H locs cells slots Q (F0 m pc ls (.ref a :: rest)) := by
  obtain ⟨hx, hb, hr, hml, hB, hown, hlocks, hnm⟩ := hC
  rw [hy0] at hown
  exact va_get (ci := 10) (C := RX10) (T := TX10) (N := 8) hx hb hB in_X10 hown hK.1 hP q0 he rfl 6 (by decide) (hB _ m_146) (fun _ h => h) hv hdg kk
theorem dX10_advance_5 : decode cX10_advance 5 = .ok (.putfield 34, 3) := by decide +kernel
theorem pf_X10_34 (hC : CX p s m meth c y0 b0 mL0 rt0 args) (hy0 : y0.cls = RX10) (hK : KK G s) (hP : va_P G.1 vwCl ws H) (hD : va_D A ws) (hS : va_S A H0 H locs) (q0 : Nat) {fs : List Value} {v : Value} {ws' : va_W} (he : ws[q0]? = some (a, .inr (10, fs))) (hl : 5 < fs.length) (hws : ws.set q0 (a, .inr (10, fs.set 5 v)) = ws') (hn : narrow .int v = v) (hfit : fits .int v = true) (hdg : decode b0 pc = .ok (.putfield 34, 3)) (kk : ∀ (H1 : Heap) (locs1 : List Loc), va_P G.1 vwCl ws' H1 → va_D A ws' → va_S A H0 H1 locs1 → W p l e R s m args below meth c H1 locs1 cells slots Q (F0 m (pc + 3) ls rest)) : W p l e R s m args below meth c H locs cells slots Q (F0 m pc ls (v :: .ref a :: rest)) := by
  obtain ⟨hx, hb, hr, hml, hB, hown, hlocks, hnm⟩ := hC
  rw [hy0] at hown
  subst hws
  exact va_put (ci := 10) (ty := .int) (C := RX10) (T := TX10) (N := 8) hx hb hB in_X10 tyX10 tyX10_ok nmX10 hown hK.1 hP hD hS q0 he rfl 5 (by decide) (hB _ m_145) (fun _ h => h) rfl (by decide +kernel) hn hfit hl hdg kk
theorem dX10_advance_8 : decode cX10_advance 8 = .ok (.aload_n 0, 1) := by decide +kernel
theorem dX10_advance_9 : decode cX10_advance 9 = .ok (.getfield 34, 3) := by decide +kernel
theorem dX10_advance_12 : decode cX10_advance 12 = .ok (.aload_n 0, 1) := by decide +kernel
theorem dX10_advance_13 : decode cX10_advance 13 = .ok (.getfield 27, 3) := by decide +kernel
theorem dX10_advance_16 : decode cX10_advance 16 = .ok (.if_icmp .ge 29, 3) := by decide +kernel
theorem dX10_advance_45 : decode cX10_advance 45 = .ok (.aload_n 0, 1) := by decide +kernel
theorem dX10_advance_46 : decode cX10_advance 46 = .ok (.aload_n 0, 1) := by decide +kernel
theorem dX10_advance_47 : decode cX10_advance 47 = .ok (.getfield 34, 3) := by decide +kernel
theorem dX10_advance_50 : decode cX10_advance 50 = .ok (.putfield 37, 3) := by decide +kernel
theorem pf_X10_37 (hC : CX p s m meth c y0 b0 mL0 rt0 args) (hy0 : y0.cls = RX10) (hK : KK G s) (hP : va_P G.1 vwCl ws H) (hD : va_D A ws) (hS : va_S A H0 H locs) (q0 : Nat) {fs : List Value} {v : Value} {ws' : va_W} (he : ws[q0]? = some (a, .inr (10, fs))) (hl : 6 < fs.length) (hws : ws.set q0 (a, .inr (10, fs.set 6 v)) = ws') (hn : narrow .int v = v) (hfit : fits .int v = true) (hdg : decode b0 pc = .ok (.putfield 37, 3)) (kk : ∀ (H1 : Heap) (locs1 : List Loc), va_P G.1 vwCl ws' H1 → va_D A ws' → va_S A H0 H1 locs1 → W p l e R s m args below meth c H1 locs1 cells slots Q (F0 m (pc + 3) ls rest)) : W p l e R s m args below meth c H locs cells slots Q (F0 m pc ls (v :: .ref a :: rest)) := by
  obtain ⟨hx, hb, hr, hml, hB, hown, hlocks, hnm⟩ := hC
  rw [hy0] at hown
  subst hws
  exact va_put (ci := 10) (ty := .int) (C := RX10) (T := TX10) (N := 8) hx hb hB in_X10 tyX10 tyX10_ok nmX10 hown hK.1 hP hD hS q0 he rfl 6 (by decide) (hB _ m_146) (fun _ h => h) rfl (by decide +kernel) hn hfit hl hdg kk
theorem dX10_advance_53 : decode cX10_advance 53 = .ok (.aload_n 0, 1) := by decide +kernel
theorem dX10_advance_54 : decode cX10_advance 54 = .ok (.aload_n 0, 1) := by decide +kernel
theorem dX10_advance_55 : decode cX10_advance 55 = .ok (.getfield 34, 3) := by decide +kernel
theorem dX10_advance_58 : decode cX10_advance 58 = .ok (.invokevirtual 78, 3) := by decide +kernel
theorem m_771 : Cond.code yX10_byteAt cX10_byteAt 2 (some .int) ∈ BW := List.mem_of_getElem? (i := 771) (by decide +kernel)
theorem m_768 : Cond.methodLink RX10 78 yX10_byteAt ∈ BW := List.mem_of_getElem? (i := 768) (by decide +kernel)
theorem m_769 : Cond.instanceMethod yX10_byteAt ∈ BW := List.mem_of_getElem? (i := 769) (by decide +kernel)
theorem m_770 : Cond.selects RX10 yX10_byteAt yX10_byteAt ∈ BW := List.mem_of_getElem? (i := 770) (by decide +kernel)
theorem si_X10_78 : SV RX10 RX10 78 yX10_byteAt cX10_byteAt 2 (some .int) 1 := ⟨⟨m_768, m_769, m_770, m_37, m_771⟩, rfl, by decide +kernel, by decide +kernel, by decide +kernel⟩
theorem dX10_advance_61 : decode cX10_advance 61 = .ok (.invokestatic 82, 3) := by decide +kernel
theorem m_774 : Cond.code yX10_isLetter cX10_isLetter 1 (some .boolean) ∈ BW := List.mem_of_getElem? (i := 774) (by decide +kernel)
theorem m_772 : Cond.methodLink RX10 82 yX10_isLetter ∈ BW := List.mem_of_getElem? (i := 772) (by decide +kernel)
theorem m_773 : Cond.static yX10_isLetter ∈ BW := List.mem_of_getElem? (i := 773) (by decide +kernel)
theorem si_X10_82 : SS RX10 82 yX10_isLetter cX10_isLetter 1 (some .boolean) 1 := ⟨⟨m_772, m_773, m_37, m_774⟩, ⟨by decide +kernel, by decide +kernel, by decide +kernel⟩⟩
theorem dX10_advance_64 : decode cX10_advance 64 = .ok (.ifCond .eq 47, 3) := by decide +kernel
theorem dX10_advance_67 : decode cX10_advance 67 = .ok (.aload_n 0, 1) := by decide +kernel
theorem dX10_advance_68 : decode cX10_advance 68 = .ok (.bipush (-2), 2) := by decide +kernel
theorem dX10_advance_70 : decode cX10_advance 70 = .ok (.putfield 31, 3) := by decide +kernel
theorem m_144 : Cond.fieldLink RX10 31 "InquiryBench$Tape" "kind" "I" ∈ BW := List.mem_of_getElem? (i := 144) (by decide +kernel)
theorem pf_X10_31 (hC : CX p s m meth c y0 b0 mL0 rt0 args) (hy0 : y0.cls = RX10) (hK : KK G s) (hP : va_P G.1 vwCl ws H) (hD : va_D A ws) (hS : va_S A H0 H locs) (q0 : Nat) {fs : List Value} {v : Value} {ws' : va_W} (he : ws[q0]? = some (a, .inr (10, fs))) (hl : 4 < fs.length) (hws : ws.set q0 (a, .inr (10, fs.set 4 v)) = ws') (hn : narrow .int v = v) (hfit : fits .int v = true) (hdg : decode b0 pc = .ok (.putfield 31, 3)) (kk : ∀ (H1 : Heap) (locs1 : List Loc), va_P G.1 vwCl ws' H1 → va_D A ws' → va_S A H0 H1 locs1 → W p l e R s m args below meth c H1 locs1 cells slots Q (F0 m (pc + 3) ls rest)) : W p l e R s m args below meth c H locs cells slots Q (F0 m pc ls (v :: .ref a :: rest)) := by
  obtain ⟨hx, hb, hr, hml, hB, hown, hlocks, hnm⟩ := hC
  rw [hy0] at hown
  subst hws
  exact va_put (ci := 10) (ty := .int) (C := RX10) (T := TX10) (N := 8) hx hb hB in_X10 tyX10 tyX10_ok nmX10 hown hK.1 hP hD hS q0 he rfl 4 (by decide) (hB _ m_144) (fun _ h => h) rfl (by decide +kernel) hn hfit hl hdg kk
theorem dX10_advance_73 : decode cX10_advance 73 = .ok (.aload_n 0, 1) := by decide +kernel
theorem dX10_advance_74 : decode cX10_advance 74 = .ok (.getfield 37, 3) := by decide +kernel
theorem dX10_advance_77 : decode cX10_advance 77 = .ok (.aload_n 0, 1) := by decide +kernel
theorem dX10_advance_78 : decode cX10_advance 78 = .ok (.getfield 27, 3) := by decide +kernel
theorem dX10_advance_81 : decode cX10_advance 81 = .ok (.if_icmp .ge 118, 3) := by decide +kernel
theorem dX10_advance_199 : decode cX10_advance 199 = .ok (.return_, 1) := by decide +kernel
theorem dX10_advance_84 : decode cX10_advance 84 = .ok (.aload_n 0, 1) := by decide +kernel
theorem dX10_advance_85 : decode cX10_advance 85 = .ok (.aload_n 0, 1) := by decide +kernel
theorem dX10_advance_86 : decode cX10_advance 86 = .ok (.getfield 37, 3) := by decide +kernel
theorem dX10_advance_89 : decode cX10_advance 89 = .ok (.invokevirtual 78, 3) := by decide +kernel
theorem dX10_advance_92 : decode cX10_advance 92 = .ok (.invokestatic 82, 3) := by decide +kernel
theorem dX10_advance_95 : decode cX10_advance 95 = .ok (.ifCond .eq 104, 3) := by decide +kernel
theorem dX10_advance_98 : decode cX10_advance 98 = .ok (.aload_n 0, 1) := by decide +kernel
theorem dX10_advance_99 : decode cX10_advance 99 = .ok (.dup, 1) := by decide +kernel
theorem dX10_advance_100 : decode cX10_advance 100 = .ok (.getfield 37, 3) := by decide +kernel
theorem dX10_advance_103 : decode cX10_advance 103 = .ok (.iconst 1, 1) := by decide +kernel
theorem dX10_advance_104 : decode cX10_advance 104 = .ok (.iadd, 1) := by decide +kernel
theorem dX10_advance_105 : decode cX10_advance 105 = .ok (.putfield 37, 3) := by decide +kernel
theorem dX10_advance_108 : decode cX10_advance 108 = .ok (.goto (-35), 3) := by decide +kernel
theorem dX10_advance_111 : decode cX10_advance 111 = .ok (.aload_n 0, 1) := by decide +kernel
theorem dX10_advance_112 : decode cX10_advance 112 = .ok (.aload_n 0, 1) := by decide +kernel
theorem dX10_advance_113 : decode cX10_advance 113 = .ok (.getfield 34, 3) := by decide +kernel
theorem dX10_advance_116 : decode cX10_advance 116 = .ok (.invokevirtual 78, 3) := by decide +kernel
theorem dX10_advance_119 : decode cX10_advance 119 = .ok (.invokestatic 86, 3) := by decide +kernel
theorem m_777 : Cond.code yX10_isDigit cX10_isDigit 1 (some .boolean) ∈ BW := List.mem_of_getElem? (i := 777) (by decide +kernel)
theorem m_775 : Cond.methodLink RX10 86 yX10_isDigit ∈ BW := List.mem_of_getElem? (i := 775) (by decide +kernel)
theorem m_776 : Cond.static yX10_isDigit ∈ BW := List.mem_of_getElem? (i := 776) (by decide +kernel)
theorem si_X10_86 : SS RX10 86 yX10_isDigit cX10_isDigit 1 (some .boolean) 1 := ⟨⟨m_775, m_776, m_37, m_777⟩, ⟨by decide +kernel, by decide +kernel, by decide +kernel⟩⟩
theorem dX10_advance_122 : decode cX10_advance 122 = .ok (.ifCond .eq 47, 3) := by decide +kernel
theorem dX10_advance_125 : decode cX10_advance 125 = .ok (.aload_n 0, 1) := by decide +kernel
theorem dX10_advance_126 : decode cX10_advance 126 = .ok (.bipush (-3), 2) := by decide +kernel
theorem dX10_advance_128 : decode cX10_advance 128 = .ok (.putfield 31, 3) := by decide +kernel
theorem dX10_advance_131 : decode cX10_advance 131 = .ok (.aload_n 0, 1) := by decide +kernel
theorem dX10_advance_132 : decode cX10_advance 132 = .ok (.getfield 37, 3) := by decide +kernel
theorem dX10_advance_135 : decode cX10_advance 135 = .ok (.aload_n 0, 1) := by decide +kernel
theorem dX10_advance_136 : decode cX10_advance 136 = .ok (.getfield 27, 3) := by decide +kernel
theorem dX10_advance_139 : decode cX10_advance 139 = .ok (.if_icmp .ge 60, 3) := by decide +kernel
theorem dX10_advance_142 : decode cX10_advance 142 = .ok (.aload_n 0, 1) := by decide +kernel
theorem dX10_advance_143 : decode cX10_advance 143 = .ok (.aload_n 0, 1) := by decide +kernel
theorem dX10_advance_144 : decode cX10_advance 144 = .ok (.getfield 37, 3) := by decide +kernel
theorem dX10_advance_147 : decode cX10_advance 147 = .ok (.invokevirtual 78, 3) := by decide +kernel
theorem dX10_advance_150 : decode cX10_advance 150 = .ok (.invokestatic 86, 3) := by decide +kernel
theorem dX10_advance_153 : decode cX10_advance 153 = .ok (.ifCond .eq 46, 3) := by decide +kernel
theorem dX10_advance_156 : decode cX10_advance 156 = .ok (.aload_n 0, 1) := by decide +kernel
theorem dX10_advance_157 : decode cX10_advance 157 = .ok (.dup, 1) := by decide +kernel
theorem dX10_advance_158 : decode cX10_advance 158 = .ok (.getfield 37, 3) := by decide +kernel
theorem dX10_advance_161 : decode cX10_advance 161 = .ok (.iconst 1, 1) := by decide +kernel
theorem dX10_advance_162 : decode cX10_advance 162 = .ok (.iadd, 1) := by decide +kernel
theorem dX10_advance_163 : decode cX10_advance 163 = .ok (.putfield 37, 3) := by decide +kernel
theorem dX10_advance_166 : decode cX10_advance 166 = .ok (.goto (-35), 3) := by decide +kernel
theorem dX10_advance_169 : decode cX10_advance 169 = .ok (.aload_n 0, 1) := by decide +kernel
theorem dX10_advance_170 : decode cX10_advance 170 = .ok (.aload_n 0, 1) := by decide +kernel
theorem dX10_advance_171 : decode cX10_advance 171 = .ok (.aload_n 0, 1) := by decide +kernel
theorem dX10_advance_172 : decode cX10_advance 172 = .ok (.getfield 34, 3) := by decide +kernel
theorem dX10_advance_175 : decode cX10_advance 175 = .ok (.invokevirtual 78, 3) := by decide +kernel
theorem dX10_advance_178 : decode cX10_advance 178 = .ok (.putfield 31, 3) := by decide +kernel
theorem dX10_advance_181 : decode cX10_advance 181 = .ok (.aload_n 0, 1) := by decide +kernel
theorem dX10_advance_182 : decode cX10_advance 182 = .ok (.getfield 31, 3) := by decide +kernel
theorem gf_X10_31 (hC : CX p s m meth c y0 b0 mL0 rt0 args) (hy0 : y0.cls = RX10) (hK : KK G s) (hP : va_P G.1 vwCl ws H) (q0 : Nat) {fs : List Value} {v : Value} (he : ws[q0]? = some (a, .inr (10, fs))) (hv : fs[4]? = some v) (hdg : decode b0 pc = .ok (.getfield 31, 3)) (kk : W p l e R s m args below meth c H locs cells slots Q (F0 m (pc + 3) ls (v :: rest))) : W p l e R s m args below meth c H locs cells slots Q (F0 m pc ls (.ref a :: rest)) := by
  obtain ⟨hx, hb, hr, hml, hB, hown, hlocks, hnm⟩ := hC
  rw [hy0] at hown
  exact va_get (ci := 10) (C := RX10) (T := TX10) (N := 8) hx hb hB in_X10 hown hK.1 hP q0 he rfl 4 (by decide) (hB _ m_144) (fun _ h => h) hv hdg kk
theorem dX10_advance_185 : decode cX10_advance 185 = .ok (.iconst (-1), 1) := by decide +kernel
theorem dX10_advance_186 : decode cX10_advance 186 = .ok (.if_icmp .eq 13, 3) := by decide +kernel
theorem dX10_advance_189 : decode cX10_advance 189 = .ok (.aload_n 0, 1) := by decide +kernel
theorem dX10_advance_190 : decode cX10_advance 190 = .ok (.dup, 1) := by decide +kernel
theorem dX10_advance_191 : decode cX10_advance 191 = .ok (.getfield 37, 3) := by decide +kernel
theorem dX10_advance_194 : decode cX10_advance 194 = .ok (.iconst 1, 1) := by decide +kernel
theorem dX10_advance_195 : decode cX10_advance 195 = .ok (.iadd, 1) := by decide +kernel
theorem dX10_advance_196 : decode cX10_advance 196 = .ok (.putfield 37, 3) := by decide +kernel
theorem dX10_advance_19 : decode cX10_advance 19 = .ok (.aload_n 0, 1) := by decide +kernel
theorem dX10_advance_20 : decode cX10_advance 20 = .ok (.aload_n 0, 1) := by decide +kernel
theorem dX10_advance_21 : decode cX10_advance 21 = .ok (.getfield 34, 3) := by decide +kernel
theorem dX10_advance_24 : decode cX10_advance 24 = .ok (.invokevirtual 78, 3) := by decide +kernel
theorem dX10_advance_27 : decode cX10_advance 27 = .ok (.bipush 32, 2) := by decide +kernel
theorem dX10_advance_29 : decode cX10_advance 29 = .ok (.if_icmp .ne 16, 3) := by decide +kernel
theorem dX10_advance_32 : decode cX10_advance 32 = .ok (.aload_n 0, 1) := by decide +kernel
theorem dX10_advance_33 : decode cX10_advance 33 = .ok (.dup, 1) := by decide +kernel
theorem dX10_advance_34 : decode cX10_advance 34 = .ok (.getfield 34, 3) := by decide +kernel
theorem dX10_advance_37 : decode cX10_advance 37 = .ok (.iconst 1, 1) := by decide +kernel
theorem dX10_advance_38 : decode cX10_advance 38 = .ok (.iadd, 1) := by decide +kernel
theorem dX10_advance_39 : decode cX10_advance 39 = .ok (.putfield 34, 3) := by decide +kernel
theorem dX10_advance_42 : decode cX10_advance 42 = .ok (.goto (-34), 3) := by decide +kernel
theorem dX10_isName_0 : decode cX10_isName 0 = .ok (.aload_n 0, 1) := by decide +kernel
theorem dX10_isName_1 : decode cX10_isName 1 = .ok (.getfield 31, 3) := by decide +kernel
theorem dX10_isName_4 : decode cX10_isName 4 = .ok (.bipush (-2), 2) := by decide +kernel
theorem dX10_isName_6 : decode cX10_isName 6 = .ok (.if_icmp .ne 19, 3) := by decide +kernel
theorem dX10_isName_25 : decode cX10_isName 25 = .ok (.iconst 0, 1) := by decide +kernel
theorem dX10_isName_26 : decode cX10_isName 26 = .ok (.ireturn, 1) := by decide +kernel
theorem dX10_isName_9 : decode cX10_isName 9 = .ok (.aload_n 0, 1) := by decide +kernel
theorem dX10_isName_10 : decode cX10_isName 10 = .ok (.getfield 37, 3) := by decide +kernel
theorem dX10_isName_13 : decode cX10_isName 13 = .ok (.aload_n 0, 1) := by decide +kernel
theorem dX10_isName_14 : decode cX10_isName 14 = .ok (.getfield 34, 3) := by decide +kernel
theorem dX10_isName_17 : decode cX10_isName 17 = .ok (.isub, 1) := by decide +kernel
theorem dX10_isName_18 : decode cX10_isName 18 = .ok (.aload_n 1, 1) := by decide +kernel
theorem dX10_isName_19 : decode cX10_isName 19 = .ok (.invokevirtual 93, 3) := by decide +kernel
theorem m_801 : Cond.code yJ0_length_8abf5 cJ0_length_8abf5 1 (some .int) ∈ BW := List.mem_of_getElem? (i := 801) (by decide +kernel)
theorem m_797 : Cond.methodLink RX10 93 yJ0_length_8abf5 ∈ BW := List.mem_of_getElem? (i := 797) (by decide +kernel)
theorem m_798 : Cond.instanceMethod yJ0_length_8abf5 ∈ BW := List.mem_of_getElem? (i := 798) (by decide +kernel)
theorem m_799 : Cond.selects RJ0 yJ0_length_8abf5 yJ0_length_8abf5 ∈ BW := List.mem_of_getElem? (i := 799) (by decide +kernel)
theorem si_X10_93 : SV RX10 RJ0 93 yJ0_length_8abf5 cJ0_length_8abf5 1 (some .int) 0 := ⟨⟨m_797, m_798, m_799, m_800, m_801⟩, rfl, by decide +kernel, by decide +kernel, by decide +kernel⟩
theorem dX10_isName_22 : decode cX10_isName 22 = .ok (.if_icmp .eq 5, 3) := by decide +kernel
theorem dX10_isName_27 : decode cX10_isName 27 = .ok (.iconst 0, 1) := by decide +kernel
theorem dX10_isName_28 : decode cX10_isName 28 = .ok (.istore_n 2, 1) := by decide +kernel
theorem dX10_isName_29 : decode cX10_isName 29 = .ok (.iload_n 2, 1) := by decide +kernel
theorem dX10_isName_30 : decode cX10_isName 30 = .ok (.aload_n 1, 1) := by decide +kernel
theorem dX10_isName_31 : decode cX10_isName 31 = .ok (.invokevirtual 93, 3) := by decide +kernel
theorem dX10_isName_34 : decode cX10_isName 34 = .ok (.if_icmp .ge 29, 3) := by decide +kernel
theorem dX10_isName_63 : decode cX10_isName 63 = .ok (.iconst 1, 1) := by decide +kernel
theorem dX10_isName_64 : decode cX10_isName 64 = .ok (.ireturn, 1) := by decide +kernel
theorem dX10_isName_37 : decode cX10_isName 37 = .ok (.aload_n 0, 1) := by decide +kernel
theorem dX10_isName_38 : decode cX10_isName 38 = .ok (.aload_n 0, 1) := by decide +kernel
theorem dX10_isName_39 : decode cX10_isName 39 = .ok (.getfield 34, 3) := by decide +kernel
theorem dX10_isName_42 : decode cX10_isName 42 = .ok (.iload_n 2, 1) := by decide +kernel
theorem dX10_isName_43 : decode cX10_isName 43 = .ok (.iadd, 1) := by decide +kernel
theorem dX10_isName_44 : decode cX10_isName 44 = .ok (.invokevirtual 78, 3) := by decide +kernel
theorem dX10_isName_47 : decode cX10_isName 47 = .ok (.aload_n 1, 1) := by decide +kernel
theorem dX10_isName_48 : decode cX10_isName 48 = .ok (.iload_n 2, 1) := by decide +kernel
theorem dX10_isName_49 : decode cX10_isName 49 = .ok (.invokevirtual 98, 3) := by decide +kernel
theorem m_812 : Cond.code yJ0_charAt_5068e cJ0_charAt_5068e 2 (some .char) ∈ BW := List.mem_of_getElem? (i := 812) (by decide +kernel)
theorem m_809 : Cond.methodLink RX10 98 yJ0_charAt_5068e ∈ BW := List.mem_of_getElem? (i := 809) (by decide +kernel)
theorem m_810 : Cond.instanceMethod yJ0_charAt_5068e ∈ BW := List.mem_of_getElem? (i := 810) (by decide +kernel)
theorem m_811 : Cond.selects RJ0 yJ0_charAt_5068e yJ0_charAt_5068e ∈ BW := List.mem_of_getElem? (i := 811) (by decide +kernel)
theorem si_X10_98 : SV RX10 RJ0 98 yJ0_charAt_5068e cJ0_charAt_5068e 2 (some .char) 1 := ⟨⟨m_809, m_810, m_811, m_800, m_812⟩, rfl, by decide +kernel, by decide +kernel, by decide +kernel⟩
theorem dX10_isName_52 : decode cX10_isName 52 = .ok (.if_icmp .eq 5, 3) := by decide +kernel
theorem dX10_isName_57 : decode cX10_isName 57 = .ok (.iinc 2 1, 3) := by decide +kernel
theorem dX10_isName_60 : decode cX10_isName 60 = .ok (.goto (-31), 3) := by decide +kernel
theorem dX10_isName_55 : decode cX10_isName 55 = .ok (.iconst 0, 1) := by decide +kernel
theorem dX10_isName_56 : decode cX10_isName 56 = .ok (.ireturn, 1) := by decide +kernel
theorem dX10_takesName_0 : decode cX10_takesName 0 = .ok (.aload_n 0, 1) := by decide +kernel
theorem dX10_takesName_1 : decode cX10_takesName 1 = .ok (.aload_n 1, 1) := by decide +kernel
theorem dX10_takesName_2 : decode cX10_takesName 2 = .ok (.invokevirtual 102, 3) := by decide +kernel
theorem m_796 : Cond.code yX10_isName cX10_isName 3 (some .boolean) ∈ BW := List.mem_of_getElem? (i := 796) (by decide +kernel)
theorem m_793 : Cond.methodLink RX10 102 yX10_isName ∈ BW := List.mem_of_getElem? (i := 793) (by decide +kernel)
theorem m_794 : Cond.instanceMethod yX10_isName ∈ BW := List.mem_of_getElem? (i := 794) (by decide +kernel)
theorem m_795 : Cond.selects RX10 yX10_isName yX10_isName ∈ BW := List.mem_of_getElem? (i := 795) (by decide +kernel)
theorem si_X10_102 : SV RX10 RX10 102 yX10_isName cX10_isName 3 (some .boolean) 1 := ⟨⟨m_793, m_794, m_795, m_37, m_796⟩, rfl, by decide +kernel, by decide +kernel, by decide +kernel⟩
theorem dX10_takesName_5 : decode cX10_takesName 5 = .ok (.ifCond .ne 8, 3) := by decide +kernel
theorem dX10_takesName_13 : decode cX10_takesName 13 = .ok (.aload_n 0, 1) := by decide +kernel
theorem dX10_takesName_14 : decode cX10_takesName 14 = .ok (.invokevirtual 47, 3) := by decide +kernel
theorem m_767 : Cond.code yX10_advance cX10_advance 1 none ∈ BW := List.mem_of_getElem? (i := 767) (by decide +kernel)
theorem m_764 : Cond.methodLink RX10 47 yX10_advance ∈ BW := List.mem_of_getElem? (i := 764) (by decide +kernel)
theorem m_765 : Cond.instanceMethod yX10_advance ∈ BW := List.mem_of_getElem? (i := 765) (by decide +kernel)
theorem m_766 : Cond.selects RX10 yX10_advance yX10_advance ∈ BW := List.mem_of_getElem? (i := 766) (by decide +kernel)
theorem si_X10_47 : SV RX10 RX10 47 yX10_advance cX10_advance 1 none 0 := ⟨⟨m_764, m_765, m_766, m_37, m_767⟩, rfl, by decide +kernel, by decide +kernel, by decide +kernel⟩
theorem dX10_takesName_17 : decode cX10_takesName 17 = .ok (.iconst 1, 1) := by decide +kernel
theorem dX10_takesName_18 : decode cX10_takesName 18 = .ok (.ireturn, 1) := by decide +kernel
theorem dX10_takesName_8 : decode cX10_takesName 8 = .ok (.aload_n 0, 1) := by decide +kernel
theorem dX10_takesName_9 : decode cX10_takesName 9 = .ok (.invokevirtual 106, 3) := by decide +kernel
theorem m_786 : Cond.code yX10_refuse cX10_refuse 1 (some .boolean) ∈ BW := List.mem_of_getElem? (i := 786) (by decide +kernel)
theorem m_783 : Cond.methodLink RX10 106 yX10_refuse ∈ BW := List.mem_of_getElem? (i := 783) (by decide +kernel)
theorem m_784 : Cond.instanceMethod yX10_refuse ∈ BW := List.mem_of_getElem? (i := 784) (by decide +kernel)
theorem m_785 : Cond.selects RX10 yX10_refuse yX10_refuse ∈ BW := List.mem_of_getElem? (i := 785) (by decide +kernel)
theorem si_X10_106 : SV RX10 RX10 106 yX10_refuse cX10_refuse 1 (some .boolean) 0 := ⟨⟨m_783, m_784, m_785, m_37, m_786⟩, rfl, by decide +kernel, by decide +kernel, by decide +kernel⟩
theorem dX10_takesName_12 : decode cX10_takesName 12 = .ok (.ireturn, 1) := by decide +kernel
theorem dX10_takesByte_0 : decode cX10_takesByte 0 = .ok (.aload_n 0, 1) := by decide +kernel
theorem dX10_takesByte_1 : decode cX10_takesByte 1 = .ok (.getfield 31, 3) := by decide +kernel
theorem dX10_takesByte_4 : decode cX10_takesByte 4 = .ok (.iload_n 1, 1) := by decide +kernel
theorem dX10_takesByte_5 : decode cX10_takesByte 5 = .ok (.if_icmp .eq 8, 3) := by decide +kernel
theorem dX10_takesByte_13 : decode cX10_takesByte 13 = .ok (.aload_n 0, 1) := by decide +kernel
theorem dX10_takesByte_14 : decode cX10_takesByte 14 = .ok (.invokevirtual 47, 3) := by decide +kernel
theorem dX10_takesByte_17 : decode cX10_takesByte 17 = .ok (.iconst 1, 1) := by decide +kernel
theorem dX10_takesByte_18 : decode cX10_takesByte 18 = .ok (.ireturn, 1) := by decide +kernel
theorem dX10_takesByte_8 : decode cX10_takesByte 8 = .ok (.aload_n 0, 1) := by decide +kernel
theorem dX10_takesByte_9 : decode cX10_takesByte 9 = .ok (.invokevirtual 106, 3) := by decide +kernel
theorem dX10_takesByte_12 : decode cX10_takesByte 12 = .ok (.ireturn, 1) := by decide +kernel
theorem dX10_numberHere_0 : decode cX10_numberHere 0 = .ok (.aload_n 0, 1) := by decide +kernel
theorem dX10_numberHere_1 : decode cX10_numberHere 1 = .ok (.getfield 31, 3) := by decide +kernel
theorem dX10_numberHere_4 : decode cX10_numberHere 4 = .ok (.bipush (-3), 2) := by decide +kernel
theorem dX10_numberHere_6 : decode cX10_numberHere 6 = .ok (.if_icmp .ne 16, 3) := by decide +kernel
theorem dX10_numberHere_22 : decode cX10_numberHere 22 = .ok (.iconst (-1), 1) := by decide +kernel
theorem dX10_numberHere_23 : decode cX10_numberHere 23 = .ok (.ireturn, 1) := by decide +kernel
theorem dX10_numberHere_9 : decode cX10_numberHere 9 = .ok (.aload_n 0, 1) := by decide +kernel
theorem dX10_numberHere_10 : decode cX10_numberHere 10 = .ok (.getfield 37, 3) := by decide +kernel
theorem dX10_numberHere_13 : decode cX10_numberHere 13 = .ok (.aload_n 0, 1) := by decide +kernel
theorem dX10_numberHere_14 : decode cX10_numberHere 14 = .ok (.getfield 34, 3) := by decide +kernel
theorem dX10_numberHere_17 : decode cX10_numberHere 17 = .ok (.isub, 1) := by decide +kernel
theorem dX10_numberHere_18 : decode cX10_numberHere 18 = .ok (.iconst 3, 1) := by decide +kernel
theorem dX10_numberHere_19 : decode cX10_numberHere 19 = .ok (.if_icmp .le 5, 3) := by decide +kernel
theorem dX10_numberHere_24 : decode cX10_numberHere 24 = .ok (.iconst 0, 1) := by decide +kernel
theorem dX10_numberHere_25 : decode cX10_numberHere 25 = .ok (.istore_n 1, 1) := by decide +kernel
theorem dX10_numberHere_26 : decode cX10_numberHere 26 = .ok (.aload_n 0, 1) := by decide +kernel
theorem dX10_numberHere_27 : decode cX10_numberHere 27 = .ok (.getfield 34, 3) := by decide +kernel
theorem dX10_numberHere_30 : decode cX10_numberHere 30 = .ok (.istore_n 2, 1) := by decide +kernel
theorem dX10_numberHere_31 : decode cX10_numberHere 31 = .ok (.iload_n 2, 1) := by decide +kernel
theorem dX10_numberHere_32 : decode cX10_numberHere 32 = .ok (.aload_n 0, 1) := by decide +kernel
theorem dX10_numberHere_33 : decode cX10_numberHere 33 = .ok (.getfield 37, 3) := by decide +kernel
theorem dX10_numberHere_36 : decode cX10_numberHere 36 = .ok (.if_icmp .ge 23, 3) := by decide +kernel
theorem dX10_numberHere_59 : decode cX10_numberHere 59 = .ok (.iload_n 1, 1) := by decide +kernel
theorem dX10_numberHere_60 : decode cX10_numberHere 60 = .ok (.ireturn, 1) := by decide +kernel
theorem dX10_numberHere_39 : decode cX10_numberHere 39 = .ok (.iload_n 1, 1) := by decide +kernel
theorem dX10_numberHere_40 : decode cX10_numberHere 40 = .ok (.bipush 10, 2) := by decide +kernel
theorem dX10_numberHere_42 : decode cX10_numberHere 42 = .ok (.imul, 1) := by decide +kernel
theorem dX10_numberHere_43 : decode cX10_numberHere 43 = .ok (.aload_n 0, 1) := by decide +kernel
theorem dX10_numberHere_44 : decode cX10_numberHere 44 = .ok (.iload_n 2, 1) := by decide +kernel
theorem dX10_numberHere_45 : decode cX10_numberHere 45 = .ok (.invokevirtual 78, 3) := by decide +kernel
theorem dX10_numberHere_48 : decode cX10_numberHere 48 = .ok (.iadd, 1) := by decide +kernel
theorem dX10_numberHere_49 : decode cX10_numberHere 49 = .ok (.bipush 48, 2) := by decide +kernel
theorem dX10_numberHere_51 : decode cX10_numberHere 51 = .ok (.isub, 1) := by decide +kernel
theorem dX10_numberHere_52 : decode cX10_numberHere 52 = .ok (.istore_n 1, 1) := by decide +kernel
theorem dX10_numberHere_53 : decode cX10_numberHere 53 = .ok (.iinc 2 1, 3) := by decide +kernel
theorem dX10_numberHere_56 : decode cX10_numberHere 56 = .ok (.goto (-25), 3) := by decide +kernel
theorem dX10_takesNumber_0 : decode cX10_takesNumber 0 = .ok (.aload_n 0, 1) := by decide +kernel
theorem dX10_takesNumber_1 : decode cX10_takesNumber 1 = .ok (.invokevirtual 109, 3) := by decide +kernel
theorem m_857 : Cond.code yX10_numberHere cX10_numberHere 3 (some .int) ∈ BW := List.mem_of_getElem? (i := 857) (by decide +kernel)
theorem m_854 : Cond.methodLink RX10 109 yX10_numberHere ∈ BW := List.mem_of_getElem? (i := 854) (by decide +kernel)
theorem m_855 : Cond.instanceMethod yX10_numberHere ∈ BW := List.mem_of_getElem? (i := 855) (by decide +kernel)
theorem m_856 : Cond.selects RX10 yX10_numberHere yX10_numberHere ∈ BW := List.mem_of_getElem? (i := 856) (by decide +kernel)
theorem si_X10_109 : SV RX10 RX10 109 yX10_numberHere cX10_numberHere 3 (some .int) 0 := ⟨⟨m_854, m_855, m_856, m_37, m_857⟩, rfl, by decide +kernel, by decide +kernel, by decide +kernel⟩
theorem dX10_takesNumber_4 : decode cX10_takesNumber 4 = .ok (.istore 4, 2) := by decide +kernel
theorem dX10_takesNumber_6 : decode cX10_takesNumber 6 = .ok (.iload 4, 2) := by decide +kernel
theorem dX10_takesNumber_8 : decode cX10_takesNumber 8 = .ok (.iconst 0, 1) := by decide +kernel
theorem dX10_takesNumber_9 : decode cX10_takesNumber 9 = .ok (.iload_n 3, 1) := by decide +kernel
theorem dX10_takesNumber_10 : decode cX10_takesNumber 10 = .ok (.invokestatic 89, 3) := by decide +kernel
theorem dX10_takesNumber_13 : decode cX10_takesNumber 13 = .ok (.ifCond .ne 8, 3) := by decide +kernel
theorem dX10_takesNumber_21 : decode cX10_takesNumber 21 = .ok (.aload_n 0, 1) := by decide +kernel
theorem dX10_takesNumber_22 : decode cX10_takesNumber 22 = .ok (.getfield 20, 3) := by decide +kernel
theorem m_141 : Cond.fieldLink RX10 20 "InquiryBench$Tape" "lines" "LInquiryBench$Table;" ∈ BW := List.mem_of_getElem? (i := 141) (by decide +kernel)
theorem gf_X10_20 (hC : CX p s m meth c y0 b0 mL0 rt0 args) (hy0 : y0.cls = RX10) (hK : KK G s) (hP : va_P G.1 vwCl ws H) (q0 : Nat) {fs : List Value} {v : Value} (he : ws[q0]? = some (a, .inr (10, fs))) (hv : fs[2]? = some v) (hdg : decode b0 pc = .ok (.getfield 20, 3)) (kk : W p l e R s m args below meth c H locs cells slots Q (F0 m (pc + 3) ls (v :: rest))) : W p l e R s m args below meth c H locs cells slots Q (F0 m pc ls (.ref a :: rest)) := by
  obtain ⟨hx, hb, hr, hml, hB, hown, hlocks, hnm⟩ := hC
  rw [hy0] at hown
  exact va_get (ci := 10) (C := RX10) (T := TX10) (N := 8) hx hb hB in_X10 hown hK.1 hP q0 he rfl 2 (by decide) (hB _ m_141) (fun _ h => h) hv hdg kk
theorem dX10_takesNumber_25 : decode cX10_takesNumber 25 = .ok (.iload_n 1, 1) := by decide +kernel
theorem dX10_takesNumber_26 : decode cX10_takesNumber 26 = .ok (.iload_n 2, 1) := by decide +kernel
theorem dX10_takesNumber_27 : decode cX10_takesNumber 27 = .ok (.iload 4, 2) := by decide +kernel
theorem dX10_takesNumber_29 : decode cX10_takesNumber 29 = .ok (.invokevirtual 66, 3) := by decide +kernel
theorem m_787 : Cond.methodLink RX10 66 yX8_set ∈ BW := List.mem_of_getElem? (i := 787) (by decide +kernel)
theorem si_X10_66 : SV RX10 RX8 66 yX8_set cX8_set 4 none 3 := ⟨⟨m_787, m_289, m_290, m_56, m_291⟩, rfl, by decide +kernel, by decide +kernel, by decide +kernel⟩
theorem dX10_takesNumber_32 : decode cX10_takesNumber 32 = .ok (.aload_n 0, 1) := by decide +kernel
theorem dX10_takesNumber_33 : decode cX10_takesNumber 33 = .ok (.invokevirtual 47, 3) := by decide +kernel
theorem dX10_takesNumber_36 : decode cX10_takesNumber 36 = .ok (.iconst 1, 1) := by decide +kernel
theorem dX10_takesNumber_37 : decode cX10_takesNumber 37 = .ok (.ireturn, 1) := by decide +kernel
theorem dX10_takesNumber_16 : decode cX10_takesNumber 16 = .ok (.aload_n 0, 1) := by decide +kernel
theorem dX10_takesNumber_17 : decode cX10_takesNumber 17 = .ok (.invokevirtual 106, 3) := by decide +kernel
theorem dX10_takesNumber_20 : decode cX10_takesNumber 20 = .ok (.ireturn, 1) := by decide +kernel
theorem dX10_addStep_0 : decode cX10_addStep 0 = .ok (.aload_n 0, 1) := by decide +kernel
theorem dX10_addStep_1 : decode cX10_addStep 1 = .ok (.getfield 24, 3) := by decide +kernel
theorem m_142 : Cond.fieldLink RX10 24 "InquiryBench$Tape" "steps" "LInquiryBench$Table;" ∈ BW := List.mem_of_getElem? (i := 142) (by decide +kernel)
theorem gf_X10_24 (hC : CX p s m meth c y0 b0 mL0 rt0 args) (hy0 : y0.cls = RX10) (hK : KK G s) (hP : va_P G.1 vwCl ws H) (q0 : Nat) {fs : List Value} {v : Value} (he : ws[q0]? = some (a, .inr (10, fs))) (hv : fs[3]? = some v) (hdg : decode b0 pc = .ok (.getfield 24, 3)) (kk : W p l e R s m args below meth c H locs cells slots Q (F0 m (pc + 3) ls (v :: rest))) : W p l e R s m args below meth c H locs cells slots Q (F0 m pc ls (.ref a :: rest)) := by
  obtain ⟨hx, hb, hr, hml, hB, hown, hlocks, hnm⟩ := hC
  rw [hy0] at hown
  exact va_get (ci := 10) (C := RX10) (T := TX10) (N := 8) hx hb hB in_X10 hown hK.1 hP q0 he rfl 3 (by decide) (hB _ m_142) (fun _ h => h) hv hdg kk
theorem dX10_addStep_4 : decode cX10_addStep 4 = .ok (.aload_n 0, 1) := by decide +kernel
theorem dX10_addStep_5 : decode cX10_addStep 5 = .ok (.getfield 24, 3) := by decide +kernel
theorem dX10_addStep_8 : decode cX10_addStep 8 = .ok (.invokevirtual 59, 3) := by decide +kernel
theorem m_782 : Cond.methodLink RX10 59 yX8_append ∈ BW := List.mem_of_getElem? (i := 782) (by decide +kernel)
theorem si_X10_59 : SV RX10 RX8 59 yX8_append cX8_append 1 (some .int) 0 := ⟨⟨m_782, m_285, m_286, m_56, m_287⟩, rfl, by decide +kernel, by decide +kernel, by decide +kernel⟩
theorem dX10_addStep_11 : decode cX10_addStep 11 = .ok (.iconst 0, 1) := by decide +kernel
theorem dX10_addStep_12 : decode cX10_addStep 12 = .ok (.iload_n 1, 1) := by decide +kernel
theorem dX10_addStep_13 : decode cX10_addStep 13 = .ok (.invokevirtual 66, 3) := by decide +kernel
theorem dX10_addStep_16 : decode cX10_addStep 16 = .ok (.return_, 1) := by decide +kernel
theorem dX10_factHere_0 : decode cX10_factHere 0 = .ok (.aload_n 0, 1) := by decide +kernel
theorem dX10_factHere_1 : decode cX10_factHere 1 = .ok (.ldc 171, 2) := by decide +kernel
theorem dX10_factHere_3 : decode cX10_factHere 3 = .ok (.invokevirtual 102, 3) := by decide +kernel
theorem dX10_factHere_6 : decode cX10_factHere 6 = .ok (.ifCond .eq 5, 3) := by decide +kernel
theorem dX10_factHere_9 : decode cX10_factHere 9 = .ok (.iconst 0, 1) := by decide +kernel
theorem dX10_factHere_10 : decode cX10_factHere 10 = .ok (.ireturn, 1) := by decide +kernel
theorem dX10_factHere_11 : decode cX10_factHere 11 = .ok (.aload_n 0, 1) := by decide +kernel
theorem dX10_factHere_12 : decode cX10_factHere 12 = .ok (.ldc 173, 2) := by decide +kernel
theorem dX10_factHere_14 : decode cX10_factHere 14 = .ok (.invokevirtual 102, 3) := by decide +kernel
theorem dX10_factHere_17 : decode cX10_factHere 17 = .ok (.ifCond .eq 5, 3) := by decide +kernel
theorem dX10_factHere_20 : decode cX10_factHere 20 = .ok (.iconst 1, 1) := by decide +kernel
theorem dX10_factHere_21 : decode cX10_factHere 21 = .ok (.ireturn, 1) := by decide +kernel
theorem dX10_factHere_22 : decode cX10_factHere 22 = .ok (.aload_n 0, 1) := by decide +kernel
theorem dX10_factHere_23 : decode cX10_factHere 23 = .ok (.ldc 175, 2) := by decide +kernel
theorem dX10_factHere_25 : decode cX10_factHere 25 = .ok (.invokevirtual 102, 3) := by decide +kernel
theorem dX10_factHere_28 : decode cX10_factHere 28 = .ok (.ifCond .eq 5, 3) := by decide +kernel
theorem dX10_factHere_31 : decode cX10_factHere 31 = .ok (.iconst 2, 1) := by decide +kernel
theorem dX10_factHere_32 : decode cX10_factHere 32 = .ok (.ireturn, 1) := by decide +kernel
theorem dX10_factHere_33 : decode cX10_factHere 33 = .ok (.aload_n 0, 1) := by decide +kernel
theorem dX10_factHere_34 : decode cX10_factHere 34 = .ok (.ldc 177, 2) := by decide +kernel
theorem dX10_factHere_36 : decode cX10_factHere 36 = .ok (.invokevirtual 102, 3) := by decide +kernel
theorem dX10_factHere_39 : decode cX10_factHere 39 = .ok (.ifCond .eq 5, 3) := by decide +kernel
theorem dX10_factHere_42 : decode cX10_factHere 42 = .ok (.iconst 3, 1) := by decide +kernel
theorem dX10_factHere_43 : decode cX10_factHere 43 = .ok (.ireturn, 1) := by decide +kernel
theorem dX10_factHere_44 : decode cX10_factHere 44 = .ok (.aload_n 0, 1) := by decide +kernel
theorem dX10_factHere_45 : decode cX10_factHere 45 = .ok (.ldc 179, 2) := by decide +kernel
theorem dX10_factHere_47 : decode cX10_factHere 47 = .ok (.invokevirtual 102, 3) := by decide +kernel
theorem dX10_factHere_50 : decode cX10_factHere 50 = .ok (.ifCond .eq 7, 3) := by decide +kernel
theorem dX10_factHere_53 : decode cX10_factHere 53 = .ok (.iconst 4, 1) := by decide +kernel
theorem dX10_factHere_54 : decode cX10_factHere 54 = .ok (.goto 4, 3) := by decide +kernel
theorem dX10_factHere_58 : decode cX10_factHere 58 = .ok (.ireturn, 1) := by decide +kernel
theorem dX10_factHere_57 : decode cX10_factHere 57 = .ok (.iconst (-1), 1) := by decide +kernel
theorem dX10_signHere_0 : decode cX10_signHere 0 = .ok (.aload_n 0, 1) := by decide +kernel
theorem dX10_signHere_1 : decode cX10_signHere 1 = .ok (.getfield 31, 3) := by decide +kernel
theorem dX10_signHere_4 : decode cX10_signHere 4 = .ok (.bipush 60, 2) := by decide +kernel
theorem dX10_signHere_6 : decode cX10_signHere 6 = .ok (.if_icmp .ne 5, 3) := by decide +kernel
theorem dX10_signHere_11 : decode cX10_signHere 11 = .ok (.aload_n 0, 1) := by decide +kernel
theorem dX10_signHere_12 : decode cX10_signHere 12 = .ok (.getfield 31, 3) := by decide +kernel
theorem dX10_signHere_15 : decode cX10_signHere 15 = .ok (.bipush 61, 2) := by decide +kernel
theorem dX10_signHere_17 : decode cX10_signHere 17 = .ok (.if_icmp .ne 5, 3) := by decide +kernel
theorem dX10_signHere_22 : decode cX10_signHere 22 = .ok (.aload_n 0, 1) := by decide +kernel
theorem dX10_signHere_23 : decode cX10_signHere 23 = .ok (.getfield 31, 3) := by decide +kernel
theorem dX10_signHere_26 : decode cX10_signHere 26 = .ok (.bipush 62, 2) := by decide +kernel
theorem dX10_signHere_28 : decode cX10_signHere 28 = .ok (.if_icmp .ne 7, 3) := by decide +kernel
theorem dX10_signHere_35 : decode cX10_signHere 35 = .ok (.iconst (-1), 1) := by decide +kernel
theorem dX10_signHere_36 : decode cX10_signHere 36 = .ok (.ireturn, 1) := by decide +kernel
theorem dX10_signHere_31 : decode cX10_signHere 31 = .ok (.iconst 2, 1) := by decide +kernel
theorem dX10_signHere_32 : decode cX10_signHere 32 = .ok (.goto 4, 3) := by decide +kernel
theorem dX10_signHere_20 : decode cX10_signHere 20 = .ok (.iconst 1, 1) := by decide +kernel
theorem dX10_signHere_21 : decode cX10_signHere 21 = .ok (.ireturn, 1) := by decide +kernel
theorem dX10_signHere_9 : decode cX10_signHere 9 = .ok (.iconst 0, 1) := by decide +kernel
theorem dX10_signHere_10 : decode cX10_signHere 10 = .ok (.ireturn, 1) := by decide +kernel
theorem dX10_sortHere_0 : decode cX10_sortHere 0 = .ok (.aload_n 0, 1) := by decide +kernel
theorem dX10_sortHere_1 : decode cX10_sortHere 1 = .ok (.ldc 127, 2) := by decide +kernel
theorem dX10_sortHere_3 : decode cX10_sortHere 3 = .ok (.invokevirtual 102, 3) := by decide +kernel
theorem dX10_sortHere_6 : decode cX10_sortHere 6 = .ok (.ifCond .eq 5, 3) := by decide +kernel
theorem dX10_sortHere_9 : decode cX10_sortHere 9 = .ok (.iconst 0, 1) := by decide +kernel
theorem dX10_sortHere_10 : decode cX10_sortHere 10 = .ok (.ireturn, 1) := by decide +kernel
theorem dX10_sortHere_11 : decode cX10_sortHere 11 = .ok (.aload_n 0, 1) := by decide +kernel
theorem dX10_sortHere_12 : decode cX10_sortHere 12 = .ok (.ldc 129, 2) := by decide +kernel
theorem dX10_sortHere_14 : decode cX10_sortHere 14 = .ok (.invokevirtual 102, 3) := by decide +kernel
theorem dX10_sortHere_17 : decode cX10_sortHere 17 = .ok (.ifCond .eq 5, 3) := by decide +kernel
theorem dX10_sortHere_20 : decode cX10_sortHere 20 = .ok (.iconst 1, 1) := by decide +kernel
theorem dX10_sortHere_21 : decode cX10_sortHere 21 = .ok (.ireturn, 1) := by decide +kernel
theorem dX10_sortHere_22 : decode cX10_sortHere 22 = .ok (.aload_n 0, 1) := by decide +kernel
theorem dX10_sortHere_23 : decode cX10_sortHere 23 = .ok (.ldc 131, 2) := by decide +kernel
theorem dX10_sortHere_25 : decode cX10_sortHere 25 = .ok (.invokevirtual 102, 3) := by decide +kernel
theorem dX10_sortHere_28 : decode cX10_sortHere 28 = .ok (.ifCond .eq 5, 3) := by decide +kernel
theorem dX10_sortHere_31 : decode cX10_sortHere 31 = .ok (.iconst 2, 1) := by decide +kernel
theorem dX10_sortHere_32 : decode cX10_sortHere 32 = .ok (.ireturn, 1) := by decide +kernel
theorem dX10_sortHere_33 : decode cX10_sortHere 33 = .ok (.aload_n 0, 1) := by decide +kernel
theorem dX10_sortHere_34 : decode cX10_sortHere 34 = .ok (.ldc 133, 2) := by decide +kernel
theorem dX10_sortHere_36 : decode cX10_sortHere 36 = .ok (.invokevirtual 102, 3) := by decide +kernel
theorem dX10_sortHere_39 : decode cX10_sortHere 39 = .ok (.ifCond .eq 7, 3) := by decide +kernel
theorem dX10_sortHere_42 : decode cX10_sortHere 42 = .ok (.iconst 3, 1) := by decide +kernel
theorem dX10_sortHere_43 : decode cX10_sortHere 43 = .ok (.goto 4, 3) := by decide +kernel
theorem dX10_sortHere_47 : decode cX10_sortHere 47 = .ok (.ireturn, 1) := by decide +kernel
theorem dX10_sortHere_46 : decode cX10_sortHere 46 = .ok (.iconst (-1), 1) := by decide +kernel
theorem dX10_takesComparison_0 : decode cX10_takesComparison 0 = .ok (.aload_n 0, 1) := by decide +kernel
theorem dX10_takesComparison_1 : decode cX10_takesComparison 1 = .ok (.invokevirtual 165, 3) := by decide +kernel
theorem m_885 : Cond.code yX10_factHere cX10_factHere 1 (some .int) ∈ BW := List.mem_of_getElem? (i := 885) (by decide +kernel)
theorem m_882 : Cond.methodLink RX10 165 yX10_factHere ∈ BW := List.mem_of_getElem? (i := 882) (by decide +kernel)
theorem m_883 : Cond.instanceMethod yX10_factHere ∈ BW := List.mem_of_getElem? (i := 883) (by decide +kernel)
theorem m_884 : Cond.selects RX10 yX10_factHere yX10_factHere ∈ BW := List.mem_of_getElem? (i := 884) (by decide +kernel)
theorem si_X10_165 : SV RX10 RX10 165 yX10_factHere cX10_factHere 1 (some .int) 0 := ⟨⟨m_882, m_883, m_884, m_37, m_885⟩, rfl, by decide +kernel, by decide +kernel, by decide +kernel⟩
theorem dX10_takesComparison_4 : decode cX10_takesComparison 4 = .ok (.istore_n 1, 1) := by decide +kernel
theorem dX10_takesComparison_5 : decode cX10_takesComparison 5 = .ok (.iload_n 1, 1) := by decide +kernel
theorem dX10_takesComparison_6 : decode cX10_takesComparison 6 = .ok (.ifCond .ge 8, 3) := by decide +kernel
theorem dX10_takesComparison_14 : decode cX10_takesComparison 14 = .ok (.aload_n 0, 1) := by decide +kernel
theorem dX10_takesComparison_15 : decode cX10_takesComparison 15 = .ok (.invokevirtual 47, 3) := by decide +kernel
theorem dX10_takesComparison_18 : decode cX10_takesComparison 18 = .ok (.aload_n 0, 1) := by decide +kernel
theorem dX10_takesComparison_19 : decode cX10_takesComparison 19 = .ok (.invokevirtual 168, 3) := by decide +kernel
theorem m_889 : Cond.code yX10_signHere cX10_signHere 1 (some .int) ∈ BW := List.mem_of_getElem? (i := 889) (by decide +kernel)
theorem m_886 : Cond.methodLink RX10 168 yX10_signHere ∈ BW := List.mem_of_getElem? (i := 886) (by decide +kernel)
theorem m_887 : Cond.instanceMethod yX10_signHere ∈ BW := List.mem_of_getElem? (i := 887) (by decide +kernel)
theorem m_888 : Cond.selects RX10 yX10_signHere yX10_signHere ∈ BW := List.mem_of_getElem? (i := 888) (by decide +kernel)
theorem si_X10_168 : SV RX10 RX10 168 yX10_signHere cX10_signHere 1 (some .int) 0 := ⟨⟨m_886, m_887, m_888, m_37, m_889⟩, rfl, by decide +kernel, by decide +kernel, by decide +kernel⟩
theorem dX10_takesComparison_22 : decode cX10_takesComparison 22 = .ok (.istore_n 2, 1) := by decide +kernel
theorem dX10_takesComparison_23 : decode cX10_takesComparison 23 = .ok (.iload_n 2, 1) := by decide +kernel
theorem dX10_takesComparison_24 : decode cX10_takesComparison 24 = .ok (.ifCond .ge 8, 3) := by decide +kernel
theorem dX10_takesComparison_32 : decode cX10_takesComparison 32 = .ok (.aload_n 0, 1) := by decide +kernel
theorem dX10_takesComparison_33 : decode cX10_takesComparison 33 = .ok (.invokevirtual 47, 3) := by decide +kernel
theorem dX10_takesComparison_36 : decode cX10_takesComparison 36 = .ok (.aload_n 0, 1) := by decide +kernel
theorem dX10_takesComparison_37 : decode cX10_takesComparison 37 = .ok (.invokevirtual 109, 3) := by decide +kernel
theorem dX10_takesComparison_40 : decode cX10_takesComparison 40 = .ok (.istore_n 3, 1) := by decide +kernel
theorem dX10_takesComparison_41 : decode cX10_takesComparison 41 = .ok (.iload_n 3, 1) := by decide +kernel
theorem dX10_takesComparison_42 : decode cX10_takesComparison 42 = .ok (.ifCond .ge 8, 3) := by decide +kernel
theorem dX10_takesComparison_50 : decode cX10_takesComparison 50 = .ok (.aload_n 0, 1) := by decide +kernel
theorem dX10_takesComparison_51 : decode cX10_takesComparison 51 = .ok (.invokevirtual 47, 3) := by decide +kernel
theorem dX10_takesComparison_54 : decode cX10_takesComparison 54 = .ok (.aload_n 0, 1) := by decide +kernel
theorem dX10_takesComparison_55 : decode cX10_takesComparison 55 = .ok (.iload_n 1, 1) := by decide +kernel
theorem dX10_takesComparison_56 : decode cX10_takesComparison 56 = .ok (.iconst 3, 1) := by decide +kernel
theorem dX10_takesComparison_57 : decode cX10_takesComparison 57 = .ok (.imul, 1) := by decide +kernel
theorem dX10_takesComparison_58 : decode cX10_takesComparison 58 = .ok (.iload_n 2, 1) := by decide +kernel
theorem dX10_takesComparison_59 : decode cX10_takesComparison 59 = .ok (.iadd, 1) := by decide +kernel
theorem dX10_takesComparison_60 : decode cX10_takesComparison 60 = .ok (.sipush 1000, 3) := by decide +kernel
theorem dX10_takesComparison_63 : decode cX10_takesComparison 63 = .ok (.imul, 1) := by decide +kernel
theorem dX10_takesComparison_64 : decode cX10_takesComparison 64 = .ok (.iload_n 3, 1) := by decide +kernel
theorem dX10_takesComparison_65 : decode cX10_takesComparison 65 = .ok (.iadd, 1) := by decide +kernel
theorem dX10_takesComparison_66 : decode cX10_takesComparison 66 = .ok (.invokevirtual 152, 3) := by decide +kernel
theorem m_872 : Cond.code yX10_addStep cX10_addStep 2 none ∈ BW := List.mem_of_getElem? (i := 872) (by decide +kernel)
theorem m_869 : Cond.methodLink RX10 152 yX10_addStep ∈ BW := List.mem_of_getElem? (i := 869) (by decide +kernel)
theorem m_870 : Cond.instanceMethod yX10_addStep ∈ BW := List.mem_of_getElem? (i := 870) (by decide +kernel)
theorem m_871 : Cond.selects RX10 yX10_addStep yX10_addStep ∈ BW := List.mem_of_getElem? (i := 871) (by decide +kernel)
theorem si_X10_152 : SV RX10 RX10 152 yX10_addStep cX10_addStep 2 none 1 := ⟨⟨m_869, m_870, m_871, m_37, m_872⟩, rfl, by decide +kernel, by decide +kernel, by decide +kernel⟩
theorem dX10_takesComparison_69 : decode cX10_takesComparison 69 = .ok (.iconst 1, 1) := by decide +kernel
theorem dX10_takesComparison_70 : decode cX10_takesComparison 70 = .ok (.ireturn, 1) := by decide +kernel
theorem dX10_takesComparison_45 : decode cX10_takesComparison 45 = .ok (.aload_n 0, 1) := by decide +kernel
theorem dX10_takesComparison_46 : decode cX10_takesComparison 46 = .ok (.invokevirtual 106, 3) := by decide +kernel
theorem dX10_takesComparison_49 : decode cX10_takesComparison 49 = .ok (.ireturn, 1) := by decide +kernel
theorem dX10_takesComparison_27 : decode cX10_takesComparison 27 = .ok (.aload_n 0, 1) := by decide +kernel
theorem dX10_takesComparison_28 : decode cX10_takesComparison 28 = .ok (.invokevirtual 106, 3) := by decide +kernel
theorem dX10_takesComparison_31 : decode cX10_takesComparison 31 = .ok (.ireturn, 1) := by decide +kernel
theorem dX10_takesComparison_9 : decode cX10_takesComparison 9 = .ok (.aload_n 0, 1) := by decide +kernel
theorem dX10_takesComparison_10 : decode cX10_takesComparison 10 = .ok (.invokevirtual 106, 3) := by decide +kernel
theorem dX10_takesComparison_13 : decode cX10_takesComparison 13 = .ok (.ireturn, 1) := by decide +kernel
theorem dX10_takesOne_0 : decode cX10_takesOne 0 = .ok (.iconst 0, 1) := by decide +kernel
theorem dX10_takesOne_1 : decode cX10_takesOne 1 = .ok (.istore_n 2, 1) := by decide +kernel
theorem dX10_takesOne_2 : decode cX10_takesOne 2 = .ok (.iconst 0, 1) := by decide +kernel
theorem dX10_takesOne_3 : decode cX10_takesOne 3 = .ok (.istore_n 3, 1) := by decide +kernel
theorem dX10_takesOne_4 : decode cX10_takesOne 4 = .ok (.iload_n 3, 1) := by decide +kernel
theorem dX10_takesOne_5 : decode cX10_takesOne 5 = .ok (.sipush 240, 3) := by decide +kernel
theorem dX10_takesOne_8 : decode cX10_takesOne 8 = .ok (.if_icmp .ge 32, 3) := by decide +kernel
theorem dX10_takesOne_40 : decode cX10_takesOne 40 = .ok (.aload_n 0, 1) := by decide +kernel
theorem dX10_takesOne_41 : decode cX10_takesOne 41 = .ok (.getfield 31, 3) := by decide +kernel
theorem dX10_takesOne_44 : decode cX10_takesOne 44 = .ok (.bipush 40, 2) := by decide +kernel
theorem dX10_takesOne_46 : decode cX10_takesOne 46 = .ok (.if_icmp .eq 12, 3) := by decide +kernel
theorem dX10_takesOne_58 : decode cX10_takesOne 58 = .ok (.iload_n 1, 1) := by decide +kernel
theorem dX10_takesOne_59 : decode cX10_takesOne 59 = .ok (.iconst 4, 1) := by decide +kernel
theorem dX10_takesOne_60 : decode cX10_takesOne 60 = .ok (.if_icmp .lt 8, 3) := by decide +kernel
theorem dX10_takesOne_63 : decode cX10_takesOne 63 = .ok (.aload_n 0, 1) := by decide +kernel
theorem dX10_takesOne_64 : decode cX10_takesOne 64 = .ok (.invokevirtual 106, 3) := by decide +kernel
theorem dX10_takesOne_67 : decode cX10_takesOne 67 = .ok (.ireturn, 1) := by decide +kernel
theorem dX10_takesOne_49 : decode cX10_takesOne 49 = .ok (.aload_n 0, 1) := by decide +kernel
theorem dX10_takesOne_50 : decode cX10_takesOne 50 = .ok (.invokevirtual 162, 3) := by decide +kernel
theorem m_881 : Cond.code yX10_takesComparison cX10_takesComparison 4 (some .boolean) ∈ BW := List.mem_of_getElem? (i := 881) (by decide +kernel)
theorem m_878 : Cond.methodLink RX10 162 yX10_takesComparison ∈ BW := List.mem_of_getElem? (i := 878) (by decide +kernel)
theorem m_879 : Cond.instanceMethod yX10_takesComparison ∈ BW := List.mem_of_getElem? (i := 879) (by decide +kernel)
theorem m_880 : Cond.selects RX10 yX10_takesComparison yX10_takesComparison ∈ BW := List.mem_of_getElem? (i := 880) (by decide +kernel)
theorem si_X10_162 : SV RX10 RX10 162 yX10_takesComparison cX10_takesComparison 4 (some .boolean) 0 := ⟨⟨m_878, m_879, m_880, m_37, m_881⟩, rfl, by decide +kernel, by decide +kernel, by decide +kernel⟩
theorem dX10_takesOne_53 : decode cX10_takesOne 53 = .ok (.ifCond .ne 40, 3) := by decide +kernel
theorem dX10_takesOne_93 : decode cX10_takesOne 93 = .ok (.iload_n 2, 1) := by decide +kernel
theorem dX10_takesOne_94 : decode cX10_takesOne 94 = .ok (.ifCond .eq 8, 3) := by decide +kernel
theorem dX10_takesOne_102 : decode cX10_takesOne 102 = .ok (.iconst 1, 1) := by decide +kernel
theorem dX10_takesOne_103 : decode cX10_takesOne 103 = .ok (.ireturn, 1) := by decide +kernel
theorem dX10_takesOne_97 : decode cX10_takesOne 97 = .ok (.aload_n 0, 1) := by decide +kernel
theorem dX10_takesOne_98 : decode cX10_takesOne 98 = .ok (.iconst (-1), 1) := by decide +kernel
theorem dX10_takesOne_99 : decode cX10_takesOne 99 = .ok (.invokevirtual 152, 3) := by decide +kernel
theorem dX10_takesOne_56 : decode cX10_takesOne 56 = .ok (.iconst 0, 1) := by decide +kernel
theorem dX10_takesOne_57 : decode cX10_takesOne 57 = .ok (.ireturn, 1) := by decide +kernel
theorem dX10_takesOne_11 : decode cX10_takesOne 11 = .ok (.aload_n 0, 1) := by decide +kernel
theorem dX10_takesOne_12 : decode cX10_takesOne 12 = .ok (.ldc 160, 2) := by decide +kernel
theorem dX10_takesOne_14 : decode cX10_takesOne 14 = .ok (.invokevirtual 102, 3) := by decide +kernel
theorem dX10_takesOne_17 : decode cX10_takesOne 17 = .ok (.ifCond .eq 23, 3) := by decide +kernel
theorem dX10_takesOne_20 : decode cX10_takesOne 20 = .ok (.aload_n 0, 1) := by decide +kernel
theorem dX10_takesOne_21 : decode cX10_takesOne 21 = .ok (.invokevirtual 47, 3) := by decide +kernel
theorem dX10_takesOne_24 : decode cX10_takesOne 24 = .ok (.iload_n 2, 1) := by decide +kernel
theorem dX10_takesOne_25 : decode cX10_takesOne 25 = .ok (.ifCond .ne 7, 3) := by decide +kernel
theorem dX10_takesOne_32 : decode cX10_takesOne 32 = .ok (.iconst 0, 1) := by decide +kernel
theorem dX10_takesOne_33 : decode cX10_takesOne 33 = .ok (.istore_n 2, 1) := by decide +kernel
theorem dX10_takesOne_34 : decode cX10_takesOne 34 = .ok (.iinc 3 1, 3) := by decide +kernel
theorem dX10_takesOne_37 : decode cX10_takesOne 37 = .ok (.goto (-33), 3) := by decide +kernel
theorem dX10_takesOne_28 : decode cX10_takesOne 28 = .ok (.iconst 1, 1) := by decide +kernel
theorem dX10_takesOne_29 : decode cX10_takesOne 29 = .ok (.goto 4, 3) := by decide +kernel
theorem dX10_takesAll_0 : decode cX10_takesAll 0 = .ok (.aload_n 0, 1) := by decide +kernel
theorem dX10_takesAll_1 : decode cX10_takesAll 1 = .ok (.iload_n 1, 1) := by decide +kernel
theorem dX10_takesAll_2 : decode cX10_takesAll 2 = .ok (.invokevirtual 155, 3) := by decide +kernel
theorem m_877 : Cond.code yX10_takesOne cX10_takesOne 4 (some .boolean) ∈ BW := List.mem_of_getElem? (i := 877) (by decide +kernel)
theorem m_874 : Cond.methodLink RX10 155 yX10_takesOne ∈ BW := List.mem_of_getElem? (i := 874) (by decide +kernel)
theorem m_875 : Cond.instanceMethod yX10_takesOne ∈ BW := List.mem_of_getElem? (i := 875) (by decide +kernel)
theorem m_876 : Cond.selects RX10 yX10_takesOne yX10_takesOne ∈ BW := List.mem_of_getElem? (i := 876) (by decide +kernel)
theorem si_X10_155 : SV RX10 RX10 155 yX10_takesOne cX10_takesOne 4 (some .boolean) 1 := ⟨⟨m_874, m_875, m_876, m_37, m_877⟩, rfl, by decide +kernel, by decide +kernel, by decide +kernel⟩
theorem dX10_takesAll_5 : decode cX10_takesAll 5 = .ok (.ifCond .ne 5, 3) := by decide +kernel
theorem dX10_takesAll_10 : decode cX10_takesAll 10 = .ok (.iconst 0, 1) := by decide +kernel
theorem dX10_takesAll_11 : decode cX10_takesAll 11 = .ok (.istore_n 2, 1) := by decide +kernel
theorem dX10_takesAll_12 : decode cX10_takesAll 12 = .ok (.iload_n 2, 1) := by decide +kernel
theorem dX10_takesAll_13 : decode cX10_takesAll 13 = .ok (.sipush 240, 3) := by decide +kernel
theorem dX10_takesAll_16 : decode cX10_takesAll 16 = .ok (.if_icmp .ge 38, 3) := by decide +kernel
theorem dX10_takesAll_54 : decode cX10_takesAll 54 = .ok (.iconst 1, 1) := by decide +kernel
theorem dX10_takesAll_55 : decode cX10_takesAll 55 = .ok (.ireturn, 1) := by decide +kernel
theorem dX10_takesAll_19 : decode cX10_takesAll 19 = .ok (.aload_n 0, 1) := by decide +kernel
theorem dX10_takesAll_20 : decode cX10_takesAll 20 = .ok (.ldc 158, 2) := by decide +kernel
theorem dX10_takesAll_22 : decode cX10_takesAll 22 = .ok (.invokevirtual 102, 3) := by decide +kernel
theorem dX10_takesAll_25 : decode cX10_takesAll 25 = .ok (.ifCond .eq 29, 3) := by decide +kernel
theorem dX10_takesAll_28 : decode cX10_takesAll 28 = .ok (.aload_n 0, 1) := by decide +kernel
theorem dX10_takesAll_29 : decode cX10_takesAll 29 = .ok (.invokevirtual 47, 3) := by decide +kernel
theorem dX10_takesAll_32 : decode cX10_takesAll 32 = .ok (.aload_n 0, 1) := by decide +kernel
theorem dX10_takesAll_33 : decode cX10_takesAll 33 = .ok (.iload_n 1, 1) := by decide +kernel
theorem dX10_takesAll_34 : decode cX10_takesAll 34 = .ok (.invokevirtual 155, 3) := by decide +kernel
theorem dX10_takesAll_37 : decode cX10_takesAll 37 = .ok (.ifCond .ne 5, 3) := by decide +kernel
theorem dX10_takesAll_42 : decode cX10_takesAll 42 = .ok (.aload_n 0, 1) := by decide +kernel
theorem dX10_takesAll_43 : decode cX10_takesAll 43 = .ok (.bipush (-2), 2) := by decide +kernel
theorem dX10_takesAll_45 : decode cX10_takesAll 45 = .ok (.invokevirtual 152, 3) := by decide +kernel
theorem dX10_takesAll_48 : decode cX10_takesAll 48 = .ok (.iinc 2 1, 3) := by decide +kernel
theorem dX10_takesAll_51 : decode cX10_takesAll 51 = .ok (.goto (-39), 3) := by decide +kernel
theorem dX10_takesAll_40 : decode cX10_takesAll 40 = .ok (.iconst 0, 1) := by decide +kernel
theorem dX10_takesAll_41 : decode cX10_takesAll 41 = .ok (.ireturn, 1) := by decide +kernel
theorem dX10_takesAll_8 : decode cX10_takesAll 8 = .ok (.iconst 0, 1) := by decide +kernel
theorem dX10_takesAll_9 : decode cX10_takesAll 9 = .ok (.ireturn, 1) := by decide +kernel
theorem dX10_takesCond_0 : decode cX10_takesCond 0 = .ok (.aload_n 0, 1) := by decide +kernel
theorem dX10_takesCond_1 : decode cX10_takesCond 1 = .ok (.iload_n 1, 1) := by decide +kernel
theorem dX10_takesCond_2 : decode cX10_takesCond 2 = .ok (.invokevirtual 147, 3) := by decide +kernel
theorem m_873 : Cond.code yX10_takesAll cX10_takesAll 3 (some .boolean) ∈ BW := List.mem_of_getElem? (i := 873) (by decide +kernel)
theorem m_866 : Cond.methodLink RX10 147 yX10_takesAll ∈ BW := List.mem_of_getElem? (i := 866) (by decide +kernel)
theorem m_867 : Cond.instanceMethod yX10_takesAll ∈ BW := List.mem_of_getElem? (i := 867) (by decide +kernel)
theorem m_868 : Cond.selects RX10 yX10_takesAll yX10_takesAll ∈ BW := List.mem_of_getElem? (i := 868) (by decide +kernel)
theorem si_X10_147 : SV RX10 RX10 147 yX10_takesAll cX10_takesAll 3 (some .boolean) 1 := ⟨⟨m_866, m_867, m_868, m_37, m_873⟩, rfl, by decide +kernel, by decide +kernel, by decide +kernel⟩
theorem dX10_takesCond_5 : decode cX10_takesCond 5 = .ok (.ifCond .ne 5, 3) := by decide +kernel
theorem dX10_takesCond_10 : decode cX10_takesCond 10 = .ok (.iconst 0, 1) := by decide +kernel
theorem dX10_takesCond_11 : decode cX10_takesCond 11 = .ok (.istore_n 2, 1) := by decide +kernel
theorem dX10_takesCond_12 : decode cX10_takesCond 12 = .ok (.iload_n 2, 1) := by decide +kernel
theorem dX10_takesCond_13 : decode cX10_takesCond 13 = .ok (.sipush 240, 3) := by decide +kernel
theorem dX10_takesCond_16 : decode cX10_takesCond 16 = .ok (.if_icmp .ge 38, 3) := by decide +kernel
theorem dX10_takesCond_54 : decode cX10_takesCond 54 = .ok (.iconst 1, 1) := by decide +kernel
theorem dX10_takesCond_55 : decode cX10_takesCond 55 = .ok (.ireturn, 1) := by decide +kernel
theorem dX10_takesCond_19 : decode cX10_takesCond 19 = .ok (.aload_n 0, 1) := by decide +kernel
theorem dX10_takesCond_20 : decode cX10_takesCond 20 = .ok (.ldc 150, 2) := by decide +kernel
theorem dX10_takesCond_22 : decode cX10_takesCond 22 = .ok (.invokevirtual 102, 3) := by decide +kernel
theorem dX10_takesCond_25 : decode cX10_takesCond 25 = .ok (.ifCond .eq 29, 3) := by decide +kernel
theorem dX10_takesCond_28 : decode cX10_takesCond 28 = .ok (.aload_n 0, 1) := by decide +kernel
theorem dX10_takesCond_29 : decode cX10_takesCond 29 = .ok (.invokevirtual 47, 3) := by decide +kernel
theorem dX10_takesCond_32 : decode cX10_takesCond 32 = .ok (.aload_n 0, 1) := by decide +kernel
theorem dX10_takesCond_33 : decode cX10_takesCond 33 = .ok (.iload_n 1, 1) := by decide +kernel
theorem dX10_takesCond_34 : decode cX10_takesCond 34 = .ok (.invokevirtual 147, 3) := by decide +kernel
theorem dX10_takesCond_37 : decode cX10_takesCond 37 = .ok (.ifCond .ne 5, 3) := by decide +kernel
theorem dX10_takesCond_42 : decode cX10_takesCond 42 = .ok (.aload_n 0, 1) := by decide +kernel
theorem dX10_takesCond_43 : decode cX10_takesCond 43 = .ok (.bipush (-3), 2) := by decide +kernel
theorem dX10_takesCond_45 : decode cX10_takesCond 45 = .ok (.invokevirtual 152, 3) := by decide +kernel
theorem dX10_takesCond_48 : decode cX10_takesCond 48 = .ok (.iinc 2 1, 3) := by decide +kernel
theorem dX10_takesCond_51 : decode cX10_takesCond 51 = .ok (.goto (-39), 3) := by decide +kernel
theorem dX10_takesCond_40 : decode cX10_takesCond 40 = .ok (.iconst 0, 1) := by decide +kernel
theorem dX10_takesCond_41 : decode cX10_takesCond 41 = .ok (.ireturn, 1) := by decide +kernel
theorem dX10_takesCond_8 : decode cX10_takesCond 8 = .ok (.iconst 0, 1) := by decide +kernel
theorem dX10_takesCond_9 : decode cX10_takesCond 9 = .ok (.ireturn, 1) := by decide +kernel
theorem dX10_takesOne_68 : decode cX10_takesOne 68 = .ok (.aload_n 0, 1) := by decide +kernel
theorem dX10_takesOne_69 : decode cX10_takesOne 69 = .ok (.invokevirtual 47, 3) := by decide +kernel
theorem dX10_takesOne_72 : decode cX10_takesOne 72 = .ok (.aload_n 0, 1) := by decide +kernel
theorem dX10_takesOne_73 : decode cX10_takesOne 73 = .ok (.iload_n 1, 1) := by decide +kernel
theorem dX10_takesOne_74 : decode cX10_takesOne 74 = .ok (.iconst 1, 1) := by decide +kernel
theorem dX10_takesOne_75 : decode cX10_takesOne 75 = .ok (.iadd, 1) := by decide +kernel
theorem dX10_takesOne_76 : decode cX10_takesOne 76 = .ok (.invokevirtual 121, 3) := by decide +kernel
theorem m_865 : Cond.code yX10_takesCond cX10_takesCond 3 (some .boolean) ∈ BW := List.mem_of_getElem? (i := 865) (by decide +kernel)
theorem m_862 : Cond.methodLink RX10 121 yX10_takesCond ∈ BW := List.mem_of_getElem? (i := 862) (by decide +kernel)
theorem m_863 : Cond.instanceMethod yX10_takesCond ∈ BW := List.mem_of_getElem? (i := 863) (by decide +kernel)
theorem m_864 : Cond.selects RX10 yX10_takesCond yX10_takesCond ∈ BW := List.mem_of_getElem? (i := 864) (by decide +kernel)
theorem si_X10_121 : SV RX10 RX10 121 yX10_takesCond cX10_takesCond 3 (some .boolean) 1 := ⟨⟨m_862, m_863, m_864, m_37, m_865⟩, rfl, by decide +kernel, by decide +kernel, by decide +kernel⟩
theorem dX10_takesOne_79 : decode cX10_takesOne 79 = .ok (.ifCond .eq 12, 3) := by decide +kernel
theorem dX10_takesOne_82 : decode cX10_takesOne 82 = .ok (.aload_n 0, 1) := by decide +kernel
theorem dX10_takesOne_83 : decode cX10_takesOne 83 = .ok (.bipush 41, 2) := by decide +kernel
theorem dX10_takesOne_85 : decode cX10_takesOne 85 = .ok (.invokevirtual 124, 3) := by decide +kernel
theorem m_893 : Cond.code yX10_takesByte cX10_takesByte 2 (some .boolean) ∈ BW := List.mem_of_getElem? (i := 893) (by decide +kernel)
theorem m_890 : Cond.methodLink RX10 124 yX10_takesByte ∈ BW := List.mem_of_getElem? (i := 890) (by decide +kernel)
theorem m_891 : Cond.instanceMethod yX10_takesByte ∈ BW := List.mem_of_getElem? (i := 891) (by decide +kernel)
theorem m_892 : Cond.selects RX10 yX10_takesByte yX10_takesByte ∈ BW := List.mem_of_getElem? (i := 892) (by decide +kernel)
theorem si_X10_124 : SV RX10 RX10 124 yX10_takesByte cX10_takesByte 2 (some .boolean) 1 := ⟨⟨m_890, m_891, m_892, m_37, m_893⟩, rfl, by decide +kernel, by decide +kernel, by decide +kernel⟩
theorem dX10_takesOne_88 : decode cX10_takesOne 88 = .ok (.ifCond .ne 5, 3) := by decide +kernel
theorem dX10_takesOne_91 : decode cX10_takesOne 91 = .ok (.iconst 0, 1) := by decide +kernel
theorem dX10_takesOne_92 : decode cX10_takesOne 92 = .ok (.ireturn, 1) := by decide +kernel
end WR
set_option maxHeartbeats 4000000 in
set_option maxRecDepth 100000 in
theorem t_byteAt (l : Launch) (G : GG) (h0 : Nat) (ix : Int32) (tby : Nat) (kt : Nat) (tln : Nat) (tsp : Nat) (tkd : Int32) (ts9 : Int32) (tn9 : Int32) (tf9 : Int32) (fby : Nat → Int32) : MP l G yX10_byteAt cX10_byteAt 2 (some .int) 1 [.ref h0, .int ix] [(h0, .inr (10, [.ref tby, .int (nI kt), .ref tln, .ref tsp, .int tkd, .int ts9, .int tn9, .int tf9])), (tby, .inl (G.2.1, 240, .inl fby))] (fun r : Int32 => True) := by
  refine MP.start (by decide +kernel) (Nat.le_of_ble_eq_true rfl) ?_
  intro p e s m below meth c ls hC hK hP hD hl
  have hl : lv_has ls 2 [(0, .ref h0), (1, .int ix)] := hl
  obtain ⟨hx, hb, hr, hml, hB, hown, hlocks, hnm⟩ := id hC
  refine lv_iload_n hx hb dX10_byteAt_0 rfl (lv_at hl 1 rfl) ?_
  refine lv_if_lt (tgt := 30) hx hb dX10_byteAt_1 (by decide) (fun c_1_2570 => ?_) (fun c_1_2570 => ?_)
  · refine lv_iconst (v := (-1)) hx hb dX10_byteAt_30 (by decide) ?_
    exact RP (v := (-1)) hC (trivial) rfl dX10_byteAt_31
  · refine lv_iload_n hx hb dX10_byteAt_4 rfl (lv_at hl 1 rfl) ?_
    refine lv_aload_n hx hb dX10_byteAt_5 rfl (lv_at hl 0 rfl) ?_
    refine gf_X10_27 hC rfl hK hP 0 rfl rfl dX10_byteAt_6 ?_
    refine lv_icmp_ge (tgt := 30) hx hb dX10_byteAt_9 (by decide) (fun c_9_2571 => ?_) (fun c_9_2571 => ?_)
    · refine lv_iconst (v := (-1)) hx hb dX10_byteAt_30 (by decide) ?_
      exact RP (v := (-1)) hC (trivial) rfl dX10_byteAt_31
    · refine lv_iload_n hx hb dX10_byteAt_12 rfl (lv_at hl 1 rfl) ?_
      refine lv_aload_n hx hb dX10_byteAt_13 rfl (lv_at hl 0 rfl) ?_
      refine gf_X10_9 hC rfl hK hP 0 rfl rfl dX10_byteAt_14 ?_
      refine va_alen (v := 240) hx hb hK.1 hP 1 0 rfl rfl (show Int32.ofNat 240 = 240 by decide) dX10_byteAt_17 ?_
      refine lv_icmp_ge (tgt := 30) hx hb dX10_byteAt_18 (by decide) (fun c_18_2572 => ?_) (fun c_18_2572 => ?_)
      · refine lv_iconst (v := (-1)) hx hb dX10_byteAt_30 (by decide) ?_
        exact RP (v := (-1)) hC (trivial) rfl dX10_byteAt_31
      · refine lv_aload_n hx hb dX10_byteAt_21 rfl (lv_at hl 0 rfl) ?_
        obtain ⟨ji, hji, rfl⟩ := ltN (N := 240) (by decide) c_1_2570 c_18_2572
        refine gf_X10_9 hC rfl hK hP 0 rfl rfl dX10_byteAt_22 ?_
        refine lv_iload_n hx hb dX10_byteAt_25 rfl (lv_at hl 1 rfl) ?_
        refine ald hC hK hP 1 rfl (vp_in_nI (by omega) (by omega)) (k := ji) (nI_clamp (by omega)) (v := fby ji) rfl dX10_byteAt_26 ?_
        refine lv_topi (fun x2573 ex2573 => ?_)
        refine lv_goto (tgt := 31) hx hb dX10_byteAt_27 (by decide) ?_
        exact RP (v := x2573) hC (trivial) rfl dX10_byteAt_31
set_option maxHeartbeats 4000000 in
set_option maxRecDepth 100000 in
theorem t_byteAtN (l : Launch) (G : GG) (h0 : Nat) (j9 : Nat) (tby : Nat) (kt : Nat) (tln : Nat) (tsp : Nat) (tkd : Int32) (ts9 : Int32) (tn9 : Int32) (tf9 : Int32) (fby : Nat → Int32) (hj9 : j9 < 2 ^ 31) : MP l G yX10_byteAt cX10_byteAt 2 (some .int) 1 [.ref h0, .int (nI j9)] [(h0, .inr (10, [.ref tby, .int (nI kt), .ref tln, .ref tsp, .int tkd, .int ts9, .int tn9, .int tf9])), (tby, .inl (G.2.1, 240, .inl fby))] (fun r : Int32 => r = (-1) ∨ (r = (fby j9) ∧ j9 < 240)) := by
  refine MP.start (by decide +kernel) (Nat.le_of_ble_eq_true rfl) ?_
  intro p e s m below meth c ls hC hK hP hD hl
  have hl : lv_has ls 2 [(0, .ref h0), (1, .int (nI j9))] := hl
  obtain ⟨hx, hb, hr, hml, hB, hown, hlocks, hnm⟩ := id hC
  refine lv_iload_n hx hb dX10_byteAt_0 rfl (lv_at hl 1 rfl) ?_
  refine lv_if_lt (tgt := 30) hx hb dX10_byteAt_1 (by decide) (fun c9 => absurd c9 (nI_pos (by omega))) (fun _ => ?_)
  refine lv_iload_n hx hb dX10_byteAt_4 rfl (lv_at hl 1 rfl) ?_
  refine lv_aload_n hx hb dX10_byteAt_5 rfl (lv_at hl 0 rfl) ?_
  refine gf_X10_27 hC rfl hK hP 0 rfl rfl dX10_byteAt_6 ?_
  refine lv_icmp_ge (tgt := 30) hx hb dX10_byteAt_9 (by decide) (fun c_9_2574 => ?_) (fun c_9_2574 => ?_)
  · refine lv_iconst (v := (-1)) hx hb dX10_byteAt_30 (by decide) ?_
    exact RP (v := (-1)) hC (Or.inl rfl) rfl dX10_byteAt_31
  · refine lv_iload_n hx hb dX10_byteAt_12 rfl (lv_at hl 1 rfl) ?_
    refine lv_aload_n hx hb dX10_byteAt_13 rfl (lv_at hl 0 rfl) ?_
    refine gf_X10_9 hC rfl hK hP 0 rfl rfl dX10_byteAt_14 ?_
    refine va_alen (v := 240) hx hb hK.1 hP 1 0 rfl rfl (show Int32.ofNat 240 = 240 by decide) dX10_byteAt_17 ?_
    refine lv_icmp_ge (tgt := 30) hx hb dX10_byteAt_18 (by decide) (fun c_18_2575 => ?_) (fun c_18_2575 => ?_)
    · refine lv_iconst (v := (-1)) hx hb dX10_byteAt_30 (by decide) ?_
      exact RP (v := (-1)) hC (Or.inl rfl) rfl dX10_byteAt_31
    · refine lv_aload_n hx hb dX10_byteAt_21 rfl (lv_at hl 0 rfl) ?_
      have hj240 := nge_nat (R := 240) (k := j9) (by decide) (by omega) c_18_2575
      refine gf_X10_9 hC rfl hK hP 0 rfl rfl dX10_byteAt_22 ?_
      refine lv_iload_n hx hb dX10_byteAt_25 rfl (lv_at hl 1 rfl) ?_
      refine ald hC hK hP 1 rfl (vp_in_nI (by omega) (by omega)) (k := j9) (nI_clamp (by omega)) (v := (fby j9)) (rfl) dX10_byteAt_26 ?_
      refine lv_goto (tgt := 31) hx hb dX10_byteAt_27 (by decide) ?_
      exact RP (v := (fby j9)) hC (Or.inr ⟨rfl, by omega⟩) rfl dX10_byteAt_31
set_option maxHeartbeats 4000000 in
set_option maxRecDepth 100000 in
theorem t_letter (l : Launch) (G : GG) (b9 : Int32) : MP l G yX10_isLetter cX10_isLetter 1 (some .boolean) 2 [.int b9] [] (fun r : Int32 => r = 1 ∨ r = 0) := by
  refine MP.start (by decide +kernel) (Nat.le_of_ble_eq_true rfl) ?_
  intro p e s m below meth c ls hC hK hP hD hl
  have hl : lv_has ls 1 [(0, .int b9)] := hl
  obtain ⟨hx, hb, hr, hml, hB, hown, hlocks, hnm⟩ := id hC
  refine lv_iload_n hx hb dX10_isLetter_0 rfl (lv_at hl 0 rfl) ?_
  refine lv_bipush (v := 97) hx hb dX10_isLetter_1 (by decide) ?_
  refine lv_bipush (v := 122) hx hb dX10_isLetter_3 (by decide) ?_
  refine pSN hC hK hl (c_within l G b9 97 122) si_X10_89 rfl rfl (Nat.le_of_ble_eq_true rfl) ⟨Nat.le_of_ble_eq_true rfl, Nat.le_of_ble_eq_true rfl⟩ ⟨by first | exact Nat.le_of_ble_eq_true rfl | exact Nat.zero_le _, by first | exact Nat.le_of_ble_eq_true rfl | exact Nat.zero_le _⟩ dX10_isLetter_5 (fun r2576 hr2576 => ?_)
  rcases hr2576 with ⟨rfl, a2577⟩ | ⟨rfl, a2577⟩
  · exact RP (v := 1) hC (Or.inl (rfl)) (by decide +kernel) dX10_isLetter_8
  · exact RP (v := 0) hC (Or.inr (rfl)) (by decide +kernel) dX10_isLetter_8
set_option maxHeartbeats 4000000 in
set_option maxRecDepth 100000 in
theorem t_digit (l : Launch) (G : GG) (b9 : Int32) : MP l G yX10_isDigit cX10_isDigit 1 (some .boolean) 2 [.int b9] [] (fun r : Int32 => r = 1 ∨ r = 0) := by
  refine MP.start (by decide +kernel) (Nat.le_of_ble_eq_true rfl) ?_
  intro p e s m below meth c ls hC hK hP hD hl
  have hl : lv_has ls 1 [(0, .int b9)] := hl
  obtain ⟨hx, hb, hr, hml, hB, hown, hlocks, hnm⟩ := id hC
  refine lv_iload_n hx hb dX10_isDigit_0 rfl (lv_at hl 0 rfl) ?_
  refine lv_bipush (v := 48) hx hb dX10_isDigit_1 (by decide) ?_
  refine lv_bipush (v := 57) hx hb dX10_isDigit_3 (by decide) ?_
  refine pSN hC hK hl (c_within l G b9 48 57) si_X10_89 rfl rfl (Nat.le_of_ble_eq_true rfl) ⟨Nat.le_of_ble_eq_true rfl, Nat.le_of_ble_eq_true rfl⟩ ⟨by first | exact Nat.le_of_ble_eq_true rfl | exact Nat.zero_le _, by first | exact Nat.le_of_ble_eq_true rfl | exact Nat.zero_le _⟩ dX10_isDigit_5 (fun r2578 hr2578 => ?_)
  rcases hr2578 with ⟨rfl, a2579⟩ | ⟨rfl, a2579⟩
  · exact RP (v := 1) hC (Or.inl (rfl)) (by decide +kernel) dX10_isDigit_8
  · exact RP (v := 0) hC (Or.inr (rfl)) (by decide +kernel) dX10_isDigit_8
set_option maxHeartbeats 4000000 in
set_option maxRecDepth 100000 in
theorem t_refuse (l : Launch) (G : GG) (h0 : Nat) (tby : Nat) (kt : Nat) (tln : Nat) (tsp : Nat) (tkd : Int32) (ks : Nat) (kn : Nat) (tf9 : Int32) : MI l G yX10_refuse cX10_refuse 1 (some .boolean) 1 0 0 [.ref h0] [(h0, .inr (10, [.ref tby, .int (nI kt), .ref tln, .ref tsp, .int tkd, .int (nI ks), .int (nI kn), .int tf9]))] (fun (r : Int32) (u : Int32) => (r = 0)) (fun u : Int32 => [(h0, .inr (10, [.ref tby, .int (nI kt), .ref tln, .ref tsp, .int tkd, .int (nI ks), .int (nI kn), .int u]))]) := by
  refine MI.start (by decide +kernel) (Nat.le_of_ble_eq_true rfl) ?_
  intro p e s m below meth c A ls hC hK hP hD hS hA hl
  have hl : lv_has ls 1 [(0, .ref h0)] := hl
  obtain ⟨hx, hb, hr, hml, hB, hown, hlocks, hnm⟩ := id hC
  refine lv_aload_n hx hb dX10_refuse_0 rfl (lv_at hl 0 rfl) ?_
  refine lv_aload_n hx hb dX10_refuse_1 rfl (lv_at hl 0 rfl) ?_
  refine gf_X10_34 hC rfl hK hP 0 rfl rfl dX10_refuse_2 ?_
  refine pf_X10_40 hC rfl hK hP hD hS 0 (ws' := [(h0, .inr (10, [.ref tby, .int (nI kt), .ref tln, .ref tsp, .int tkd, .int (nI ks), .int (nI kn), .int (nI ks)]))]) rfl (Nat.le_of_ble_eq_true rfl) rfl rfl rfl dX10_refuse_5 (fun H locs hP hD hS => ?_)
  refine lv_iconst (v := 0) hx hb dX10_refuse_8 (by decide) ?_
  exact RI (v := 0) hC hP hD hS [0] (nI ks) rfl rfl (by decide) (rfl) (by decide +kernel) dX10_refuse_9
set_option maxHeartbeats 4000000 in
set_option maxRecDepth 100000 in
theorem t_clear (l : Launch) (G : GG) (h0 : Nat) (tby : Nat) (kt : Nat) (tln : Nat) (tsp : Nat) (tkd : Int32) (ts9 : Int32) (tn9 : Int32) (tf9 : Int32) : MV l G yX10_clear cX10_clear 1 1 0 0 [.ref h0] [(h0, .inr (10, [.ref tby, .int (nI kt), .ref tln, .ref tsp, .int tkd, .int ts9, .int tn9, .int tf9]))] (fun u : Unit => True) (fun u : Unit => [(h0, .inr (10, [.ref tby, .int 0, .ref tln, .ref tsp, .int tkd, .int ts9, .int tn9, .int tf9]))]) := by
  refine MV.start (by decide +kernel) (Nat.le_of_ble_eq_true rfl) ?_
  intro p e s m below meth c A ls hC hK hP hD hS hA hl
  have hl : lv_has ls 1 [(0, .ref h0)] := hl
  obtain ⟨hx, hb, hr, hml, hB, hown, hlocks, hnm⟩ := id hC
  refine lv_aload_n hx hb dX10_clear_0 rfl (lv_at hl 0 rfl) ?_
  refine lv_iconst (v := 0) hx hb dX10_clear_1 (by decide) ?_
  refine pf_X10_27 hC rfl hK hP hD hS 0 (ws' := [(h0, .inr (10, [.ref tby, .int 0, .ref tln, .ref tsp, .int tkd, .int ts9, .int tn9, .int tf9]))]) rfl (Nat.le_of_ble_eq_true rfl) rfl rfl rfl dX10_clear_2 (fun H locs hP hD hS => ?_)
  exact RV hC hP hD hS [0] () rfl rfl (by decide) (trivial) dX10_clear_5
set_option maxHeartbeats 4000000 in
set_option maxRecDepth 100000 in
theorem t_advance (l : Launch) (G : GG) (h0 : Nat) (tby : Nat) (kt : Nat) (tln : Nat) (tsp : Nat) (tkd : Int32) (ks : Nat) (kn : Nat) (tf9 : Int32) (fby : Nat → Int32) (hkt : kt ≤ 240) (hks : ks ≤ 240) (hkn : kn ≤ 240) : MV l G yX10_advance cX10_advance 1 3 0 0 [.ref h0] [(h0, .inr (10, [.ref tby, .int (nI kt), .ref tln, .ref tsp, .int tkd, .int (nI ks), .int (nI kn), .int tf9])), (tby, .inl (G.2.1, 240, .inl fby))] (fun u : Int32 × Nat × Nat => u.2.1 ≤ 240 ∧ u.2.2 ≤ 240) (fun u : Int32 × Nat × Nat => [(h0, .inr (10, [.ref tby, .int (nI kt), .ref tln, .ref tsp, .int u.1, .int (nI u.2.1), .int (nI u.2.2), .int tf9])), (tby, .inl (G.2.1, 240, .inl fby))]) := by
  refine MV.start (by decide +kernel) (Nat.le_of_ble_eq_true rfl) ?_
  intro p e s m below meth c A ls hC hK hP hD hS hA hl
  have hl : lv_has ls 1 [(0, .ref h0)] := hl
  obtain ⟨hx, hb, hr, hml, hB, hown, hlocks, hnm⟩ := id hC
  refine lv_aload_n hx hb dX10_advance_0 rfl (lv_at hl 0 rfl) ?_
  refine lv_aload_n hx hb dX10_advance_1 rfl (lv_at hl 0 rfl) ?_
  refine gf_X10_37 hC rfl hK hP 0 rfl rfl dX10_advance_2 ?_
  refine pf_X10_34 hC rfl hK hP hD hS 0 (ws' := [(h0, .inr (10, [.ref tby, .int (nI kt), .ref tln, .ref tsp, .int tkd, .int (nI kn), .int (nI kn), .int tf9])), (tby, .inl (G.2.1, 240, .inl fby))]) rfl (Nat.le_of_ble_eq_true rfl) rfl rfl rfl dX10_advance_5 (fun H locs hP hD hS => ?_)
  have keyA : ∀ (nA jA : Nat) (H : Heap) (locs : List Loc) (ls : Array Slot), kt ≤ jA + nA → jA ≤ 240 → va_P G.1 vwCl [(h0, .inr (10, [.ref tby, .int (nI kt), .ref tln, .ref tsp, .int tkd, .int (nI jA), .int (nI kn), .int tf9])), (tby, .inl (G.2.1, 240, .inl fby))] H → va_D A [(h0, .inr (10, [.ref tby, .int (nI kt), .ref tln, .ref tsp, .int tkd, .int (nI jA), .int (nI kn), .int tf9])), (tby, .inl (G.2.1, 240, .inl fby))] → va_S A s.heap H locs → lv_has ls 1 [(0, .ref h0)] → W p l e (RM 3 0 0) s m ([.ref h0] : List Value).toArray below meth c H locs 0 0 (MQ below (QV G (fun u : Int32 × Nat × Nat => u.2.1 ≤ 240 ∧ u.2.2 ≤ 240) (fun u : Int32 × Nat × Nat => [(h0, .inr (10, [.ref tby, .int (nI kt), .ref tln, .ref tsp, .int u.1, .int (nI u.2.1), .int (nI u.2.2), .int tf9])), (tby, .inl (G.2.1, 240, .inl fby))]) A) ([.ref h0] : List Value).toArray s 0 0 A) (F0 m 8 ls []) := by
    intro nA
    induction nA with
    | zero =>
      intro jA H locs ls hkA hmA hP hD hS hl
      have hzA : nI kt ≤ nI jA := (nI_leI (by omega) (by omega)).mpr (by omega)
      refine lv_aload_n hx hb dX10_advance_8 rfl (lv_at hl 0 rfl) ?_
      refine gf_X10_34 hC rfl hK hP 0 rfl rfl dX10_advance_9 ?_
      refine lv_aload_n hx hb dX10_advance_12 rfl (lv_at hl 0 rfl) ?_
      refine gf_X10_27 hC rfl hK hP 0 rfl rfl dX10_advance_13 ?_
      refine lv_icmp_ge (tgt := 45) hx hb dX10_advance_16 (by decide) (fun _ => ?_) (fun c9 => absurd (hzA) c9)
      refine lv_aload_n hx hb dX10_advance_45 rfl (lv_at hl 0 rfl) ?_
      refine lv_aload_n hx hb dX10_advance_46 rfl (lv_at hl 0 rfl) ?_
      refine gf_X10_34 hC rfl hK hP 0 rfl rfl dX10_advance_47 ?_
      refine pf_X10_37 hC rfl hK hP hD hS 0 (ws' := [(h0, .inr (10, [.ref tby, .int (nI kt), .ref tln, .ref tsp, .int tkd, .int (nI jA), .int (nI jA), .int tf9])), (tby, .inl (G.2.1, 240, .inl fby))]) rfl (Nat.le_of_ble_eq_true rfl) rfl rfl rfl dX10_advance_50 (fun H locs hP hD hS => ?_)
      refine lv_aload_n hx hb dX10_advance_53 rfl (lv_at hl 0 rfl) ?_
      refine lv_aload_n hx hb dX10_advance_54 rfl (lv_at hl 0 rfl) ?_
      refine gf_X10_34 hC rfl hK hP 0 rfl rfl dX10_advance_55 ?_
      refine pV hC hK hl hP hD (t_byteAt l G h0 (nI jA) tby kt tln tsp tkd (nI jA) (nI jA) tf9 fby) si_X10_78 [0, 1] rfl rfl (by decide) rfl rfl rfl rfl rfl (Nat.le_of_ble_eq_true rfl) ⟨Nat.le_of_ble_eq_true rfl, Nat.le_of_ble_eq_true rfl⟩ ⟨by first | exact Nat.le_of_ble_eq_true rfl | exact Nat.zero_le _, by first | exact Nat.le_of_ble_eq_true rfl | exact Nat.zero_le _⟩ dX10_advance_58 (fun r2580 hr2580 => ?_)
      refine pS hC hK hl (t_letter l G r2580) si_X10_82 rfl rfl (Nat.le_of_ble_eq_true rfl) ⟨Nat.le_of_ble_eq_true rfl, Nat.le_of_ble_eq_true rfl⟩ ⟨by first | exact Nat.le_of_ble_eq_true rfl | exact Nat.zero_le _, by first | exact Nat.le_of_ble_eq_true rfl | exact Nat.zero_le _⟩ dX10_advance_61 (fun r2581 hr2581 => ?_)
      rcases hr2581 with rfl | rfl
      · refine lv_if_eq (tgt := 111) hx hb dX10_advance_64 (by decide) (fun c9 => absurd c9 (by decide)) (fun _ => ?_)
        refine lv_aload_n hx hb dX10_advance_67 rfl (lv_at hl 0 rfl) ?_
        refine lv_bipush (v := (-2)) hx hb dX10_advance_68 (by decide) ?_
        refine pf_X10_31 hC rfl hK hP hD hS 0 (ws' := [(h0, .inr (10, [.ref tby, .int (nI kt), .ref tln, .ref tsp, .int (-2), .int (nI jA), .int (nI jA), .int tf9])), (tby, .inl (G.2.1, 240, .inl fby))]) rfl (Nat.le_of_ble_eq_true rfl) rfl rfl rfl dX10_advance_70 (fun H locs hP hD hS => ?_)
        have keyB : ∀ (nB jB : Nat) (H : Heap) (locs : List Loc) (ls : Array Slot), kt ≤ jB + nB → jB ≤ 240 → va_P G.1 vwCl [(h0, .inr (10, [.ref tby, .int (nI kt), .ref tln, .ref tsp, .int (-2), .int (nI jA), .int (nI jB), .int tf9])), (tby, .inl (G.2.1, 240, .inl fby))] H → va_D A [(h0, .inr (10, [.ref tby, .int (nI kt), .ref tln, .ref tsp, .int (-2), .int (nI jA), .int (nI jB), .int tf9])), (tby, .inl (G.2.1, 240, .inl fby))] → va_S A s.heap H locs → lv_has ls 1 [(0, .ref h0)] → W p l e (RM 3 0 0) s m ([.ref h0] : List Value).toArray below meth c H locs 0 0 (MQ below (QV G (fun u : Int32 × Nat × Nat => u.2.1 ≤ 240 ∧ u.2.2 ≤ 240) (fun u : Int32 × Nat × Nat => [(h0, .inr (10, [.ref tby, .int (nI kt), .ref tln, .ref tsp, .int u.1, .int (nI u.2.1), .int (nI u.2.2), .int tf9])), (tby, .inl (G.2.1, 240, .inl fby))]) A) ([.ref h0] : List Value).toArray s 0 0 A) (F0 m 73 ls []) := by
          intro nB
          induction nB with
          | zero =>
            intro jB H locs ls hkB hmB hP hD hS hl
            have hzB : nI kt ≤ nI jB := (nI_leI (by omega) (by omega)).mpr (by omega)
            refine lv_aload_n hx hb dX10_advance_73 rfl (lv_at hl 0 rfl) ?_
            refine gf_X10_37 hC rfl hK hP 0 rfl rfl dX10_advance_74 ?_
            refine lv_aload_n hx hb dX10_advance_77 rfl (lv_at hl 0 rfl) ?_
            refine gf_X10_27 hC rfl hK hP 0 rfl rfl dX10_advance_78 ?_
            refine lv_icmp_ge (tgt := 199) hx hb dX10_advance_81 (by decide) (fun _ => ?_) (fun c9 => absurd (hzB) c9)
            exact RV hC hP hD hS [0, 1] ((-2), jA, jB) rfl rfl (by decide) (by dsimp only; omega) dX10_advance_199
          | succ nB ihB =>
            intro jB H locs ls hkB hmB hP hD hS hl
            refine lv_aload_n hx hb dX10_advance_73 rfl (lv_at hl 0 rfl) ?_
            refine gf_X10_37 hC rfl hK hP 0 rfl rfl dX10_advance_74 ?_
            refine lv_aload_n hx hb dX10_advance_77 rfl (lv_at hl 0 rfl) ?_
            refine gf_X10_27 hC rfl hK hP 0 rfl rfl dX10_advance_78 ?_
            refine lv_icmp_ge (tgt := 199) hx hb dX10_advance_81 (by decide) (fun c_81_2583 => ?_) (fun c_81_2583 => ?_)
            · exact RV hC hP hD hS [0, 1] ((-2), jA, jB) rfl rfl (by decide) (by dsimp only; omega) dX10_advance_199
            · refine lv_aload_n hx hb dX10_advance_84 rfl (lv_at hl 0 rfl) ?_
              refine lv_aload_n hx hb dX10_advance_85 rfl (lv_at hl 0 rfl) ?_
              refine gf_X10_37 hC rfl hK hP 0 rfl rfl dX10_advance_86 ?_
              refine pV hC hK hl hP hD (t_byteAt l G h0 (nI jB) tby kt tln tsp (-2) (nI jA) (nI jB) tf9 fby) si_X10_78 [0, 1] rfl rfl (by decide) rfl rfl rfl rfl rfl (Nat.le_of_ble_eq_true rfl) ⟨Nat.le_of_ble_eq_true rfl, Nat.le_of_ble_eq_true rfl⟩ ⟨by first | exact Nat.le_of_ble_eq_true rfl | exact Nat.zero_le _, by first | exact Nat.le_of_ble_eq_true rfl | exact Nat.zero_le _⟩ dX10_advance_89 (fun r2584 hr2584 => ?_)
              refine pS hC hK hl (t_letter l G r2584) si_X10_82 rfl rfl (Nat.le_of_ble_eq_true rfl) ⟨Nat.le_of_ble_eq_true rfl, Nat.le_of_ble_eq_true rfl⟩ ⟨by first | exact Nat.le_of_ble_eq_true rfl | exact Nat.zero_le _, by first | exact Nat.le_of_ble_eq_true rfl | exact Nat.zero_le _⟩ dX10_advance_92 (fun r2585 hr2585 => ?_)
              rcases hr2585 with rfl | rfl
              · refine lv_if_eq (tgt := 199) hx hb dX10_advance_95 (by decide) (fun c9 => absurd c9 (by decide)) (fun _ => ?_)
                refine lv_aload_n hx hb dX10_advance_98 rfl (lv_at hl 0 rfl) ?_
                refine lv_dup hx hb dX10_advance_99 rfl ?_
                refine gf_X10_37 hC rfl hK hP 0 rfl rfl dX10_advance_100 ?_
                refine lv_iconst (v := 1) hx hb dX10_advance_103 (by decide) ?_
                refine lv_iadd hx hb dX10_advance_104 ?_
                refine eqi (x1 := nI (jB + 1)) (nI_1 _) ?_
                refine pf_X10_37 hC rfl hK hP hD hS 0 (ws' := [(h0, .inr (10, [.ref tby, .int (nI kt), .ref tln, .ref tsp, .int (-2), .int (nI jA), .int (nI (jB + 1)), .int tf9])), (tby, .inl (G.2.1, 240, .inl fby))]) rfl (Nat.le_of_ble_eq_true rfl) rfl rfl rfl dX10_advance_105 (fun H locs hP hD hS => ?_)
                refine lv_goto (tgt := 73) hx hb dX10_advance_108 (by decide) ?_
                have hnB9 := nge_nat (R := kt) (k := jB) (by omega) (by omega) c_81_2583
                exact ihB (jB + 1) _ _ _ (by omega) (by omega) hP hD hS (lv_sub hl [0] rfl)
              · refine lv_if_eq (tgt := 199) hx hb dX10_advance_95 (by decide) (fun _ => ?_) (fun c9 => absurd (by decide) c9)
                exact RV hC hP hD hS [0, 1] ((-2), jA, jB) rfl rfl (by decide) (by dsimp only; omega) dX10_advance_199
        exact keyB kt jA _ _ _ (by omega) (by omega) hP hD hS (lv_sub hl [0] rfl)
      · refine lv_if_eq (tgt := 111) hx hb dX10_advance_64 (by decide) (fun _ => ?_) (fun c9 => absurd (by decide) c9)
        refine lv_aload_n hx hb dX10_advance_111 rfl (lv_at hl 0 rfl) ?_
        refine lv_aload_n hx hb dX10_advance_112 rfl (lv_at hl 0 rfl) ?_
        refine gf_X10_34 hC rfl hK hP 0 rfl rfl dX10_advance_113 ?_
        refine pV hC hK hl hP hD (t_byteAt l G h0 (nI jA) tby kt tln tsp tkd (nI jA) (nI jA) tf9 fby) si_X10_78 [0, 1] rfl rfl (by decide) rfl rfl rfl rfl rfl (Nat.le_of_ble_eq_true rfl) ⟨Nat.le_of_ble_eq_true rfl, Nat.le_of_ble_eq_true rfl⟩ ⟨by first | exact Nat.le_of_ble_eq_true rfl | exact Nat.zero_le _, by first | exact Nat.le_of_ble_eq_true rfl | exact Nat.zero_le _⟩ dX10_advance_116 (fun r2587 hr2587 => ?_)
        refine pS hC hK hl (t_digit l G r2587) si_X10_86 rfl rfl (Nat.le_of_ble_eq_true rfl) ⟨Nat.le_of_ble_eq_true rfl, Nat.le_of_ble_eq_true rfl⟩ ⟨by first | exact Nat.le_of_ble_eq_true rfl | exact Nat.zero_le _, by first | exact Nat.le_of_ble_eq_true rfl | exact Nat.zero_le _⟩ dX10_advance_119 (fun r2588 hr2588 => ?_)
        rcases hr2588 with rfl | rfl
        · refine lv_if_eq (tgt := 169) hx hb dX10_advance_122 (by decide) (fun c9 => absurd c9 (by decide)) (fun _ => ?_)
          refine lv_aload_n hx hb dX10_advance_125 rfl (lv_at hl 0 rfl) ?_
          refine lv_bipush (v := (-3)) hx hb dX10_advance_126 (by decide) ?_
          refine pf_X10_31 hC rfl hK hP hD hS 0 (ws' := [(h0, .inr (10, [.ref tby, .int (nI kt), .ref tln, .ref tsp, .int (-3), .int (nI jA), .int (nI jA), .int tf9])), (tby, .inl (G.2.1, 240, .inl fby))]) rfl (Nat.le_of_ble_eq_true rfl) rfl rfl rfl dX10_advance_128 (fun H locs hP hD hS => ?_)
          have keyC : ∀ (nC jC : Nat) (H : Heap) (locs : List Loc) (ls : Array Slot), kt ≤ jC + nC → jC ≤ 240 → va_P G.1 vwCl [(h0, .inr (10, [.ref tby, .int (nI kt), .ref tln, .ref tsp, .int (-3), .int (nI jA), .int (nI jC), .int tf9])), (tby, .inl (G.2.1, 240, .inl fby))] H → va_D A [(h0, .inr (10, [.ref tby, .int (nI kt), .ref tln, .ref tsp, .int (-3), .int (nI jA), .int (nI jC), .int tf9])), (tby, .inl (G.2.1, 240, .inl fby))] → va_S A s.heap H locs → lv_has ls 1 [(0, .ref h0)] → W p l e (RM 3 0 0) s m ([.ref h0] : List Value).toArray below meth c H locs 0 0 (MQ below (QV G (fun u : Int32 × Nat × Nat => u.2.1 ≤ 240 ∧ u.2.2 ≤ 240) (fun u : Int32 × Nat × Nat => [(h0, .inr (10, [.ref tby, .int (nI kt), .ref tln, .ref tsp, .int u.1, .int (nI u.2.1), .int (nI u.2.2), .int tf9])), (tby, .inl (G.2.1, 240, .inl fby))]) A) ([.ref h0] : List Value).toArray s 0 0 A) (F0 m 131 ls []) := by
            intro nC
            induction nC with
            | zero =>
              intro jC H locs ls hkC hmC hP hD hS hl
              have hzC : nI kt ≤ nI jC := (nI_leI (by omega) (by omega)).mpr (by omega)
              refine lv_aload_n hx hb dX10_advance_131 rfl (lv_at hl 0 rfl) ?_
              refine gf_X10_37 hC rfl hK hP 0 rfl rfl dX10_advance_132 ?_
              refine lv_aload_n hx hb dX10_advance_135 rfl (lv_at hl 0 rfl) ?_
              refine gf_X10_27 hC rfl hK hP 0 rfl rfl dX10_advance_136 ?_
              refine lv_icmp_ge (tgt := 199) hx hb dX10_advance_139 (by decide) (fun _ => ?_) (fun c9 => absurd (hzC) c9)
              exact RV hC hP hD hS [0, 1] ((-3), jA, jC) rfl rfl (by decide) (by dsimp only; omega) dX10_advance_199
            | succ nC ihC =>
              intro jC H locs ls hkC hmC hP hD hS hl
              refine lv_aload_n hx hb dX10_advance_131 rfl (lv_at hl 0 rfl) ?_
              refine gf_X10_37 hC rfl hK hP 0 rfl rfl dX10_advance_132 ?_
              refine lv_aload_n hx hb dX10_advance_135 rfl (lv_at hl 0 rfl) ?_
              refine gf_X10_27 hC rfl hK hP 0 rfl rfl dX10_advance_136 ?_
              refine lv_icmp_ge (tgt := 199) hx hb dX10_advance_139 (by decide) (fun c_139_2590 => ?_) (fun c_139_2590 => ?_)
              · exact RV hC hP hD hS [0, 1] ((-3), jA, jC) rfl rfl (by decide) (by dsimp only; omega) dX10_advance_199
              · refine lv_aload_n hx hb dX10_advance_142 rfl (lv_at hl 0 rfl) ?_
                refine lv_aload_n hx hb dX10_advance_143 rfl (lv_at hl 0 rfl) ?_
                refine gf_X10_37 hC rfl hK hP 0 rfl rfl dX10_advance_144 ?_
                refine pV hC hK hl hP hD (t_byteAt l G h0 (nI jC) tby kt tln tsp (-3) (nI jA) (nI jC) tf9 fby) si_X10_78 [0, 1] rfl rfl (by decide) rfl rfl rfl rfl rfl (Nat.le_of_ble_eq_true rfl) ⟨Nat.le_of_ble_eq_true rfl, Nat.le_of_ble_eq_true rfl⟩ ⟨by first | exact Nat.le_of_ble_eq_true rfl | exact Nat.zero_le _, by first | exact Nat.le_of_ble_eq_true rfl | exact Nat.zero_le _⟩ dX10_advance_147 (fun r2591 hr2591 => ?_)
                refine pS hC hK hl (t_digit l G r2591) si_X10_86 rfl rfl (Nat.le_of_ble_eq_true rfl) ⟨Nat.le_of_ble_eq_true rfl, Nat.le_of_ble_eq_true rfl⟩ ⟨by first | exact Nat.le_of_ble_eq_true rfl | exact Nat.zero_le _, by first | exact Nat.le_of_ble_eq_true rfl | exact Nat.zero_le _⟩ dX10_advance_150 (fun r2592 hr2592 => ?_)
                rcases hr2592 with rfl | rfl
                · refine lv_if_eq (tgt := 199) hx hb dX10_advance_153 (by decide) (fun c9 => absurd c9 (by decide)) (fun _ => ?_)
                  refine lv_aload_n hx hb dX10_advance_156 rfl (lv_at hl 0 rfl) ?_
                  refine lv_dup hx hb dX10_advance_157 rfl ?_
                  refine gf_X10_37 hC rfl hK hP 0 rfl rfl dX10_advance_158 ?_
                  refine lv_iconst (v := 1) hx hb dX10_advance_161 (by decide) ?_
                  refine lv_iadd hx hb dX10_advance_162 ?_
                  refine eqi (x1 := nI (jC + 1)) (nI_1 _) ?_
                  refine pf_X10_37 hC rfl hK hP hD hS 0 (ws' := [(h0, .inr (10, [.ref tby, .int (nI kt), .ref tln, .ref tsp, .int (-3), .int (nI jA), .int (nI (jC + 1)), .int tf9])), (tby, .inl (G.2.1, 240, .inl fby))]) rfl (Nat.le_of_ble_eq_true rfl) rfl rfl rfl dX10_advance_163 (fun H locs hP hD hS => ?_)
                  refine lv_goto (tgt := 131) hx hb dX10_advance_166 (by decide) ?_
                  have hnC9 := nge_nat (R := kt) (k := jC) (by omega) (by omega) c_139_2590
                  exact ihC (jC + 1) _ _ _ (by omega) (by omega) hP hD hS (lv_sub hl [0] rfl)
                · refine lv_if_eq (tgt := 199) hx hb dX10_advance_153 (by decide) (fun _ => ?_) (fun c9 => absurd (by decide) c9)
                  exact RV hC hP hD hS [0, 1] ((-3), jA, jC) rfl rfl (by decide) (by dsimp only; omega) dX10_advance_199
          exact keyC kt jA _ _ _ (by omega) (by omega) hP hD hS (lv_sub hl [0] rfl)
        · refine lv_if_eq (tgt := 169) hx hb dX10_advance_122 (by decide) (fun _ => ?_) (fun c9 => absurd (by decide) c9)
          refine lv_aload_n hx hb dX10_advance_169 rfl (lv_at hl 0 rfl) ?_
          refine lv_aload_n hx hb dX10_advance_170 rfl (lv_at hl 0 rfl) ?_
          refine lv_aload_n hx hb dX10_advance_171 rfl (lv_at hl 0 rfl) ?_
          refine gf_X10_34 hC rfl hK hP 0 rfl rfl dX10_advance_172 ?_
          refine pV hC hK hl hP hD (t_byteAtN l G h0 jA tby kt tln tsp tkd (nI jA) (nI jA) tf9 fby (by omega)) si_X10_78 [0, 1] rfl rfl (by decide) rfl rfl rfl rfl rfl (Nat.le_of_ble_eq_true rfl) ⟨Nat.le_of_ble_eq_true rfl, Nat.le_of_ble_eq_true rfl⟩ ⟨by first | exact Nat.le_of_ble_eq_true rfl | exact Nat.zero_le _, by first | exact Nat.le_of_ble_eq_true rfl | exact Nat.zero_le _⟩ dX10_advance_175 (fun r2594 hr2594 => ?_)
          rcases hr2594 with rfl | ⟨rfl, a2595⟩
          · refine pf_X10_31 hC rfl hK hP hD hS 0 (ws' := [(h0, .inr (10, [.ref tby, .int (nI kt), .ref tln, .ref tsp, .int (-1), .int (nI jA), .int (nI jA), .int tf9])), (tby, .inl (G.2.1, 240, .inl fby))]) rfl (Nat.le_of_ble_eq_true rfl) rfl rfl rfl dX10_advance_178 (fun H locs hP hD hS => ?_)
            refine lv_aload_n hx hb dX10_advance_181 rfl (lv_at hl 0 rfl) ?_
            refine gf_X10_31 hC rfl hK hP 0 rfl rfl dX10_advance_182 ?_
            refine lv_iconst (v := (-1)) hx hb dX10_advance_185 (by decide) ?_
            refine lv_icmp_eq (tgt := 199) hx hb dX10_advance_186 (by decide) (fun _ => ?_) (fun c9 => absurd (by decide) c9)
            exact RV hC hP hD hS [0, 1] ((-1), jA, jA) rfl rfl (by decide) (by dsimp only; omega) dX10_advance_199
          · refine pf_X10_31 hC rfl hK hP hD hS 0 (ws' := [(h0, .inr (10, [.ref tby, .int (nI kt), .ref tln, .ref tsp, .int (fby jA), .int (nI jA), .int (nI jA), .int tf9])), (tby, .inl (G.2.1, 240, .inl fby))]) rfl (Nat.le_of_ble_eq_true rfl) rfl rfl rfl dX10_advance_178 (fun H locs hP hD hS => ?_)
            refine lv_aload_n hx hb dX10_advance_181 rfl (lv_at hl 0 rfl) ?_
            refine gf_X10_31 hC rfl hK hP 0 rfl rfl dX10_advance_182 ?_
            refine lv_iconst (v := (-1)) hx hb dX10_advance_185 (by decide) ?_
            refine lv_icmp_eq (tgt := 199) hx hb dX10_advance_186 (by decide) (fun c_186_2596 => ?_) (fun c_186_2596 => ?_)
            · exact RV hC hP hD hS [0, 1] ((fby jA), jA, jA) rfl rfl (by decide) (by dsimp only; omega) dX10_advance_199
            · refine lv_aload_n hx hb dX10_advance_189 rfl (lv_at hl 0 rfl) ?_
              refine lv_dup hx hb dX10_advance_190 rfl ?_
              refine gf_X10_37 hC rfl hK hP 0 rfl rfl dX10_advance_191 ?_
              refine lv_iconst (v := 1) hx hb dX10_advance_194 (by decide) ?_
              refine lv_iadd hx hb dX10_advance_195 ?_
              refine eqi (x1 := nI (jA + 1)) (nI_1 _) ?_
              refine pf_X10_37 hC rfl hK hP hD hS 0 (ws' := [(h0, .inr (10, [.ref tby, .int (nI kt), .ref tln, .ref tsp, .int (fby jA), .int (nI jA), .int (nI (jA + 1)), .int tf9])), (tby, .inl (G.2.1, 240, .inl fby))]) rfl (Nat.le_of_ble_eq_true rfl) rfl rfl rfl dX10_advance_196 (fun H locs hP hD hS => ?_)
              exact RV hC hP hD hS [0, 1] ((fby jA), jA, (jA + 1)) rfl rfl (by decide) (by dsimp only; omega) dX10_advance_199
    | succ nA ihA =>
      intro jA H locs ls hkA hmA hP hD hS hl
      refine lv_aload_n hx hb dX10_advance_8 rfl (lv_at hl 0 rfl) ?_
      refine gf_X10_34 hC rfl hK hP 0 rfl rfl dX10_advance_9 ?_
      refine lv_aload_n hx hb dX10_advance_12 rfl (lv_at hl 0 rfl) ?_
      refine gf_X10_27 hC rfl hK hP 0 rfl rfl dX10_advance_13 ?_
      refine lv_icmp_ge (tgt := 45) hx hb dX10_advance_16 (by decide) (fun c_16_2597 => ?_) (fun c_16_2597 => ?_)
      · refine lv_aload_n hx hb dX10_advance_45 rfl (lv_at hl 0 rfl) ?_
        refine lv_aload_n hx hb dX10_advance_46 rfl (lv_at hl 0 rfl) ?_
        refine gf_X10_34 hC rfl hK hP 0 rfl rfl dX10_advance_47 ?_
        refine pf_X10_37 hC rfl hK hP hD hS 0 (ws' := [(h0, .inr (10, [.ref tby, .int (nI kt), .ref tln, .ref tsp, .int tkd, .int (nI jA), .int (nI jA), .int tf9])), (tby, .inl (G.2.1, 240, .inl fby))]) rfl (Nat.le_of_ble_eq_true rfl) rfl rfl rfl dX10_advance_50 (fun H locs hP hD hS => ?_)
        refine lv_aload_n hx hb dX10_advance_53 rfl (lv_at hl 0 rfl) ?_
        refine lv_aload_n hx hb dX10_advance_54 rfl (lv_at hl 0 rfl) ?_
        refine gf_X10_34 hC rfl hK hP 0 rfl rfl dX10_advance_55 ?_
        refine pV hC hK hl hP hD (t_byteAt l G h0 (nI jA) tby kt tln tsp tkd (nI jA) (nI jA) tf9 fby) si_X10_78 [0, 1] rfl rfl (by decide) rfl rfl rfl rfl rfl (Nat.le_of_ble_eq_true rfl) ⟨Nat.le_of_ble_eq_true rfl, Nat.le_of_ble_eq_true rfl⟩ ⟨by first | exact Nat.le_of_ble_eq_true rfl | exact Nat.zero_le _, by first | exact Nat.le_of_ble_eq_true rfl | exact Nat.zero_le _⟩ dX10_advance_58 (fun r2598 hr2598 => ?_)
        refine pS hC hK hl (t_letter l G r2598) si_X10_82 rfl rfl (Nat.le_of_ble_eq_true rfl) ⟨Nat.le_of_ble_eq_true rfl, Nat.le_of_ble_eq_true rfl⟩ ⟨by first | exact Nat.le_of_ble_eq_true rfl | exact Nat.zero_le _, by first | exact Nat.le_of_ble_eq_true rfl | exact Nat.zero_le _⟩ dX10_advance_61 (fun r2599 hr2599 => ?_)
        rcases hr2599 with rfl | rfl
        · refine lv_if_eq (tgt := 111) hx hb dX10_advance_64 (by decide) (fun c9 => absurd c9 (by decide)) (fun _ => ?_)
          refine lv_aload_n hx hb dX10_advance_67 rfl (lv_at hl 0 rfl) ?_
          refine lv_bipush (v := (-2)) hx hb dX10_advance_68 (by decide) ?_
          refine pf_X10_31 hC rfl hK hP hD hS 0 (ws' := [(h0, .inr (10, [.ref tby, .int (nI kt), .ref tln, .ref tsp, .int (-2), .int (nI jA), .int (nI jA), .int tf9])), (tby, .inl (G.2.1, 240, .inl fby))]) rfl (Nat.le_of_ble_eq_true rfl) rfl rfl rfl dX10_advance_70 (fun H locs hP hD hS => ?_)
          have keyB : ∀ (nB jB : Nat) (H : Heap) (locs : List Loc) (ls : Array Slot), kt ≤ jB + nB → jB ≤ 240 → va_P G.1 vwCl [(h0, .inr (10, [.ref tby, .int (nI kt), .ref tln, .ref tsp, .int (-2), .int (nI jA), .int (nI jB), .int tf9])), (tby, .inl (G.2.1, 240, .inl fby))] H → va_D A [(h0, .inr (10, [.ref tby, .int (nI kt), .ref tln, .ref tsp, .int (-2), .int (nI jA), .int (nI jB), .int tf9])), (tby, .inl (G.2.1, 240, .inl fby))] → va_S A s.heap H locs → lv_has ls 1 [(0, .ref h0)] → W p l e (RM 3 0 0) s m ([.ref h0] : List Value).toArray below meth c H locs 0 0 (MQ below (QV G (fun u : Int32 × Nat × Nat => u.2.1 ≤ 240 ∧ u.2.2 ≤ 240) (fun u : Int32 × Nat × Nat => [(h0, .inr (10, [.ref tby, .int (nI kt), .ref tln, .ref tsp, .int u.1, .int (nI u.2.1), .int (nI u.2.2), .int tf9])), (tby, .inl (G.2.1, 240, .inl fby))]) A) ([.ref h0] : List Value).toArray s 0 0 A) (F0 m 73 ls []) := by
            intro nB
            induction nB with
            | zero =>
              intro jB H locs ls hkB hmB hP hD hS hl
              have hzB : nI kt ≤ nI jB := (nI_leI (by omega) (by omega)).mpr (by omega)
              refine lv_aload_n hx hb dX10_advance_73 rfl (lv_at hl 0 rfl) ?_
              refine gf_X10_37 hC rfl hK hP 0 rfl rfl dX10_advance_74 ?_
              refine lv_aload_n hx hb dX10_advance_77 rfl (lv_at hl 0 rfl) ?_
              refine gf_X10_27 hC rfl hK hP 0 rfl rfl dX10_advance_78 ?_
              refine lv_icmp_ge (tgt := 199) hx hb dX10_advance_81 (by decide) (fun _ => ?_) (fun c9 => absurd (hzB) c9)
              exact RV hC hP hD hS [0, 1] ((-2), jA, jB) rfl rfl (by decide) (by dsimp only; omega) dX10_advance_199
            | succ nB ihB =>
              intro jB H locs ls hkB hmB hP hD hS hl
              refine lv_aload_n hx hb dX10_advance_73 rfl (lv_at hl 0 rfl) ?_
              refine gf_X10_37 hC rfl hK hP 0 rfl rfl dX10_advance_74 ?_
              refine lv_aload_n hx hb dX10_advance_77 rfl (lv_at hl 0 rfl) ?_
              refine gf_X10_27 hC rfl hK hP 0 rfl rfl dX10_advance_78 ?_
              refine lv_icmp_ge (tgt := 199) hx hb dX10_advance_81 (by decide) (fun c_81_2601 => ?_) (fun c_81_2601 => ?_)
              · exact RV hC hP hD hS [0, 1] ((-2), jA, jB) rfl rfl (by decide) (by dsimp only; omega) dX10_advance_199
              · refine lv_aload_n hx hb dX10_advance_84 rfl (lv_at hl 0 rfl) ?_
                refine lv_aload_n hx hb dX10_advance_85 rfl (lv_at hl 0 rfl) ?_
                refine gf_X10_37 hC rfl hK hP 0 rfl rfl dX10_advance_86 ?_
                refine pV hC hK hl hP hD (t_byteAt l G h0 (nI jB) tby kt tln tsp (-2) (nI jA) (nI jB) tf9 fby) si_X10_78 [0, 1] rfl rfl (by decide) rfl rfl rfl rfl rfl (Nat.le_of_ble_eq_true rfl) ⟨Nat.le_of_ble_eq_true rfl, Nat.le_of_ble_eq_true rfl⟩ ⟨by first | exact Nat.le_of_ble_eq_true rfl | exact Nat.zero_le _, by first | exact Nat.le_of_ble_eq_true rfl | exact Nat.zero_le _⟩ dX10_advance_89 (fun r2602 hr2602 => ?_)
                refine pS hC hK hl (t_letter l G r2602) si_X10_82 rfl rfl (Nat.le_of_ble_eq_true rfl) ⟨Nat.le_of_ble_eq_true rfl, Nat.le_of_ble_eq_true rfl⟩ ⟨by first | exact Nat.le_of_ble_eq_true rfl | exact Nat.zero_le _, by first | exact Nat.le_of_ble_eq_true rfl | exact Nat.zero_le _⟩ dX10_advance_92 (fun r2603 hr2603 => ?_)
                rcases hr2603 with rfl | rfl
                · refine lv_if_eq (tgt := 199) hx hb dX10_advance_95 (by decide) (fun c9 => absurd c9 (by decide)) (fun _ => ?_)
                  refine lv_aload_n hx hb dX10_advance_98 rfl (lv_at hl 0 rfl) ?_
                  refine lv_dup hx hb dX10_advance_99 rfl ?_
                  refine gf_X10_37 hC rfl hK hP 0 rfl rfl dX10_advance_100 ?_
                  refine lv_iconst (v := 1) hx hb dX10_advance_103 (by decide) ?_
                  refine lv_iadd hx hb dX10_advance_104 ?_
                  refine eqi (x1 := nI (jB + 1)) (nI_1 _) ?_
                  refine pf_X10_37 hC rfl hK hP hD hS 0 (ws' := [(h0, .inr (10, [.ref tby, .int (nI kt), .ref tln, .ref tsp, .int (-2), .int (nI jA), .int (nI (jB + 1)), .int tf9])), (tby, .inl (G.2.1, 240, .inl fby))]) rfl (Nat.le_of_ble_eq_true rfl) rfl rfl rfl dX10_advance_105 (fun H locs hP hD hS => ?_)
                  refine lv_goto (tgt := 73) hx hb dX10_advance_108 (by decide) ?_
                  have hnB9 := nge_nat (R := kt) (k := jB) (by omega) (by omega) c_81_2601
                  exact ihB (jB + 1) _ _ _ (by omega) (by omega) hP hD hS (lv_sub hl [0] rfl)
                · refine lv_if_eq (tgt := 199) hx hb dX10_advance_95 (by decide) (fun _ => ?_) (fun c9 => absurd (by decide) c9)
                  exact RV hC hP hD hS [0, 1] ((-2), jA, jB) rfl rfl (by decide) (by dsimp only; omega) dX10_advance_199
          exact keyB kt jA _ _ _ (by omega) (by omega) hP hD hS (lv_sub hl [0] rfl)
        · refine lv_if_eq (tgt := 111) hx hb dX10_advance_64 (by decide) (fun _ => ?_) (fun c9 => absurd (by decide) c9)
          refine lv_aload_n hx hb dX10_advance_111 rfl (lv_at hl 0 rfl) ?_
          refine lv_aload_n hx hb dX10_advance_112 rfl (lv_at hl 0 rfl) ?_
          refine gf_X10_34 hC rfl hK hP 0 rfl rfl dX10_advance_113 ?_
          refine pV hC hK hl hP hD (t_byteAt l G h0 (nI jA) tby kt tln tsp tkd (nI jA) (nI jA) tf9 fby) si_X10_78 [0, 1] rfl rfl (by decide) rfl rfl rfl rfl rfl (Nat.le_of_ble_eq_true rfl) ⟨Nat.le_of_ble_eq_true rfl, Nat.le_of_ble_eq_true rfl⟩ ⟨by first | exact Nat.le_of_ble_eq_true rfl | exact Nat.zero_le _, by first | exact Nat.le_of_ble_eq_true rfl | exact Nat.zero_le _⟩ dX10_advance_116 (fun r2605 hr2605 => ?_)
          refine pS hC hK hl (t_digit l G r2605) si_X10_86 rfl rfl (Nat.le_of_ble_eq_true rfl) ⟨Nat.le_of_ble_eq_true rfl, Nat.le_of_ble_eq_true rfl⟩ ⟨by first | exact Nat.le_of_ble_eq_true rfl | exact Nat.zero_le _, by first | exact Nat.le_of_ble_eq_true rfl | exact Nat.zero_le _⟩ dX10_advance_119 (fun r2606 hr2606 => ?_)
          rcases hr2606 with rfl | rfl
          · refine lv_if_eq (tgt := 169) hx hb dX10_advance_122 (by decide) (fun c9 => absurd c9 (by decide)) (fun _ => ?_)
            refine lv_aload_n hx hb dX10_advance_125 rfl (lv_at hl 0 rfl) ?_
            refine lv_bipush (v := (-3)) hx hb dX10_advance_126 (by decide) ?_
            refine pf_X10_31 hC rfl hK hP hD hS 0 (ws' := [(h0, .inr (10, [.ref tby, .int (nI kt), .ref tln, .ref tsp, .int (-3), .int (nI jA), .int (nI jA), .int tf9])), (tby, .inl (G.2.1, 240, .inl fby))]) rfl (Nat.le_of_ble_eq_true rfl) rfl rfl rfl dX10_advance_128 (fun H locs hP hD hS => ?_)
            have keyC : ∀ (nC jC : Nat) (H : Heap) (locs : List Loc) (ls : Array Slot), kt ≤ jC + nC → jC ≤ 240 → va_P G.1 vwCl [(h0, .inr (10, [.ref tby, .int (nI kt), .ref tln, .ref tsp, .int (-3), .int (nI jA), .int (nI jC), .int tf9])), (tby, .inl (G.2.1, 240, .inl fby))] H → va_D A [(h0, .inr (10, [.ref tby, .int (nI kt), .ref tln, .ref tsp, .int (-3), .int (nI jA), .int (nI jC), .int tf9])), (tby, .inl (G.2.1, 240, .inl fby))] → va_S A s.heap H locs → lv_has ls 1 [(0, .ref h0)] → W p l e (RM 3 0 0) s m ([.ref h0] : List Value).toArray below meth c H locs 0 0 (MQ below (QV G (fun u : Int32 × Nat × Nat => u.2.1 ≤ 240 ∧ u.2.2 ≤ 240) (fun u : Int32 × Nat × Nat => [(h0, .inr (10, [.ref tby, .int (nI kt), .ref tln, .ref tsp, .int u.1, .int (nI u.2.1), .int (nI u.2.2), .int tf9])), (tby, .inl (G.2.1, 240, .inl fby))]) A) ([.ref h0] : List Value).toArray s 0 0 A) (F0 m 131 ls []) := by
              intro nC
              induction nC with
              | zero =>
                intro jC H locs ls hkC hmC hP hD hS hl
                have hzC : nI kt ≤ nI jC := (nI_leI (by omega) (by omega)).mpr (by omega)
                refine lv_aload_n hx hb dX10_advance_131 rfl (lv_at hl 0 rfl) ?_
                refine gf_X10_37 hC rfl hK hP 0 rfl rfl dX10_advance_132 ?_
                refine lv_aload_n hx hb dX10_advance_135 rfl (lv_at hl 0 rfl) ?_
                refine gf_X10_27 hC rfl hK hP 0 rfl rfl dX10_advance_136 ?_
                refine lv_icmp_ge (tgt := 199) hx hb dX10_advance_139 (by decide) (fun _ => ?_) (fun c9 => absurd (hzC) c9)
                exact RV hC hP hD hS [0, 1] ((-3), jA, jC) rfl rfl (by decide) (by dsimp only; omega) dX10_advance_199
              | succ nC ihC =>
                intro jC H locs ls hkC hmC hP hD hS hl
                refine lv_aload_n hx hb dX10_advance_131 rfl (lv_at hl 0 rfl) ?_
                refine gf_X10_37 hC rfl hK hP 0 rfl rfl dX10_advance_132 ?_
                refine lv_aload_n hx hb dX10_advance_135 rfl (lv_at hl 0 rfl) ?_
                refine gf_X10_27 hC rfl hK hP 0 rfl rfl dX10_advance_136 ?_
                refine lv_icmp_ge (tgt := 199) hx hb dX10_advance_139 (by decide) (fun c_139_2608 => ?_) (fun c_139_2608 => ?_)
                · exact RV hC hP hD hS [0, 1] ((-3), jA, jC) rfl rfl (by decide) (by dsimp only; omega) dX10_advance_199
                · refine lv_aload_n hx hb dX10_advance_142 rfl (lv_at hl 0 rfl) ?_
                  refine lv_aload_n hx hb dX10_advance_143 rfl (lv_at hl 0 rfl) ?_
                  refine gf_X10_37 hC rfl hK hP 0 rfl rfl dX10_advance_144 ?_
                  refine pV hC hK hl hP hD (t_byteAt l G h0 (nI jC) tby kt tln tsp (-3) (nI jA) (nI jC) tf9 fby) si_X10_78 [0, 1] rfl rfl (by decide) rfl rfl rfl rfl rfl (Nat.le_of_ble_eq_true rfl) ⟨Nat.le_of_ble_eq_true rfl, Nat.le_of_ble_eq_true rfl⟩ ⟨by first | exact Nat.le_of_ble_eq_true rfl | exact Nat.zero_le _, by first | exact Nat.le_of_ble_eq_true rfl | exact Nat.zero_le _⟩ dX10_advance_147 (fun r2609 hr2609 => ?_)
                  refine pS hC hK hl (t_digit l G r2609) si_X10_86 rfl rfl (Nat.le_of_ble_eq_true rfl) ⟨Nat.le_of_ble_eq_true rfl, Nat.le_of_ble_eq_true rfl⟩ ⟨by first | exact Nat.le_of_ble_eq_true rfl | exact Nat.zero_le _, by first | exact Nat.le_of_ble_eq_true rfl | exact Nat.zero_le _⟩ dX10_advance_150 (fun r2610 hr2610 => ?_)
                  rcases hr2610 with rfl | rfl
                  · refine lv_if_eq (tgt := 199) hx hb dX10_advance_153 (by decide) (fun c9 => absurd c9 (by decide)) (fun _ => ?_)
                    refine lv_aload_n hx hb dX10_advance_156 rfl (lv_at hl 0 rfl) ?_
                    refine lv_dup hx hb dX10_advance_157 rfl ?_
                    refine gf_X10_37 hC rfl hK hP 0 rfl rfl dX10_advance_158 ?_
                    refine lv_iconst (v := 1) hx hb dX10_advance_161 (by decide) ?_
                    refine lv_iadd hx hb dX10_advance_162 ?_
                    refine eqi (x1 := nI (jC + 1)) (nI_1 _) ?_
                    refine pf_X10_37 hC rfl hK hP hD hS 0 (ws' := [(h0, .inr (10, [.ref tby, .int (nI kt), .ref tln, .ref tsp, .int (-3), .int (nI jA), .int (nI (jC + 1)), .int tf9])), (tby, .inl (G.2.1, 240, .inl fby))]) rfl (Nat.le_of_ble_eq_true rfl) rfl rfl rfl dX10_advance_163 (fun H locs hP hD hS => ?_)
                    refine lv_goto (tgt := 131) hx hb dX10_advance_166 (by decide) ?_
                    have hnC9 := nge_nat (R := kt) (k := jC) (by omega) (by omega) c_139_2608
                    exact ihC (jC + 1) _ _ _ (by omega) (by omega) hP hD hS (lv_sub hl [0] rfl)
                  · refine lv_if_eq (tgt := 199) hx hb dX10_advance_153 (by decide) (fun _ => ?_) (fun c9 => absurd (by decide) c9)
                    exact RV hC hP hD hS [0, 1] ((-3), jA, jC) rfl rfl (by decide) (by dsimp only; omega) dX10_advance_199
            exact keyC kt jA _ _ _ (by omega) (by omega) hP hD hS (lv_sub hl [0] rfl)
          · refine lv_if_eq (tgt := 169) hx hb dX10_advance_122 (by decide) (fun _ => ?_) (fun c9 => absurd (by decide) c9)
            refine lv_aload_n hx hb dX10_advance_169 rfl (lv_at hl 0 rfl) ?_
            refine lv_aload_n hx hb dX10_advance_170 rfl (lv_at hl 0 rfl) ?_
            refine lv_aload_n hx hb dX10_advance_171 rfl (lv_at hl 0 rfl) ?_
            refine gf_X10_34 hC rfl hK hP 0 rfl rfl dX10_advance_172 ?_
            refine pV hC hK hl hP hD (t_byteAtN l G h0 jA tby kt tln tsp tkd (nI jA) (nI jA) tf9 fby (by omega)) si_X10_78 [0, 1] rfl rfl (by decide) rfl rfl rfl rfl rfl (Nat.le_of_ble_eq_true rfl) ⟨Nat.le_of_ble_eq_true rfl, Nat.le_of_ble_eq_true rfl⟩ ⟨by first | exact Nat.le_of_ble_eq_true rfl | exact Nat.zero_le _, by first | exact Nat.le_of_ble_eq_true rfl | exact Nat.zero_le _⟩ dX10_advance_175 (fun r2612 hr2612 => ?_)
            rcases hr2612 with rfl | ⟨rfl, a2613⟩
            · refine pf_X10_31 hC rfl hK hP hD hS 0 (ws' := [(h0, .inr (10, [.ref tby, .int (nI kt), .ref tln, .ref tsp, .int (-1), .int (nI jA), .int (nI jA), .int tf9])), (tby, .inl (G.2.1, 240, .inl fby))]) rfl (Nat.le_of_ble_eq_true rfl) rfl rfl rfl dX10_advance_178 (fun H locs hP hD hS => ?_)
              refine lv_aload_n hx hb dX10_advance_181 rfl (lv_at hl 0 rfl) ?_
              refine gf_X10_31 hC rfl hK hP 0 rfl rfl dX10_advance_182 ?_
              refine lv_iconst (v := (-1)) hx hb dX10_advance_185 (by decide) ?_
              refine lv_icmp_eq (tgt := 199) hx hb dX10_advance_186 (by decide) (fun _ => ?_) (fun c9 => absurd (by decide) c9)
              exact RV hC hP hD hS [0, 1] ((-1), jA, jA) rfl rfl (by decide) (by dsimp only; omega) dX10_advance_199
            · refine pf_X10_31 hC rfl hK hP hD hS 0 (ws' := [(h0, .inr (10, [.ref tby, .int (nI kt), .ref tln, .ref tsp, .int (fby jA), .int (nI jA), .int (nI jA), .int tf9])), (tby, .inl (G.2.1, 240, .inl fby))]) rfl (Nat.le_of_ble_eq_true rfl) rfl rfl rfl dX10_advance_178 (fun H locs hP hD hS => ?_)
              refine lv_aload_n hx hb dX10_advance_181 rfl (lv_at hl 0 rfl) ?_
              refine gf_X10_31 hC rfl hK hP 0 rfl rfl dX10_advance_182 ?_
              refine lv_iconst (v := (-1)) hx hb dX10_advance_185 (by decide) ?_
              refine lv_icmp_eq (tgt := 199) hx hb dX10_advance_186 (by decide) (fun c_186_2614 => ?_) (fun c_186_2614 => ?_)
              · exact RV hC hP hD hS [0, 1] ((fby jA), jA, jA) rfl rfl (by decide) (by dsimp only; omega) dX10_advance_199
              · refine lv_aload_n hx hb dX10_advance_189 rfl (lv_at hl 0 rfl) ?_
                refine lv_dup hx hb dX10_advance_190 rfl ?_
                refine gf_X10_37 hC rfl hK hP 0 rfl rfl dX10_advance_191 ?_
                refine lv_iconst (v := 1) hx hb dX10_advance_194 (by decide) ?_
                refine lv_iadd hx hb dX10_advance_195 ?_
                refine eqi (x1 := nI (jA + 1)) (nI_1 _) ?_
                refine pf_X10_37 hC rfl hK hP hD hS 0 (ws' := [(h0, .inr (10, [.ref tby, .int (nI kt), .ref tln, .ref tsp, .int (fby jA), .int (nI jA), .int (nI (jA + 1)), .int tf9])), (tby, .inl (G.2.1, 240, .inl fby))]) rfl (Nat.le_of_ble_eq_true rfl) rfl rfl rfl dX10_advance_196 (fun H locs hP hD hS => ?_)
                exact RV hC hP hD hS [0, 1] ((fby jA), jA, (jA + 1)) rfl rfl (by decide) (by dsimp only; omega) dX10_advance_199
      · refine lv_aload_n hx hb dX10_advance_19 rfl (lv_at hl 0 rfl) ?_
        refine lv_aload_n hx hb dX10_advance_20 rfl (lv_at hl 0 rfl) ?_
        refine gf_X10_34 hC rfl hK hP 0 rfl rfl dX10_advance_21 ?_
        refine pV hC hK hl hP hD (t_byteAt l G h0 (nI jA) tby kt tln tsp tkd (nI jA) (nI kn) tf9 fby) si_X10_78 [0, 1] rfl rfl (by decide) rfl rfl rfl rfl rfl (Nat.le_of_ble_eq_true rfl) ⟨Nat.le_of_ble_eq_true rfl, Nat.le_of_ble_eq_true rfl⟩ ⟨by first | exact Nat.le_of_ble_eq_true rfl | exact Nat.zero_le _, by first | exact Nat.le_of_ble_eq_true rfl | exact Nat.zero_le _⟩ dX10_advance_24 (fun r2615 hr2615 => ?_)
        refine lv_bipush (v := 32) hx hb dX10_advance_27 (by decide) ?_
        refine lv_icmp_ne (tgt := 45) hx hb dX10_advance_29 (by decide) (fun c_29_2616 => ?_) (fun c_29_2616 => ?_)
        · refine lv_aload_n hx hb dX10_advance_45 rfl (lv_at hl 0 rfl) ?_
          refine lv_aload_n hx hb dX10_advance_46 rfl (lv_at hl 0 rfl) ?_
          refine gf_X10_34 hC rfl hK hP 0 rfl rfl dX10_advance_47 ?_
          refine pf_X10_37 hC rfl hK hP hD hS 0 (ws' := [(h0, .inr (10, [.ref tby, .int (nI kt), .ref tln, .ref tsp, .int tkd, .int (nI jA), .int (nI jA), .int tf9])), (tby, .inl (G.2.1, 240, .inl fby))]) rfl (Nat.le_of_ble_eq_true rfl) rfl rfl rfl dX10_advance_50 (fun H locs hP hD hS => ?_)
          refine lv_aload_n hx hb dX10_advance_53 rfl (lv_at hl 0 rfl) ?_
          refine lv_aload_n hx hb dX10_advance_54 rfl (lv_at hl 0 rfl) ?_
          refine gf_X10_34 hC rfl hK hP 0 rfl rfl dX10_advance_55 ?_
          refine pV hC hK hl hP hD (t_byteAt l G h0 (nI jA) tby kt tln tsp tkd (nI jA) (nI jA) tf9 fby) si_X10_78 [0, 1] rfl rfl (by decide) rfl rfl rfl rfl rfl (Nat.le_of_ble_eq_true rfl) ⟨Nat.le_of_ble_eq_true rfl, Nat.le_of_ble_eq_true rfl⟩ ⟨by first | exact Nat.le_of_ble_eq_true rfl | exact Nat.zero_le _, by first | exact Nat.le_of_ble_eq_true rfl | exact Nat.zero_le _⟩ dX10_advance_58 (fun r2617 hr2617 => ?_)
          refine pS hC hK hl (t_letter l G r2617) si_X10_82 rfl rfl (Nat.le_of_ble_eq_true rfl) ⟨Nat.le_of_ble_eq_true rfl, Nat.le_of_ble_eq_true rfl⟩ ⟨by first | exact Nat.le_of_ble_eq_true rfl | exact Nat.zero_le _, by first | exact Nat.le_of_ble_eq_true rfl | exact Nat.zero_le _⟩ dX10_advance_61 (fun r2618 hr2618 => ?_)
          rcases hr2618 with rfl | rfl
          · refine lv_if_eq (tgt := 111) hx hb dX10_advance_64 (by decide) (fun c9 => absurd c9 (by decide)) (fun _ => ?_)
            refine lv_aload_n hx hb dX10_advance_67 rfl (lv_at hl 0 rfl) ?_
            refine lv_bipush (v := (-2)) hx hb dX10_advance_68 (by decide) ?_
            refine pf_X10_31 hC rfl hK hP hD hS 0 (ws' := [(h0, .inr (10, [.ref tby, .int (nI kt), .ref tln, .ref tsp, .int (-2), .int (nI jA), .int (nI jA), .int tf9])), (tby, .inl (G.2.1, 240, .inl fby))]) rfl (Nat.le_of_ble_eq_true rfl) rfl rfl rfl dX10_advance_70 (fun H locs hP hD hS => ?_)
            have keyB : ∀ (nB jB : Nat) (H : Heap) (locs : List Loc) (ls : Array Slot), kt ≤ jB + nB → jB ≤ 240 → va_P G.1 vwCl [(h0, .inr (10, [.ref tby, .int (nI kt), .ref tln, .ref tsp, .int (-2), .int (nI jA), .int (nI jB), .int tf9])), (tby, .inl (G.2.1, 240, .inl fby))] H → va_D A [(h0, .inr (10, [.ref tby, .int (nI kt), .ref tln, .ref tsp, .int (-2), .int (nI jA), .int (nI jB), .int tf9])), (tby, .inl (G.2.1, 240, .inl fby))] → va_S A s.heap H locs → lv_has ls 1 [(0, .ref h0)] → W p l e (RM 3 0 0) s m ([.ref h0] : List Value).toArray below meth c H locs 0 0 (MQ below (QV G (fun u : Int32 × Nat × Nat => u.2.1 ≤ 240 ∧ u.2.2 ≤ 240) (fun u : Int32 × Nat × Nat => [(h0, .inr (10, [.ref tby, .int (nI kt), .ref tln, .ref tsp, .int u.1, .int (nI u.2.1), .int (nI u.2.2), .int tf9])), (tby, .inl (G.2.1, 240, .inl fby))]) A) ([.ref h0] : List Value).toArray s 0 0 A) (F0 m 73 ls []) := by
              intro nB
              induction nB with
              | zero =>
                intro jB H locs ls hkB hmB hP hD hS hl
                have hzB : nI kt ≤ nI jB := (nI_leI (by omega) (by omega)).mpr (by omega)
                refine lv_aload_n hx hb dX10_advance_73 rfl (lv_at hl 0 rfl) ?_
                refine gf_X10_37 hC rfl hK hP 0 rfl rfl dX10_advance_74 ?_
                refine lv_aload_n hx hb dX10_advance_77 rfl (lv_at hl 0 rfl) ?_
                refine gf_X10_27 hC rfl hK hP 0 rfl rfl dX10_advance_78 ?_
                refine lv_icmp_ge (tgt := 199) hx hb dX10_advance_81 (by decide) (fun _ => ?_) (fun c9 => absurd (hzB) c9)
                exact RV hC hP hD hS [0, 1] ((-2), jA, jB) rfl rfl (by decide) (by dsimp only; omega) dX10_advance_199
              | succ nB ihB =>
                intro jB H locs ls hkB hmB hP hD hS hl
                refine lv_aload_n hx hb dX10_advance_73 rfl (lv_at hl 0 rfl) ?_
                refine gf_X10_37 hC rfl hK hP 0 rfl rfl dX10_advance_74 ?_
                refine lv_aload_n hx hb dX10_advance_77 rfl (lv_at hl 0 rfl) ?_
                refine gf_X10_27 hC rfl hK hP 0 rfl rfl dX10_advance_78 ?_
                refine lv_icmp_ge (tgt := 199) hx hb dX10_advance_81 (by decide) (fun c_81_2620 => ?_) (fun c_81_2620 => ?_)
                · exact RV hC hP hD hS [0, 1] ((-2), jA, jB) rfl rfl (by decide) (by dsimp only; omega) dX10_advance_199
                · refine lv_aload_n hx hb dX10_advance_84 rfl (lv_at hl 0 rfl) ?_
                  refine lv_aload_n hx hb dX10_advance_85 rfl (lv_at hl 0 rfl) ?_
                  refine gf_X10_37 hC rfl hK hP 0 rfl rfl dX10_advance_86 ?_
                  refine pV hC hK hl hP hD (t_byteAt l G h0 (nI jB) tby kt tln tsp (-2) (nI jA) (nI jB) tf9 fby) si_X10_78 [0, 1] rfl rfl (by decide) rfl rfl rfl rfl rfl (Nat.le_of_ble_eq_true rfl) ⟨Nat.le_of_ble_eq_true rfl, Nat.le_of_ble_eq_true rfl⟩ ⟨by first | exact Nat.le_of_ble_eq_true rfl | exact Nat.zero_le _, by first | exact Nat.le_of_ble_eq_true rfl | exact Nat.zero_le _⟩ dX10_advance_89 (fun r2621 hr2621 => ?_)
                  refine pS hC hK hl (t_letter l G r2621) si_X10_82 rfl rfl (Nat.le_of_ble_eq_true rfl) ⟨Nat.le_of_ble_eq_true rfl, Nat.le_of_ble_eq_true rfl⟩ ⟨by first | exact Nat.le_of_ble_eq_true rfl | exact Nat.zero_le _, by first | exact Nat.le_of_ble_eq_true rfl | exact Nat.zero_le _⟩ dX10_advance_92 (fun r2622 hr2622 => ?_)
                  rcases hr2622 with rfl | rfl
                  · refine lv_if_eq (tgt := 199) hx hb dX10_advance_95 (by decide) (fun c9 => absurd c9 (by decide)) (fun _ => ?_)
                    refine lv_aload_n hx hb dX10_advance_98 rfl (lv_at hl 0 rfl) ?_
                    refine lv_dup hx hb dX10_advance_99 rfl ?_
                    refine gf_X10_37 hC rfl hK hP 0 rfl rfl dX10_advance_100 ?_
                    refine lv_iconst (v := 1) hx hb dX10_advance_103 (by decide) ?_
                    refine lv_iadd hx hb dX10_advance_104 ?_
                    refine eqi (x1 := nI (jB + 1)) (nI_1 _) ?_
                    refine pf_X10_37 hC rfl hK hP hD hS 0 (ws' := [(h0, .inr (10, [.ref tby, .int (nI kt), .ref tln, .ref tsp, .int (-2), .int (nI jA), .int (nI (jB + 1)), .int tf9])), (tby, .inl (G.2.1, 240, .inl fby))]) rfl (Nat.le_of_ble_eq_true rfl) rfl rfl rfl dX10_advance_105 (fun H locs hP hD hS => ?_)
                    refine lv_goto (tgt := 73) hx hb dX10_advance_108 (by decide) ?_
                    have hnB9 := nge_nat (R := kt) (k := jB) (by omega) (by omega) c_81_2620
                    exact ihB (jB + 1) _ _ _ (by omega) (by omega) hP hD hS (lv_sub hl [0] rfl)
                  · refine lv_if_eq (tgt := 199) hx hb dX10_advance_95 (by decide) (fun _ => ?_) (fun c9 => absurd (by decide) c9)
                    exact RV hC hP hD hS [0, 1] ((-2), jA, jB) rfl rfl (by decide) (by dsimp only; omega) dX10_advance_199
            exact keyB kt jA _ _ _ (by omega) (by omega) hP hD hS (lv_sub hl [0] rfl)
          · refine lv_if_eq (tgt := 111) hx hb dX10_advance_64 (by decide) (fun _ => ?_) (fun c9 => absurd (by decide) c9)
            refine lv_aload_n hx hb dX10_advance_111 rfl (lv_at hl 0 rfl) ?_
            refine lv_aload_n hx hb dX10_advance_112 rfl (lv_at hl 0 rfl) ?_
            refine gf_X10_34 hC rfl hK hP 0 rfl rfl dX10_advance_113 ?_
            refine pV hC hK hl hP hD (t_byteAt l G h0 (nI jA) tby kt tln tsp tkd (nI jA) (nI jA) tf9 fby) si_X10_78 [0, 1] rfl rfl (by decide) rfl rfl rfl rfl rfl (Nat.le_of_ble_eq_true rfl) ⟨Nat.le_of_ble_eq_true rfl, Nat.le_of_ble_eq_true rfl⟩ ⟨by first | exact Nat.le_of_ble_eq_true rfl | exact Nat.zero_le _, by first | exact Nat.le_of_ble_eq_true rfl | exact Nat.zero_le _⟩ dX10_advance_116 (fun r2624 hr2624 => ?_)
            refine pS hC hK hl (t_digit l G r2624) si_X10_86 rfl rfl (Nat.le_of_ble_eq_true rfl) ⟨Nat.le_of_ble_eq_true rfl, Nat.le_of_ble_eq_true rfl⟩ ⟨by first | exact Nat.le_of_ble_eq_true rfl | exact Nat.zero_le _, by first | exact Nat.le_of_ble_eq_true rfl | exact Nat.zero_le _⟩ dX10_advance_119 (fun r2625 hr2625 => ?_)
            rcases hr2625 with rfl | rfl
            · refine lv_if_eq (tgt := 169) hx hb dX10_advance_122 (by decide) (fun c9 => absurd c9 (by decide)) (fun _ => ?_)
              refine lv_aload_n hx hb dX10_advance_125 rfl (lv_at hl 0 rfl) ?_
              refine lv_bipush (v := (-3)) hx hb dX10_advance_126 (by decide) ?_
              refine pf_X10_31 hC rfl hK hP hD hS 0 (ws' := [(h0, .inr (10, [.ref tby, .int (nI kt), .ref tln, .ref tsp, .int (-3), .int (nI jA), .int (nI jA), .int tf9])), (tby, .inl (G.2.1, 240, .inl fby))]) rfl (Nat.le_of_ble_eq_true rfl) rfl rfl rfl dX10_advance_128 (fun H locs hP hD hS => ?_)
              have keyC : ∀ (nC jC : Nat) (H : Heap) (locs : List Loc) (ls : Array Slot), kt ≤ jC + nC → jC ≤ 240 → va_P G.1 vwCl [(h0, .inr (10, [.ref tby, .int (nI kt), .ref tln, .ref tsp, .int (-3), .int (nI jA), .int (nI jC), .int tf9])), (tby, .inl (G.2.1, 240, .inl fby))] H → va_D A [(h0, .inr (10, [.ref tby, .int (nI kt), .ref tln, .ref tsp, .int (-3), .int (nI jA), .int (nI jC), .int tf9])), (tby, .inl (G.2.1, 240, .inl fby))] → va_S A s.heap H locs → lv_has ls 1 [(0, .ref h0)] → W p l e (RM 3 0 0) s m ([.ref h0] : List Value).toArray below meth c H locs 0 0 (MQ below (QV G (fun u : Int32 × Nat × Nat => u.2.1 ≤ 240 ∧ u.2.2 ≤ 240) (fun u : Int32 × Nat × Nat => [(h0, .inr (10, [.ref tby, .int (nI kt), .ref tln, .ref tsp, .int u.1, .int (nI u.2.1), .int (nI u.2.2), .int tf9])), (tby, .inl (G.2.1, 240, .inl fby))]) A) ([.ref h0] : List Value).toArray s 0 0 A) (F0 m 131 ls []) := by
                intro nC
                induction nC with
                | zero =>
                  intro jC H locs ls hkC hmC hP hD hS hl
                  have hzC : nI kt ≤ nI jC := (nI_leI (by omega) (by omega)).mpr (by omega)
                  refine lv_aload_n hx hb dX10_advance_131 rfl (lv_at hl 0 rfl) ?_
                  refine gf_X10_37 hC rfl hK hP 0 rfl rfl dX10_advance_132 ?_
                  refine lv_aload_n hx hb dX10_advance_135 rfl (lv_at hl 0 rfl) ?_
                  refine gf_X10_27 hC rfl hK hP 0 rfl rfl dX10_advance_136 ?_
                  refine lv_icmp_ge (tgt := 199) hx hb dX10_advance_139 (by decide) (fun _ => ?_) (fun c9 => absurd (hzC) c9)
                  exact RV hC hP hD hS [0, 1] ((-3), jA, jC) rfl rfl (by decide) (by dsimp only; omega) dX10_advance_199
                | succ nC ihC =>
                  intro jC H locs ls hkC hmC hP hD hS hl
                  refine lv_aload_n hx hb dX10_advance_131 rfl (lv_at hl 0 rfl) ?_
                  refine gf_X10_37 hC rfl hK hP 0 rfl rfl dX10_advance_132 ?_
                  refine lv_aload_n hx hb dX10_advance_135 rfl (lv_at hl 0 rfl) ?_
                  refine gf_X10_27 hC rfl hK hP 0 rfl rfl dX10_advance_136 ?_
                  refine lv_icmp_ge (tgt := 199) hx hb dX10_advance_139 (by decide) (fun c_139_2627 => ?_) (fun c_139_2627 => ?_)
                  · exact RV hC hP hD hS [0, 1] ((-3), jA, jC) rfl rfl (by decide) (by dsimp only; omega) dX10_advance_199
                  · refine lv_aload_n hx hb dX10_advance_142 rfl (lv_at hl 0 rfl) ?_
                    refine lv_aload_n hx hb dX10_advance_143 rfl (lv_at hl 0 rfl) ?_
                    refine gf_X10_37 hC rfl hK hP 0 rfl rfl dX10_advance_144 ?_
                    refine pV hC hK hl hP hD (t_byteAt l G h0 (nI jC) tby kt tln tsp (-3) (nI jA) (nI jC) tf9 fby) si_X10_78 [0, 1] rfl rfl (by decide) rfl rfl rfl rfl rfl (Nat.le_of_ble_eq_true rfl) ⟨Nat.le_of_ble_eq_true rfl, Nat.le_of_ble_eq_true rfl⟩ ⟨by first | exact Nat.le_of_ble_eq_true rfl | exact Nat.zero_le _, by first | exact Nat.le_of_ble_eq_true rfl | exact Nat.zero_le _⟩ dX10_advance_147 (fun r2628 hr2628 => ?_)
                    refine pS hC hK hl (t_digit l G r2628) si_X10_86 rfl rfl (Nat.le_of_ble_eq_true rfl) ⟨Nat.le_of_ble_eq_true rfl, Nat.le_of_ble_eq_true rfl⟩ ⟨by first | exact Nat.le_of_ble_eq_true rfl | exact Nat.zero_le _, by first | exact Nat.le_of_ble_eq_true rfl | exact Nat.zero_le _⟩ dX10_advance_150 (fun r2629 hr2629 => ?_)
                    rcases hr2629 with rfl | rfl
                    · refine lv_if_eq (tgt := 199) hx hb dX10_advance_153 (by decide) (fun c9 => absurd c9 (by decide)) (fun _ => ?_)
                      refine lv_aload_n hx hb dX10_advance_156 rfl (lv_at hl 0 rfl) ?_
                      refine lv_dup hx hb dX10_advance_157 rfl ?_
                      refine gf_X10_37 hC rfl hK hP 0 rfl rfl dX10_advance_158 ?_
                      refine lv_iconst (v := 1) hx hb dX10_advance_161 (by decide) ?_
                      refine lv_iadd hx hb dX10_advance_162 ?_
                      refine eqi (x1 := nI (jC + 1)) (nI_1 _) ?_
                      refine pf_X10_37 hC rfl hK hP hD hS 0 (ws' := [(h0, .inr (10, [.ref tby, .int (nI kt), .ref tln, .ref tsp, .int (-3), .int (nI jA), .int (nI (jC + 1)), .int tf9])), (tby, .inl (G.2.1, 240, .inl fby))]) rfl (Nat.le_of_ble_eq_true rfl) rfl rfl rfl dX10_advance_163 (fun H locs hP hD hS => ?_)
                      refine lv_goto (tgt := 131) hx hb dX10_advance_166 (by decide) ?_
                      have hnC9 := nge_nat (R := kt) (k := jC) (by omega) (by omega) c_139_2627
                      exact ihC (jC + 1) _ _ _ (by omega) (by omega) hP hD hS (lv_sub hl [0] rfl)
                    · refine lv_if_eq (tgt := 199) hx hb dX10_advance_153 (by decide) (fun _ => ?_) (fun c9 => absurd (by decide) c9)
                      exact RV hC hP hD hS [0, 1] ((-3), jA, jC) rfl rfl (by decide) (by dsimp only; omega) dX10_advance_199
              exact keyC kt jA _ _ _ (by omega) (by omega) hP hD hS (lv_sub hl [0] rfl)
            · refine lv_if_eq (tgt := 169) hx hb dX10_advance_122 (by decide) (fun _ => ?_) (fun c9 => absurd (by decide) c9)
              refine lv_aload_n hx hb dX10_advance_169 rfl (lv_at hl 0 rfl) ?_
              refine lv_aload_n hx hb dX10_advance_170 rfl (lv_at hl 0 rfl) ?_
              refine lv_aload_n hx hb dX10_advance_171 rfl (lv_at hl 0 rfl) ?_
              refine gf_X10_34 hC rfl hK hP 0 rfl rfl dX10_advance_172 ?_
              refine pV hC hK hl hP hD (t_byteAtN l G h0 jA tby kt tln tsp tkd (nI jA) (nI jA) tf9 fby (by omega)) si_X10_78 [0, 1] rfl rfl (by decide) rfl rfl rfl rfl rfl (Nat.le_of_ble_eq_true rfl) ⟨Nat.le_of_ble_eq_true rfl, Nat.le_of_ble_eq_true rfl⟩ ⟨by first | exact Nat.le_of_ble_eq_true rfl | exact Nat.zero_le _, by first | exact Nat.le_of_ble_eq_true rfl | exact Nat.zero_le _⟩ dX10_advance_175 (fun r2631 hr2631 => ?_)
              rcases hr2631 with rfl | ⟨rfl, a2632⟩
              · refine pf_X10_31 hC rfl hK hP hD hS 0 (ws' := [(h0, .inr (10, [.ref tby, .int (nI kt), .ref tln, .ref tsp, .int (-1), .int (nI jA), .int (nI jA), .int tf9])), (tby, .inl (G.2.1, 240, .inl fby))]) rfl (Nat.le_of_ble_eq_true rfl) rfl rfl rfl dX10_advance_178 (fun H locs hP hD hS => ?_)
                refine lv_aload_n hx hb dX10_advance_181 rfl (lv_at hl 0 rfl) ?_
                refine gf_X10_31 hC rfl hK hP 0 rfl rfl dX10_advance_182 ?_
                refine lv_iconst (v := (-1)) hx hb dX10_advance_185 (by decide) ?_
                refine lv_icmp_eq (tgt := 199) hx hb dX10_advance_186 (by decide) (fun _ => ?_) (fun c9 => absurd (by decide) c9)
                exact RV hC hP hD hS [0, 1] ((-1), jA, jA) rfl rfl (by decide) (by dsimp only; omega) dX10_advance_199
              · refine pf_X10_31 hC rfl hK hP hD hS 0 (ws' := [(h0, .inr (10, [.ref tby, .int (nI kt), .ref tln, .ref tsp, .int (fby jA), .int (nI jA), .int (nI jA), .int tf9])), (tby, .inl (G.2.1, 240, .inl fby))]) rfl (Nat.le_of_ble_eq_true rfl) rfl rfl rfl dX10_advance_178 (fun H locs hP hD hS => ?_)
                refine lv_aload_n hx hb dX10_advance_181 rfl (lv_at hl 0 rfl) ?_
                refine gf_X10_31 hC rfl hK hP 0 rfl rfl dX10_advance_182 ?_
                refine lv_iconst (v := (-1)) hx hb dX10_advance_185 (by decide) ?_
                refine lv_icmp_eq (tgt := 199) hx hb dX10_advance_186 (by decide) (fun c_186_2633 => ?_) (fun c_186_2633 => ?_)
                · exact RV hC hP hD hS [0, 1] ((fby jA), jA, jA) rfl rfl (by decide) (by dsimp only; omega) dX10_advance_199
                · refine lv_aload_n hx hb dX10_advance_189 rfl (lv_at hl 0 rfl) ?_
                  refine lv_dup hx hb dX10_advance_190 rfl ?_
                  refine gf_X10_37 hC rfl hK hP 0 rfl rfl dX10_advance_191 ?_
                  refine lv_iconst (v := 1) hx hb dX10_advance_194 (by decide) ?_
                  refine lv_iadd hx hb dX10_advance_195 ?_
                  refine eqi (x1 := nI (jA + 1)) (nI_1 _) ?_
                  refine pf_X10_37 hC rfl hK hP hD hS 0 (ws' := [(h0, .inr (10, [.ref tby, .int (nI kt), .ref tln, .ref tsp, .int (fby jA), .int (nI jA), .int (nI (jA + 1)), .int tf9])), (tby, .inl (G.2.1, 240, .inl fby))]) rfl (Nat.le_of_ble_eq_true rfl) rfl rfl rfl dX10_advance_196 (fun H locs hP hD hS => ?_)
                  exact RV hC hP hD hS [0, 1] ((fby jA), jA, (jA + 1)) rfl rfl (by decide) (by dsimp only; omega) dX10_advance_199
        · refine lv_aload_n hx hb dX10_advance_32 rfl (lv_at hl 0 rfl) ?_
          refine lv_dup hx hb dX10_advance_33 rfl ?_
          refine gf_X10_34 hC rfl hK hP 0 rfl rfl dX10_advance_34 ?_
          refine lv_iconst (v := 1) hx hb dX10_advance_37 (by decide) ?_
          refine lv_iadd hx hb dX10_advance_38 ?_
          refine eqi (x1 := nI (jA + 1)) (nI_1 _) ?_
          refine pf_X10_34 hC rfl hK hP hD hS 0 (ws' := [(h0, .inr (10, [.ref tby, .int (nI kt), .ref tln, .ref tsp, .int tkd, .int (nI (jA + 1)), .int (nI kn), .int tf9])), (tby, .inl (G.2.1, 240, .inl fby))]) rfl (Nat.le_of_ble_eq_true rfl) rfl rfl rfl dX10_advance_39 (fun H locs hP hD hS => ?_)
          refine lv_goto (tgt := 8) hx hb dX10_advance_42 (by decide) ?_
          have hnA9 := nge_nat (R := kt) (k := jA) (by omega) (by omega) c_16_2597
          exact ihA (jA + 1) _ _ _ (by omega) (by omega) hP hD hS (lv_sub hl [0] rfl)
  exact keyA kt kn _ _ _ (by omega) (by omega) hP hD hS (lv_sub hl [0] rfl)
set_option maxHeartbeats 4000000 in
set_option maxRecDepth 100000 in
theorem t_isName (l : Launch) (G : GG) (K : OO) (i9 : Nat) (h0 : Nat) (tby : Nat) (kt : Nat) (tln : Nat) (tsp : Nat) (tkd : Int32) (ks : Nat) (kn : Nat) (tf9 : Int32) (fby : Nat → Int32) (hkt : kt ≤ 240) (hks : ks ≤ 240) (hkn : kn ≤ 240) (hi9 : i9 < 16) : MPo l G K yX10_isName cX10_isName 3 (some .boolean) 6 [.ref h0, .ref (K.1 i9)] [(h0, .inr (10, [.ref tby, .int (nI kt), .ref tln, .ref tsp, .int tkd, .int (nI ks), .int (nI kn), .int tf9])), (tby, .inl (G.2.1, 240, .inl fby))] (fun r : Int32 => r = 1 ∨ r = 0) := by
  refine MPo.start (by decide +kernel) (Nat.le_of_ble_eq_true rfl) ?_
  intro p e s m below meth c ls hC hK hP hD hl hO hS
  have hl : lv_has ls 3 [(0, .ref h0), (1, .ref (K.1 i9))] := hl
  obtain ⟨hx, hb, hr, hml, hB, hown, hlocks, hnm⟩ := id hC
  have hs6 := slen6 i9 hi9
  refine lv_aload_n hx hb dX10_isName_0 rfl (lv_at hl 0 rfl) ?_
  refine gf_X10_31 hC rfl hK hP 0 rfl rfl dX10_isName_1 ?_
  refine lv_bipush (v := (-2)) hx hb dX10_isName_4 (by decide) ?_
  refine lv_icmp_ne (tgt := 25) hx hb dX10_isName_6 (by decide) (fun c_6_2634 => ?_) (fun c_6_2634 => ?_)
  · refine lv_iconst (v := 0) hx hb dX10_isName_25 (by decide) ?_
    exact RP (v := 0) hC (Or.inr (rfl)) (by decide +kernel) dX10_isName_26
  · refine lv_aload_n hx hb dX10_isName_9 rfl (lv_at hl 0 rfl) ?_
    refine gf_X10_37 hC rfl hK hP 0 rfl rfl dX10_isName_10 ?_
    refine lv_aload_n hx hb dX10_isName_13 rfl (lv_at hl 0 rfl) ?_
    refine gf_X10_34 hC rfl hK hP 0 rfl rfl dX10_isName_14 ?_
    refine lv_isub hx hb dX10_isName_17 ?_
    refine lv_aload_n hx hb dX10_isName_18 rfl (lv_at hl 1 rfl) ?_
    refine pTo (i := i9) (hi9) hO hS hC hK hl (j_len l G K i9 ((hi9))) si_X10_93 rfl rfl (Nat.le_of_ble_eq_true rfl) ⟨Nat.le_of_ble_eq_true rfl, Nat.le_of_ble_eq_true rfl⟩ ⟨by first | exact Nat.le_of_ble_eq_true rfl | exact Nat.zero_le _, by first | exact Nat.le_of_ble_eq_true rfl | exact Nat.zero_le _⟩ dX10_isName_19 (fun r2635 hr2635 => ?_)
    obtain rfl := hr2635
    refine lv_icmp_eq (tgt := 27) hx hb dX10_isName_22 (by decide) (fun c_22_2637 => ?_) (fun c_22_2637 => ?_)
    · refine lv_iconst (v := 0) hx hb dX10_isName_27 (by decide) ?_
      refine lv_istore_n (lv' := [(2, .int 0), (0, .ref h0), (1, .ref (K.1 i9))]) hx hb dX10_isName_28 rfl hl (by decide) rfl (fun ls hl => ?_)
      have keyP : ∀ (nP kP : Nat) (ls : Array Slot), kP + nP = (SLEN.getD i9 0) → lv_has ls 3 [(2, .int (nI kP)), (0, .ref h0), (1, .ref (K.1 i9))] → W p l e (RM 6 0 0) s m ([.ref h0, .ref (K.1 i9)] : List Value).toArray below meth c s.heap [] 0 0 (MQ below (QP (fun r : Int32 => r = 1 ∨ r = 0)) ([.ref h0, .ref (K.1 i9)] : List Value).toArray s 0 0 (fun _ => False)) (F0 m 29 ls []) := by
        intro nP
        induction nP with
        | zero =>
          intro kP ls hkP hl
          obtain rfl : (SLEN.getD i9 0) = kP := by omega
          have hl : lv_has ls 3 [(2, .int (nI (SLEN.getD i9 0))), (0, .ref h0), (1, .ref (K.1 i9))] := hl
          refine lv_iload_n hx hb dX10_isName_29 rfl (lv_at hl 0 rfl) ?_
          refine lv_aload_n hx hb dX10_isName_30 rfl (lv_at hl 2 rfl) ?_
          refine pTo (i := i9) (hi9) hO hS hC hK hl (j_len l G K i9 ((hi9))) si_X10_93 rfl rfl (Nat.le_of_ble_eq_true rfl) ⟨Nat.le_of_ble_eq_true rfl, Nat.le_of_ble_eq_true rfl⟩ ⟨by first | exact Nat.le_of_ble_eq_true rfl | exact Nat.zero_le _, by first | exact Nat.le_of_ble_eq_true rfl | exact Nat.zero_le _⟩ dX10_isName_31 (fun r2638 hr2638 => ?_)
          obtain rfl := hr2638
          refine lv_icmp_ge (tgt := 63) hx hb dX10_isName_34 (by decide) (fun _ => ?_) (fun c9 => absurd (Int32.le_refl _) c9)
          refine lv_iconst (v := 1) hx hb dX10_isName_63 (by decide) ?_
          exact RP (v := 1) hC (Or.inl (rfl)) (by decide +kernel) dX10_isName_64
        | succ nP ihP =>
          intro kP ls hkP hl
          refine lv_iload_n hx hb dX10_isName_29 rfl (lv_at hl 0 rfl) ?_
          refine lv_aload_n hx hb dX10_isName_30 rfl (lv_at hl 2 rfl) ?_
          refine pTo (i := i9) (hi9) hO hS hC hK hl (j_len l G K i9 ((hi9))) si_X10_93 rfl rfl (Nat.le_of_ble_eq_true rfl) ⟨Nat.le_of_ble_eq_true rfl, Nat.le_of_ble_eq_true rfl⟩ ⟨by first | exact Nat.le_of_ble_eq_true rfl | exact Nat.zero_le _, by first | exact Nat.le_of_ble_eq_true rfl | exact Nat.zero_le _⟩ dX10_isName_31 (fun r2640 hr2640 => ?_)
          obtain rfl := hr2640
          refine lv_icmp_ge (tgt := 63) hx hb dX10_isName_34 (by decide) (fun c9 => absurd c9 (nI_ge (a := kP) (b := (SLEN.getD i9 0)) (by omega) (by omega))) (fun _ => ?_)
          refine lv_aload_n hx hb dX10_isName_37 rfl (lv_at hl 1 rfl) ?_
          refine lv_aload_n hx hb dX10_isName_38 rfl (lv_at hl 1 rfl) ?_
          refine gf_X10_34 hC rfl hK hP 0 rfl rfl dX10_isName_39 ?_
          refine lv_iload_n hx hb dX10_isName_42 rfl (lv_at hl 0 rfl) ?_
          refine lv_iadd hx hb dX10_isName_43 ?_
          refine pV hC hK hl hP hD (t_byteAt l G h0 ((nI ks) + (nI kP)) tby kt tln tsp tkd (nI ks) (nI kn) tf9 fby) si_X10_78 [0, 1] rfl rfl (by decide) rfl rfl rfl rfl rfl (Nat.le_of_ble_eq_true rfl) ⟨Nat.le_of_ble_eq_true rfl, Nat.le_of_ble_eq_true rfl⟩ ⟨by first | exact Nat.le_of_ble_eq_true rfl | exact Nat.zero_le _, by first | exact Nat.le_of_ble_eq_true rfl | exact Nat.zero_le _⟩ dX10_isName_44 (fun r2642 hr2642 => ?_)
          refine lv_aload_n hx hb dX10_isName_47 rfl (lv_at hl 2 rfl) ?_
          refine lv_iload_n hx hb dX10_isName_48 rfl (lv_at hl 0 rfl) ?_
          refine pTo (i := i9) (hi9) hO hS hC hK hl (j_chr l G K i9 kP ((hi9)) (by omega)) si_X10_98 rfl rfl (Nat.le_of_ble_eq_true rfl) ⟨Nat.le_of_ble_eq_true rfl, Nat.le_of_ble_eq_true rfl⟩ ⟨by first | exact Nat.le_of_ble_eq_true rfl | exact Nat.zero_le _, by first | exact Nat.le_of_ble_eq_true rfl | exact Nat.zero_le _⟩ dX10_isName_49 (fun r2643 hr2643 => ?_)
          obtain rfl := hr2643
          refine lv_icmp_eq (tgt := 57) hx hb dX10_isName_52 (by decide) (fun c_52_2645 => ?_) (fun c_52_2645 => ?_)
          · refine lv_iinc (v := nI (kP + 1)) (lv' := [(2, .int (nI (kP + 1))), (0, .ref h0), (1, .ref (K.1 i9))]) hx hb dX10_isName_57 hl (k := 0) rfl (nI_1 _) (by decide) rfl (fun ls hl => ?_)
            refine lv_goto (tgt := 29) hx hb dX10_isName_60 (by decide) ?_
            exact ihP (kP + 1) _ (by omega) (lv_sub hl [0, 1, 2] rfl)
          · refine lv_iconst (v := 0) hx hb dX10_isName_55 (by decide) ?_
            exact RP (v := 0) hC (Or.inr (rfl)) (by decide +kernel) dX10_isName_56
      exact keyP (SLEN.getD i9 0) 0 _ (by omega) (lv_sub hl [0, 1, 2] rfl)
    · refine lv_iconst (v := 0) hx hb dX10_isName_25 (by decide) ?_
      exact RP (v := 0) hC (Or.inr (rfl)) (by decide +kernel) dX10_isName_26
set_option maxHeartbeats 4000000 in
set_option maxRecDepth 100000 in
theorem t_takesName (l : Launch) (G : GG) (K : OO) (i9 : Nat) (h0 : Nat) (tby : Nat) (kt : Nat) (tln : Nat) (tsp : Nat) (tkd : Int32) (ks : Nat) (kn : Nat) (tf9 : Int32) (fby : Nat → Int32) (hkt : kt ≤ 240) (hks : ks ≤ 240) (hkn : kn ≤ 240) (hi9 : i9 < 16) : MIo l G K yX10_takesName cX10_takesName 2 (some .boolean) 7 0 0 [.ref h0, .ref (K.1 i9)] [(h0, .inr (10, [.ref tby, .int (nI kt), .ref tln, .ref tsp, .int tkd, .int (nI ks), .int (nI kn), .int tf9])), (tby, .inl (G.2.1, 240, .inl fby))] (fun (r : Int32) (u : Int32 × Nat × Nat × Int32) => (r = 1 ∨ r = 0) ∧ (u.2.1 ≤ 240 ∧ u.2.2.1 ≤ 240)) (fun u : Int32 × Nat × Nat × Int32 => [(h0, .inr (10, [.ref tby, .int (nI kt), .ref tln, .ref tsp, .int u.1, .int (nI u.2.1), .int (nI u.2.2.1), .int u.2.2.2])), (tby, .inl (G.2.1, 240, .inl fby))]) := by
  refine MIo.start (by decide +kernel) (Nat.le_of_ble_eq_true rfl) ?_
  intro p e s m below meth c A ls hC hK hP hD hS hA hl hO
  have hl : lv_has ls 2 [(0, .ref h0), (1, .ref (K.1 i9))] := hl
  obtain ⟨hx, hb, hr, hml, hB, hown, hlocks, hnm⟩ := id hC
  refine lv_aload_n hx hb dX10_takesName_0 rfl (lv_at hl 0 rfl) ?_
  refine lv_aload_n hx hb dX10_takesName_1 rfl (lv_at hl 1 rfl) ?_
  refine pVo hO hS hC hK hl hP hD (t_isName l G K i9 h0 tby kt tln tsp tkd ks kn tf9 fby (by omega) (by omega) (by omega) ((hi9))) si_X10_102 [0, 1] rfl rfl (by decide) rfl rfl rfl rfl rfl (Nat.le_of_ble_eq_true rfl) ⟨Nat.le_of_ble_eq_true rfl, Nat.le_of_ble_eq_true rfl⟩ ⟨by first | exact Nat.le_of_ble_eq_true rfl | exact Nat.zero_le _, by first | exact Nat.le_of_ble_eq_true rfl | exact Nat.zero_le _⟩ dX10_takesName_2 (fun r2646 hr2646 => ?_)
  rcases hr2646 with rfl | rfl
  · refine lv_if_ne (tgt := 13) hx hb dX10_takesName_5 (by decide) (fun _ => ?_) (fun c9 => absurd c9 (by decide))
    refine lv_aload_n hx hb dX10_takesName_13 rfl (lv_at hl 0 rfl) ?_
    refine vV (wr := []) hC hK hl hP hD hS hA (t_advance l G h0 tby kt tln tsp tkd ks kn tf9 fby (by omega) (by omega) (by omega)) si_X10_47 [0, 1] [] rfl rfl (by decide) rfl (by decide) (by decide) rfl rfl rfl rfl rfl (Nat.le_of_ble_eq_true rfl) ⟨Nat.le_of_ble_eq_true rfl, Nat.le_of_ble_eq_true rfl⟩ ⟨Nat.le_of_ble_eq_true rfl, Nat.le_of_ble_eq_true rfl⟩ dX10_takesName_14 (fun u2649 H locs hr2648 hP hD hS => ?_)
    obtain ⟨kd12650, ks12651, kn12652⟩ := u2649
    try dsimp only at hr2648
    have hP : va_P G.1 vwCl [(h0, .inr (10, [.ref tby, .int (nI kt), .ref tln, .ref tsp, .int kd12650, .int (nI ks12651), .int (nI kn12652), .int tf9])), (tby, .inl (G.2.1, 240, .inl fby))] H := hP
    have hD : va_D A [(h0, .inr (10, [.ref tby, .int (nI kt), .ref tln, .ref tsp, .int kd12650, .int (nI ks12651), .int (nI kn12652), .int tf9])), (tby, .inl (G.2.1, 240, .inl fby))] := hD
    have w2653 := hr2648
    refine lv_iconst (v := 1) hx hb dX10_takesName_17 (by decide) ?_
    exact RI (v := 1) hC hP hD hS [0, 1] (kd12650, ks12651, kn12652, tf9) rfl rfl (by decide) (⟨Or.inl (rfl), by dsimp only; omega⟩) (by decide +kernel) dX10_takesName_18
  · refine lv_if_ne (tgt := 13) hx hb dX10_takesName_5 (by decide) (fun c9 => absurd (by decide) c9) (fun _ => ?_)
    refine lv_aload_n hx hb dX10_takesName_8 rfl (lv_at hl 0 rfl) ?_
    refine iV (wr := [(tby, .inl (G.2.1, 240, .inl fby))]) hC hK hl hP hD hS hA (t_refuse l G h0 tby kt tln tsp tkd ks kn tf9) si_X10_106 [0] [1] rfl rfl (by decide) rfl (by decide) (by decide) rfl rfl rfl rfl rfl (Nat.le_of_ble_eq_true rfl) ⟨Nat.le_of_ble_eq_true rfl, Nat.le_of_ble_eq_true rfl⟩ ⟨Nat.le_of_ble_eq_true rfl, Nat.le_of_ble_eq_true rfl⟩ dX10_takesName_9 (fun r2654 u2655 H locs hr2654 hP hD hS => ?_)
    obtain ⟨tf12656, rfl⟩ : ∃ z9, z9 = u2655 := ⟨_, rfl⟩
    try dsimp only at hr2654
    have hP : va_P G.1 vwCl [(tby, .inl (G.2.1, 240, .inl fby)), (h0, .inr (10, [.ref tby, .int (nI kt), .ref tln, .ref tsp, .int tkd, .int (nI ks), .int (nI kn), .int tf12656]))] H := hP
    have hD : va_D A [(tby, .inl (G.2.1, 240, .inl fby)), (h0, .inr (10, [.ref tby, .int (nI kt), .ref tln, .ref tsp, .int tkd, .int (nI ks), .int (nI kn), .int tf12656]))] := hD
    obtain rfl := hr2654
    exact RI (v := 0) hC hP hD hS [1, 0] (tkd, ks, kn, tf12656) rfl rfl (by decide) (⟨Or.inr (rfl), by dsimp only; omega⟩) (by decide +kernel) dX10_takesName_12
set_option maxHeartbeats 4000000 in
set_option maxRecDepth 100000 in
theorem t_takesByte (l : Launch) (G : GG) (h0 : Nat) (b9 : Int32) (tby : Nat) (kt : Nat) (tln : Nat) (tsp : Nat) (tkd : Int32) (ks : Nat) (kn : Nat) (tf9 : Int32) (fby : Nat → Int32) (hkt : kt ≤ 240) (hks : ks ≤ 240) (hkn : kn ≤ 240) : MI l G yX10_takesByte cX10_takesByte 2 (some .boolean) 4 0 0 [.ref h0, .int b9] [(h0, .inr (10, [.ref tby, .int (nI kt), .ref tln, .ref tsp, .int tkd, .int (nI ks), .int (nI kn), .int tf9])), (tby, .inl (G.2.1, 240, .inl fby))] (fun (r : Int32) (u : Int32 × Nat × Nat × Int32) => (r = 1 ∨ r = 0) ∧ (u.2.1 ≤ 240 ∧ u.2.2.1 ≤ 240)) (fun u : Int32 × Nat × Nat × Int32 => [(h0, .inr (10, [.ref tby, .int (nI kt), .ref tln, .ref tsp, .int u.1, .int (nI u.2.1), .int (nI u.2.2.1), .int u.2.2.2])), (tby, .inl (G.2.1, 240, .inl fby))]) := by
  refine MI.start (by decide +kernel) (Nat.le_of_ble_eq_true rfl) ?_
  intro p e s m below meth c A ls hC hK hP hD hS hA hl
  have hl : lv_has ls 2 [(0, .ref h0), (1, .int b9)] := hl
  obtain ⟨hx, hb, hr, hml, hB, hown, hlocks, hnm⟩ := id hC
  refine lv_aload_n hx hb dX10_takesByte_0 rfl (lv_at hl 0 rfl) ?_
  refine gf_X10_31 hC rfl hK hP 0 rfl rfl dX10_takesByte_1 ?_
  refine lv_iload_n hx hb dX10_takesByte_4 rfl (lv_at hl 1 rfl) ?_
  refine lv_icmp_eq (tgt := 13) hx hb dX10_takesByte_5 (by decide) (fun c_5_2658 => ?_) (fun c_5_2658 => ?_)
  · refine lv_aload_n hx hb dX10_takesByte_13 rfl (lv_at hl 0 rfl) ?_
    refine vV (wr := []) hC hK hl hP hD hS hA (t_advance l G h0 tby kt tln tsp tkd ks kn tf9 fby (by omega) (by omega) (by omega)) si_X10_47 [0, 1] [] rfl rfl (by decide) rfl (by decide) (by decide) rfl rfl rfl rfl rfl (Nat.le_of_ble_eq_true rfl) ⟨Nat.le_of_ble_eq_true rfl, Nat.le_of_ble_eq_true rfl⟩ ⟨Nat.le_of_ble_eq_true rfl, Nat.le_of_ble_eq_true rfl⟩ dX10_takesByte_14 (fun u2660 H locs hr2659 hP hD hS => ?_)
    obtain ⟨kd12661, ks12662, kn12663⟩ := u2660
    try dsimp only at hr2659
    have hP : va_P G.1 vwCl [(h0, .inr (10, [.ref tby, .int (nI kt), .ref tln, .ref tsp, .int kd12661, .int (nI ks12662), .int (nI kn12663), .int tf9])), (tby, .inl (G.2.1, 240, .inl fby))] H := hP
    have hD : va_D A [(h0, .inr (10, [.ref tby, .int (nI kt), .ref tln, .ref tsp, .int kd12661, .int (nI ks12662), .int (nI kn12663), .int tf9])), (tby, .inl (G.2.1, 240, .inl fby))] := hD
    have w2664 := hr2659
    refine lv_iconst (v := 1) hx hb dX10_takesByte_17 (by decide) ?_
    exact RI (v := 1) hC hP hD hS [0, 1] (kd12661, ks12662, kn12663, tf9) rfl rfl (by decide) (⟨Or.inl (rfl), by dsimp only; omega⟩) (by decide +kernel) dX10_takesByte_18
  · refine lv_aload_n hx hb dX10_takesByte_8 rfl (lv_at hl 0 rfl) ?_
    refine iV (wr := [(tby, .inl (G.2.1, 240, .inl fby))]) hC hK hl hP hD hS hA (t_refuse l G h0 tby kt tln tsp tkd ks kn tf9) si_X10_106 [0] [1] rfl rfl (by decide) rfl (by decide) (by decide) rfl rfl rfl rfl rfl (Nat.le_of_ble_eq_true rfl) ⟨Nat.le_of_ble_eq_true rfl, Nat.le_of_ble_eq_true rfl⟩ ⟨Nat.le_of_ble_eq_true rfl, Nat.le_of_ble_eq_true rfl⟩ dX10_takesByte_9 (fun r2665 u2666 H locs hr2665 hP hD hS => ?_)
    obtain ⟨tf12667, rfl⟩ : ∃ z9, z9 = u2666 := ⟨_, rfl⟩
    try dsimp only at hr2665
    have hP : va_P G.1 vwCl [(tby, .inl (G.2.1, 240, .inl fby)), (h0, .inr (10, [.ref tby, .int (nI kt), .ref tln, .ref tsp, .int tkd, .int (nI ks), .int (nI kn), .int tf12667]))] H := hP
    have hD : va_D A [(tby, .inl (G.2.1, 240, .inl fby)), (h0, .inr (10, [.ref tby, .int (nI kt), .ref tln, .ref tsp, .int tkd, .int (nI ks), .int (nI kn), .int tf12667]))] := hD
    obtain rfl := hr2665
    exact RI (v := 0) hC hP hD hS [1, 0] (tkd, ks, kn, tf12667) rfl rfl (by decide) (⟨Or.inr (rfl), by dsimp only; omega⟩) (by decide +kernel) dX10_takesByte_12
set_option maxHeartbeats 4000000 in
set_option maxRecDepth 100000 in
theorem t_numberHere (l : Launch) (G : GG) (h0 : Nat) (tby : Nat) (kt : Nat) (tln : Nat) (tsp : Nat) (tkd : Int32) (ks : Nat) (kn : Nat) (tf9 : Int32) (fby : Nat → Int32) (hkt : kt ≤ 240) (hks : ks ≤ 240) (hkn : kn ≤ 240) : MP l G yX10_numberHere cX10_numberHere 3 (some .int) 3 [.ref h0] [(h0, .inr (10, [.ref tby, .int (nI kt), .ref tln, .ref tsp, .int tkd, .int (nI ks), .int (nI kn), .int tf9])), (tby, .inl (G.2.1, 240, .inl fby))] (fun r : Int32 => True) := by
  refine MP.start (by decide +kernel) (Nat.le_of_ble_eq_true rfl) ?_
  intro p e s m below meth c ls hC hK hP hD hl
  have hl : lv_has ls 3 [(0, .ref h0)] := hl
  obtain ⟨hx, hb, hr, hml, hB, hown, hlocks, hnm⟩ := id hC
  refine lv_aload_n hx hb dX10_numberHere_0 rfl (lv_at hl 0 rfl) ?_
  refine gf_X10_31 hC rfl hK hP 0 rfl rfl dX10_numberHere_1 ?_
  refine lv_bipush (v := (-3)) hx hb dX10_numberHere_4 (by decide) ?_
  refine lv_icmp_ne (tgt := 22) hx hb dX10_numberHere_6 (by decide) (fun c_6_2669 => ?_) (fun c_6_2669 => ?_)
  · refine lv_iconst (v := (-1)) hx hb dX10_numberHere_22 (by decide) ?_
    exact RP (v := (-1)) hC (trivial) rfl dX10_numberHere_23
  · refine lv_aload_n hx hb dX10_numberHere_9 rfl (lv_at hl 0 rfl) ?_
    refine gf_X10_37 hC rfl hK hP 0 rfl rfl dX10_numberHere_10 ?_
    refine lv_aload_n hx hb dX10_numberHere_13 rfl (lv_at hl 0 rfl) ?_
    refine gf_X10_34 hC rfl hK hP 0 rfl rfl dX10_numberHere_14 ?_
    refine lv_isub hx hb dX10_numberHere_17 ?_
    refine lv_iconst (v := 3) hx hb dX10_numberHere_18 (by decide) ?_
    refine lv_icmp_le (tgt := 24) hx hb dX10_numberHere_19 (by decide) (fun c_19_2670 => ?_) (fun c_19_2670 => ?_)
    · refine lv_iconst (v := 0) hx hb dX10_numberHere_24 (by decide) ?_
      refine lv_istore_n (lv' := [(1, .int 0), (0, .ref h0)]) hx hb dX10_numberHere_25 rfl hl (by decide) rfl (fun ls hl => ?_)
      refine lv_aload_n hx hb dX10_numberHere_26 rfl (lv_at hl 1 rfl) ?_
      refine gf_X10_34 hC rfl hK hP 0 rfl rfl dX10_numberHere_27 ?_
      refine lv_istore_n (lv' := [(2, .int (nI ks)), (1, .int 0), (0, .ref h0)]) hx hb dX10_numberHere_30 rfl hl (by decide) rfl (fun ls hl => ?_)
      have keyP : ∀ (nP kP : Nat) (nn : Int32) (ls : Array Slot), kP < 2 ^ 31 → (nI kn).toInt ≤ ((kP + nP : Nat) : Int) → lv_has ls 3 [(2, .int (nI kP)), (1, .int nn), (0, .ref h0)] → W p l e (RM 3 0 0) s m ([.ref h0] : List Value).toArray below meth c s.heap [] 0 0 (MQ below (QP (fun r : Int32 => True)) ([.ref h0] : List Value).toArray s 0 0 (fun _ => False)) (F0 m 31 ls []) := by
        intro nP
        induction nP with
        | zero =>
          intro kP nn ls hjP hkP hl
          have hzP : nI kn ≤ nI kP := bz hjP (by omega)
          refine lv_iload_n hx hb dX10_numberHere_31 rfl (lv_at hl 0 rfl) ?_
          refine lv_aload_n hx hb dX10_numberHere_32 rfl (lv_at hl 2 rfl) ?_
          refine gf_X10_37 hC rfl hK hP 0 rfl rfl dX10_numberHere_33 ?_
          refine lv_icmp_ge (tgt := 59) hx hb dX10_numberHere_36 (by decide) (fun _ => ?_) (fun c9 => absurd (hzP) c9)
          refine lv_iload_n hx hb dX10_numberHere_59 rfl (lv_at hl 1 rfl) ?_
          exact RP (v := nn) hC (trivial) rfl dX10_numberHere_60
        | succ nP ihP =>
          intro kP nn ls hjP hkP hl
          refine lv_iload_n hx hb dX10_numberHere_31 rfl (lv_at hl 0 rfl) ?_
          refine lv_aload_n hx hb dX10_numberHere_32 rfl (lv_at hl 2 rfl) ?_
          refine gf_X10_37 hC rfl hK hP 0 rfl rfl dX10_numberHere_33 ?_
          refine lv_icmp_ge (tgt := 59) hx hb dX10_numberHere_36 (by decide) (fun c_36_2671 => ?_) (fun c_36_2671 => ?_)
          · refine lv_iload_n hx hb dX10_numberHere_59 rfl (lv_at hl 1 rfl) ?_
            exact RP (v := nn) hC (trivial) rfl dX10_numberHere_60
          · refine lv_iload_n hx hb dX10_numberHere_39 rfl (lv_at hl 1 rfl) ?_
            refine lv_bipush (v := 10) hx hb dX10_numberHere_40 (by decide) ?_
            refine lv_imul hx hb dX10_numberHere_42 ?_
            refine lv_aload_n hx hb dX10_numberHere_43 rfl (lv_at hl 2 rfl) ?_
            refine lv_iload_n hx hb dX10_numberHere_44 rfl (lv_at hl 0 rfl) ?_
            refine pV hC hK hl hP hD (t_byteAt l G h0 (nI kP) tby kt tln tsp tkd (nI ks) (nI kn) tf9 fby) si_X10_78 [0, 1] rfl rfl (by decide) rfl rfl rfl rfl rfl (Nat.le_of_ble_eq_true rfl) ⟨Nat.le_of_ble_eq_true rfl, Nat.le_of_ble_eq_true rfl⟩ ⟨by first | exact Nat.le_of_ble_eq_true rfl | exact Nat.zero_le _, by first | exact Nat.le_of_ble_eq_true rfl | exact Nat.zero_le _⟩ dX10_numberHere_45 (fun r2672 hr2672 => ?_)
            refine lv_iadd hx hb dX10_numberHere_48 ?_
            refine lv_bipush (v := 48) hx hb dX10_numberHere_49 (by decide) ?_
            refine lv_isub hx hb dX10_numberHere_51 ?_
            refine lv_istore_n (lv' := [(1, .int (((nn * 10) + r2672) - 48)), (2, .int (nI kP)), (0, .ref h0)]) hx hb dX10_numberHere_52 rfl hl (by decide) rfl (fun ls hl => ?_)
            refine lv_iinc (v := nI (kP + 1)) (lv' := [(2, .int (nI (kP + 1))), (1, .int (((nn * 10) + r2672) - 48)), (0, .ref h0)]) hx hb dX10_numberHere_53 hl (k := 1) rfl (nI_1 _) (by decide) rfl (fun ls hl => ?_)
            refine lv_goto (tgt := 31) hx hb dX10_numberHere_56 (by decide) ?_
            exact ihP (kP + 1) (((nn * 10) + r2672) - 48) _ (bs hjP c_36_2671) (by omega) (lv_sub hl [0, 1, 2] rfl)
      exact keyP (nI kn).toInt.toNat ks 0 _ (by first | decide | omega) (by omega) (lv_sub hl [0, 1, 2] rfl)
    · refine lv_iconst (v := (-1)) hx hb dX10_numberHere_22 (by decide) ?_
      exact RP (v := (-1)) hC (trivial) rfl dX10_numberHere_23
set_option maxHeartbeats 4000000 in
set_option maxRecDepth 100000 in
theorem t_takesNumber (l : Launch) (G : GG) (h0 : Nat) (li : Int32) (co : Int32) (mo : Int32) (tby : Nat) (kt : Nat) (tln : Nat) (tsp : Nat) (tkd : Int32) (ks : Nat) (kn : Nat) (tf9 : Int32) (fby : Nat → Int32) (tlnc : Nat) (kln : Nat) (ftln : Nat → Int32) (hkt : kt ≤ 240) (hks : ks ≤ 240) (hkn : kn ≤ 240) (hkln : kln ≤ 9) : MI l G yX10_takesNumber cX10_takesNumber 5 (some .boolean) 4 0 0 [.ref h0, .int li, .int co, .int mo] [(h0, .inr (10, [.ref tby, .int (nI kt), .ref tln, .ref tsp, .int tkd, .int (nI ks), .int (nI kn), .int tf9])), (tby, .inl (G.2.1, 240, .inl fby)), (tln, .inr (8, [.int 9, .int 7, .ref tlnc, .int (nI kln)])), (tlnc, .inl (G.2.1, 63, .inl ftln))] (fun (r : Int32) (u : Int32 × Nat × Nat × Int32 × (Nat → Int32)) => (r = 1 ∨ r = 0) ∧ (u.2.1 ≤ 240 ∧ u.2.2.1 ≤ 240)) (fun u : Int32 × Nat × Nat × Int32 × (Nat → Int32) => [(h0, .inr (10, [.ref tby, .int (nI kt), .ref tln, .ref tsp, .int u.1, .int (nI u.2.1), .int (nI u.2.2.1), .int u.2.2.2.1])), (tby, .inl (G.2.1, 240, .inl fby)), (tln, .inr (8, [.int 9, .int 7, .ref tlnc, .int (nI kln)])), (tlnc, .inl (G.2.1, 63, .inl u.2.2.2.2))]) := by
  refine MI.start (by decide +kernel) (Nat.le_of_ble_eq_true rfl) ?_
  intro p e s m below meth c A ls hC hK hP hD hS hA hl
  have hl : lv_has ls 5 [(0, .ref h0), (1, .int li), (2, .int co), (3, .int mo)] := hl
  obtain ⟨hx, hb, hr, hml, hB, hown, hlocks, hnm⟩ := id hC
  refine lv_aload_n hx hb dX10_takesNumber_0 rfl (lv_at hl 0 rfl) ?_
  refine pV hC hK hl hP hD (t_numberHere l G h0 tby kt tln tsp tkd ks kn tf9 fby (by omega) (by omega) (by omega)) si_X10_109 [0, 1] rfl rfl (by decide) rfl rfl rfl rfl rfl (Nat.le_of_ble_eq_true rfl) ⟨Nat.le_of_ble_eq_true rfl, Nat.le_of_ble_eq_true rfl⟩ ⟨by first | exact Nat.le_of_ble_eq_true rfl | exact Nat.zero_le _, by first | exact Nat.le_of_ble_eq_true rfl | exact Nat.zero_le _⟩ dX10_takesNumber_1 (fun r2673 hr2673 => ?_)
  refine lv_istore (lv' := [(4, .int r2673), (0, .ref h0), (1, .int li), (2, .int co), (3, .int mo)]) hx hb dX10_takesNumber_4 hl (by decide) rfl (fun ls hl => ?_)
  refine lv_iload hx hb dX10_takesNumber_6 (lv_at hl 0 rfl) ?_
  refine lv_iconst (v := 0) hx hb dX10_takesNumber_8 (by decide) ?_
  refine lv_iload_n hx hb dX10_takesNumber_9 rfl (lv_at hl 4 rfl) ?_
  refine pSN hC hK hl (c_within l G r2673 0 mo) si_X10_89 rfl rfl (Nat.le_of_ble_eq_true rfl) ⟨Nat.le_of_ble_eq_true rfl, Nat.le_of_ble_eq_true rfl⟩ ⟨by first | exact Nat.le_of_ble_eq_true rfl | exact Nat.zero_le _, by first | exact Nat.le_of_ble_eq_true rfl | exact Nat.zero_le _⟩ dX10_takesNumber_10 (fun r2674 hr2674 => ?_)
  rcases hr2674 with ⟨rfl, a2675⟩ | ⟨rfl, a2675⟩
  · refine lv_if_ne (tgt := 21) hx hb dX10_takesNumber_13 (by decide) (fun _ => ?_) (fun c9 => absurd c9 (by decide))
    refine lv_aload_n hx hb dX10_takesNumber_21 rfl (lv_at hl 1 rfl) ?_
    refine gf_X10_20 hC rfl hK hP 0 rfl rfl dX10_takesNumber_22 ?_
    refine lv_iload_n hx hb dX10_takesNumber_25 rfl (lv_at hl 2 rfl) ?_
    refine lv_iload_n hx hb dX10_takesNumber_26 rfl (lv_at hl 3 rfl) ?_
    refine lv_iload hx hb dX10_takesNumber_27 (lv_at hl 0 rfl) ?_
    refine vV (wr := [(h0, .inr (10, [.ref tby, .int (nI kt), .ref tln, .ref tsp, .int tkd, .int (nI ks), .int (nI kn), .int tf9])), (tby, .inl (G.2.1, 240, .inl fby))]) hC hK hl hP hD hS hA (c_T_set l G tln li co r2673 9 7 tlnc kln ftln (by omega) (by omega) (by omega)) si_X10_66 [2, 3] [0, 1] rfl rfl (by decide) rfl (by decide) (by decide) rfl rfl rfl rfl rfl (Nat.le_of_ble_eq_true rfl) ⟨Nat.le_of_ble_eq_true rfl, Nat.le_of_ble_eq_true rfl⟩ ⟨Nat.le_of_ble_eq_true rfl, Nat.le_of_ble_eq_true rfl⟩ dX10_takesNumber_29 (fun u2677 H locs hr2676 hP hD hS => ?_)
    obtain ⟨f12678, rfl⟩ : ∃ z9, z9 = u2677 := ⟨_, rfl⟩
    try dsimp only at hr2676
    have hP : va_P G.1 vwCl [(h0, .inr (10, [.ref tby, .int (nI kt), .ref tln, .ref tsp, .int tkd, .int (nI ks), .int (nI kn), .int tf9])), (tby, .inl (G.2.1, 240, .inl fby)), (tln, .inr (8, [.int 9, .int 7, .ref tlnc, .int (nI kln)])), (tlnc, .inl (G.2.1, 63, .inl f12678))] H := hP
    have hD : va_D A [(h0, .inr (10, [.ref tby, .int (nI kt), .ref tln, .ref tsp, .int tkd, .int (nI ks), .int (nI kn), .int tf9])), (tby, .inl (G.2.1, 240, .inl fby)), (tln, .inr (8, [.int 9, .int 7, .ref tlnc, .int (nI kln)])), (tlnc, .inl (G.2.1, 63, .inl f12678))] := hD
    have w2679 := hr2676
    refine lv_aload_n hx hb dX10_takesNumber_32 rfl (lv_at hl 1 rfl) ?_
    refine vV (wr := [(tln, .inr (8, [.int 9, .int 7, .ref tlnc, .int (nI kln)])), (tlnc, .inl (G.2.1, 63, .inl f12678))]) hC hK hl hP hD hS hA (t_advance l G h0 tby kt tln tsp tkd ks kn tf9 fby (by omega) (by omega) (by omega)) si_X10_47 [0, 1] [2, 3] rfl rfl (by decide) rfl (by decide) (by decide) rfl rfl rfl rfl rfl (Nat.le_of_ble_eq_true rfl) ⟨Nat.le_of_ble_eq_true rfl, Nat.le_of_ble_eq_true rfl⟩ ⟨Nat.le_of_ble_eq_true rfl, Nat.le_of_ble_eq_true rfl⟩ dX10_takesNumber_33 (fun u2681 H locs hr2680 hP hD hS => ?_)
    obtain ⟨kd12682, ks12683, kn12684⟩ := u2681
    try dsimp only at hr2680
    have hP : va_P G.1 vwCl [(tln, .inr (8, [.int 9, .int 7, .ref tlnc, .int (nI kln)])), (tlnc, .inl (G.2.1, 63, .inl f12678)), (h0, .inr (10, [.ref tby, .int (nI kt), .ref tln, .ref tsp, .int kd12682, .int (nI ks12683), .int (nI kn12684), .int tf9])), (tby, .inl (G.2.1, 240, .inl fby))] H := hP
    have hD : va_D A [(tln, .inr (8, [.int 9, .int 7, .ref tlnc, .int (nI kln)])), (tlnc, .inl (G.2.1, 63, .inl f12678)), (h0, .inr (10, [.ref tby, .int (nI kt), .ref tln, .ref tsp, .int kd12682, .int (nI ks12683), .int (nI kn12684), .int tf9])), (tby, .inl (G.2.1, 240, .inl fby))] := hD
    have w2685 := hr2680
    refine lv_iconst (v := 1) hx hb dX10_takesNumber_36 (by decide) ?_
    exact RI (v := 1) hC hP hD hS [2, 3, 0, 1] (kd12682, ks12683, kn12684, tf9, f12678) rfl rfl (by decide) (⟨Or.inl (rfl), by dsimp only; omega⟩) (by decide +kernel) dX10_takesNumber_37
  · refine lv_if_ne (tgt := 21) hx hb dX10_takesNumber_13 (by decide) (fun c9 => absurd (by decide) c9) (fun _ => ?_)
    refine lv_aload_n hx hb dX10_takesNumber_16 rfl (lv_at hl 1 rfl) ?_
    refine iV (wr := [(tby, .inl (G.2.1, 240, .inl fby)), (tln, .inr (8, [.int 9, .int 7, .ref tlnc, .int (nI kln)])), (tlnc, .inl (G.2.1, 63, .inl ftln))]) hC hK hl hP hD hS hA (t_refuse l G h0 tby kt tln tsp tkd ks kn tf9) si_X10_106 [0] [1, 2, 3] rfl rfl (by decide) rfl (by decide) (by decide) rfl rfl rfl rfl rfl (Nat.le_of_ble_eq_true rfl) ⟨Nat.le_of_ble_eq_true rfl, Nat.le_of_ble_eq_true rfl⟩ ⟨Nat.le_of_ble_eq_true rfl, Nat.le_of_ble_eq_true rfl⟩ dX10_takesNumber_17 (fun r2686 u2687 H locs hr2686 hP hD hS => ?_)
    obtain ⟨tf12688, rfl⟩ : ∃ z9, z9 = u2687 := ⟨_, rfl⟩
    try dsimp only at hr2686
    have hP : va_P G.1 vwCl [(tby, .inl (G.2.1, 240, .inl fby)), (tln, .inr (8, [.int 9, .int 7, .ref tlnc, .int (nI kln)])), (tlnc, .inl (G.2.1, 63, .inl ftln)), (h0, .inr (10, [.ref tby, .int (nI kt), .ref tln, .ref tsp, .int tkd, .int (nI ks), .int (nI kn), .int tf12688]))] H := hP
    have hD : va_D A [(tby, .inl (G.2.1, 240, .inl fby)), (tln, .inr (8, [.int 9, .int 7, .ref tlnc, .int (nI kln)])), (tlnc, .inl (G.2.1, 63, .inl ftln)), (h0, .inr (10, [.ref tby, .int (nI kt), .ref tln, .ref tsp, .int tkd, .int (nI ks), .int (nI kn), .int tf12688]))] := hD
    obtain rfl := hr2686
    exact RI (v := 0) hC hP hD hS [3, 0, 1, 2] (tkd, ks, kn, tf12688, ftln) rfl rfl (by decide) (⟨Or.inr (rfl), by dsimp only; omega⟩) (by decide +kernel) dX10_takesNumber_20
set_option maxHeartbeats 4000000 in
set_option maxRecDepth 100000 in
theorem t_addStep (l : Launch) (G : GG) (h0 : Nat) (sp : Int32) (tby : Nat) (kt : Nat) (tln : Nat) (tsp : Nat) (tkd : Int32) (ks : Nat) (kn : Nat) (tf9 : Int32) (tspc : Nat) (ksp : Nat) (ftsp : Nat → Int32) (hksp : ksp ≤ 120) : MV l G yX10_addStep cX10_addStep 2 2 0 0 [.ref h0, .int sp] [(h0, .inr (10, [.ref tby, .int (nI kt), .ref tln, .ref tsp, .int tkd, .int (nI ks), .int (nI kn), .int tf9])), (tsp, .inr (8, [.int 120, .int 1, .ref tspc, .int (nI ksp)])), (tspc, .inl (G.2.1, 120, .inl ftsp))] (fun u : Nat × (Nat → Int32) => u.1 ≤ 120) (fun u : Nat × (Nat → Int32) => [(h0, .inr (10, [.ref tby, .int (nI kt), .ref tln, .ref tsp, .int tkd, .int (nI ks), .int (nI kn), .int tf9])), (tsp, .inr (8, [.int 120, .int 1, .ref tspc, .int (nI u.1)])), (tspc, .inl (G.2.1, 120, .inl u.2))]) := by
  refine MV.start (by decide +kernel) (Nat.le_of_ble_eq_true rfl) ?_
  intro p e s m below meth c A ls hC hK hP hD hS hA hl
  have hl : lv_has ls 2 [(0, .ref h0), (1, .int sp)] := hl
  obtain ⟨hx, hb, hr, hml, hB, hown, hlocks, hnm⟩ := id hC
  refine lv_aload_n hx hb dX10_addStep_0 rfl (lv_at hl 0 rfl) ?_
  refine gf_X10_24 hC rfl hK hP 0 rfl rfl dX10_addStep_1 ?_
  refine lv_aload_n hx hb dX10_addStep_4 rfl (lv_at hl 0 rfl) ?_
  refine gf_X10_24 hC rfl hK hP 0 rfl rfl dX10_addStep_5 ?_
  rcases Nat.lt_or_ge ksp 120 with hcap9 | hcap9
  · refine iV (wr := [(h0, .inr (10, [.ref tby, .int (nI kt), .ref tln, .ref tsp, .int tkd, .int (nI ks), .int (nI kn), .int tf9])), (tspc, .inl (G.2.1, 120, .inl ftsp))]) hC hK hl hP hD hS hA (c_T_append l G tsp 120 1 tspc ksp (by omega) (by omega)) si_X10_59 [1] [0, 2] rfl rfl (by decide) rfl (by decide) (by decide) rfl rfl rfl rfl rfl (Nat.le_of_ble_eq_true rfl) ⟨Nat.le_of_ble_eq_true rfl, Nat.le_of_ble_eq_true rfl⟩ ⟨Nat.le_of_ble_eq_true rfl, Nat.le_of_ble_eq_true rfl⟩ dX10_addStep_8 (fun r2690 u2691 H locs hr2690 hP hD hS => ?_)
    have hP : va_P G.1 vwCl [(h0, .inr (10, [.ref tby, .int (nI kt), .ref tln, .ref tsp, .int tkd, .int (nI ks), .int (nI kn), .int tf9])), (tspc, .inl (G.2.1, 120, .inl ftsp)), (tsp, .inr (8, [.int 120, .int 1, .ref tspc, .int (nI (ksp + 1))]))] H := hP
    have hD : va_D A [(h0, .inr (10, [.ref tby, .int (nI kt), .ref tln, .ref tsp, .int tkd, .int (nI ks), .int (nI kn), .int tf9])), (tspc, .inl (G.2.1, 120, .inl ftsp)), (tsp, .inr (8, [.int 120, .int 1, .ref tspc, .int (nI (ksp + 1))]))] := hD
    obtain rfl := hr2690
    refine lv_iconst (v := 0) hx hb dX10_addStep_11 (by decide) ?_
    refine lv_iload_n hx hb dX10_addStep_12 rfl (lv_at hl 1 rfl) ?_
    refine vV (wr := [(h0, .inr (10, [.ref tby, .int (nI kt), .ref tln, .ref tsp, .int tkd, .int (nI ks), .int (nI kn), .int tf9]))]) hC hK hl hP hD hS hA (c_T_set l G tsp (nI ksp) 0 sp 120 1 tspc (ksp + 1) ftsp (by omega) (by omega) (by omega)) si_X10_66 [2, 1] [0] rfl rfl (by decide) rfl (by decide) (by decide) rfl rfl rfl rfl rfl (Nat.le_of_ble_eq_true rfl) ⟨Nat.le_of_ble_eq_true rfl, Nat.le_of_ble_eq_true rfl⟩ ⟨Nat.le_of_ble_eq_true rfl, Nat.le_of_ble_eq_true rfl⟩ dX10_addStep_13 (fun u2694 H locs hr2693 hP hD hS => ?_)
    obtain ⟨f12695, rfl⟩ : ∃ z9, z9 = u2694 := ⟨_, rfl⟩
    try dsimp only at hr2693
    have hP : va_P G.1 vwCl [(h0, .inr (10, [.ref tby, .int (nI kt), .ref tln, .ref tsp, .int tkd, .int (nI ks), .int (nI kn), .int tf9])), (tsp, .inr (8, [.int 120, .int 1, .ref tspc, .int (nI (ksp + 1))])), (tspc, .inl (G.2.1, 120, .inl f12695))] H := hP
    have hD : va_D A [(h0, .inr (10, [.ref tby, .int (nI kt), .ref tln, .ref tsp, .int tkd, .int (nI ks), .int (nI kn), .int tf9])), (tsp, .inr (8, [.int 120, .int 1, .ref tspc, .int (nI (ksp + 1))])), (tspc, .inl (G.2.1, 120, .inl f12695))] := hD
    have w2696 := hr2693
    exact RV hC hP hD hS [0, 1, 2] ((ksp + 1), f12695) rfl rfl (by decide) (by dsimp only; omega) dX10_addStep_16
  · refine iV (wr := [(h0, .inr (10, [.ref tby, .int (nI kt), .ref tln, .ref tsp, .int tkd, .int (nI ks), .int (nI kn), .int tf9])), (tspc, .inl (G.2.1, 120, .inl ftsp))]) hC hK hl hP hD hS hA (c_T_appendF l G tsp 120 1 tspc ksp (by omega) (by omega)) si_X10_59 [1] [0, 2] rfl rfl (by decide) rfl (by decide) (by decide) rfl rfl rfl rfl rfl (Nat.le_of_ble_eq_true rfl) ⟨Nat.le_of_ble_eq_true rfl, Nat.le_of_ble_eq_true rfl⟩ ⟨Nat.le_of_ble_eq_true rfl, Nat.le_of_ble_eq_true rfl⟩ dX10_addStep_8 (fun r2697 u2698 H locs hr2697 hP hD hS => ?_)
    have hP : va_P G.1 vwCl [(h0, .inr (10, [.ref tby, .int (nI kt), .ref tln, .ref tsp, .int tkd, .int (nI ks), .int (nI kn), .int tf9])), (tspc, .inl (G.2.1, 120, .inl ftsp)), (tsp, .inr (8, [.int 120, .int 1, .ref tspc, .int (nI ksp)]))] H := hP
    have hD : va_D A [(h0, .inr (10, [.ref tby, .int (nI kt), .ref tln, .ref tsp, .int tkd, .int (nI ks), .int (nI kn), .int tf9])), (tspc, .inl (G.2.1, 120, .inl ftsp)), (tsp, .inr (8, [.int 120, .int 1, .ref tspc, .int (nI ksp)]))] := hD
    obtain rfl := hr2697
    refine lv_iconst (v := 0) hx hb dX10_addStep_11 (by decide) ?_
    refine lv_iload_n hx hb dX10_addStep_12 rfl (lv_at hl 1 rfl) ?_
    refine vV (wr := [(h0, .inr (10, [.ref tby, .int (nI kt), .ref tln, .ref tsp, .int tkd, .int (nI ks), .int (nI kn), .int tf9]))]) hC hK hl hP hD hS hA (c_T_set l G tsp (-2) 0 sp 120 1 tspc ksp ftsp (by omega) (by omega) (by omega)) si_X10_66 [2, 1] [0] rfl rfl (by decide) rfl (by decide) (by decide) rfl rfl rfl rfl rfl (Nat.le_of_ble_eq_true rfl) ⟨Nat.le_of_ble_eq_true rfl, Nat.le_of_ble_eq_true rfl⟩ ⟨Nat.le_of_ble_eq_true rfl, Nat.le_of_ble_eq_true rfl⟩ dX10_addStep_13 (fun u2701 H locs hr2700 hP hD hS => ?_)
    obtain ⟨f12702, rfl⟩ : ∃ z9, z9 = u2701 := ⟨_, rfl⟩
    try dsimp only at hr2700
    have hP : va_P G.1 vwCl [(h0, .inr (10, [.ref tby, .int (nI kt), .ref tln, .ref tsp, .int tkd, .int (nI ks), .int (nI kn), .int tf9])), (tsp, .inr (8, [.int 120, .int 1, .ref tspc, .int (nI ksp)])), (tspc, .inl (G.2.1, 120, .inl f12702))] H := hP
    have hD : va_D A [(h0, .inr (10, [.ref tby, .int (nI kt), .ref tln, .ref tsp, .int tkd, .int (nI ks), .int (nI kn), .int tf9])), (tsp, .inr (8, [.int 120, .int 1, .ref tspc, .int (nI ksp)])), (tspc, .inl (G.2.1, 120, .inl f12702))] := hD
    have w2703 := hr2700
    exact RV hC hP hD hS [0, 1, 2] (ksp, f12702) rfl rfl (by decide) (by dsimp only; omega) dX10_addStep_16
set_option maxHeartbeats 4000000 in
set_option maxRecDepth 100000 in
theorem t_factHere (l : Launch) (G : GG) (K : OO) (h0 : Nat) (tby : Nat) (kt : Nat) (tln : Nat) (tsp : Nat) (tkd : Int32) (ks : Nat) (kn : Nat) (tf9 : Int32) (fby : Nat → Int32) (hkt : kt ≤ 240) (hks : ks ≤ 240) (hkn : kn ≤ 240) : MPo l G K yX10_factHere cX10_factHere 1 (some .int) 7 [.ref h0] [(h0, .inr (10, [.ref tby, .int (nI kt), .ref tln, .ref tsp, .int tkd, .int (nI ks), .int (nI kn), .int tf9])), (tby, .inl (G.2.1, 240, .inl fby))] (fun r : Int32 => True) := by
  refine MPo.start (by decide +kernel) (Nat.le_of_ble_eq_true rfl) ?_
  intro p e s m below meth c ls hC hK hP hD hl hO hS
  have hl : lv_has ls 1 [(0, .ref h0)] := hl
  obtain ⟨hx, hb, hr, hml, hB, hown, hlocks, hnm⟩ := id hC
  refine lv_aload_n hx hb dX10_factHere_0 rfl (lv_at hl 0 rfl) ?_
  refine va_ldcS (index := 171) (tx := "person") hx hb hown (hO.2.1 11 (by decide)) dX10_factHere_1 ?_
  refine pVo hO hS hC hK hl hP hD (t_isName l G K 11 h0 tby kt tln tsp tkd ks kn tf9 fby (by omega) (by omega) (by omega) ((by decide))) si_X10_102 [0, 1] rfl rfl (by decide) rfl rfl rfl rfl rfl (Nat.le_of_ble_eq_true rfl) ⟨Nat.le_of_ble_eq_true rfl, Nat.le_of_ble_eq_true rfl⟩ ⟨by first | exact Nat.le_of_ble_eq_true rfl | exact Nat.zero_le _, by first | exact Nat.le_of_ble_eq_true rfl | exact Nat.zero_le _⟩ dX10_factHere_3 (fun r2704 hr2704 => ?_)
  rcases hr2704 with rfl | rfl
  · refine lv_if_eq (tgt := 11) hx hb dX10_factHere_6 (by decide) (fun c9 => absurd c9 (by decide)) (fun _ => ?_)
    refine lv_iconst (v := 0) hx hb dX10_factHere_9 (by decide) ?_
    exact RP (v := 0) hC (trivial) rfl dX10_factHere_10
  · refine lv_if_eq (tgt := 11) hx hb dX10_factHere_6 (by decide) (fun _ => ?_) (fun c9 => absurd (by decide) c9)
    refine lv_aload_n hx hb dX10_factHere_11 rfl (lv_at hl 0 rfl) ?_
    refine va_ldcS (index := 173) (tx := "post") hx hb hown (hO.2.1 12 (by decide)) dX10_factHere_12 ?_
    refine pVo hO hS hC hK hl hP hD (t_isName l G K 12 h0 tby kt tln tsp tkd ks kn tf9 fby (by omega) (by omega) (by omega) ((by decide))) si_X10_102 [0, 1] rfl rfl (by decide) rfl rfl rfl rfl rfl (Nat.le_of_ble_eq_true rfl) ⟨Nat.le_of_ble_eq_true rfl, Nat.le_of_ble_eq_true rfl⟩ ⟨by first | exact Nat.le_of_ble_eq_true rfl | exact Nat.zero_le _, by first | exact Nat.le_of_ble_eq_true rfl | exact Nat.zero_le _⟩ dX10_factHere_14 (fun r2706 hr2706 => ?_)
    rcases hr2706 with rfl | rfl
    · refine lv_if_eq (tgt := 22) hx hb dX10_factHere_17 (by decide) (fun c9 => absurd c9 (by decide)) (fun _ => ?_)
      refine lv_iconst (v := 1) hx hb dX10_factHere_20 (by decide) ?_
      exact RP (v := 1) hC (trivial) rfl dX10_factHere_21
    · refine lv_if_eq (tgt := 22) hx hb dX10_factHere_17 (by decide) (fun _ => ?_) (fun c9 => absurd (by decide) c9)
      refine lv_aload_n hx hb dX10_factHere_22 rfl (lv_at hl 0 rfl) ?_
      refine va_ldcS (index := 175) (tx := "had") hx hb hown (hO.2.1 13 (by decide)) dX10_factHere_23 ?_
      refine pVo hO hS hC hK hl hP hD (t_isName l G K 13 h0 tby kt tln tsp tkd ks kn tf9 fby (by omega) (by omega) (by omega) ((by decide))) si_X10_102 [0, 1] rfl rfl (by decide) rfl rfl rfl rfl rfl (Nat.le_of_ble_eq_true rfl) ⟨Nat.le_of_ble_eq_true rfl, Nat.le_of_ble_eq_true rfl⟩ ⟨by first | exact Nat.le_of_ble_eq_true rfl | exact Nat.zero_le _, by first | exact Nat.le_of_ble_eq_true rfl | exact Nat.zero_le _⟩ dX10_factHere_25 (fun r2708 hr2708 => ?_)
      rcases hr2708 with rfl | rfl
      · refine lv_if_eq (tgt := 33) hx hb dX10_factHere_28 (by decide) (fun c9 => absurd c9 (by decide)) (fun _ => ?_)
        refine lv_iconst (v := 2) hx hb dX10_factHere_31 (by decide) ?_
        exact RP (v := 2) hC (trivial) rfl dX10_factHere_32
      · refine lv_if_eq (tgt := 33) hx hb dX10_factHere_28 (by decide) (fun _ => ?_) (fun c9 => absurd (by decide) c9)
        refine lv_aload_n hx hb dX10_factHere_33 rfl (lv_at hl 0 rfl) ?_
        refine va_ldcS (index := 177) (tx := "made") hx hb hown (hO.2.1 14 (by decide)) dX10_factHere_34 ?_
        refine pVo hO hS hC hK hl hP hD (t_isName l G K 14 h0 tby kt tln tsp tkd ks kn tf9 fby (by omega) (by omega) (by omega) ((by decide))) si_X10_102 [0, 1] rfl rfl (by decide) rfl rfl rfl rfl rfl (Nat.le_of_ble_eq_true rfl) ⟨Nat.le_of_ble_eq_true rfl, Nat.le_of_ble_eq_true rfl⟩ ⟨by first | exact Nat.le_of_ble_eq_true rfl | exact Nat.zero_le _, by first | exact Nat.le_of_ble_eq_true rfl | exact Nat.zero_le _⟩ dX10_factHere_36 (fun r2710 hr2710 => ?_)
        rcases hr2710 with rfl | rfl
        · refine lv_if_eq (tgt := 44) hx hb dX10_factHere_39 (by decide) (fun c9 => absurd c9 (by decide)) (fun _ => ?_)
          refine lv_iconst (v := 3) hx hb dX10_factHere_42 (by decide) ?_
          exact RP (v := 3) hC (trivial) rfl dX10_factHere_43
        · refine lv_if_eq (tgt := 44) hx hb dX10_factHere_39 (by decide) (fun _ => ?_) (fun c9 => absurd (by decide) c9)
          refine lv_aload_n hx hb dX10_factHere_44 rfl (lv_at hl 0 rfl) ?_
          refine va_ldcS (index := 179) (tx := "slow") hx hb hown (hO.2.1 15 (by decide)) dX10_factHere_45 ?_
          refine pVo hO hS hC hK hl hP hD (t_isName l G K 15 h0 tby kt tln tsp tkd ks kn tf9 fby (by omega) (by omega) (by omega) ((by decide))) si_X10_102 [0, 1] rfl rfl (by decide) rfl rfl rfl rfl rfl (Nat.le_of_ble_eq_true rfl) ⟨Nat.le_of_ble_eq_true rfl, Nat.le_of_ble_eq_true rfl⟩ ⟨by first | exact Nat.le_of_ble_eq_true rfl | exact Nat.zero_le _, by first | exact Nat.le_of_ble_eq_true rfl | exact Nat.zero_le _⟩ dX10_factHere_47 (fun r2712 hr2712 => ?_)
          rcases hr2712 with rfl | rfl
          · refine lv_if_eq (tgt := 57) hx hb dX10_factHere_50 (by decide) (fun c9 => absurd c9 (by decide)) (fun _ => ?_)
            refine lv_iconst (v := 4) hx hb dX10_factHere_53 (by decide) ?_
            refine lv_goto (tgt := 58) hx hb dX10_factHere_54 (by decide) ?_
            exact RP (v := 4) hC (trivial) rfl dX10_factHere_58
          · refine lv_if_eq (tgt := 57) hx hb dX10_factHere_50 (by decide) (fun _ => ?_) (fun c9 => absurd (by decide) c9)
            refine lv_iconst (v := (-1)) hx hb dX10_factHere_57 (by decide) ?_
            exact RP (v := (-1)) hC (trivial) rfl dX10_factHere_58
set_option maxHeartbeats 4000000 in
set_option maxRecDepth 100000 in
theorem t_signHere (l : Launch) (G : GG) (h0 : Nat) (tby : Nat) (kt : Nat) (tln : Nat) (tsp : Nat) (tkd : Int32) (ts9 : Int32) (tn9 : Int32) (tf9 : Int32) : MP l G yX10_signHere cX10_signHere 1 (some .int) 1 [.ref h0] [(h0, .inr (10, [.ref tby, .int (nI kt), .ref tln, .ref tsp, .int tkd, .int ts9, .int tn9, .int tf9]))] (fun r : Int32 => True) := by
  refine MP.start (by decide +kernel) (Nat.le_of_ble_eq_true rfl) ?_
  intro p e s m below meth c ls hC hK hP hD hl
  have hl : lv_has ls 1 [(0, .ref h0)] := hl
  obtain ⟨hx, hb, hr, hml, hB, hown, hlocks, hnm⟩ := id hC
  refine lv_aload_n hx hb dX10_signHere_0 rfl (lv_at hl 0 rfl) ?_
  refine gf_X10_31 hC rfl hK hP 0 rfl rfl dX10_signHere_1 ?_
  refine lv_bipush (v := 60) hx hb dX10_signHere_4 (by decide) ?_
  refine lv_icmp_ne (tgt := 11) hx hb dX10_signHere_6 (by decide) (fun c_6_2714 => ?_) (fun c_6_2714 => ?_)
  · refine lv_aload_n hx hb dX10_signHere_11 rfl (lv_at hl 0 rfl) ?_
    refine gf_X10_31 hC rfl hK hP 0 rfl rfl dX10_signHere_12 ?_
    refine lv_bipush (v := 61) hx hb dX10_signHere_15 (by decide) ?_
    refine lv_icmp_ne (tgt := 22) hx hb dX10_signHere_17 (by decide) (fun c_17_2715 => ?_) (fun c_17_2715 => ?_)
    · refine lv_aload_n hx hb dX10_signHere_22 rfl (lv_at hl 0 rfl) ?_
      refine gf_X10_31 hC rfl hK hP 0 rfl rfl dX10_signHere_23 ?_
      refine lv_bipush (v := 62) hx hb dX10_signHere_26 (by decide) ?_
      refine lv_icmp_ne (tgt := 35) hx hb dX10_signHere_28 (by decide) (fun c_28_2716 => ?_) (fun c_28_2716 => ?_)
      · refine lv_iconst (v := (-1)) hx hb dX10_signHere_35 (by decide) ?_
        exact RP (v := (-1)) hC (trivial) rfl dX10_signHere_36
      · refine lv_iconst (v := 2) hx hb dX10_signHere_31 (by decide) ?_
        refine lv_goto (tgt := 36) hx hb dX10_signHere_32 (by decide) ?_
        exact RP (v := 2) hC (trivial) rfl dX10_signHere_36
    · refine lv_iconst (v := 1) hx hb dX10_signHere_20 (by decide) ?_
      exact RP (v := 1) hC (trivial) rfl dX10_signHere_21
  · refine lv_iconst (v := 0) hx hb dX10_signHere_9 (by decide) ?_
    exact RP (v := 0) hC (trivial) rfl dX10_signHere_10
set_option maxHeartbeats 4000000 in
set_option maxRecDepth 100000 in
theorem t_sortHere (l : Launch) (G : GG) (K : OO) (h0 : Nat) (tby : Nat) (kt : Nat) (tln : Nat) (tsp : Nat) (tkd : Int32) (ks : Nat) (kn : Nat) (tf9 : Int32) (fby : Nat → Int32) (hkt : kt ≤ 240) (hks : ks ≤ 240) (hkn : kn ≤ 240) : MPo l G K yX10_sortHere cX10_sortHere 1 (some .int) 7 [.ref h0] [(h0, .inr (10, [.ref tby, .int (nI kt), .ref tln, .ref tsp, .int tkd, .int (nI ks), .int (nI kn), .int tf9])), (tby, .inl (G.2.1, 240, .inl fby))] (fun r : Int32 => True) := by
  refine MPo.start (by decide +kernel) (Nat.le_of_ble_eq_true rfl) ?_
  intro p e s m below meth c ls hC hK hP hD hl hO hS
  have hl : lv_has ls 1 [(0, .ref h0)] := hl
  obtain ⟨hx, hb, hr, hml, hB, hown, hlocks, hnm⟩ := id hC
  refine lv_aload_n hx hb dX10_sortHere_0 rfl (lv_at hl 0 rfl) ?_
  refine va_ldcS (index := 127) (tx := "taken") hx hb hown (hO.2.1 1 (by decide)) dX10_sortHere_1 ?_
  refine pVo hO hS hC hK hl hP hD (t_isName l G K 1 h0 tby kt tln tsp tkd ks kn tf9 fby (by omega) (by omega) (by omega) ((by decide))) si_X10_102 [0, 1] rfl rfl (by decide) rfl rfl rfl rfl rfl (Nat.le_of_ble_eq_true rfl) ⟨Nat.le_of_ble_eq_true rfl, Nat.le_of_ble_eq_true rfl⟩ ⟨by first | exact Nat.le_of_ble_eq_true rfl | exact Nat.zero_le _, by first | exact Nat.le_of_ble_eq_true rfl | exact Nat.zero_le _⟩ dX10_sortHere_3 (fun r2717 hr2717 => ?_)
  rcases hr2717 with rfl | rfl
  · refine lv_if_eq (tgt := 11) hx hb dX10_sortHere_6 (by decide) (fun c9 => absurd c9 (by decide)) (fun _ => ?_)
    refine lv_iconst (v := 0) hx hb dX10_sortHere_9 (by decide) ?_
    exact RP (v := 0) hC (trivial) rfl dX10_sortHere_10
  · refine lv_if_eq (tgt := 11) hx hb dX10_sortHere_6 (by decide) (fun _ => ?_) (fun c9 => absurd (by decide) c9)
    refine lv_aload_n hx hb dX10_sortHere_11 rfl (lv_at hl 0 rfl) ?_
    refine va_ldcS (index := 129) (tx := "warn") hx hb hown (hO.2.1 2 (by decide)) dX10_sortHere_12 ?_
    refine pVo hO hS hC hK hl hP hD (t_isName l G K 2 h0 tby kt tln tsp tkd ks kn tf9 fby (by omega) (by omega) (by omega) ((by decide))) si_X10_102 [0, 1] rfl rfl (by decide) rfl rfl rfl rfl rfl (Nat.le_of_ble_eq_true rfl) ⟨Nat.le_of_ble_eq_true rfl, Nat.le_of_ble_eq_true rfl⟩ ⟨by first | exact Nat.le_of_ble_eq_true rfl | exact Nat.zero_le _, by first | exact Nat.le_of_ble_eq_true rfl | exact Nat.zero_le _⟩ dX10_sortHere_14 (fun r2719 hr2719 => ?_)
    rcases hr2719 with rfl | rfl
    · refine lv_if_eq (tgt := 22) hx hb dX10_sortHere_17 (by decide) (fun c9 => absurd c9 (by decide)) (fun _ => ?_)
      refine lv_iconst (v := 1) hx hb dX10_sortHere_20 (by decide) ?_
      exact RP (v := 1) hC (trivial) rfl dX10_sortHere_21
    · refine lv_if_eq (tgt := 22) hx hb dX10_sortHere_17 (by decide) (fun _ => ?_) (fun c9 => absurd (by decide) c9)
      refine lv_aload_n hx hb dX10_sortHere_22 rfl (lv_at hl 0 rfl) ?_
      refine va_ldcS (index := 131) (tx := "ask") hx hb hown (hO.2.1 3 (by decide)) dX10_sortHere_23 ?_
      refine pVo hO hS hC hK hl hP hD (t_isName l G K 3 h0 tby kt tln tsp tkd ks kn tf9 fby (by omega) (by omega) (by omega) ((by decide))) si_X10_102 [0, 1] rfl rfl (by decide) rfl rfl rfl rfl rfl (Nat.le_of_ble_eq_true rfl) ⟨Nat.le_of_ble_eq_true rfl, Nat.le_of_ble_eq_true rfl⟩ ⟨by first | exact Nat.le_of_ble_eq_true rfl | exact Nat.zero_le _, by first | exact Nat.le_of_ble_eq_true rfl | exact Nat.zero_le _⟩ dX10_sortHere_25 (fun r2721 hr2721 => ?_)
      rcases hr2721 with rfl | rfl
      · refine lv_if_eq (tgt := 33) hx hb dX10_sortHere_28 (by decide) (fun c9 => absurd c9 (by decide)) (fun _ => ?_)
        refine lv_iconst (v := 2) hx hb dX10_sortHere_31 (by decide) ?_
        exact RP (v := 2) hC (trivial) rfl dX10_sortHere_32
      · refine lv_if_eq (tgt := 33) hx hb dX10_sortHere_28 (by decide) (fun _ => ?_) (fun c9 => absurd (by decide) c9)
        refine lv_aload_n hx hb dX10_sortHere_33 rfl (lv_at hl 0 rfl) ?_
        refine va_ldcS (index := 133) (tx := "heard") hx hb hown (hO.2.1 4 (by decide)) dX10_sortHere_34 ?_
        refine pVo hO hS hC hK hl hP hD (t_isName l G K 4 h0 tby kt tln tsp tkd ks kn tf9 fby (by omega) (by omega) (by omega) ((by decide))) si_X10_102 [0, 1] rfl rfl (by decide) rfl rfl rfl rfl rfl (Nat.le_of_ble_eq_true rfl) ⟨Nat.le_of_ble_eq_true rfl, Nat.le_of_ble_eq_true rfl⟩ ⟨by first | exact Nat.le_of_ble_eq_true rfl | exact Nat.zero_le _, by first | exact Nat.le_of_ble_eq_true rfl | exact Nat.zero_le _⟩ dX10_sortHere_36 (fun r2723 hr2723 => ?_)
        rcases hr2723 with rfl | rfl
        · refine lv_if_eq (tgt := 46) hx hb dX10_sortHere_39 (by decide) (fun c9 => absurd c9 (by decide)) (fun _ => ?_)
          refine lv_iconst (v := 3) hx hb dX10_sortHere_42 (by decide) ?_
          refine lv_goto (tgt := 47) hx hb dX10_sortHere_43 (by decide) ?_
          exact RP (v := 3) hC (trivial) rfl dX10_sortHere_47
        · refine lv_if_eq (tgt := 46) hx hb dX10_sortHere_39 (by decide) (fun _ => ?_) (fun c9 => absurd (by decide) c9)
          refine lv_iconst (v := (-1)) hx hb dX10_sortHere_46 (by decide) ?_
          exact RP (v := (-1)) hC (trivial) rfl dX10_sortHere_47
set_option maxHeartbeats 4000000 in
set_option maxRecDepth 100000 in
theorem t_takesComparison (l : Launch) (G : GG) (K : OO) (h0 : Nat) (tby : Nat) (kt : Nat) (tln : Nat) (tsp : Nat) (tkd : Int32) (ks : Nat) (kn : Nat) (tf9 : Int32) (fby : Nat → Int32) (tspc : Nat) (ksp : Nat) (ftsp : Nat → Int32) (hkt : kt ≤ 240) (hks : ks ≤ 240) (hkn : kn ≤ 240) (hksp : ksp ≤ 120) : MIo l G K yX10_takesComparison cX10_takesComparison 4 (some .boolean) 8 0 0 [.ref h0] [(h0, .inr (10, [.ref tby, .int (nI kt), .ref tln, .ref tsp, .int tkd, .int (nI ks), .int (nI kn), .int tf9])), (tby, .inl (G.2.1, 240, .inl fby)), (tsp, .inr (8, [.int 120, .int 1, .ref tspc, .int (nI ksp)])), (tspc, .inl (G.2.1, 120, .inl ftsp))] (fun (r : Int32) (u : Int32 × Nat × Nat × Int32 × Nat × (Nat → Int32)) => (r = 1 ∨ r = 0) ∧ (u.2.1 ≤ 240 ∧ u.2.2.1 ≤ 240 ∧ u.2.2.2.2.1 ≤ 120)) (fun u : Int32 × Nat × Nat × Int32 × Nat × (Nat → Int32) => [(h0, .inr (10, [.ref tby, .int (nI kt), .ref tln, .ref tsp, .int u.1, .int (nI u.2.1), .int (nI u.2.2.1), .int u.2.2.2.1])), (tby, .inl (G.2.1, 240, .inl fby)), (tsp, .inr (8, [.int 120, .int 1, .ref tspc, .int (nI u.2.2.2.2.1)])), (tspc, .inl (G.2.1, 120, .inl u.2.2.2.2.2))]) := by
  refine MIo.start (by decide +kernel) (Nat.le_of_ble_eq_true rfl) ?_
  intro p e s m below meth c A ls hC hK hP hD hS hA hl hO
  have hl : lv_has ls 4 [(0, .ref h0)] := hl
  obtain ⟨hx, hb, hr, hml, hB, hown, hlocks, hnm⟩ := id hC
  refine lv_aload_n hx hb dX10_takesComparison_0 rfl (lv_at hl 0 rfl) ?_
  refine pVo hO hS hC hK hl hP hD (t_factHere l G K h0 tby kt tln tsp tkd ks kn tf9 fby (by omega) (by omega) (by omega)) si_X10_165 [0, 1] rfl rfl (by decide) rfl rfl rfl rfl rfl (Nat.le_of_ble_eq_true rfl) ⟨Nat.le_of_ble_eq_true rfl, Nat.le_of_ble_eq_true rfl⟩ ⟨by first | exact Nat.le_of_ble_eq_true rfl | exact Nat.zero_le _, by first | exact Nat.le_of_ble_eq_true rfl | exact Nat.zero_le _⟩ dX10_takesComparison_1 (fun r2725 hr2725 => ?_)
  refine lv_istore_n (lv' := [(1, .int r2725), (0, .ref h0)]) hx hb dX10_takesComparison_4 rfl hl (by decide) rfl (fun ls hl => ?_)
  refine lv_iload_n hx hb dX10_takesComparison_5 rfl (lv_at hl 0 rfl) ?_
  refine lv_if_ge (tgt := 14) hx hb dX10_takesComparison_6 (by decide) (fun c_6_2726 => ?_) (fun c_6_2726 => ?_)
  · refine lv_aload_n hx hb dX10_takesComparison_14 rfl (lv_at hl 1 rfl) ?_
    refine vV (wr := [(tsp, .inr (8, [.int 120, .int 1, .ref tspc, .int (nI ksp)])), (tspc, .inl (G.2.1, 120, .inl ftsp))]) hC hK hl hP hD hS hA (t_advance l G h0 tby kt tln tsp tkd ks kn tf9 fby (by omega) (by omega) (by omega)) si_X10_47 [0, 1] [2, 3] rfl rfl (by decide) rfl (by decide) (by decide) rfl rfl rfl rfl rfl (Nat.le_of_ble_eq_true rfl) ⟨Nat.le_of_ble_eq_true rfl, Nat.le_of_ble_eq_true rfl⟩ ⟨Nat.le_of_ble_eq_true rfl, Nat.le_of_ble_eq_true rfl⟩ dX10_takesComparison_15 (fun u2728 H locs hr2727 hP hD hS => ?_)
    obtain ⟨kd12729, ks12730, kn12731⟩ := u2728
    try dsimp only at hr2727
    have hP : va_P G.1 vwCl [(tsp, .inr (8, [.int 120, .int 1, .ref tspc, .int (nI ksp)])), (tspc, .inl (G.2.1, 120, .inl ftsp)), (h0, .inr (10, [.ref tby, .int (nI kt), .ref tln, .ref tsp, .int kd12729, .int (nI ks12730), .int (nI kn12731), .int tf9])), (tby, .inl (G.2.1, 240, .inl fby))] H := hP
    have hD : va_D A [(tsp, .inr (8, [.int 120, .int 1, .ref tspc, .int (nI ksp)])), (tspc, .inl (G.2.1, 120, .inl ftsp)), (h0, .inr (10, [.ref tby, .int (nI kt), .ref tln, .ref tsp, .int kd12729, .int (nI ks12730), .int (nI kn12731), .int tf9])), (tby, .inl (G.2.1, 240, .inl fby))] := hD
    have w2732 := hr2727
    refine lv_aload_n hx hb dX10_takesComparison_18 rfl (lv_at hl 1 rfl) ?_
    refine pV hC hK hl hP hD (t_signHere l G h0 tby kt tln tsp kd12729 (nI ks12730) (nI kn12731) tf9) si_X10_168 [2] rfl rfl (by decide) rfl rfl rfl rfl rfl (Nat.le_of_ble_eq_true rfl) ⟨Nat.le_of_ble_eq_true rfl, Nat.le_of_ble_eq_true rfl⟩ ⟨by first | exact Nat.le_of_ble_eq_true rfl | exact Nat.zero_le _, by first | exact Nat.le_of_ble_eq_true rfl | exact Nat.zero_le _⟩ dX10_takesComparison_19 (fun r2733 hr2733 => ?_)
    refine lv_istore_n (lv' := [(2, .int r2733), (1, .int r2725), (0, .ref h0)]) hx hb dX10_takesComparison_22 rfl hl (by decide) rfl (fun ls hl => ?_)
    refine lv_iload_n hx hb dX10_takesComparison_23 rfl (lv_at hl 0 rfl) ?_
    refine lv_if_ge (tgt := 32) hx hb dX10_takesComparison_24 (by decide) (fun c_24_2734 => ?_) (fun c_24_2734 => ?_)
    · refine lv_aload_n hx hb dX10_takesComparison_32 rfl (lv_at hl 2 rfl) ?_
      refine vV (wr := [(tsp, .inr (8, [.int 120, .int 1, .ref tspc, .int (nI ksp)])), (tspc, .inl (G.2.1, 120, .inl ftsp))]) hC hK hl hP hD hS hA (t_advance l G h0 tby kt tln tsp kd12729 ks12730 kn12731 tf9 fby (by omega) (by omega) (by omega)) si_X10_47 [2, 3] [0, 1] rfl rfl (by decide) rfl (by decide) (by decide) rfl rfl rfl rfl rfl (Nat.le_of_ble_eq_true rfl) ⟨Nat.le_of_ble_eq_true rfl, Nat.le_of_ble_eq_true rfl⟩ ⟨Nat.le_of_ble_eq_true rfl, Nat.le_of_ble_eq_true rfl⟩ dX10_takesComparison_33 (fun u2736 H locs hr2735 hP hD hS => ?_)
      obtain ⟨kd12737, ks12738, kn12739⟩ := u2736
      try dsimp only at hr2735
      have hP : va_P G.1 vwCl [(tsp, .inr (8, [.int 120, .int 1, .ref tspc, .int (nI ksp)])), (tspc, .inl (G.2.1, 120, .inl ftsp)), (h0, .inr (10, [.ref tby, .int (nI kt), .ref tln, .ref tsp, .int kd12737, .int (nI ks12738), .int (nI kn12739), .int tf9])), (tby, .inl (G.2.1, 240, .inl fby))] H := hP
      have hD : va_D A [(tsp, .inr (8, [.int 120, .int 1, .ref tspc, .int (nI ksp)])), (tspc, .inl (G.2.1, 120, .inl ftsp)), (h0, .inr (10, [.ref tby, .int (nI kt), .ref tln, .ref tsp, .int kd12737, .int (nI ks12738), .int (nI kn12739), .int tf9])), (tby, .inl (G.2.1, 240, .inl fby))] := hD
      have w2740 := hr2735
      refine lv_aload_n hx hb dX10_takesComparison_36 rfl (lv_at hl 2 rfl) ?_
      refine pV hC hK hl hP hD (t_numberHere l G h0 tby kt tln tsp kd12737 ks12738 kn12739 tf9 fby (by omega) (by omega) (by omega)) si_X10_109 [2, 3] rfl rfl (by decide) rfl rfl rfl rfl rfl (Nat.le_of_ble_eq_true rfl) ⟨Nat.le_of_ble_eq_true rfl, Nat.le_of_ble_eq_true rfl⟩ ⟨by first | exact Nat.le_of_ble_eq_true rfl | exact Nat.zero_le _, by first | exact Nat.le_of_ble_eq_true rfl | exact Nat.zero_le _⟩ dX10_takesComparison_37 (fun r2741 hr2741 => ?_)
      refine lv_istore_n (lv' := [(3, .int r2741), (2, .int r2733), (1, .int r2725), (0, .ref h0)]) hx hb dX10_takesComparison_40 rfl hl (by decide) rfl (fun ls hl => ?_)
      refine lv_iload_n hx hb dX10_takesComparison_41 rfl (lv_at hl 0 rfl) ?_
      refine lv_if_ge (tgt := 50) hx hb dX10_takesComparison_42 (by decide) (fun c_42_2742 => ?_) (fun c_42_2742 => ?_)
      · refine lv_aload_n hx hb dX10_takesComparison_50 rfl (lv_at hl 3 rfl) ?_
        refine vV (wr := [(tsp, .inr (8, [.int 120, .int 1, .ref tspc, .int (nI ksp)])), (tspc, .inl (G.2.1, 120, .inl ftsp))]) hC hK hl hP hD hS hA (t_advance l G h0 tby kt tln tsp kd12737 ks12738 kn12739 tf9 fby (by omega) (by omega) (by omega)) si_X10_47 [2, 3] [0, 1] rfl rfl (by decide) rfl (by decide) (by decide) rfl rfl rfl rfl rfl (Nat.le_of_ble_eq_true rfl) ⟨Nat.le_of_ble_eq_true rfl, Nat.le_of_ble_eq_true rfl⟩ ⟨Nat.le_of_ble_eq_true rfl, Nat.le_of_ble_eq_true rfl⟩ dX10_takesComparison_51 (fun u2744 H locs hr2743 hP hD hS => ?_)
        obtain ⟨kd12745, ks12746, kn12747⟩ := u2744
        try dsimp only at hr2743
        have hP : va_P G.1 vwCl [(tsp, .inr (8, [.int 120, .int 1, .ref tspc, .int (nI ksp)])), (tspc, .inl (G.2.1, 120, .inl ftsp)), (h0, .inr (10, [.ref tby, .int (nI kt), .ref tln, .ref tsp, .int kd12745, .int (nI ks12746), .int (nI kn12747), .int tf9])), (tby, .inl (G.2.1, 240, .inl fby))] H := hP
        have hD : va_D A [(tsp, .inr (8, [.int 120, .int 1, .ref tspc, .int (nI ksp)])), (tspc, .inl (G.2.1, 120, .inl ftsp)), (h0, .inr (10, [.ref tby, .int (nI kt), .ref tln, .ref tsp, .int kd12745, .int (nI ks12746), .int (nI kn12747), .int tf9])), (tby, .inl (G.2.1, 240, .inl fby))] := hD
        have w2748 := hr2743
        refine lv_aload_n hx hb dX10_takesComparison_54 rfl (lv_at hl 3 rfl) ?_
        refine lv_iload_n hx hb dX10_takesComparison_55 rfl (lv_at hl 2 rfl) ?_
        refine lv_iconst (v := 3) hx hb dX10_takesComparison_56 (by decide) ?_
        refine lv_imul hx hb dX10_takesComparison_57 ?_
        refine lv_iload_n hx hb dX10_takesComparison_58 rfl (lv_at hl 1 rfl) ?_
        refine lv_iadd hx hb dX10_takesComparison_59 ?_
        refine lv_sipush (v := 1000) hx hb dX10_takesComparison_60 (by decide) ?_
        refine lv_imul hx hb dX10_takesComparison_63 ?_
        refine lv_iload_n hx hb dX10_takesComparison_64 rfl (lv_at hl 0 rfl) ?_
        refine lv_iadd hx hb dX10_takesComparison_65 ?_
        refine vV (wr := [(tby, .inl (G.2.1, 240, .inl fby))]) hC hK hl hP hD hS hA (t_addStep l G h0 ((((r2725 * 3) + r2733) * 1000) + r2741) tby kt tln tsp kd12745 ks12746 kn12747 tf9 tspc ksp ftsp (by omega)) si_X10_152 [2, 0, 1] [3] rfl rfl (by decide) rfl (by decide) (by decide) rfl rfl rfl rfl rfl (Nat.le_of_ble_eq_true rfl) ⟨Nat.le_of_ble_eq_true rfl, Nat.le_of_ble_eq_true rfl⟩ ⟨Nat.le_of_ble_eq_true rfl, Nat.le_of_ble_eq_true rfl⟩ dX10_takesComparison_66 (fun u2750 H locs hr2749 hP hD hS => ?_)
        obtain ⟨ksp12751, gtsp2752⟩ := u2750
        try dsimp only at hr2749
        have hP : va_P G.1 vwCl [(tby, .inl (G.2.1, 240, .inl fby)), (h0, .inr (10, [.ref tby, .int (nI kt), .ref tln, .ref tsp, .int kd12745, .int (nI ks12746), .int (nI kn12747), .int tf9])), (tsp, .inr (8, [.int 120, .int 1, .ref tspc, .int (nI ksp12751)])), (tspc, .inl (G.2.1, 120, .inl gtsp2752))] H := hP
        have hD : va_D A [(tby, .inl (G.2.1, 240, .inl fby)), (h0, .inr (10, [.ref tby, .int (nI kt), .ref tln, .ref tsp, .int kd12745, .int (nI ks12746), .int (nI kn12747), .int tf9])), (tsp, .inr (8, [.int 120, .int 1, .ref tspc, .int (nI ksp12751)])), (tspc, .inl (G.2.1, 120, .inl gtsp2752))] := hD
        have w2753 := hr2749
        refine lv_iconst (v := 1) hx hb dX10_takesComparison_69 (by decide) ?_
        exact RI (v := 1) hC hP hD hS [1, 0, 2, 3] (kd12745, ks12746, kn12747, tf9, ksp12751, gtsp2752) rfl rfl (by decide) (⟨Or.inl (rfl), by dsimp only; omega⟩) (by decide +kernel) dX10_takesComparison_70
      · refine lv_aload_n hx hb dX10_takesComparison_45 rfl (lv_at hl 3 rfl) ?_
        refine iV (wr := [(tsp, .inr (8, [.int 120, .int 1, .ref tspc, .int (nI ksp)])), (tspc, .inl (G.2.1, 120, .inl ftsp)), (tby, .inl (G.2.1, 240, .inl fby))]) hC hK hl hP hD hS hA (t_refuse l G h0 tby kt tln tsp kd12737 ks12738 kn12739 tf9) si_X10_106 [2] [0, 1, 3] rfl rfl (by decide) rfl (by decide) (by decide) rfl rfl rfl rfl rfl (Nat.le_of_ble_eq_true rfl) ⟨Nat.le_of_ble_eq_true rfl, Nat.le_of_ble_eq_true rfl⟩ ⟨Nat.le_of_ble_eq_true rfl, Nat.le_of_ble_eq_true rfl⟩ dX10_takesComparison_46 (fun r2754 u2755 H locs hr2754 hP hD hS => ?_)
        obtain ⟨tf12756, rfl⟩ : ∃ z9, z9 = u2755 := ⟨_, rfl⟩
        try dsimp only at hr2754
        have hP : va_P G.1 vwCl [(tsp, .inr (8, [.int 120, .int 1, .ref tspc, .int (nI ksp)])), (tspc, .inl (G.2.1, 120, .inl ftsp)), (tby, .inl (G.2.1, 240, .inl fby)), (h0, .inr (10, [.ref tby, .int (nI kt), .ref tln, .ref tsp, .int kd12737, .int (nI ks12738), .int (nI kn12739), .int tf12756]))] H := hP
        have hD : va_D A [(tsp, .inr (8, [.int 120, .int 1, .ref tspc, .int (nI ksp)])), (tspc, .inl (G.2.1, 120, .inl ftsp)), (tby, .inl (G.2.1, 240, .inl fby)), (h0, .inr (10, [.ref tby, .int (nI kt), .ref tln, .ref tsp, .int kd12737, .int (nI ks12738), .int (nI kn12739), .int tf12756]))] := hD
        obtain rfl := hr2754
        exact RI (v := 0) hC hP hD hS [3, 2, 0, 1] (kd12737, ks12738, kn12739, tf12756, ksp, ftsp) rfl rfl (by decide) (⟨Or.inr (rfl), by dsimp only; omega⟩) (by decide +kernel) dX10_takesComparison_49
    · refine lv_aload_n hx hb dX10_takesComparison_27 rfl (lv_at hl 2 rfl) ?_
      refine iV (wr := [(tsp, .inr (8, [.int 120, .int 1, .ref tspc, .int (nI ksp)])), (tspc, .inl (G.2.1, 120, .inl ftsp)), (tby, .inl (G.2.1, 240, .inl fby))]) hC hK hl hP hD hS hA (t_refuse l G h0 tby kt tln tsp kd12729 ks12730 kn12731 tf9) si_X10_106 [2] [0, 1, 3] rfl rfl (by decide) rfl (by decide) (by decide) rfl rfl rfl rfl rfl (Nat.le_of_ble_eq_true rfl) ⟨Nat.le_of_ble_eq_true rfl, Nat.le_of_ble_eq_true rfl⟩ ⟨Nat.le_of_ble_eq_true rfl, Nat.le_of_ble_eq_true rfl⟩ dX10_takesComparison_28 (fun r2758 u2759 H locs hr2758 hP hD hS => ?_)
      obtain ⟨tf12760, rfl⟩ : ∃ z9, z9 = u2759 := ⟨_, rfl⟩
      try dsimp only at hr2758
      have hP : va_P G.1 vwCl [(tsp, .inr (8, [.int 120, .int 1, .ref tspc, .int (nI ksp)])), (tspc, .inl (G.2.1, 120, .inl ftsp)), (tby, .inl (G.2.1, 240, .inl fby)), (h0, .inr (10, [.ref tby, .int (nI kt), .ref tln, .ref tsp, .int kd12729, .int (nI ks12730), .int (nI kn12731), .int tf12760]))] H := hP
      have hD : va_D A [(tsp, .inr (8, [.int 120, .int 1, .ref tspc, .int (nI ksp)])), (tspc, .inl (G.2.1, 120, .inl ftsp)), (tby, .inl (G.2.1, 240, .inl fby)), (h0, .inr (10, [.ref tby, .int (nI kt), .ref tln, .ref tsp, .int kd12729, .int (nI ks12730), .int (nI kn12731), .int tf12760]))] := hD
      obtain rfl := hr2758
      exact RI (v := 0) hC hP hD hS [3, 2, 0, 1] (kd12729, ks12730, kn12731, tf12760, ksp, ftsp) rfl rfl (by decide) (⟨Or.inr (rfl), by dsimp only; omega⟩) (by decide +kernel) dX10_takesComparison_31
  · refine lv_aload_n hx hb dX10_takesComparison_9 rfl (lv_at hl 1 rfl) ?_
    refine iV (wr := [(tby, .inl (G.2.1, 240, .inl fby)), (tsp, .inr (8, [.int 120, .int 1, .ref tspc, .int (nI ksp)])), (tspc, .inl (G.2.1, 120, .inl ftsp))]) hC hK hl hP hD hS hA (t_refuse l G h0 tby kt tln tsp tkd ks kn tf9) si_X10_106 [0] [1, 2, 3] rfl rfl (by decide) rfl (by decide) (by decide) rfl rfl rfl rfl rfl (Nat.le_of_ble_eq_true rfl) ⟨Nat.le_of_ble_eq_true rfl, Nat.le_of_ble_eq_true rfl⟩ ⟨Nat.le_of_ble_eq_true rfl, Nat.le_of_ble_eq_true rfl⟩ dX10_takesComparison_10 (fun r2762 u2763 H locs hr2762 hP hD hS => ?_)
    obtain ⟨tf12764, rfl⟩ : ∃ z9, z9 = u2763 := ⟨_, rfl⟩
    try dsimp only at hr2762
    have hP : va_P G.1 vwCl [(tby, .inl (G.2.1, 240, .inl fby)), (tsp, .inr (8, [.int 120, .int 1, .ref tspc, .int (nI ksp)])), (tspc, .inl (G.2.1, 120, .inl ftsp)), (h0, .inr (10, [.ref tby, .int (nI kt), .ref tln, .ref tsp, .int tkd, .int (nI ks), .int (nI kn), .int tf12764]))] H := hP
    have hD : va_D A [(tby, .inl (G.2.1, 240, .inl fby)), (tsp, .inr (8, [.int 120, .int 1, .ref tspc, .int (nI ksp)])), (tspc, .inl (G.2.1, 120, .inl ftsp)), (h0, .inr (10, [.ref tby, .int (nI kt), .ref tln, .ref tsp, .int tkd, .int (nI ks), .int (nI kn), .int tf12764]))] := hD
    obtain rfl := hr2762
    exact RI (v := 0) hC hP hD hS [3, 0, 1, 2] (tkd, ks, kn, tf12764, ksp, ftsp) rfl rfl (by decide) (⟨Or.inr (rfl), by dsimp only; omega⟩) (by decide +kernel) dX10_takesComparison_13
set_option maxHeartbeats 4000000 in
set_option maxRecDepth 100000 in
theorem t_one4 (l : Launch) (G : GG) (K : OO) (h0 : Nat) (tby : Nat) (kt : Nat) (tln : Nat) (tsp : Nat) (tkd : Int32) (ks : Nat) (kn : Nat) (tf9 : Int32) (fby : Nat → Int32) (tspc : Nat) (ksp : Nat) (ftsp : Nat → Int32) (hkt : kt ≤ 240) (hks : ks ≤ 240) (hkn : kn ≤ 240) (hksp : ksp ≤ 120) : MIo l G K yX10_takesOne cX10_takesOne 4 (some .boolean) 9 0 0 [.ref h0, .int 4] [(h0, .inr (10, [.ref tby, .int (nI kt), .ref tln, .ref tsp, .int tkd, .int (nI ks), .int (nI kn), .int tf9])), (tby, .inl (G.2.1, 240, .inl fby)), (tsp, .inr (8, [.int 120, .int 1, .ref tspc, .int (nI ksp)])), (tspc, .inl (G.2.1, 120, .inl ftsp))] (fun (r : Int32) (u : Int32 × Nat × Nat × Int32 × Nat × (Nat → Int32)) => (r = 1 ∨ r = 0) ∧ (u.2.1 ≤ 240 ∧ u.2.2.1 ≤ 240 ∧ u.2.2.2.2.1 ≤ 120)) (fun u : Int32 × Nat × Nat × Int32 × Nat × (Nat → Int32) => [(h0, .inr (10, [.ref tby, .int (nI kt), .ref tln, .ref tsp, .int u.1, .int (nI u.2.1), .int (nI u.2.2.1), .int u.2.2.2.1])), (tby, .inl (G.2.1, 240, .inl fby)), (tsp, .inr (8, [.int 120, .int 1, .ref tspc, .int (nI u.2.2.2.2.1)])), (tspc, .inl (G.2.1, 120, .inl u.2.2.2.2.2))]) := by
  refine MIo.start (by decide +kernel) (Nat.le_of_ble_eq_true rfl) ?_
  intro p e s m below meth c A ls hC hK hP hD hS hA hl hO
  have hl : lv_has ls 4 [(0, .ref h0), (1, .int 4)] := hl
  obtain ⟨hx, hb, hr, hml, hB, hown, hlocks, hnm⟩ := id hC
  refine lv_iconst (v := 0) hx hb dX10_takesOne_0 (by decide) ?_
  refine lv_istore_n (lv' := [(2, .int 0), (0, .ref h0), (1, .int 4)]) hx hb dX10_takesOne_1 rfl hl (by decide) rfl (fun ls hl => ?_)
  refine lv_iconst (v := 0) hx hb dX10_takesOne_2 (by decide) ?_
  refine lv_istore_n (lv' := [(3, .int 0), (2, .int 0), (0, .ref h0), (1, .int 4)]) hx hb dX10_takesOne_3 rfl hl (by decide) rfl (fun ls hl => ?_)
  have keyP : ∀ (nP kP : Nat) (tu : Int32) (vkd : Int32) (vtf : Int32) (vks : Nat) (vkn : Nat) (H : Heap) (locs : List Loc) (ls : Array Slot), kP + nP = 240 → (vks ≤ 240) → (vkn ≤ 240) → va_P G.1 vwCl [(h0, .inr (10, [.ref tby, .int (nI kt), .ref tln, .ref tsp, .int vkd, .int (nI vks), .int (nI vkn), .int vtf])), (tby, .inl (G.2.1, 240, .inl fby)), (tsp, .inr (8, [.int 120, .int 1, .ref tspc, .int (nI ksp)])), (tspc, .inl (G.2.1, 120, .inl ftsp))] H → va_D A [(h0, .inr (10, [.ref tby, .int (nI kt), .ref tln, .ref tsp, .int vkd, .int (nI vks), .int (nI vkn), .int vtf])), (tby, .inl (G.2.1, 240, .inl fby)), (tsp, .inr (8, [.int 120, .int 1, .ref tspc, .int (nI ksp)])), (tspc, .inl (G.2.1, 120, .inl ftsp))] → va_S A s.heap H locs → lv_has ls 4 [(3, .int (nI kP)), (2, .int tu), (0, .ref h0), (1, .int 4)] → W p l e (RM 9 0 0) s m ([.ref h0, .int 4] : List Value).toArray below meth c H locs 0 0 (MQ below (QI G (fun (r : Int32) (u : Int32 × Nat × Nat × Int32 × Nat × (Nat → Int32)) => (r = 1 ∨ r = 0) ∧ (u.2.1 ≤ 240 ∧ u.2.2.1 ≤ 240 ∧ u.2.2.2.2.1 ≤ 120)) (fun u : Int32 × Nat × Nat × Int32 × Nat × (Nat → Int32) => [(h0, .inr (10, [.ref tby, .int (nI kt), .ref tln, .ref tsp, .int u.1, .int (nI u.2.1), .int (nI u.2.2.1), .int u.2.2.2.1])), (tby, .inl (G.2.1, 240, .inl fby)), (tsp, .inr (8, [.int 120, .int 1, .ref tspc, .int (nI u.2.2.2.2.1)])), (tspc, .inl (G.2.1, 120, .inl u.2.2.2.2.2))]) A) ([.ref h0, .int 4] : List Value).toArray s 0 0 A) (F0 m 4 ls []) := by
    intro nP
    induction nP with
    | zero =>
      intro kP tu vkd vtf vks vkn H locs ls hkP hvks hvkn hP hD hS hl
      obtain rfl : 240 = kP := by omega
      have hl : lv_has ls 4 [(3, .int 240), (2, .int tu), (0, .ref h0), (1, .int 4)] := hl
      refine lv_iload_n hx hb dX10_takesOne_4 rfl (lv_at hl 0 rfl) ?_
      refine lv_sipush (v := 240) hx hb dX10_takesOne_5 (by decide) ?_
      refine lv_icmp_ge (tgt := 40) hx hb dX10_takesOne_8 (by decide) (fun _ => ?_) (fun c9 => absurd (by decide) c9)
      refine lv_aload_n hx hb dX10_takesOne_40 rfl (lv_at hl 2 rfl) ?_
      refine gf_X10_31 hC rfl hK hP 0 rfl rfl dX10_takesOne_41 ?_
      refine lv_bipush (v := 40) hx hb dX10_takesOne_44 (by decide) ?_
      refine lv_icmp_eq (tgt := 58) hx hb dX10_takesOne_46 (by decide) (fun c_46_2766 => ?_) (fun c_46_2766 => ?_)
      · refine lv_iload_n hx hb dX10_takesOne_58 rfl (lv_at hl 3 rfl) ?_
        refine lv_iconst (v := 4) hx hb dX10_takesOne_59 (by decide) ?_
        refine lv_icmp_lt (tgt := 68) hx hb dX10_takesOne_60 (by decide) (fun c9 => absurd c9 (by decide)) (fun _ => ?_)
        refine lv_aload_n hx hb dX10_takesOne_63 rfl (lv_at hl 2 rfl) ?_
        refine iV (wr := [(tby, .inl (G.2.1, 240, .inl fby)), (tsp, .inr (8, [.int 120, .int 1, .ref tspc, .int (nI ksp)])), (tspc, .inl (G.2.1, 120, .inl ftsp))]) hC hK hl hP hD hS hA (t_refuse l G h0 tby kt tln tsp vkd vks vkn vtf) si_X10_106 [0] [1, 2, 3] rfl rfl (by decide) rfl (by decide) (by decide) rfl rfl rfl rfl rfl (Nat.le_of_ble_eq_true rfl) ⟨Nat.le_of_ble_eq_true rfl, Nat.le_of_ble_eq_true rfl⟩ ⟨Nat.le_of_ble_eq_true rfl, Nat.le_of_ble_eq_true rfl⟩ dX10_takesOne_64 (fun r2767 u2768 H locs hr2767 hP hD hS => ?_)
        obtain ⟨tf12769, rfl⟩ : ∃ z9, z9 = u2768 := ⟨_, rfl⟩
        try dsimp only at hr2767
        have hP : va_P G.1 vwCl [(tby, .inl (G.2.1, 240, .inl fby)), (tsp, .inr (8, [.int 120, .int 1, .ref tspc, .int (nI ksp)])), (tspc, .inl (G.2.1, 120, .inl ftsp)), (h0, .inr (10, [.ref tby, .int (nI kt), .ref tln, .ref tsp, .int vkd, .int (nI vks), .int (nI vkn), .int tf12769]))] H := hP
        have hD : va_D A [(tby, .inl (G.2.1, 240, .inl fby)), (tsp, .inr (8, [.int 120, .int 1, .ref tspc, .int (nI ksp)])), (tspc, .inl (G.2.1, 120, .inl ftsp)), (h0, .inr (10, [.ref tby, .int (nI kt), .ref tln, .ref tsp, .int vkd, .int (nI vks), .int (nI vkn), .int tf12769]))] := hD
        obtain rfl := hr2767
        exact RI (v := 0) hC hP hD hS [3, 0, 1, 2] (vkd, vks, vkn, tf12769, ksp, ftsp) rfl rfl (by decide) (⟨Or.inr (rfl), by dsimp only; omega⟩) (by decide +kernel) dX10_takesOne_67
      · refine lv_aload_n hx hb dX10_takesOne_49 rfl (lv_at hl 2 rfl) ?_
        refine iVo (wr := []) hO hC hK hl hP hD hS hA (t_takesComparison l G K h0 tby kt tln tsp vkd vks vkn vtf fby tspc ksp ftsp (by omega) (by omega) (by omega) (by omega)) si_X10_162 [0, 1, 2, 3] [] rfl rfl (by decide) rfl (by decide) (by decide) rfl rfl rfl rfl rfl (Nat.le_of_ble_eq_true rfl) ⟨Nat.le_of_ble_eq_true rfl, Nat.le_of_ble_eq_true rfl⟩ ⟨Nat.le_of_ble_eq_true rfl, Nat.le_of_ble_eq_true rfl⟩ dX10_takesOne_50 (fun r2771 u2772 H locs hr2771 hP hD hS => ?_)
        obtain ⟨kd12773, ks12774, kn12775, tf12776, ksp12777, gtsp2778⟩ := u2772
        try dsimp only at hr2771
        have hP : va_P G.1 vwCl [(h0, .inr (10, [.ref tby, .int (nI kt), .ref tln, .ref tsp, .int kd12773, .int (nI ks12774), .int (nI kn12775), .int tf12776])), (tby, .inl (G.2.1, 240, .inl fby)), (tsp, .inr (8, [.int 120, .int 1, .ref tspc, .int (nI ksp12777)])), (tspc, .inl (G.2.1, 120, .inl gtsp2778))] H := hP
        have hD : va_D A [(h0, .inr (10, [.ref tby, .int (nI kt), .ref tln, .ref tsp, .int kd12773, .int (nI ks12774), .int (nI kn12775), .int tf12776])), (tby, .inl (G.2.1, 240, .inl fby)), (tsp, .inr (8, [.int 120, .int 1, .ref tspc, .int (nI ksp12777)])), (tspc, .inl (G.2.1, 120, .inl gtsp2778))] := hD
        obtain ⟨hr2771, w2779⟩ := hr2771
        rcases hr2771 with rfl | rfl
        · refine lv_if_ne (tgt := 93) hx hb dX10_takesOne_53 (by decide) (fun _ => ?_) (fun c9 => absurd c9 (by decide))
          refine lv_iload_n hx hb dX10_takesOne_93 rfl (lv_at hl 1 rfl) ?_
          refine lv_if_eq (tgt := 102) hx hb dX10_takesOne_94 (by decide) (fun c_94_2781 => ?_) (fun c_94_2781 => ?_)
          · refine lv_iconst (v := 1) hx hb dX10_takesOne_102 (by decide) ?_
            exact RI (v := 1) hC hP hD hS [0, 1, 2, 3] (kd12773, ks12774, kn12775, tf12776, ksp12777, gtsp2778) rfl rfl (by decide) (⟨Or.inl (rfl), by dsimp only; omega⟩) (by decide +kernel) dX10_takesOne_103
          · refine lv_aload_n hx hb dX10_takesOne_97 rfl (lv_at hl 2 rfl) ?_
            refine lv_iconst (v := (-1)) hx hb dX10_takesOne_98 (by decide) ?_
            refine vV (wr := [(tby, .inl (G.2.1, 240, .inl fby))]) hC hK hl hP hD hS hA (t_addStep l G h0 (-1) tby kt tln tsp kd12773 ks12774 kn12775 tf12776 tspc ksp12777 gtsp2778 (by omega)) si_X10_152 [0, 2, 3] [1] rfl rfl (by decide) rfl (by decide) (by decide) rfl rfl rfl rfl rfl (Nat.le_of_ble_eq_true rfl) ⟨Nat.le_of_ble_eq_true rfl, Nat.le_of_ble_eq_true rfl⟩ ⟨Nat.le_of_ble_eq_true rfl, Nat.le_of_ble_eq_true rfl⟩ dX10_takesOne_99 (fun u2783 H locs hr2782 hP hD hS => ?_)
            obtain ⟨ksp12784, gtsp2785⟩ := u2783
            try dsimp only at hr2782
            have hP : va_P G.1 vwCl [(tby, .inl (G.2.1, 240, .inl fby)), (h0, .inr (10, [.ref tby, .int (nI kt), .ref tln, .ref tsp, .int kd12773, .int (nI ks12774), .int (nI kn12775), .int tf12776])), (tsp, .inr (8, [.int 120, .int 1, .ref tspc, .int (nI ksp12784)])), (tspc, .inl (G.2.1, 120, .inl gtsp2785))] H := hP
            have hD : va_D A [(tby, .inl (G.2.1, 240, .inl fby)), (h0, .inr (10, [.ref tby, .int (nI kt), .ref tln, .ref tsp, .int kd12773, .int (nI ks12774), .int (nI kn12775), .int tf12776])), (tsp, .inr (8, [.int 120, .int 1, .ref tspc, .int (nI ksp12784)])), (tspc, .inl (G.2.1, 120, .inl gtsp2785))] := hD
            have w2786 := hr2782
            refine lv_iconst (v := 1) hx hb dX10_takesOne_102 (by decide) ?_
            exact RI (v := 1) hC hP hD hS [1, 0, 2, 3] (kd12773, ks12774, kn12775, tf12776, ksp12784, gtsp2785) rfl rfl (by decide) (⟨Or.inl (rfl), by dsimp only; omega⟩) (by decide +kernel) dX10_takesOne_103
        · refine lv_if_ne (tgt := 93) hx hb dX10_takesOne_53 (by decide) (fun c9 => absurd (by decide) c9) (fun _ => ?_)
          refine lv_iconst (v := 0) hx hb dX10_takesOne_56 (by decide) ?_
          exact RI (v := 0) hC hP hD hS [0, 1, 2, 3] (kd12773, ks12774, kn12775, tf12776, ksp12777, gtsp2778) rfl rfl (by decide) (⟨Or.inr (rfl), by dsimp only; omega⟩) (by decide +kernel) dX10_takesOne_57
    | succ nP ihP =>
      intro kP tu vkd vtf vks vkn H locs ls hkP hvks hvkn hP hD hS hl
      refine lv_iload_n hx hb dX10_takesOne_4 rfl (lv_at hl 0 rfl) ?_
      refine lv_sipush (v := 240) hx hb dX10_takesOne_5 (by decide) ?_
      refine lv_icmp_ge (tgt := 40) hx hb dX10_takesOne_8 (by decide) (fun c9 => absurd c9 (nI_ge (a := kP) (b := 240) (by omega) (by omega))) (fun _ => ?_)
      refine lv_aload_n hx hb dX10_takesOne_11 rfl (lv_at hl 2 rfl) ?_
      refine va_ldcS (index := 160) (tx := "not") hx hb hown (hO.2.1 10 (by decide)) dX10_takesOne_12 ?_
      refine pVo hO hS hC hK hl hP hD (t_isName l G K 10 h0 tby kt tln tsp vkd vks vkn vtf fby (by omega) (by omega) (by omega) ((by decide))) si_X10_102 [0, 1] rfl rfl (by decide) rfl rfl rfl rfl rfl (Nat.le_of_ble_eq_true rfl) ⟨Nat.le_of_ble_eq_true rfl, Nat.le_of_ble_eq_true rfl⟩ ⟨by first | exact Nat.le_of_ble_eq_true rfl | exact Nat.zero_le _, by first | exact Nat.le_of_ble_eq_true rfl | exact Nat.zero_le _⟩ dX10_takesOne_14 (fun r2787 hr2787 => ?_)
      rcases hr2787 with rfl | rfl
      · refine lv_if_eq (tgt := 40) hx hb dX10_takesOne_17 (by decide) (fun c9 => absurd c9 (by decide)) (fun _ => ?_)
        refine lv_aload_n hx hb dX10_takesOne_20 rfl (lv_at hl 2 rfl) ?_
        refine vV (wr := [(tsp, .inr (8, [.int 120, .int 1, .ref tspc, .int (nI ksp)])), (tspc, .inl (G.2.1, 120, .inl ftsp))]) hC hK hl hP hD hS hA (t_advance l G h0 tby kt tln tsp vkd vks vkn vtf fby (by omega) (by omega) (by omega)) si_X10_47 [0, 1] [2, 3] rfl rfl (by decide) rfl (by decide) (by decide) rfl rfl rfl rfl rfl (Nat.le_of_ble_eq_true rfl) ⟨Nat.le_of_ble_eq_true rfl, Nat.le_of_ble_eq_true rfl⟩ ⟨Nat.le_of_ble_eq_true rfl, Nat.le_of_ble_eq_true rfl⟩ dX10_takesOne_21 (fun u2790 H locs hr2789 hP hD hS => ?_)
        obtain ⟨kd12791, ks12792, kn12793⟩ := u2790
        try dsimp only at hr2789
        have hP : va_P G.1 vwCl [(tsp, .inr (8, [.int 120, .int 1, .ref tspc, .int (nI ksp)])), (tspc, .inl (G.2.1, 120, .inl ftsp)), (h0, .inr (10, [.ref tby, .int (nI kt), .ref tln, .ref tsp, .int kd12791, .int (nI ks12792), .int (nI kn12793), .int vtf])), (tby, .inl (G.2.1, 240, .inl fby))] H := hP
        have hD : va_D A [(tsp, .inr (8, [.int 120, .int 1, .ref tspc, .int (nI ksp)])), (tspc, .inl (G.2.1, 120, .inl ftsp)), (h0, .inr (10, [.ref tby, .int (nI kt), .ref tln, .ref tsp, .int kd12791, .int (nI ks12792), .int (nI kn12793), .int vtf])), (tby, .inl (G.2.1, 240, .inl fby))] := hD
        have w2794 := hr2789
        refine lv_iload_n hx hb dX10_takesOne_24 rfl (lv_at hl 1 rfl) ?_
        refine lv_if_ne (tgt := 32) hx hb dX10_takesOne_25 (by decide) (fun c_25_2795 => ?_) (fun c_25_2795 => ?_)
        · refine lv_iconst (v := 0) hx hb dX10_takesOne_32 (by decide) ?_
          refine lv_istore_n (lv' := [(2, .int 0), (3, .int (nI kP)), (0, .ref h0), (1, .int 4)]) hx hb dX10_takesOne_33 rfl hl (by decide) rfl (fun ls hl => ?_)
          refine lv_iinc (v := nI (kP + 1)) (lv' := [(3, .int (nI (kP + 1))), (2, .int 0), (0, .ref h0), (1, .int 4)]) hx hb dX10_takesOne_34 hl (k := 1) rfl (nI_1 _) (by decide) rfl (fun ls hl => ?_)
          refine lv_goto (tgt := 4) hx hb dX10_takesOne_37 (by decide) ?_
          have hP := hP.sub (ws' := [(h0, .inr (10, [.ref tby, .int (nI kt), .ref tln, .ref tsp, .int kd12791, .int (nI ks12792), .int (nI kn12793), .int vtf])), (tby, .inl (G.2.1, 240, .inl fby)), (tsp, .inr (8, [.int 120, .int 1, .ref tspc, .int (nI ksp)])), (tspc, .inl (G.2.1, 120, .inl ftsp))]) [2, 3, 0, 1] rfl
          have hD := hD.sub (ws' := [(h0, .inr (10, [.ref tby, .int (nI kt), .ref tln, .ref tsp, .int kd12791, .int (nI ks12792), .int (nI kn12793), .int vtf])), (tby, .inl (G.2.1, 240, .inl fby)), (tsp, .inr (8, [.int 120, .int 1, .ref tspc, .int (nI ksp)])), (tspc, .inl (G.2.1, 120, .inl ftsp))]) [2, 3, 0, 1] (by decide) rfl
          exact ihP (kP + 1) 0 kd12791 vtf ks12792 kn12793 _ _ _ (by omega) (by first | assumption | exact Or.inl rfl | exact Or.inr rfl | omega) (by first | assumption | exact Or.inl rfl | exact Or.inr rfl | omega) hP hD hS (lv_sub hl [0, 1, 2, 3] rfl)
        · refine lv_iconst (v := 1) hx hb dX10_takesOne_28 (by decide) ?_
          refine lv_goto (tgt := 33) hx hb dX10_takesOne_29 (by decide) ?_
          refine lv_istore_n (lv' := [(2, .int 1), (3, .int (nI kP)), (0, .ref h0), (1, .int 4)]) hx hb dX10_takesOne_33 rfl hl (by decide) rfl (fun ls hl => ?_)
          refine lv_iinc (v := nI (kP + 1)) (lv' := [(3, .int (nI (kP + 1))), (2, .int 1), (0, .ref h0), (1, .int 4)]) hx hb dX10_takesOne_34 hl (k := 1) rfl (nI_1 _) (by decide) rfl (fun ls hl => ?_)
          refine lv_goto (tgt := 4) hx hb dX10_takesOne_37 (by decide) ?_
          have hP := hP.sub (ws' := [(h0, .inr (10, [.ref tby, .int (nI kt), .ref tln, .ref tsp, .int kd12791, .int (nI ks12792), .int (nI kn12793), .int vtf])), (tby, .inl (G.2.1, 240, .inl fby)), (tsp, .inr (8, [.int 120, .int 1, .ref tspc, .int (nI ksp)])), (tspc, .inl (G.2.1, 120, .inl ftsp))]) [2, 3, 0, 1] rfl
          have hD := hD.sub (ws' := [(h0, .inr (10, [.ref tby, .int (nI kt), .ref tln, .ref tsp, .int kd12791, .int (nI ks12792), .int (nI kn12793), .int vtf])), (tby, .inl (G.2.1, 240, .inl fby)), (tsp, .inr (8, [.int 120, .int 1, .ref tspc, .int (nI ksp)])), (tspc, .inl (G.2.1, 120, .inl ftsp))]) [2, 3, 0, 1] (by decide) rfl
          exact ihP (kP + 1) 1 kd12791 vtf ks12792 kn12793 _ _ _ (by omega) (by first | assumption | exact Or.inl rfl | exact Or.inr rfl | omega) (by first | assumption | exact Or.inl rfl | exact Or.inr rfl | omega) hP hD hS (lv_sub hl [0, 1, 2, 3] rfl)
      · refine lv_if_eq (tgt := 40) hx hb dX10_takesOne_17 (by decide) (fun _ => ?_) (fun c9 => absurd (by decide) c9)
        refine lv_aload_n hx hb dX10_takesOne_40 rfl (lv_at hl 2 rfl) ?_
        refine gf_X10_31 hC rfl hK hP 0 rfl rfl dX10_takesOne_41 ?_
        refine lv_bipush (v := 40) hx hb dX10_takesOne_44 (by decide) ?_
        refine lv_icmp_eq (tgt := 58) hx hb dX10_takesOne_46 (by decide) (fun c_46_2796 => ?_) (fun c_46_2796 => ?_)
        · refine lv_iload_n hx hb dX10_takesOne_58 rfl (lv_at hl 3 rfl) ?_
          refine lv_iconst (v := 4) hx hb dX10_takesOne_59 (by decide) ?_
          refine lv_icmp_lt (tgt := 68) hx hb dX10_takesOne_60 (by decide) (fun c9 => absurd c9 (by decide)) (fun _ => ?_)
          refine lv_aload_n hx hb dX10_takesOne_63 rfl (lv_at hl 2 rfl) ?_
          refine iV (wr := [(tby, .inl (G.2.1, 240, .inl fby)), (tsp, .inr (8, [.int 120, .int 1, .ref tspc, .int (nI ksp)])), (tspc, .inl (G.2.1, 120, .inl ftsp))]) hC hK hl hP hD hS hA (t_refuse l G h0 tby kt tln tsp vkd vks vkn vtf) si_X10_106 [0] [1, 2, 3] rfl rfl (by decide) rfl (by decide) (by decide) rfl rfl rfl rfl rfl (Nat.le_of_ble_eq_true rfl) ⟨Nat.le_of_ble_eq_true rfl, Nat.le_of_ble_eq_true rfl⟩ ⟨Nat.le_of_ble_eq_true rfl, Nat.le_of_ble_eq_true rfl⟩ dX10_takesOne_64 (fun r2797 u2798 H locs hr2797 hP hD hS => ?_)
          obtain ⟨tf12799, rfl⟩ : ∃ z9, z9 = u2798 := ⟨_, rfl⟩
          try dsimp only at hr2797
          have hP : va_P G.1 vwCl [(tby, .inl (G.2.1, 240, .inl fby)), (tsp, .inr (8, [.int 120, .int 1, .ref tspc, .int (nI ksp)])), (tspc, .inl (G.2.1, 120, .inl ftsp)), (h0, .inr (10, [.ref tby, .int (nI kt), .ref tln, .ref tsp, .int vkd, .int (nI vks), .int (nI vkn), .int tf12799]))] H := hP
          have hD : va_D A [(tby, .inl (G.2.1, 240, .inl fby)), (tsp, .inr (8, [.int 120, .int 1, .ref tspc, .int (nI ksp)])), (tspc, .inl (G.2.1, 120, .inl ftsp)), (h0, .inr (10, [.ref tby, .int (nI kt), .ref tln, .ref tsp, .int vkd, .int (nI vks), .int (nI vkn), .int tf12799]))] := hD
          obtain rfl := hr2797
          exact RI (v := 0) hC hP hD hS [3, 0, 1, 2] (vkd, vks, vkn, tf12799, ksp, ftsp) rfl rfl (by decide) (⟨Or.inr (rfl), by dsimp only; omega⟩) (by decide +kernel) dX10_takesOne_67
        · refine lv_aload_n hx hb dX10_takesOne_49 rfl (lv_at hl 2 rfl) ?_
          refine iVo (wr := []) hO hC hK hl hP hD hS hA (t_takesComparison l G K h0 tby kt tln tsp vkd vks vkn vtf fby tspc ksp ftsp (by omega) (by omega) (by omega) (by omega)) si_X10_162 [0, 1, 2, 3] [] rfl rfl (by decide) rfl (by decide) (by decide) rfl rfl rfl rfl rfl (Nat.le_of_ble_eq_true rfl) ⟨Nat.le_of_ble_eq_true rfl, Nat.le_of_ble_eq_true rfl⟩ ⟨Nat.le_of_ble_eq_true rfl, Nat.le_of_ble_eq_true rfl⟩ dX10_takesOne_50 (fun r2801 u2802 H locs hr2801 hP hD hS => ?_)
          obtain ⟨kd12803, ks12804, kn12805, tf12806, ksp12807, gtsp2808⟩ := u2802
          try dsimp only at hr2801
          have hP : va_P G.1 vwCl [(h0, .inr (10, [.ref tby, .int (nI kt), .ref tln, .ref tsp, .int kd12803, .int (nI ks12804), .int (nI kn12805), .int tf12806])), (tby, .inl (G.2.1, 240, .inl fby)), (tsp, .inr (8, [.int 120, .int 1, .ref tspc, .int (nI ksp12807)])), (tspc, .inl (G.2.1, 120, .inl gtsp2808))] H := hP
          have hD : va_D A [(h0, .inr (10, [.ref tby, .int (nI kt), .ref tln, .ref tsp, .int kd12803, .int (nI ks12804), .int (nI kn12805), .int tf12806])), (tby, .inl (G.2.1, 240, .inl fby)), (tsp, .inr (8, [.int 120, .int 1, .ref tspc, .int (nI ksp12807)])), (tspc, .inl (G.2.1, 120, .inl gtsp2808))] := hD
          obtain ⟨hr2801, w2809⟩ := hr2801
          rcases hr2801 with rfl | rfl
          · refine lv_if_ne (tgt := 93) hx hb dX10_takesOne_53 (by decide) (fun _ => ?_) (fun c9 => absurd c9 (by decide))
            refine lv_iload_n hx hb dX10_takesOne_93 rfl (lv_at hl 1 rfl) ?_
            refine lv_if_eq (tgt := 102) hx hb dX10_takesOne_94 (by decide) (fun c_94_2811 => ?_) (fun c_94_2811 => ?_)
            · refine lv_iconst (v := 1) hx hb dX10_takesOne_102 (by decide) ?_
              exact RI (v := 1) hC hP hD hS [0, 1, 2, 3] (kd12803, ks12804, kn12805, tf12806, ksp12807, gtsp2808) rfl rfl (by decide) (⟨Or.inl (rfl), by dsimp only; omega⟩) (by decide +kernel) dX10_takesOne_103
            · refine lv_aload_n hx hb dX10_takesOne_97 rfl (lv_at hl 2 rfl) ?_
              refine lv_iconst (v := (-1)) hx hb dX10_takesOne_98 (by decide) ?_
              refine vV (wr := [(tby, .inl (G.2.1, 240, .inl fby))]) hC hK hl hP hD hS hA (t_addStep l G h0 (-1) tby kt tln tsp kd12803 ks12804 kn12805 tf12806 tspc ksp12807 gtsp2808 (by omega)) si_X10_152 [0, 2, 3] [1] rfl rfl (by decide) rfl (by decide) (by decide) rfl rfl rfl rfl rfl (Nat.le_of_ble_eq_true rfl) ⟨Nat.le_of_ble_eq_true rfl, Nat.le_of_ble_eq_true rfl⟩ ⟨Nat.le_of_ble_eq_true rfl, Nat.le_of_ble_eq_true rfl⟩ dX10_takesOne_99 (fun u2813 H locs hr2812 hP hD hS => ?_)
              obtain ⟨ksp12814, gtsp2815⟩ := u2813
              try dsimp only at hr2812
              have hP : va_P G.1 vwCl [(tby, .inl (G.2.1, 240, .inl fby)), (h0, .inr (10, [.ref tby, .int (nI kt), .ref tln, .ref tsp, .int kd12803, .int (nI ks12804), .int (nI kn12805), .int tf12806])), (tsp, .inr (8, [.int 120, .int 1, .ref tspc, .int (nI ksp12814)])), (tspc, .inl (G.2.1, 120, .inl gtsp2815))] H := hP
              have hD : va_D A [(tby, .inl (G.2.1, 240, .inl fby)), (h0, .inr (10, [.ref tby, .int (nI kt), .ref tln, .ref tsp, .int kd12803, .int (nI ks12804), .int (nI kn12805), .int tf12806])), (tsp, .inr (8, [.int 120, .int 1, .ref tspc, .int (nI ksp12814)])), (tspc, .inl (G.2.1, 120, .inl gtsp2815))] := hD
              have w2816 := hr2812
              refine lv_iconst (v := 1) hx hb dX10_takesOne_102 (by decide) ?_
              exact RI (v := 1) hC hP hD hS [1, 0, 2, 3] (kd12803, ks12804, kn12805, tf12806, ksp12814, gtsp2815) rfl rfl (by decide) (⟨Or.inl (rfl), by dsimp only; omega⟩) (by decide +kernel) dX10_takesOne_103
          · refine lv_if_ne (tgt := 93) hx hb dX10_takesOne_53 (by decide) (fun c9 => absurd (by decide) c9) (fun _ => ?_)
            refine lv_iconst (v := 0) hx hb dX10_takesOne_56 (by decide) ?_
            exact RI (v := 0) hC hP hD hS [0, 1, 2, 3] (kd12803, ks12804, kn12805, tf12806, ksp12807, gtsp2808) rfl rfl (by decide) (⟨Or.inr (rfl), by dsimp only; omega⟩) (by decide +kernel) dX10_takesOne_57
  exact keyP 240 0 0 tkd tf9 ks kn _ _ _ (by omega) (by first | assumption | exact Or.inl rfl | exact Or.inr rfl | omega) (by first | assumption | exact Or.inl rfl | exact Or.inr rfl | omega) hP hD hS (lv_sub hl [0, 1, 2, 3] rfl)
set_option maxHeartbeats 4000000 in
set_option maxRecDepth 100000 in
theorem t_all4 (l : Launch) (G : GG) (K : OO) (h0 : Nat) (tby : Nat) (kt : Nat) (tln : Nat) (tsp : Nat) (tkd : Int32) (ks : Nat) (kn : Nat) (tf9 : Int32) (fby : Nat → Int32) (tspc : Nat) (ksp : Nat) (ftsp : Nat → Int32) (hkt : kt ≤ 240) (hks : ks ≤ 240) (hkn : kn ≤ 240) (hksp : ksp ≤ 120) : MIo l G K yX10_takesAll cX10_takesAll 3 (some .boolean) 10 0 0 [.ref h0, .int 4] [(h0, .inr (10, [.ref tby, .int (nI kt), .ref tln, .ref tsp, .int tkd, .int (nI ks), .int (nI kn), .int tf9])), (tby, .inl (G.2.1, 240, .inl fby)), (tsp, .inr (8, [.int 120, .int 1, .ref tspc, .int (nI ksp)])), (tspc, .inl (G.2.1, 120, .inl ftsp))] (fun (r : Int32) (u : Int32 × Nat × Nat × Int32 × Nat × (Nat → Int32)) => (r = 1 ∨ r = 0) ∧ (u.2.1 ≤ 240 ∧ u.2.2.1 ≤ 240 ∧ u.2.2.2.2.1 ≤ 120)) (fun u : Int32 × Nat × Nat × Int32 × Nat × (Nat → Int32) => [(h0, .inr (10, [.ref tby, .int (nI kt), .ref tln, .ref tsp, .int u.1, .int (nI u.2.1), .int (nI u.2.2.1), .int u.2.2.2.1])), (tby, .inl (G.2.1, 240, .inl fby)), (tsp, .inr (8, [.int 120, .int 1, .ref tspc, .int (nI u.2.2.2.2.1)])), (tspc, .inl (G.2.1, 120, .inl u.2.2.2.2.2))]) := by
  refine MIo.start (by decide +kernel) (Nat.le_of_ble_eq_true rfl) ?_
  intro p e s m below meth c A ls hC hK hP hD hS hA hl hO
  have hl : lv_has ls 3 [(0, .ref h0), (1, .int 4)] := hl
  obtain ⟨hx, hb, hr, hml, hB, hown, hlocks, hnm⟩ := id hC
  refine lv_aload_n hx hb dX10_takesAll_0 rfl (lv_at hl 0 rfl) ?_
  refine lv_iload_n hx hb dX10_takesAll_1 rfl (lv_at hl 1 rfl) ?_
  refine iVo (wr := []) hO hC hK hl hP hD hS hA (t_one4 l G K h0 tby kt tln tsp tkd ks kn tf9 fby tspc ksp ftsp (by omega) (by omega) (by omega) (by omega)) si_X10_155 [0, 1, 2, 3] [] rfl rfl (by decide) rfl (by decide) (by decide) rfl rfl rfl rfl rfl (Nat.le_of_ble_eq_true rfl) ⟨Nat.le_of_ble_eq_true rfl, Nat.le_of_ble_eq_true rfl⟩ ⟨Nat.le_of_ble_eq_true rfl, Nat.le_of_ble_eq_true rfl⟩ dX10_takesAll_2 (fun r2817 u2818 H locs hr2817 hP hD hS => ?_)
  obtain ⟨kd12819, ks12820, kn12821, tf12822, ksp12823, gtsp2824⟩ := u2818
  try dsimp only at hr2817
  have hP : va_P G.1 vwCl [(h0, .inr (10, [.ref tby, .int (nI kt), .ref tln, .ref tsp, .int kd12819, .int (nI ks12820), .int (nI kn12821), .int tf12822])), (tby, .inl (G.2.1, 240, .inl fby)), (tsp, .inr (8, [.int 120, .int 1, .ref tspc, .int (nI ksp12823)])), (tspc, .inl (G.2.1, 120, .inl gtsp2824))] H := hP
  have hD : va_D A [(h0, .inr (10, [.ref tby, .int (nI kt), .ref tln, .ref tsp, .int kd12819, .int (nI ks12820), .int (nI kn12821), .int tf12822])), (tby, .inl (G.2.1, 240, .inl fby)), (tsp, .inr (8, [.int 120, .int 1, .ref tspc, .int (nI ksp12823)])), (tspc, .inl (G.2.1, 120, .inl gtsp2824))] := hD
  obtain ⟨hr2817, w2825⟩ := hr2817
  rcases hr2817 with rfl | rfl
  · refine lv_if_ne (tgt := 10) hx hb dX10_takesAll_5 (by decide) (fun _ => ?_) (fun c9 => absurd c9 (by decide))
    refine lv_iconst (v := 0) hx hb dX10_takesAll_10 (by decide) ?_
    refine lv_istore_n (lv' := [(2, .int 0), (0, .ref h0), (1, .int 4)]) hx hb dX10_takesAll_11 rfl hl (by decide) rfl (fun ls hl => ?_)
    have keyP : ∀ (nP kP : Nat) (vkd : Int32) (vtf : Int32) (vtsp : Nat → Int32) (vks : Nat) (vkn : Nat) (vksp : Nat) (H : Heap) (locs : List Loc) (ls : Array Slot), kP + nP = 240 → (vks ≤ 240) → (vkn ≤ 240) → (vksp ≤ 120) → va_P G.1 vwCl [(h0, .inr (10, [.ref tby, .int (nI kt), .ref tln, .ref tsp, .int vkd, .int (nI vks), .int (nI vkn), .int vtf])), (tby, .inl (G.2.1, 240, .inl fby)), (tsp, .inr (8, [.int 120, .int 1, .ref tspc, .int (nI vksp)])), (tspc, .inl (G.2.1, 120, .inl vtsp))] H → va_D A [(h0, .inr (10, [.ref tby, .int (nI kt), .ref tln, .ref tsp, .int vkd, .int (nI vks), .int (nI vkn), .int vtf])), (tby, .inl (G.2.1, 240, .inl fby)), (tsp, .inr (8, [.int 120, .int 1, .ref tspc, .int (nI vksp)])), (tspc, .inl (G.2.1, 120, .inl vtsp))] → va_S A s.heap H locs → lv_has ls 3 [(2, .int (nI kP)), (0, .ref h0), (1, .int 4)] → W p l e (RM 10 0 0) s m ([.ref h0, .int 4] : List Value).toArray below meth c H locs 0 0 (MQ below (QI G (fun (r : Int32) (u : Int32 × Nat × Nat × Int32 × Nat × (Nat → Int32)) => (r = 1 ∨ r = 0) ∧ (u.2.1 ≤ 240 ∧ u.2.2.1 ≤ 240 ∧ u.2.2.2.2.1 ≤ 120)) (fun u : Int32 × Nat × Nat × Int32 × Nat × (Nat → Int32) => [(h0, .inr (10, [.ref tby, .int (nI kt), .ref tln, .ref tsp, .int u.1, .int (nI u.2.1), .int (nI u.2.2.1), .int u.2.2.2.1])), (tby, .inl (G.2.1, 240, .inl fby)), (tsp, .inr (8, [.int 120, .int 1, .ref tspc, .int (nI u.2.2.2.2.1)])), (tspc, .inl (G.2.1, 120, .inl u.2.2.2.2.2))]) A) ([.ref h0, .int 4] : List Value).toArray s 0 0 A) (F0 m 12 ls []) := by
      intro nP
      induction nP with
      | zero =>
        intro kP vkd vtf vtsp vks vkn vksp H locs ls hkP hvks hvkn hvksp hP hD hS hl
        obtain rfl : 240 = kP := by omega
        have hl : lv_has ls 3 [(2, .int 240), (0, .ref h0), (1, .int 4)] := hl
        refine lv_iload_n hx hb dX10_takesAll_12 rfl (lv_at hl 0 rfl) ?_
        refine lv_sipush (v := 240) hx hb dX10_takesAll_13 (by decide) ?_
        refine lv_icmp_ge (tgt := 54) hx hb dX10_takesAll_16 (by decide) (fun _ => ?_) (fun c9 => absurd (by decide) c9)
        refine lv_iconst (v := 1) hx hb dX10_takesAll_54 (by decide) ?_
        exact RI (v := 1) hC hP hD hS [0, 1, 2, 3] (vkd, vks, vkn, vtf, vksp, vtsp) rfl rfl (by decide) (⟨Or.inl (rfl), by dsimp only; omega⟩) (by decide +kernel) dX10_takesAll_55
      | succ nP ihP =>
        intro kP vkd vtf vtsp vks vkn vksp H locs ls hkP hvks hvkn hvksp hP hD hS hl
        refine lv_iload_n hx hb dX10_takesAll_12 rfl (lv_at hl 0 rfl) ?_
        refine lv_sipush (v := 240) hx hb dX10_takesAll_13 (by decide) ?_
        refine lv_icmp_ge (tgt := 54) hx hb dX10_takesAll_16 (by decide) (fun c9 => absurd c9 (nI_ge (a := kP) (b := 240) (by omega) (by omega))) (fun _ => ?_)
        refine lv_aload_n hx hb dX10_takesAll_19 rfl (lv_at hl 1 rfl) ?_
        refine va_ldcS (index := 158) (tx := "and") hx hb hown (hO.2.1 9 (by decide)) dX10_takesAll_20 ?_
        refine pVo hO hS hC hK hl hP hD (t_isName l G K 9 h0 tby kt tln tsp vkd vks vkn vtf fby (by omega) (by omega) (by omega) ((by decide))) si_X10_102 [0, 1] rfl rfl (by decide) rfl rfl rfl rfl rfl (Nat.le_of_ble_eq_true rfl) ⟨Nat.le_of_ble_eq_true rfl, Nat.le_of_ble_eq_true rfl⟩ ⟨by first | exact Nat.le_of_ble_eq_true rfl | exact Nat.zero_le _, by first | exact Nat.le_of_ble_eq_true rfl | exact Nat.zero_le _⟩ dX10_takesAll_22 (fun r2827 hr2827 => ?_)
        rcases hr2827 with rfl | rfl
        · refine lv_if_eq (tgt := 54) hx hb dX10_takesAll_25 (by decide) (fun c9 => absurd c9 (by decide)) (fun _ => ?_)
          refine lv_aload_n hx hb dX10_takesAll_28 rfl (lv_at hl 1 rfl) ?_
          refine vV (wr := [(tsp, .inr (8, [.int 120, .int 1, .ref tspc, .int (nI vksp)])), (tspc, .inl (G.2.1, 120, .inl vtsp))]) hC hK hl hP hD hS hA (t_advance l G h0 tby kt tln tsp vkd vks vkn vtf fby (by omega) (by omega) (by omega)) si_X10_47 [0, 1] [2, 3] rfl rfl (by decide) rfl (by decide) (by decide) rfl rfl rfl rfl rfl (Nat.le_of_ble_eq_true rfl) ⟨Nat.le_of_ble_eq_true rfl, Nat.le_of_ble_eq_true rfl⟩ ⟨Nat.le_of_ble_eq_true rfl, Nat.le_of_ble_eq_true rfl⟩ dX10_takesAll_29 (fun u2830 H locs hr2829 hP hD hS => ?_)
          obtain ⟨kd12831, ks12832, kn12833⟩ := u2830
          try dsimp only at hr2829
          have hP : va_P G.1 vwCl [(tsp, .inr (8, [.int 120, .int 1, .ref tspc, .int (nI vksp)])), (tspc, .inl (G.2.1, 120, .inl vtsp)), (h0, .inr (10, [.ref tby, .int (nI kt), .ref tln, .ref tsp, .int kd12831, .int (nI ks12832), .int (nI kn12833), .int vtf])), (tby, .inl (G.2.1, 240, .inl fby))] H := hP
          have hD : va_D A [(tsp, .inr (8, [.int 120, .int 1, .ref tspc, .int (nI vksp)])), (tspc, .inl (G.2.1, 120, .inl vtsp)), (h0, .inr (10, [.ref tby, .int (nI kt), .ref tln, .ref tsp, .int kd12831, .int (nI ks12832), .int (nI kn12833), .int vtf])), (tby, .inl (G.2.1, 240, .inl fby))] := hD
          have w2834 := hr2829
          refine lv_aload_n hx hb dX10_takesAll_32 rfl (lv_at hl 1 rfl) ?_
          refine lv_iload_n hx hb dX10_takesAll_33 rfl (lv_at hl 2 rfl) ?_
          refine iVo (wr := []) hO hC hK hl hP hD hS hA (t_one4 l G K h0 tby kt tln tsp kd12831 ks12832 kn12833 vtf fby tspc vksp vtsp (by omega) (by omega) (by omega) (by omega)) si_X10_155 [2, 3, 0, 1] [] rfl rfl (by decide) rfl (by decide) (by decide) rfl rfl rfl rfl rfl (Nat.le_of_ble_eq_true rfl) ⟨Nat.le_of_ble_eq_true rfl, Nat.le_of_ble_eq_true rfl⟩ ⟨Nat.le_of_ble_eq_true rfl, Nat.le_of_ble_eq_true rfl⟩ dX10_takesAll_34 (fun r2835 u2836 H locs hr2835 hP hD hS => ?_)
          obtain ⟨kd12837, ks12838, kn12839, tf12840, ksp12841, gtsp2842⟩ := u2836
          try dsimp only at hr2835
          have hP : va_P G.1 vwCl [(h0, .inr (10, [.ref tby, .int (nI kt), .ref tln, .ref tsp, .int kd12837, .int (nI ks12838), .int (nI kn12839), .int tf12840])), (tby, .inl (G.2.1, 240, .inl fby)), (tsp, .inr (8, [.int 120, .int 1, .ref tspc, .int (nI ksp12841)])), (tspc, .inl (G.2.1, 120, .inl gtsp2842))] H := hP
          have hD : va_D A [(h0, .inr (10, [.ref tby, .int (nI kt), .ref tln, .ref tsp, .int kd12837, .int (nI ks12838), .int (nI kn12839), .int tf12840])), (tby, .inl (G.2.1, 240, .inl fby)), (tsp, .inr (8, [.int 120, .int 1, .ref tspc, .int (nI ksp12841)])), (tspc, .inl (G.2.1, 120, .inl gtsp2842))] := hD
          obtain ⟨hr2835, w2843⟩ := hr2835
          rcases hr2835 with rfl | rfl
          · refine lv_if_ne (tgt := 42) hx hb dX10_takesAll_37 (by decide) (fun _ => ?_) (fun c9 => absurd c9 (by decide))
            refine lv_aload_n hx hb dX10_takesAll_42 rfl (lv_at hl 1 rfl) ?_
            refine lv_bipush (v := (-2)) hx hb dX10_takesAll_43 (by decide) ?_
            refine vV (wr := [(tby, .inl (G.2.1, 240, .inl fby))]) hC hK hl hP hD hS hA (t_addStep l G h0 (-2) tby kt tln tsp kd12837 ks12838 kn12839 tf12840 tspc ksp12841 gtsp2842 (by omega)) si_X10_152 [0, 2, 3] [1] rfl rfl (by decide) rfl (by decide) (by decide) rfl rfl rfl rfl rfl (Nat.le_of_ble_eq_true rfl) ⟨Nat.le_of_ble_eq_true rfl, Nat.le_of_ble_eq_true rfl⟩ ⟨Nat.le_of_ble_eq_true rfl, Nat.le_of_ble_eq_true rfl⟩ dX10_takesAll_45 (fun u2846 H locs hr2845 hP hD hS => ?_)
            obtain ⟨ksp12847, gtsp2848⟩ := u2846
            try dsimp only at hr2845
            have hP : va_P G.1 vwCl [(tby, .inl (G.2.1, 240, .inl fby)), (h0, .inr (10, [.ref tby, .int (nI kt), .ref tln, .ref tsp, .int kd12837, .int (nI ks12838), .int (nI kn12839), .int tf12840])), (tsp, .inr (8, [.int 120, .int 1, .ref tspc, .int (nI ksp12847)])), (tspc, .inl (G.2.1, 120, .inl gtsp2848))] H := hP
            have hD : va_D A [(tby, .inl (G.2.1, 240, .inl fby)), (h0, .inr (10, [.ref tby, .int (nI kt), .ref tln, .ref tsp, .int kd12837, .int (nI ks12838), .int (nI kn12839), .int tf12840])), (tsp, .inr (8, [.int 120, .int 1, .ref tspc, .int (nI ksp12847)])), (tspc, .inl (G.2.1, 120, .inl gtsp2848))] := hD
            have w2849 := hr2845
            refine lv_iinc (v := nI (kP + 1)) (lv' := [(2, .int (nI (kP + 1))), (0, .ref h0), (1, .int 4)]) hx hb dX10_takesAll_48 hl (k := 0) rfl (nI_1 _) (by decide) rfl (fun ls hl => ?_)
            refine lv_goto (tgt := 12) hx hb dX10_takesAll_51 (by decide) ?_
            have hP := hP.sub (ws' := [(h0, .inr (10, [.ref tby, .int (nI kt), .ref tln, .ref tsp, .int kd12837, .int (nI ks12838), .int (nI kn12839), .int tf12840])), (tby, .inl (G.2.1, 240, .inl fby)), (tsp, .inr (8, [.int 120, .int 1, .ref tspc, .int (nI ksp12847)])), (tspc, .inl (G.2.1, 120, .inl gtsp2848))]) [1, 0, 2, 3] rfl
            have hD := hD.sub (ws' := [(h0, .inr (10, [.ref tby, .int (nI kt), .ref tln, .ref tsp, .int kd12837, .int (nI ks12838), .int (nI kn12839), .int tf12840])), (tby, .inl (G.2.1, 240, .inl fby)), (tsp, .inr (8, [.int 120, .int 1, .ref tspc, .int (nI ksp12847)])), (tspc, .inl (G.2.1, 120, .inl gtsp2848))]) [1, 0, 2, 3] (by decide) rfl
            exact ihP (kP + 1) kd12837 tf12840 gtsp2848 ks12838 kn12839 ksp12847 _ _ _ (by omega) (by first | assumption | exact Or.inl rfl | exact Or.inr rfl | omega) (by first | assumption | exact Or.inl rfl | exact Or.inr rfl | omega) (by first | assumption | exact Or.inl rfl | exact Or.inr rfl | omega) hP hD hS (lv_sub hl [0, 1, 2] rfl)
          · refine lv_if_ne (tgt := 42) hx hb dX10_takesAll_37 (by decide) (fun c9 => absurd (by decide) c9) (fun _ => ?_)
            refine lv_iconst (v := 0) hx hb dX10_takesAll_40 (by decide) ?_
            exact RI (v := 0) hC hP hD hS [0, 1, 2, 3] (kd12837, ks12838, kn12839, tf12840, ksp12841, gtsp2842) rfl rfl (by decide) (⟨Or.inr (rfl), by dsimp only; omega⟩) (by decide +kernel) dX10_takesAll_41
        · refine lv_if_eq (tgt := 54) hx hb dX10_takesAll_25 (by decide) (fun _ => ?_) (fun c9 => absurd (by decide) c9)
          refine lv_iconst (v := 1) hx hb dX10_takesAll_54 (by decide) ?_
          exact RI (v := 1) hC hP hD hS [0, 1, 2, 3] (vkd, vks, vkn, vtf, vksp, vtsp) rfl rfl (by decide) (⟨Or.inl (rfl), by dsimp only; omega⟩) (by decide +kernel) dX10_takesAll_55
    exact keyP 240 0 kd12819 tf12822 gtsp2824 ks12820 kn12821 ksp12823 _ _ _ (by omega) (by first | assumption | exact Or.inl rfl | exact Or.inr rfl | omega) (by first | assumption | exact Or.inl rfl | exact Or.inr rfl | omega) (by first | assumption | exact Or.inl rfl | exact Or.inr rfl | omega) hP hD hS (lv_sub hl [0, 1, 2] rfl)
  · refine lv_if_ne (tgt := 10) hx hb dX10_takesAll_5 (by decide) (fun c9 => absurd (by decide) c9) (fun _ => ?_)
    refine lv_iconst (v := 0) hx hb dX10_takesAll_8 (by decide) ?_
    exact RI (v := 0) hC hP hD hS [0, 1, 2, 3] (kd12819, ks12820, kn12821, tf12822, ksp12823, gtsp2824) rfl rfl (by decide) (⟨Or.inr (rfl), by dsimp only; omega⟩) (by decide +kernel) dX10_takesAll_9
set_option maxHeartbeats 4000000 in
set_option maxRecDepth 100000 in
theorem t_cond4 (l : Launch) (G : GG) (K : OO) (h0 : Nat) (tby : Nat) (kt : Nat) (tln : Nat) (tsp : Nat) (tkd : Int32) (ks : Nat) (kn : Nat) (tf9 : Int32) (fby : Nat → Int32) (tspc : Nat) (ksp : Nat) (ftsp : Nat → Int32) (hkt : kt ≤ 240) (hks : ks ≤ 240) (hkn : kn ≤ 240) (hksp : ksp ≤ 120) : MIo l G K yX10_takesCond cX10_takesCond 3 (some .boolean) 11 0 0 [.ref h0, .int 4] [(h0, .inr (10, [.ref tby, .int (nI kt), .ref tln, .ref tsp, .int tkd, .int (nI ks), .int (nI kn), .int tf9])), (tby, .inl (G.2.1, 240, .inl fby)), (tsp, .inr (8, [.int 120, .int 1, .ref tspc, .int (nI ksp)])), (tspc, .inl (G.2.1, 120, .inl ftsp))] (fun (r : Int32) (u : Int32 × Nat × Nat × Int32 × Nat × (Nat → Int32)) => (r = 1 ∨ r = 0) ∧ (u.2.1 ≤ 240 ∧ u.2.2.1 ≤ 240 ∧ u.2.2.2.2.1 ≤ 120)) (fun u : Int32 × Nat × Nat × Int32 × Nat × (Nat → Int32) => [(h0, .inr (10, [.ref tby, .int (nI kt), .ref tln, .ref tsp, .int u.1, .int (nI u.2.1), .int (nI u.2.2.1), .int u.2.2.2.1])), (tby, .inl (G.2.1, 240, .inl fby)), (tsp, .inr (8, [.int 120, .int 1, .ref tspc, .int (nI u.2.2.2.2.1)])), (tspc, .inl (G.2.1, 120, .inl u.2.2.2.2.2))]) := by
  refine MIo.start (by decide +kernel) (Nat.le_of_ble_eq_true rfl) ?_
  intro p e s m below meth c A ls hC hK hP hD hS hA hl hO
  have hl : lv_has ls 3 [(0, .ref h0), (1, .int 4)] := hl
  obtain ⟨hx, hb, hr, hml, hB, hown, hlocks, hnm⟩ := id hC
  refine lv_aload_n hx hb dX10_takesCond_0 rfl (lv_at hl 0 rfl) ?_
  refine lv_iload_n hx hb dX10_takesCond_1 rfl (lv_at hl 1 rfl) ?_
  refine iVo (wr := []) hO hC hK hl hP hD hS hA (t_all4 l G K h0 tby kt tln tsp tkd ks kn tf9 fby tspc ksp ftsp (by omega) (by omega) (by omega) (by omega)) si_X10_147 [0, 1, 2, 3] [] rfl rfl (by decide) rfl (by decide) (by decide) rfl rfl rfl rfl rfl (Nat.le_of_ble_eq_true rfl) ⟨Nat.le_of_ble_eq_true rfl, Nat.le_of_ble_eq_true rfl⟩ ⟨Nat.le_of_ble_eq_true rfl, Nat.le_of_ble_eq_true rfl⟩ dX10_takesCond_2 (fun r2850 u2851 H locs hr2850 hP hD hS => ?_)
  obtain ⟨kd12852, ks12853, kn12854, tf12855, ksp12856, gtsp2857⟩ := u2851
  try dsimp only at hr2850
  have hP : va_P G.1 vwCl [(h0, .inr (10, [.ref tby, .int (nI kt), .ref tln, .ref tsp, .int kd12852, .int (nI ks12853), .int (nI kn12854), .int tf12855])), (tby, .inl (G.2.1, 240, .inl fby)), (tsp, .inr (8, [.int 120, .int 1, .ref tspc, .int (nI ksp12856)])), (tspc, .inl (G.2.1, 120, .inl gtsp2857))] H := hP
  have hD : va_D A [(h0, .inr (10, [.ref tby, .int (nI kt), .ref tln, .ref tsp, .int kd12852, .int (nI ks12853), .int (nI kn12854), .int tf12855])), (tby, .inl (G.2.1, 240, .inl fby)), (tsp, .inr (8, [.int 120, .int 1, .ref tspc, .int (nI ksp12856)])), (tspc, .inl (G.2.1, 120, .inl gtsp2857))] := hD
  obtain ⟨hr2850, w2858⟩ := hr2850
  rcases hr2850 with rfl | rfl
  · refine lv_if_ne (tgt := 10) hx hb dX10_takesCond_5 (by decide) (fun _ => ?_) (fun c9 => absurd c9 (by decide))
    refine lv_iconst (v := 0) hx hb dX10_takesCond_10 (by decide) ?_
    refine lv_istore_n (lv' := [(2, .int 0), (0, .ref h0), (1, .int 4)]) hx hb dX10_takesCond_11 rfl hl (by decide) rfl (fun ls hl => ?_)
    have keyP : ∀ (nP kP : Nat) (vkd : Int32) (vtf : Int32) (vtsp : Nat → Int32) (vks : Nat) (vkn : Nat) (vksp : Nat) (H : Heap) (locs : List Loc) (ls : Array Slot), kP + nP = 240 → (vks ≤ 240) → (vkn ≤ 240) → (vksp ≤ 120) → va_P G.1 vwCl [(h0, .inr (10, [.ref tby, .int (nI kt), .ref tln, .ref tsp, .int vkd, .int (nI vks), .int (nI vkn), .int vtf])), (tby, .inl (G.2.1, 240, .inl fby)), (tsp, .inr (8, [.int 120, .int 1, .ref tspc, .int (nI vksp)])), (tspc, .inl (G.2.1, 120, .inl vtsp))] H → va_D A [(h0, .inr (10, [.ref tby, .int (nI kt), .ref tln, .ref tsp, .int vkd, .int (nI vks), .int (nI vkn), .int vtf])), (tby, .inl (G.2.1, 240, .inl fby)), (tsp, .inr (8, [.int 120, .int 1, .ref tspc, .int (nI vksp)])), (tspc, .inl (G.2.1, 120, .inl vtsp))] → va_S A s.heap H locs → lv_has ls 3 [(2, .int (nI kP)), (0, .ref h0), (1, .int 4)] → W p l e (RM 11 0 0) s m ([.ref h0, .int 4] : List Value).toArray below meth c H locs 0 0 (MQ below (QI G (fun (r : Int32) (u : Int32 × Nat × Nat × Int32 × Nat × (Nat → Int32)) => (r = 1 ∨ r = 0) ∧ (u.2.1 ≤ 240 ∧ u.2.2.1 ≤ 240 ∧ u.2.2.2.2.1 ≤ 120)) (fun u : Int32 × Nat × Nat × Int32 × Nat × (Nat → Int32) => [(h0, .inr (10, [.ref tby, .int (nI kt), .ref tln, .ref tsp, .int u.1, .int (nI u.2.1), .int (nI u.2.2.1), .int u.2.2.2.1])), (tby, .inl (G.2.1, 240, .inl fby)), (tsp, .inr (8, [.int 120, .int 1, .ref tspc, .int (nI u.2.2.2.2.1)])), (tspc, .inl (G.2.1, 120, .inl u.2.2.2.2.2))]) A) ([.ref h0, .int 4] : List Value).toArray s 0 0 A) (F0 m 12 ls []) := by
      intro nP
      induction nP with
      | zero =>
        intro kP vkd vtf vtsp vks vkn vksp H locs ls hkP hvks hvkn hvksp hP hD hS hl
        obtain rfl : 240 = kP := by omega
        have hl : lv_has ls 3 [(2, .int 240), (0, .ref h0), (1, .int 4)] := hl
        refine lv_iload_n hx hb dX10_takesCond_12 rfl (lv_at hl 0 rfl) ?_
        refine lv_sipush (v := 240) hx hb dX10_takesCond_13 (by decide) ?_
        refine lv_icmp_ge (tgt := 54) hx hb dX10_takesCond_16 (by decide) (fun _ => ?_) (fun c9 => absurd (by decide) c9)
        refine lv_iconst (v := 1) hx hb dX10_takesCond_54 (by decide) ?_
        exact RI (v := 1) hC hP hD hS [0, 1, 2, 3] (vkd, vks, vkn, vtf, vksp, vtsp) rfl rfl (by decide) (⟨Or.inl (rfl), by dsimp only; omega⟩) (by decide +kernel) dX10_takesCond_55
      | succ nP ihP =>
        intro kP vkd vtf vtsp vks vkn vksp H locs ls hkP hvks hvkn hvksp hP hD hS hl
        refine lv_iload_n hx hb dX10_takesCond_12 rfl (lv_at hl 0 rfl) ?_
        refine lv_sipush (v := 240) hx hb dX10_takesCond_13 (by decide) ?_
        refine lv_icmp_ge (tgt := 54) hx hb dX10_takesCond_16 (by decide) (fun c9 => absurd c9 (nI_ge (a := kP) (b := 240) (by omega) (by omega))) (fun _ => ?_)
        refine lv_aload_n hx hb dX10_takesCond_19 rfl (lv_at hl 1 rfl) ?_
        refine va_ldcS (index := 150) (tx := "o\x72") hx hb hown (hO.2.1 8 (by decide)) dX10_takesCond_20 ?_
        refine pVo hO hS hC hK hl hP hD (t_isName l G K 8 h0 tby kt tln tsp vkd vks vkn vtf fby (by omega) (by omega) (by omega) ((by decide))) si_X10_102 [0, 1] rfl rfl (by decide) rfl rfl rfl rfl rfl (Nat.le_of_ble_eq_true rfl) ⟨Nat.le_of_ble_eq_true rfl, Nat.le_of_ble_eq_true rfl⟩ ⟨by first | exact Nat.le_of_ble_eq_true rfl | exact Nat.zero_le _, by first | exact Nat.le_of_ble_eq_true rfl | exact Nat.zero_le _⟩ dX10_takesCond_22 (fun r2860 hr2860 => ?_)
        rcases hr2860 with rfl | rfl
        · refine lv_if_eq (tgt := 54) hx hb dX10_takesCond_25 (by decide) (fun c9 => absurd c9 (by decide)) (fun _ => ?_)
          refine lv_aload_n hx hb dX10_takesCond_28 rfl (lv_at hl 1 rfl) ?_
          refine vV (wr := [(tsp, .inr (8, [.int 120, .int 1, .ref tspc, .int (nI vksp)])), (tspc, .inl (G.2.1, 120, .inl vtsp))]) hC hK hl hP hD hS hA (t_advance l G h0 tby kt tln tsp vkd vks vkn vtf fby (by omega) (by omega) (by omega)) si_X10_47 [0, 1] [2, 3] rfl rfl (by decide) rfl (by decide) (by decide) rfl rfl rfl rfl rfl (Nat.le_of_ble_eq_true rfl) ⟨Nat.le_of_ble_eq_true rfl, Nat.le_of_ble_eq_true rfl⟩ ⟨Nat.le_of_ble_eq_true rfl, Nat.le_of_ble_eq_true rfl⟩ dX10_takesCond_29 (fun u2863 H locs hr2862 hP hD hS => ?_)
          obtain ⟨kd12864, ks12865, kn12866⟩ := u2863
          try dsimp only at hr2862
          have hP : va_P G.1 vwCl [(tsp, .inr (8, [.int 120, .int 1, .ref tspc, .int (nI vksp)])), (tspc, .inl (G.2.1, 120, .inl vtsp)), (h0, .inr (10, [.ref tby, .int (nI kt), .ref tln, .ref tsp, .int kd12864, .int (nI ks12865), .int (nI kn12866), .int vtf])), (tby, .inl (G.2.1, 240, .inl fby))] H := hP
          have hD : va_D A [(tsp, .inr (8, [.int 120, .int 1, .ref tspc, .int (nI vksp)])), (tspc, .inl (G.2.1, 120, .inl vtsp)), (h0, .inr (10, [.ref tby, .int (nI kt), .ref tln, .ref tsp, .int kd12864, .int (nI ks12865), .int (nI kn12866), .int vtf])), (tby, .inl (G.2.1, 240, .inl fby))] := hD
          have w2867 := hr2862
          refine lv_aload_n hx hb dX10_takesCond_32 rfl (lv_at hl 1 rfl) ?_
          refine lv_iload_n hx hb dX10_takesCond_33 rfl (lv_at hl 2 rfl) ?_
          refine iVo (wr := []) hO hC hK hl hP hD hS hA (t_all4 l G K h0 tby kt tln tsp kd12864 ks12865 kn12866 vtf fby tspc vksp vtsp (by omega) (by omega) (by omega) (by omega)) si_X10_147 [2, 3, 0, 1] [] rfl rfl (by decide) rfl (by decide) (by decide) rfl rfl rfl rfl rfl (Nat.le_of_ble_eq_true rfl) ⟨Nat.le_of_ble_eq_true rfl, Nat.le_of_ble_eq_true rfl⟩ ⟨Nat.le_of_ble_eq_true rfl, Nat.le_of_ble_eq_true rfl⟩ dX10_takesCond_34 (fun r2868 u2869 H locs hr2868 hP hD hS => ?_)
          obtain ⟨kd12870, ks12871, kn12872, tf12873, ksp12874, gtsp2875⟩ := u2869
          try dsimp only at hr2868
          have hP : va_P G.1 vwCl [(h0, .inr (10, [.ref tby, .int (nI kt), .ref tln, .ref tsp, .int kd12870, .int (nI ks12871), .int (nI kn12872), .int tf12873])), (tby, .inl (G.2.1, 240, .inl fby)), (tsp, .inr (8, [.int 120, .int 1, .ref tspc, .int (nI ksp12874)])), (tspc, .inl (G.2.1, 120, .inl gtsp2875))] H := hP
          have hD : va_D A [(h0, .inr (10, [.ref tby, .int (nI kt), .ref tln, .ref tsp, .int kd12870, .int (nI ks12871), .int (nI kn12872), .int tf12873])), (tby, .inl (G.2.1, 240, .inl fby)), (tsp, .inr (8, [.int 120, .int 1, .ref tspc, .int (nI ksp12874)])), (tspc, .inl (G.2.1, 120, .inl gtsp2875))] := hD
          obtain ⟨hr2868, w2876⟩ := hr2868
          rcases hr2868 with rfl | rfl
          · refine lv_if_ne (tgt := 42) hx hb dX10_takesCond_37 (by decide) (fun _ => ?_) (fun c9 => absurd c9 (by decide))
            refine lv_aload_n hx hb dX10_takesCond_42 rfl (lv_at hl 1 rfl) ?_
            refine lv_bipush (v := (-3)) hx hb dX10_takesCond_43 (by decide) ?_
            refine vV (wr := [(tby, .inl (G.2.1, 240, .inl fby))]) hC hK hl hP hD hS hA (t_addStep l G h0 (-3) tby kt tln tsp kd12870 ks12871 kn12872 tf12873 tspc ksp12874 gtsp2875 (by omega)) si_X10_152 [0, 2, 3] [1] rfl rfl (by decide) rfl (by decide) (by decide) rfl rfl rfl rfl rfl (Nat.le_of_ble_eq_true rfl) ⟨Nat.le_of_ble_eq_true rfl, Nat.le_of_ble_eq_true rfl⟩ ⟨Nat.le_of_ble_eq_true rfl, Nat.le_of_ble_eq_true rfl⟩ dX10_takesCond_45 (fun u2879 H locs hr2878 hP hD hS => ?_)
            obtain ⟨ksp12880, gtsp2881⟩ := u2879
            try dsimp only at hr2878
            have hP : va_P G.1 vwCl [(tby, .inl (G.2.1, 240, .inl fby)), (h0, .inr (10, [.ref tby, .int (nI kt), .ref tln, .ref tsp, .int kd12870, .int (nI ks12871), .int (nI kn12872), .int tf12873])), (tsp, .inr (8, [.int 120, .int 1, .ref tspc, .int (nI ksp12880)])), (tspc, .inl (G.2.1, 120, .inl gtsp2881))] H := hP
            have hD : va_D A [(tby, .inl (G.2.1, 240, .inl fby)), (h0, .inr (10, [.ref tby, .int (nI kt), .ref tln, .ref tsp, .int kd12870, .int (nI ks12871), .int (nI kn12872), .int tf12873])), (tsp, .inr (8, [.int 120, .int 1, .ref tspc, .int (nI ksp12880)])), (tspc, .inl (G.2.1, 120, .inl gtsp2881))] := hD
            have w2882 := hr2878
            refine lv_iinc (v := nI (kP + 1)) (lv' := [(2, .int (nI (kP + 1))), (0, .ref h0), (1, .int 4)]) hx hb dX10_takesCond_48 hl (k := 0) rfl (nI_1 _) (by decide) rfl (fun ls hl => ?_)
            refine lv_goto (tgt := 12) hx hb dX10_takesCond_51 (by decide) ?_
            have hP := hP.sub (ws' := [(h0, .inr (10, [.ref tby, .int (nI kt), .ref tln, .ref tsp, .int kd12870, .int (nI ks12871), .int (nI kn12872), .int tf12873])), (tby, .inl (G.2.1, 240, .inl fby)), (tsp, .inr (8, [.int 120, .int 1, .ref tspc, .int (nI ksp12880)])), (tspc, .inl (G.2.1, 120, .inl gtsp2881))]) [1, 0, 2, 3] rfl
            have hD := hD.sub (ws' := [(h0, .inr (10, [.ref tby, .int (nI kt), .ref tln, .ref tsp, .int kd12870, .int (nI ks12871), .int (nI kn12872), .int tf12873])), (tby, .inl (G.2.1, 240, .inl fby)), (tsp, .inr (8, [.int 120, .int 1, .ref tspc, .int (nI ksp12880)])), (tspc, .inl (G.2.1, 120, .inl gtsp2881))]) [1, 0, 2, 3] (by decide) rfl
            exact ihP (kP + 1) kd12870 tf12873 gtsp2881 ks12871 kn12872 ksp12880 _ _ _ (by omega) (by first | assumption | exact Or.inl rfl | exact Or.inr rfl | omega) (by first | assumption | exact Or.inl rfl | exact Or.inr rfl | omega) (by first | assumption | exact Or.inl rfl | exact Or.inr rfl | omega) hP hD hS (lv_sub hl [0, 1, 2] rfl)
          · refine lv_if_ne (tgt := 42) hx hb dX10_takesCond_37 (by decide) (fun c9 => absurd (by decide) c9) (fun _ => ?_)
            refine lv_iconst (v := 0) hx hb dX10_takesCond_40 (by decide) ?_
            exact RI (v := 0) hC hP hD hS [0, 1, 2, 3] (kd12870, ks12871, kn12872, tf12873, ksp12874, gtsp2875) rfl rfl (by decide) (⟨Or.inr (rfl), by dsimp only; omega⟩) (by decide +kernel) dX10_takesCond_41
        · refine lv_if_eq (tgt := 54) hx hb dX10_takesCond_25 (by decide) (fun _ => ?_) (fun c9 => absurd (by decide) c9)
          refine lv_iconst (v := 1) hx hb dX10_takesCond_54 (by decide) ?_
          exact RI (v := 1) hC hP hD hS [0, 1, 2, 3] (vkd, vks, vkn, vtf, vksp, vtsp) rfl rfl (by decide) (⟨Or.inl (rfl), by dsimp only; omega⟩) (by decide +kernel) dX10_takesCond_55
    exact keyP 240 0 kd12852 tf12855 gtsp2857 ks12853 kn12854 ksp12856 _ _ _ (by omega) (by first | assumption | exact Or.inl rfl | exact Or.inr rfl | omega) (by first | assumption | exact Or.inl rfl | exact Or.inr rfl | omega) (by first | assumption | exact Or.inl rfl | exact Or.inr rfl | omega) hP hD hS (lv_sub hl [0, 1, 2] rfl)
  · refine lv_if_ne (tgt := 10) hx hb dX10_takesCond_5 (by decide) (fun c9 => absurd (by decide) c9) (fun _ => ?_)
    refine lv_iconst (v := 0) hx hb dX10_takesCond_8 (by decide) ?_
    exact RI (v := 0) hC hP hD hS [0, 1, 2, 3] (kd12852, ks12853, kn12854, tf12855, ksp12856, gtsp2857) rfl rfl (by decide) (⟨Or.inr (rfl), by dsimp only; omega⟩) (by decide +kernel) dX10_takesCond_9
set_option maxHeartbeats 4000000 in
set_option maxRecDepth 100000 in
theorem t_one3 (l : Launch) (G : GG) (K : OO) (h0 : Nat) (tby : Nat) (kt : Nat) (tln : Nat) (tsp : Nat) (tkd : Int32) (ks : Nat) (kn : Nat) (tf9 : Int32) (fby : Nat → Int32) (tspc : Nat) (ksp : Nat) (ftsp : Nat → Int32) (hkt : kt ≤ 240) (hks : ks ≤ 240) (hkn : kn ≤ 240) (hksp : ksp ≤ 120) : MIo l G K yX10_takesOne cX10_takesOne 4 (some .boolean) 13 0 0 [.ref h0, .int 3] [(h0, .inr (10, [.ref tby, .int (nI kt), .ref tln, .ref tsp, .int tkd, .int (nI ks), .int (nI kn), .int tf9])), (tby, .inl (G.2.1, 240, .inl fby)), (tsp, .inr (8, [.int 120, .int 1, .ref tspc, .int (nI ksp)])), (tspc, .inl (G.2.1, 120, .inl ftsp))] (fun (r : Int32) (u : Int32 × Nat × Nat × Int32 × Nat × (Nat → Int32)) => (r = 1 ∨ r = 0) ∧ (u.2.1 ≤ 240 ∧ u.2.2.1 ≤ 240 ∧ u.2.2.2.2.1 ≤ 120)) (fun u : Int32 × Nat × Nat × Int32 × Nat × (Nat → Int32) => [(h0, .inr (10, [.ref tby, .int (nI kt), .ref tln, .ref tsp, .int u.1, .int (nI u.2.1), .int (nI u.2.2.1), .int u.2.2.2.1])), (tby, .inl (G.2.1, 240, .inl fby)), (tsp, .inr (8, [.int 120, .int 1, .ref tspc, .int (nI u.2.2.2.2.1)])), (tspc, .inl (G.2.1, 120, .inl u.2.2.2.2.2))]) := by
  refine MIo.start (by decide +kernel) (Nat.le_of_ble_eq_true rfl) ?_
  intro p e s m below meth c A ls hC hK hP hD hS hA hl hO
  have hl : lv_has ls 4 [(0, .ref h0), (1, .int 3)] := hl
  obtain ⟨hx, hb, hr, hml, hB, hown, hlocks, hnm⟩ := id hC
  refine lv_iconst (v := 0) hx hb dX10_takesOne_0 (by decide) ?_
  refine lv_istore_n (lv' := [(2, .int 0), (0, .ref h0), (1, .int 3)]) hx hb dX10_takesOne_1 rfl hl (by decide) rfl (fun ls hl => ?_)
  refine lv_iconst (v := 0) hx hb dX10_takesOne_2 (by decide) ?_
  refine lv_istore_n (lv' := [(3, .int 0), (2, .int 0), (0, .ref h0), (1, .int 3)]) hx hb dX10_takesOne_3 rfl hl (by decide) rfl (fun ls hl => ?_)
  have keyP : ∀ (nP kP : Nat) (tu : Int32) (vkd : Int32) (vtf : Int32) (vks : Nat) (vkn : Nat) (H : Heap) (locs : List Loc) (ls : Array Slot), kP + nP = 240 → (vks ≤ 240) → (vkn ≤ 240) → va_P G.1 vwCl [(h0, .inr (10, [.ref tby, .int (nI kt), .ref tln, .ref tsp, .int vkd, .int (nI vks), .int (nI vkn), .int vtf])), (tby, .inl (G.2.1, 240, .inl fby)), (tsp, .inr (8, [.int 120, .int 1, .ref tspc, .int (nI ksp)])), (tspc, .inl (G.2.1, 120, .inl ftsp))] H → va_D A [(h0, .inr (10, [.ref tby, .int (nI kt), .ref tln, .ref tsp, .int vkd, .int (nI vks), .int (nI vkn), .int vtf])), (tby, .inl (G.2.1, 240, .inl fby)), (tsp, .inr (8, [.int 120, .int 1, .ref tspc, .int (nI ksp)])), (tspc, .inl (G.2.1, 120, .inl ftsp))] → va_S A s.heap H locs → lv_has ls 4 [(3, .int (nI kP)), (2, .int tu), (0, .ref h0), (1, .int 3)] → W p l e (RM 13 0 0) s m ([.ref h0, .int 3] : List Value).toArray below meth c H locs 0 0 (MQ below (QI G (fun (r : Int32) (u : Int32 × Nat × Nat × Int32 × Nat × (Nat → Int32)) => (r = 1 ∨ r = 0) ∧ (u.2.1 ≤ 240 ∧ u.2.2.1 ≤ 240 ∧ u.2.2.2.2.1 ≤ 120)) (fun u : Int32 × Nat × Nat × Int32 × Nat × (Nat → Int32) => [(h0, .inr (10, [.ref tby, .int (nI kt), .ref tln, .ref tsp, .int u.1, .int (nI u.2.1), .int (nI u.2.2.1), .int u.2.2.2.1])), (tby, .inl (G.2.1, 240, .inl fby)), (tsp, .inr (8, [.int 120, .int 1, .ref tspc, .int (nI u.2.2.2.2.1)])), (tspc, .inl (G.2.1, 120, .inl u.2.2.2.2.2))]) A) ([.ref h0, .int 3] : List Value).toArray s 0 0 A) (F0 m 4 ls []) := by
    intro nP
    induction nP with
    | zero =>
      intro kP tu vkd vtf vks vkn H locs ls hkP hvks hvkn hP hD hS hl
      obtain rfl : 240 = kP := by omega
      have hl : lv_has ls 4 [(3, .int 240), (2, .int tu), (0, .ref h0), (1, .int 3)] := hl
      refine lv_iload_n hx hb dX10_takesOne_4 rfl (lv_at hl 0 rfl) ?_
      refine lv_sipush (v := 240) hx hb dX10_takesOne_5 (by decide) ?_
      refine lv_icmp_ge (tgt := 40) hx hb dX10_takesOne_8 (by decide) (fun _ => ?_) (fun c9 => absurd (by decide) c9)
      refine lv_aload_n hx hb dX10_takesOne_40 rfl (lv_at hl 2 rfl) ?_
      refine gf_X10_31 hC rfl hK hP 0 rfl rfl dX10_takesOne_41 ?_
      refine lv_bipush (v := 40) hx hb dX10_takesOne_44 (by decide) ?_
      refine lv_icmp_eq (tgt := 58) hx hb dX10_takesOne_46 (by decide) (fun c_46_2883 => ?_) (fun c_46_2883 => ?_)
      · refine lv_iload_n hx hb dX10_takesOne_58 rfl (lv_at hl 3 rfl) ?_
        refine lv_iconst (v := 4) hx hb dX10_takesOne_59 (by decide) ?_
        refine lv_icmp_lt (tgt := 68) hx hb dX10_takesOne_60 (by decide) (fun _ => ?_) (fun c9 => absurd (by decide) c9)
        refine lv_aload_n hx hb dX10_takesOne_68 rfl (lv_at hl 2 rfl) ?_
        refine vV (wr := [(tsp, .inr (8, [.int 120, .int 1, .ref tspc, .int (nI ksp)])), (tspc, .inl (G.2.1, 120, .inl ftsp))]) hC hK hl hP hD hS hA (t_advance l G h0 tby kt tln tsp vkd vks vkn vtf fby (by omega) (by omega) (by omega)) si_X10_47 [0, 1] [2, 3] rfl rfl (by decide) rfl (by decide) (by decide) rfl rfl rfl rfl rfl (Nat.le_of_ble_eq_true rfl) ⟨Nat.le_of_ble_eq_true rfl, Nat.le_of_ble_eq_true rfl⟩ ⟨Nat.le_of_ble_eq_true rfl, Nat.le_of_ble_eq_true rfl⟩ dX10_takesOne_69 (fun u2885 H locs hr2884 hP hD hS => ?_)
        obtain ⟨kd12886, ks12887, kn12888⟩ := u2885
        try dsimp only at hr2884
        have hP : va_P G.1 vwCl [(tsp, .inr (8, [.int 120, .int 1, .ref tspc, .int (nI ksp)])), (tspc, .inl (G.2.1, 120, .inl ftsp)), (h0, .inr (10, [.ref tby, .int (nI kt), .ref tln, .ref tsp, .int kd12886, .int (nI ks12887), .int (nI kn12888), .int vtf])), (tby, .inl (G.2.1, 240, .inl fby))] H := hP
        have hD : va_D A [(tsp, .inr (8, [.int 120, .int 1, .ref tspc, .int (nI ksp)])), (tspc, .inl (G.2.1, 120, .inl ftsp)), (h0, .inr (10, [.ref tby, .int (nI kt), .ref tln, .ref tsp, .int kd12886, .int (nI ks12887), .int (nI kn12888), .int vtf])), (tby, .inl (G.2.1, 240, .inl fby))] := hD
        have w2889 := hr2884
        refine lv_aload_n hx hb dX10_takesOne_72 rfl (lv_at hl 2 rfl) ?_
        refine lv_iload_n hx hb dX10_takesOne_73 rfl (lv_at hl 3 rfl) ?_
        refine lv_iconst (v := 1) hx hb dX10_takesOne_74 (by decide) ?_
        refine lv_iadd hx hb dX10_takesOne_75 ?_
        refine eqi (x1 := 4) (by decide) ?_
        refine iVo (wr := []) hO hC hK hl hP hD hS hA (t_cond4 l G K h0 tby kt tln tsp kd12886 ks12887 kn12888 vtf fby tspc ksp ftsp (by omega) (by omega) (by omega) (by omega)) si_X10_121 [2, 3, 0, 1] [] rfl rfl (by decide) rfl (by decide) (by decide) rfl rfl rfl rfl rfl (Nat.le_of_ble_eq_true rfl) ⟨Nat.le_of_ble_eq_true rfl, Nat.le_of_ble_eq_true rfl⟩ ⟨Nat.le_of_ble_eq_true rfl, Nat.le_of_ble_eq_true rfl⟩ dX10_takesOne_76 (fun r2890 u2891 H locs hr2890 hP hD hS => ?_)
        obtain ⟨kd12892, ks12893, kn12894, tf12895, ksp12896, gtsp2897⟩ := u2891
        try dsimp only at hr2890
        have hP : va_P G.1 vwCl [(h0, .inr (10, [.ref tby, .int (nI kt), .ref tln, .ref tsp, .int kd12892, .int (nI ks12893), .int (nI kn12894), .int tf12895])), (tby, .inl (G.2.1, 240, .inl fby)), (tsp, .inr (8, [.int 120, .int 1, .ref tspc, .int (nI ksp12896)])), (tspc, .inl (G.2.1, 120, .inl gtsp2897))] H := hP
        have hD : va_D A [(h0, .inr (10, [.ref tby, .int (nI kt), .ref tln, .ref tsp, .int kd12892, .int (nI ks12893), .int (nI kn12894), .int tf12895])), (tby, .inl (G.2.1, 240, .inl fby)), (tsp, .inr (8, [.int 120, .int 1, .ref tspc, .int (nI ksp12896)])), (tspc, .inl (G.2.1, 120, .inl gtsp2897))] := hD
        obtain ⟨hr2890, w2898⟩ := hr2890
        rcases hr2890 with rfl | rfl
        · refine lv_if_eq (tgt := 91) hx hb dX10_takesOne_79 (by decide) (fun c9 => absurd c9 (by decide)) (fun _ => ?_)
          refine lv_aload_n hx hb dX10_takesOne_82 rfl (lv_at hl 2 rfl) ?_
          refine lv_bipush (v := 41) hx hb dX10_takesOne_83 (by decide) ?_
          refine iV (wr := [(tsp, .inr (8, [.int 120, .int 1, .ref tspc, .int (nI ksp12896)])), (tspc, .inl (G.2.1, 120, .inl gtsp2897))]) hC hK hl hP hD hS hA (t_takesByte l G h0 41 tby kt tln tsp kd12892 ks12893 kn12894 tf12895 fby (by omega) (by omega) (by omega)) si_X10_124 [0, 1] [2, 3] rfl rfl (by decide) rfl (by decide) (by decide) rfl rfl rfl rfl rfl (Nat.le_of_ble_eq_true rfl) ⟨Nat.le_of_ble_eq_true rfl, Nat.le_of_ble_eq_true rfl⟩ ⟨Nat.le_of_ble_eq_true rfl, Nat.le_of_ble_eq_true rfl⟩ dX10_takesOne_85 (fun r2900 u2901 H locs hr2900 hP hD hS => ?_)
          obtain ⟨kd12902, ks12903, kn12904, tf12905⟩ := u2901
          try dsimp only at hr2900
          have hP : va_P G.1 vwCl [(tsp, .inr (8, [.int 120, .int 1, .ref tspc, .int (nI ksp12896)])), (tspc, .inl (G.2.1, 120, .inl gtsp2897)), (h0, .inr (10, [.ref tby, .int (nI kt), .ref tln, .ref tsp, .int kd12902, .int (nI ks12903), .int (nI kn12904), .int tf12905])), (tby, .inl (G.2.1, 240, .inl fby))] H := hP
          have hD : va_D A [(tsp, .inr (8, [.int 120, .int 1, .ref tspc, .int (nI ksp12896)])), (tspc, .inl (G.2.1, 120, .inl gtsp2897)), (h0, .inr (10, [.ref tby, .int (nI kt), .ref tln, .ref tsp, .int kd12902, .int (nI ks12903), .int (nI kn12904), .int tf12905])), (tby, .inl (G.2.1, 240, .inl fby))] := hD
          obtain ⟨hr2900, w2906⟩ := hr2900
          rcases hr2900 with rfl | rfl
          · refine lv_if_ne (tgt := 93) hx hb dX10_takesOne_88 (by decide) (fun _ => ?_) (fun c9 => absurd c9 (by decide))
            refine lv_iload_n hx hb dX10_takesOne_93 rfl (lv_at hl 1 rfl) ?_
            refine lv_if_eq (tgt := 102) hx hb dX10_takesOne_94 (by decide) (fun c_94_2908 => ?_) (fun c_94_2908 => ?_)
            · refine lv_iconst (v := 1) hx hb dX10_takesOne_102 (by decide) ?_
              exact RI (v := 1) hC hP hD hS [2, 3, 0, 1] (kd12902, ks12903, kn12904, tf12905, ksp12896, gtsp2897) rfl rfl (by decide) (⟨Or.inl (rfl), by dsimp only; omega⟩) (by decide +kernel) dX10_takesOne_103
            · refine lv_aload_n hx hb dX10_takesOne_97 rfl (lv_at hl 2 rfl) ?_
              refine lv_iconst (v := (-1)) hx hb dX10_takesOne_98 (by decide) ?_
              refine vV (wr := [(tby, .inl (G.2.1, 240, .inl fby))]) hC hK hl hP hD hS hA (t_addStep l G h0 (-1) tby kt tln tsp kd12902 ks12903 kn12904 tf12905 tspc ksp12896 gtsp2897 (by omega)) si_X10_152 [2, 0, 1] [3] rfl rfl (by decide) rfl (by decide) (by decide) rfl rfl rfl rfl rfl (Nat.le_of_ble_eq_true rfl) ⟨Nat.le_of_ble_eq_true rfl, Nat.le_of_ble_eq_true rfl⟩ ⟨Nat.le_of_ble_eq_true rfl, Nat.le_of_ble_eq_true rfl⟩ dX10_takesOne_99 (fun u2910 H locs hr2909 hP hD hS => ?_)
              obtain ⟨ksp12911, gtsp2912⟩ := u2910
              try dsimp only at hr2909
              have hP : va_P G.1 vwCl [(tby, .inl (G.2.1, 240, .inl fby)), (h0, .inr (10, [.ref tby, .int (nI kt), .ref tln, .ref tsp, .int kd12902, .int (nI ks12903), .int (nI kn12904), .int tf12905])), (tsp, .inr (8, [.int 120, .int 1, .ref tspc, .int (nI ksp12911)])), (tspc, .inl (G.2.1, 120, .inl gtsp2912))] H := hP
              have hD : va_D A [(tby, .inl (G.2.1, 240, .inl fby)), (h0, .inr (10, [.ref tby, .int (nI kt), .ref tln, .ref tsp, .int kd12902, .int (nI ks12903), .int (nI kn12904), .int tf12905])), (tsp, .inr (8, [.int 120, .int 1, .ref tspc, .int (nI ksp12911)])), (tspc, .inl (G.2.1, 120, .inl gtsp2912))] := hD
              have w2913 := hr2909
              refine lv_iconst (v := 1) hx hb dX10_takesOne_102 (by decide) ?_
              exact RI (v := 1) hC hP hD hS [1, 0, 2, 3] (kd12902, ks12903, kn12904, tf12905, ksp12911, gtsp2912) rfl rfl (by decide) (⟨Or.inl (rfl), by dsimp only; omega⟩) (by decide +kernel) dX10_takesOne_103
          · refine lv_if_ne (tgt := 93) hx hb dX10_takesOne_88 (by decide) (fun c9 => absurd (by decide) c9) (fun _ => ?_)
            refine lv_iconst (v := 0) hx hb dX10_takesOne_91 (by decide) ?_
            exact RI (v := 0) hC hP hD hS [2, 3, 0, 1] (kd12902, ks12903, kn12904, tf12905, ksp12896, gtsp2897) rfl rfl (by decide) (⟨Or.inr (rfl), by dsimp only; omega⟩) (by decide +kernel) dX10_takesOne_92
        · refine lv_if_eq (tgt := 91) hx hb dX10_takesOne_79 (by decide) (fun _ => ?_) (fun c9 => absurd (by decide) c9)
          refine lv_iconst (v := 0) hx hb dX10_takesOne_91 (by decide) ?_
          exact RI (v := 0) hC hP hD hS [0, 1, 2, 3] (kd12892, ks12893, kn12894, tf12895, ksp12896, gtsp2897) rfl rfl (by decide) (⟨Or.inr (rfl), by dsimp only; omega⟩) (by decide +kernel) dX10_takesOne_92
      · refine lv_aload_n hx hb dX10_takesOne_49 rfl (lv_at hl 2 rfl) ?_
        refine iVo (wr := []) hO hC hK hl hP hD hS hA (t_takesComparison l G K h0 tby kt tln tsp vkd vks vkn vtf fby tspc ksp ftsp (by omega) (by omega) (by omega) (by omega)) si_X10_162 [0, 1, 2, 3] [] rfl rfl (by decide) rfl (by decide) (by decide) rfl rfl rfl rfl rfl (Nat.le_of_ble_eq_true rfl) ⟨Nat.le_of_ble_eq_true rfl, Nat.le_of_ble_eq_true rfl⟩ ⟨Nat.le_of_ble_eq_true rfl, Nat.le_of_ble_eq_true rfl⟩ dX10_takesOne_50 (fun r2914 u2915 H locs hr2914 hP hD hS => ?_)
        obtain ⟨kd12916, ks12917, kn12918, tf12919, ksp12920, gtsp2921⟩ := u2915
        try dsimp only at hr2914
        have hP : va_P G.1 vwCl [(h0, .inr (10, [.ref tby, .int (nI kt), .ref tln, .ref tsp, .int kd12916, .int (nI ks12917), .int (nI kn12918), .int tf12919])), (tby, .inl (G.2.1, 240, .inl fby)), (tsp, .inr (8, [.int 120, .int 1, .ref tspc, .int (nI ksp12920)])), (tspc, .inl (G.2.1, 120, .inl gtsp2921))] H := hP
        have hD : va_D A [(h0, .inr (10, [.ref tby, .int (nI kt), .ref tln, .ref tsp, .int kd12916, .int (nI ks12917), .int (nI kn12918), .int tf12919])), (tby, .inl (G.2.1, 240, .inl fby)), (tsp, .inr (8, [.int 120, .int 1, .ref tspc, .int (nI ksp12920)])), (tspc, .inl (G.2.1, 120, .inl gtsp2921))] := hD
        obtain ⟨hr2914, w2922⟩ := hr2914
        rcases hr2914 with rfl | rfl
        · refine lv_if_ne (tgt := 93) hx hb dX10_takesOne_53 (by decide) (fun _ => ?_) (fun c9 => absurd c9 (by decide))
          refine lv_iload_n hx hb dX10_takesOne_93 rfl (lv_at hl 1 rfl) ?_
          refine lv_if_eq (tgt := 102) hx hb dX10_takesOne_94 (by decide) (fun c_94_2924 => ?_) (fun c_94_2924 => ?_)
          · refine lv_iconst (v := 1) hx hb dX10_takesOne_102 (by decide) ?_
            exact RI (v := 1) hC hP hD hS [0, 1, 2, 3] (kd12916, ks12917, kn12918, tf12919, ksp12920, gtsp2921) rfl rfl (by decide) (⟨Or.inl (rfl), by dsimp only; omega⟩) (by decide +kernel) dX10_takesOne_103
          · refine lv_aload_n hx hb dX10_takesOne_97 rfl (lv_at hl 2 rfl) ?_
            refine lv_iconst (v := (-1)) hx hb dX10_takesOne_98 (by decide) ?_
            refine vV (wr := [(tby, .inl (G.2.1, 240, .inl fby))]) hC hK hl hP hD hS hA (t_addStep l G h0 (-1) tby kt tln tsp kd12916 ks12917 kn12918 tf12919 tspc ksp12920 gtsp2921 (by omega)) si_X10_152 [0, 2, 3] [1] rfl rfl (by decide) rfl (by decide) (by decide) rfl rfl rfl rfl rfl (Nat.le_of_ble_eq_true rfl) ⟨Nat.le_of_ble_eq_true rfl, Nat.le_of_ble_eq_true rfl⟩ ⟨Nat.le_of_ble_eq_true rfl, Nat.le_of_ble_eq_true rfl⟩ dX10_takesOne_99 (fun u2926 H locs hr2925 hP hD hS => ?_)
            obtain ⟨ksp12927, gtsp2928⟩ := u2926
            try dsimp only at hr2925
            have hP : va_P G.1 vwCl [(tby, .inl (G.2.1, 240, .inl fby)), (h0, .inr (10, [.ref tby, .int (nI kt), .ref tln, .ref tsp, .int kd12916, .int (nI ks12917), .int (nI kn12918), .int tf12919])), (tsp, .inr (8, [.int 120, .int 1, .ref tspc, .int (nI ksp12927)])), (tspc, .inl (G.2.1, 120, .inl gtsp2928))] H := hP
            have hD : va_D A [(tby, .inl (G.2.1, 240, .inl fby)), (h0, .inr (10, [.ref tby, .int (nI kt), .ref tln, .ref tsp, .int kd12916, .int (nI ks12917), .int (nI kn12918), .int tf12919])), (tsp, .inr (8, [.int 120, .int 1, .ref tspc, .int (nI ksp12927)])), (tspc, .inl (G.2.1, 120, .inl gtsp2928))] := hD
            have w2929 := hr2925
            refine lv_iconst (v := 1) hx hb dX10_takesOne_102 (by decide) ?_
            exact RI (v := 1) hC hP hD hS [1, 0, 2, 3] (kd12916, ks12917, kn12918, tf12919, ksp12927, gtsp2928) rfl rfl (by decide) (⟨Or.inl (rfl), by dsimp only; omega⟩) (by decide +kernel) dX10_takesOne_103
        · refine lv_if_ne (tgt := 93) hx hb dX10_takesOne_53 (by decide) (fun c9 => absurd (by decide) c9) (fun _ => ?_)
          refine lv_iconst (v := 0) hx hb dX10_takesOne_56 (by decide) ?_
          exact RI (v := 0) hC hP hD hS [0, 1, 2, 3] (kd12916, ks12917, kn12918, tf12919, ksp12920, gtsp2921) rfl rfl (by decide) (⟨Or.inr (rfl), by dsimp only; omega⟩) (by decide +kernel) dX10_takesOne_57
    | succ nP ihP =>
      intro kP tu vkd vtf vks vkn H locs ls hkP hvks hvkn hP hD hS hl
      refine lv_iload_n hx hb dX10_takesOne_4 rfl (lv_at hl 0 rfl) ?_
      refine lv_sipush (v := 240) hx hb dX10_takesOne_5 (by decide) ?_
      refine lv_icmp_ge (tgt := 40) hx hb dX10_takesOne_8 (by decide) (fun c9 => absurd c9 (nI_ge (a := kP) (b := 240) (by omega) (by omega))) (fun _ => ?_)
      refine lv_aload_n hx hb dX10_takesOne_11 rfl (lv_at hl 2 rfl) ?_
      refine va_ldcS (index := 160) (tx := "not") hx hb hown (hO.2.1 10 (by decide)) dX10_takesOne_12 ?_
      refine pVo hO hS hC hK hl hP hD (t_isName l G K 10 h0 tby kt tln tsp vkd vks vkn vtf fby (by omega) (by omega) (by omega) ((by decide))) si_X10_102 [0, 1] rfl rfl (by decide) rfl rfl rfl rfl rfl (Nat.le_of_ble_eq_true rfl) ⟨Nat.le_of_ble_eq_true rfl, Nat.le_of_ble_eq_true rfl⟩ ⟨by first | exact Nat.le_of_ble_eq_true rfl | exact Nat.zero_le _, by first | exact Nat.le_of_ble_eq_true rfl | exact Nat.zero_le _⟩ dX10_takesOne_14 (fun r2930 hr2930 => ?_)
      rcases hr2930 with rfl | rfl
      · refine lv_if_eq (tgt := 40) hx hb dX10_takesOne_17 (by decide) (fun c9 => absurd c9 (by decide)) (fun _ => ?_)
        refine lv_aload_n hx hb dX10_takesOne_20 rfl (lv_at hl 2 rfl) ?_
        refine vV (wr := [(tsp, .inr (8, [.int 120, .int 1, .ref tspc, .int (nI ksp)])), (tspc, .inl (G.2.1, 120, .inl ftsp))]) hC hK hl hP hD hS hA (t_advance l G h0 tby kt tln tsp vkd vks vkn vtf fby (by omega) (by omega) (by omega)) si_X10_47 [0, 1] [2, 3] rfl rfl (by decide) rfl (by decide) (by decide) rfl rfl rfl rfl rfl (Nat.le_of_ble_eq_true rfl) ⟨Nat.le_of_ble_eq_true rfl, Nat.le_of_ble_eq_true rfl⟩ ⟨Nat.le_of_ble_eq_true rfl, Nat.le_of_ble_eq_true rfl⟩ dX10_takesOne_21 (fun u2933 H locs hr2932 hP hD hS => ?_)
        obtain ⟨kd12934, ks12935, kn12936⟩ := u2933
        try dsimp only at hr2932
        have hP : va_P G.1 vwCl [(tsp, .inr (8, [.int 120, .int 1, .ref tspc, .int (nI ksp)])), (tspc, .inl (G.2.1, 120, .inl ftsp)), (h0, .inr (10, [.ref tby, .int (nI kt), .ref tln, .ref tsp, .int kd12934, .int (nI ks12935), .int (nI kn12936), .int vtf])), (tby, .inl (G.2.1, 240, .inl fby))] H := hP
        have hD : va_D A [(tsp, .inr (8, [.int 120, .int 1, .ref tspc, .int (nI ksp)])), (tspc, .inl (G.2.1, 120, .inl ftsp)), (h0, .inr (10, [.ref tby, .int (nI kt), .ref tln, .ref tsp, .int kd12934, .int (nI ks12935), .int (nI kn12936), .int vtf])), (tby, .inl (G.2.1, 240, .inl fby))] := hD
        have w2937 := hr2932
        refine lv_iload_n hx hb dX10_takesOne_24 rfl (lv_at hl 1 rfl) ?_
        refine lv_if_ne (tgt := 32) hx hb dX10_takesOne_25 (by decide) (fun c_25_2938 => ?_) (fun c_25_2938 => ?_)
        · refine lv_iconst (v := 0) hx hb dX10_takesOne_32 (by decide) ?_
          refine lv_istore_n (lv' := [(2, .int 0), (3, .int (nI kP)), (0, .ref h0), (1, .int 3)]) hx hb dX10_takesOne_33 rfl hl (by decide) rfl (fun ls hl => ?_)
          refine lv_iinc (v := nI (kP + 1)) (lv' := [(3, .int (nI (kP + 1))), (2, .int 0), (0, .ref h0), (1, .int 3)]) hx hb dX10_takesOne_34 hl (k := 1) rfl (nI_1 _) (by decide) rfl (fun ls hl => ?_)
          refine lv_goto (tgt := 4) hx hb dX10_takesOne_37 (by decide) ?_
          have hP := hP.sub (ws' := [(h0, .inr (10, [.ref tby, .int (nI kt), .ref tln, .ref tsp, .int kd12934, .int (nI ks12935), .int (nI kn12936), .int vtf])), (tby, .inl (G.2.1, 240, .inl fby)), (tsp, .inr (8, [.int 120, .int 1, .ref tspc, .int (nI ksp)])), (tspc, .inl (G.2.1, 120, .inl ftsp))]) [2, 3, 0, 1] rfl
          have hD := hD.sub (ws' := [(h0, .inr (10, [.ref tby, .int (nI kt), .ref tln, .ref tsp, .int kd12934, .int (nI ks12935), .int (nI kn12936), .int vtf])), (tby, .inl (G.2.1, 240, .inl fby)), (tsp, .inr (8, [.int 120, .int 1, .ref tspc, .int (nI ksp)])), (tspc, .inl (G.2.1, 120, .inl ftsp))]) [2, 3, 0, 1] (by decide) rfl
          exact ihP (kP + 1) 0 kd12934 vtf ks12935 kn12936 _ _ _ (by omega) (by first | assumption | exact Or.inl rfl | exact Or.inr rfl | omega) (by first | assumption | exact Or.inl rfl | exact Or.inr rfl | omega) hP hD hS (lv_sub hl [0, 1, 2, 3] rfl)
        · refine lv_iconst (v := 1) hx hb dX10_takesOne_28 (by decide) ?_
          refine lv_goto (tgt := 33) hx hb dX10_takesOne_29 (by decide) ?_
          refine lv_istore_n (lv' := [(2, .int 1), (3, .int (nI kP)), (0, .ref h0), (1, .int 3)]) hx hb dX10_takesOne_33 rfl hl (by decide) rfl (fun ls hl => ?_)
          refine lv_iinc (v := nI (kP + 1)) (lv' := [(3, .int (nI (kP + 1))), (2, .int 1), (0, .ref h0), (1, .int 3)]) hx hb dX10_takesOne_34 hl (k := 1) rfl (nI_1 _) (by decide) rfl (fun ls hl => ?_)
          refine lv_goto (tgt := 4) hx hb dX10_takesOne_37 (by decide) ?_
          have hP := hP.sub (ws' := [(h0, .inr (10, [.ref tby, .int (nI kt), .ref tln, .ref tsp, .int kd12934, .int (nI ks12935), .int (nI kn12936), .int vtf])), (tby, .inl (G.2.1, 240, .inl fby)), (tsp, .inr (8, [.int 120, .int 1, .ref tspc, .int (nI ksp)])), (tspc, .inl (G.2.1, 120, .inl ftsp))]) [2, 3, 0, 1] rfl
          have hD := hD.sub (ws' := [(h0, .inr (10, [.ref tby, .int (nI kt), .ref tln, .ref tsp, .int kd12934, .int (nI ks12935), .int (nI kn12936), .int vtf])), (tby, .inl (G.2.1, 240, .inl fby)), (tsp, .inr (8, [.int 120, .int 1, .ref tspc, .int (nI ksp)])), (tspc, .inl (G.2.1, 120, .inl ftsp))]) [2, 3, 0, 1] (by decide) rfl
          exact ihP (kP + 1) 1 kd12934 vtf ks12935 kn12936 _ _ _ (by omega) (by first | assumption | exact Or.inl rfl | exact Or.inr rfl | omega) (by first | assumption | exact Or.inl rfl | exact Or.inr rfl | omega) hP hD hS (lv_sub hl [0, 1, 2, 3] rfl)
      · refine lv_if_eq (tgt := 40) hx hb dX10_takesOne_17 (by decide) (fun _ => ?_) (fun c9 => absurd (by decide) c9)
        refine lv_aload_n hx hb dX10_takesOne_40 rfl (lv_at hl 2 rfl) ?_
        refine gf_X10_31 hC rfl hK hP 0 rfl rfl dX10_takesOne_41 ?_
        refine lv_bipush (v := 40) hx hb dX10_takesOne_44 (by decide) ?_
        refine lv_icmp_eq (tgt := 58) hx hb dX10_takesOne_46 (by decide) (fun c_46_2939 => ?_) (fun c_46_2939 => ?_)
        · refine lv_iload_n hx hb dX10_takesOne_58 rfl (lv_at hl 3 rfl) ?_
          refine lv_iconst (v := 4) hx hb dX10_takesOne_59 (by decide) ?_
          refine lv_icmp_lt (tgt := 68) hx hb dX10_takesOne_60 (by decide) (fun _ => ?_) (fun c9 => absurd (by decide) c9)
          refine lv_aload_n hx hb dX10_takesOne_68 rfl (lv_at hl 2 rfl) ?_
          refine vV (wr := [(tsp, .inr (8, [.int 120, .int 1, .ref tspc, .int (nI ksp)])), (tspc, .inl (G.2.1, 120, .inl ftsp))]) hC hK hl hP hD hS hA (t_advance l G h0 tby kt tln tsp vkd vks vkn vtf fby (by omega) (by omega) (by omega)) si_X10_47 [0, 1] [2, 3] rfl rfl (by decide) rfl (by decide) (by decide) rfl rfl rfl rfl rfl (Nat.le_of_ble_eq_true rfl) ⟨Nat.le_of_ble_eq_true rfl, Nat.le_of_ble_eq_true rfl⟩ ⟨Nat.le_of_ble_eq_true rfl, Nat.le_of_ble_eq_true rfl⟩ dX10_takesOne_69 (fun u2941 H locs hr2940 hP hD hS => ?_)
          obtain ⟨kd12942, ks12943, kn12944⟩ := u2941
          try dsimp only at hr2940
          have hP : va_P G.1 vwCl [(tsp, .inr (8, [.int 120, .int 1, .ref tspc, .int (nI ksp)])), (tspc, .inl (G.2.1, 120, .inl ftsp)), (h0, .inr (10, [.ref tby, .int (nI kt), .ref tln, .ref tsp, .int kd12942, .int (nI ks12943), .int (nI kn12944), .int vtf])), (tby, .inl (G.2.1, 240, .inl fby))] H := hP
          have hD : va_D A [(tsp, .inr (8, [.int 120, .int 1, .ref tspc, .int (nI ksp)])), (tspc, .inl (G.2.1, 120, .inl ftsp)), (h0, .inr (10, [.ref tby, .int (nI kt), .ref tln, .ref tsp, .int kd12942, .int (nI ks12943), .int (nI kn12944), .int vtf])), (tby, .inl (G.2.1, 240, .inl fby))] := hD
          have w2945 := hr2940
          refine lv_aload_n hx hb dX10_takesOne_72 rfl (lv_at hl 2 rfl) ?_
          refine lv_iload_n hx hb dX10_takesOne_73 rfl (lv_at hl 3 rfl) ?_
          refine lv_iconst (v := 1) hx hb dX10_takesOne_74 (by decide) ?_
          refine lv_iadd hx hb dX10_takesOne_75 ?_
          refine eqi (x1 := 4) (by decide) ?_
          refine iVo (wr := []) hO hC hK hl hP hD hS hA (t_cond4 l G K h0 tby kt tln tsp kd12942 ks12943 kn12944 vtf fby tspc ksp ftsp (by omega) (by omega) (by omega) (by omega)) si_X10_121 [2, 3, 0, 1] [] rfl rfl (by decide) rfl (by decide) (by decide) rfl rfl rfl rfl rfl (Nat.le_of_ble_eq_true rfl) ⟨Nat.le_of_ble_eq_true rfl, Nat.le_of_ble_eq_true rfl⟩ ⟨Nat.le_of_ble_eq_true rfl, Nat.le_of_ble_eq_true rfl⟩ dX10_takesOne_76 (fun r2946 u2947 H locs hr2946 hP hD hS => ?_)
          obtain ⟨kd12948, ks12949, kn12950, tf12951, ksp12952, gtsp2953⟩ := u2947
          try dsimp only at hr2946
          have hP : va_P G.1 vwCl [(h0, .inr (10, [.ref tby, .int (nI kt), .ref tln, .ref tsp, .int kd12948, .int (nI ks12949), .int (nI kn12950), .int tf12951])), (tby, .inl (G.2.1, 240, .inl fby)), (tsp, .inr (8, [.int 120, .int 1, .ref tspc, .int (nI ksp12952)])), (tspc, .inl (G.2.1, 120, .inl gtsp2953))] H := hP
          have hD : va_D A [(h0, .inr (10, [.ref tby, .int (nI kt), .ref tln, .ref tsp, .int kd12948, .int (nI ks12949), .int (nI kn12950), .int tf12951])), (tby, .inl (G.2.1, 240, .inl fby)), (tsp, .inr (8, [.int 120, .int 1, .ref tspc, .int (nI ksp12952)])), (tspc, .inl (G.2.1, 120, .inl gtsp2953))] := hD
          obtain ⟨hr2946, w2954⟩ := hr2946
          rcases hr2946 with rfl | rfl
          · refine lv_if_eq (tgt := 91) hx hb dX10_takesOne_79 (by decide) (fun c9 => absurd c9 (by decide)) (fun _ => ?_)
            refine lv_aload_n hx hb dX10_takesOne_82 rfl (lv_at hl 2 rfl) ?_
            refine lv_bipush (v := 41) hx hb dX10_takesOne_83 (by decide) ?_
            refine iV (wr := [(tsp, .inr (8, [.int 120, .int 1, .ref tspc, .int (nI ksp12952)])), (tspc, .inl (G.2.1, 120, .inl gtsp2953))]) hC hK hl hP hD hS hA (t_takesByte l G h0 41 tby kt tln tsp kd12948 ks12949 kn12950 tf12951 fby (by omega) (by omega) (by omega)) si_X10_124 [0, 1] [2, 3] rfl rfl (by decide) rfl (by decide) (by decide) rfl rfl rfl rfl rfl (Nat.le_of_ble_eq_true rfl) ⟨Nat.le_of_ble_eq_true rfl, Nat.le_of_ble_eq_true rfl⟩ ⟨Nat.le_of_ble_eq_true rfl, Nat.le_of_ble_eq_true rfl⟩ dX10_takesOne_85 (fun r2956 u2957 H locs hr2956 hP hD hS => ?_)
            obtain ⟨kd12958, ks12959, kn12960, tf12961⟩ := u2957
            try dsimp only at hr2956
            have hP : va_P G.1 vwCl [(tsp, .inr (8, [.int 120, .int 1, .ref tspc, .int (nI ksp12952)])), (tspc, .inl (G.2.1, 120, .inl gtsp2953)), (h0, .inr (10, [.ref tby, .int (nI kt), .ref tln, .ref tsp, .int kd12958, .int (nI ks12959), .int (nI kn12960), .int tf12961])), (tby, .inl (G.2.1, 240, .inl fby))] H := hP
            have hD : va_D A [(tsp, .inr (8, [.int 120, .int 1, .ref tspc, .int (nI ksp12952)])), (tspc, .inl (G.2.1, 120, .inl gtsp2953)), (h0, .inr (10, [.ref tby, .int (nI kt), .ref tln, .ref tsp, .int kd12958, .int (nI ks12959), .int (nI kn12960), .int tf12961])), (tby, .inl (G.2.1, 240, .inl fby))] := hD
            obtain ⟨hr2956, w2962⟩ := hr2956
            rcases hr2956 with rfl | rfl
            · refine lv_if_ne (tgt := 93) hx hb dX10_takesOne_88 (by decide) (fun _ => ?_) (fun c9 => absurd c9 (by decide))
              refine lv_iload_n hx hb dX10_takesOne_93 rfl (lv_at hl 1 rfl) ?_
              refine lv_if_eq (tgt := 102) hx hb dX10_takesOne_94 (by decide) (fun c_94_2964 => ?_) (fun c_94_2964 => ?_)
              · refine lv_iconst (v := 1) hx hb dX10_takesOne_102 (by decide) ?_
                exact RI (v := 1) hC hP hD hS [2, 3, 0, 1] (kd12958, ks12959, kn12960, tf12961, ksp12952, gtsp2953) rfl rfl (by decide) (⟨Or.inl (rfl), by dsimp only; omega⟩) (by decide +kernel) dX10_takesOne_103
              · refine lv_aload_n hx hb dX10_takesOne_97 rfl (lv_at hl 2 rfl) ?_
                refine lv_iconst (v := (-1)) hx hb dX10_takesOne_98 (by decide) ?_
                refine vV (wr := [(tby, .inl (G.2.1, 240, .inl fby))]) hC hK hl hP hD hS hA (t_addStep l G h0 (-1) tby kt tln tsp kd12958 ks12959 kn12960 tf12961 tspc ksp12952 gtsp2953 (by omega)) si_X10_152 [2, 0, 1] [3] rfl rfl (by decide) rfl (by decide) (by decide) rfl rfl rfl rfl rfl (Nat.le_of_ble_eq_true rfl) ⟨Nat.le_of_ble_eq_true rfl, Nat.le_of_ble_eq_true rfl⟩ ⟨Nat.le_of_ble_eq_true rfl, Nat.le_of_ble_eq_true rfl⟩ dX10_takesOne_99 (fun u2966 H locs hr2965 hP hD hS => ?_)
                obtain ⟨ksp12967, gtsp2968⟩ := u2966
                try dsimp only at hr2965
                have hP : va_P G.1 vwCl [(tby, .inl (G.2.1, 240, .inl fby)), (h0, .inr (10, [.ref tby, .int (nI kt), .ref tln, .ref tsp, .int kd12958, .int (nI ks12959), .int (nI kn12960), .int tf12961])), (tsp, .inr (8, [.int 120, .int 1, .ref tspc, .int (nI ksp12967)])), (tspc, .inl (G.2.1, 120, .inl gtsp2968))] H := hP
                have hD : va_D A [(tby, .inl (G.2.1, 240, .inl fby)), (h0, .inr (10, [.ref tby, .int (nI kt), .ref tln, .ref tsp, .int kd12958, .int (nI ks12959), .int (nI kn12960), .int tf12961])), (tsp, .inr (8, [.int 120, .int 1, .ref tspc, .int (nI ksp12967)])), (tspc, .inl (G.2.1, 120, .inl gtsp2968))] := hD
                have w2969 := hr2965
                refine lv_iconst (v := 1) hx hb dX10_takesOne_102 (by decide) ?_
                exact RI (v := 1) hC hP hD hS [1, 0, 2, 3] (kd12958, ks12959, kn12960, tf12961, ksp12967, gtsp2968) rfl rfl (by decide) (⟨Or.inl (rfl), by dsimp only; omega⟩) (by decide +kernel) dX10_takesOne_103
            · refine lv_if_ne (tgt := 93) hx hb dX10_takesOne_88 (by decide) (fun c9 => absurd (by decide) c9) (fun _ => ?_)
              refine lv_iconst (v := 0) hx hb dX10_takesOne_91 (by decide) ?_
              exact RI (v := 0) hC hP hD hS [2, 3, 0, 1] (kd12958, ks12959, kn12960, tf12961, ksp12952, gtsp2953) rfl rfl (by decide) (⟨Or.inr (rfl), by dsimp only; omega⟩) (by decide +kernel) dX10_takesOne_92
          · refine lv_if_eq (tgt := 91) hx hb dX10_takesOne_79 (by decide) (fun _ => ?_) (fun c9 => absurd (by decide) c9)
            refine lv_iconst (v := 0) hx hb dX10_takesOne_91 (by decide) ?_
            exact RI (v := 0) hC hP hD hS [0, 1, 2, 3] (kd12948, ks12949, kn12950, tf12951, ksp12952, gtsp2953) rfl rfl (by decide) (⟨Or.inr (rfl), by dsimp only; omega⟩) (by decide +kernel) dX10_takesOne_92
        · refine lv_aload_n hx hb dX10_takesOne_49 rfl (lv_at hl 2 rfl) ?_
          refine iVo (wr := []) hO hC hK hl hP hD hS hA (t_takesComparison l G K h0 tby kt tln tsp vkd vks vkn vtf fby tspc ksp ftsp (by omega) (by omega) (by omega) (by omega)) si_X10_162 [0, 1, 2, 3] [] rfl rfl (by decide) rfl (by decide) (by decide) rfl rfl rfl rfl rfl (Nat.le_of_ble_eq_true rfl) ⟨Nat.le_of_ble_eq_true rfl, Nat.le_of_ble_eq_true rfl⟩ ⟨Nat.le_of_ble_eq_true rfl, Nat.le_of_ble_eq_true rfl⟩ dX10_takesOne_50 (fun r2970 u2971 H locs hr2970 hP hD hS => ?_)
          obtain ⟨kd12972, ks12973, kn12974, tf12975, ksp12976, gtsp2977⟩ := u2971
          try dsimp only at hr2970
          have hP : va_P G.1 vwCl [(h0, .inr (10, [.ref tby, .int (nI kt), .ref tln, .ref tsp, .int kd12972, .int (nI ks12973), .int (nI kn12974), .int tf12975])), (tby, .inl (G.2.1, 240, .inl fby)), (tsp, .inr (8, [.int 120, .int 1, .ref tspc, .int (nI ksp12976)])), (tspc, .inl (G.2.1, 120, .inl gtsp2977))] H := hP
          have hD : va_D A [(h0, .inr (10, [.ref tby, .int (nI kt), .ref tln, .ref tsp, .int kd12972, .int (nI ks12973), .int (nI kn12974), .int tf12975])), (tby, .inl (G.2.1, 240, .inl fby)), (tsp, .inr (8, [.int 120, .int 1, .ref tspc, .int (nI ksp12976)])), (tspc, .inl (G.2.1, 120, .inl gtsp2977))] := hD
          obtain ⟨hr2970, w2978⟩ := hr2970
          rcases hr2970 with rfl | rfl
          · refine lv_if_ne (tgt := 93) hx hb dX10_takesOne_53 (by decide) (fun _ => ?_) (fun c9 => absurd c9 (by decide))
            refine lv_iload_n hx hb dX10_takesOne_93 rfl (lv_at hl 1 rfl) ?_
            refine lv_if_eq (tgt := 102) hx hb dX10_takesOne_94 (by decide) (fun c_94_2980 => ?_) (fun c_94_2980 => ?_)
            · refine lv_iconst (v := 1) hx hb dX10_takesOne_102 (by decide) ?_
              exact RI (v := 1) hC hP hD hS [0, 1, 2, 3] (kd12972, ks12973, kn12974, tf12975, ksp12976, gtsp2977) rfl rfl (by decide) (⟨Or.inl (rfl), by dsimp only; omega⟩) (by decide +kernel) dX10_takesOne_103
            · refine lv_aload_n hx hb dX10_takesOne_97 rfl (lv_at hl 2 rfl) ?_
              refine lv_iconst (v := (-1)) hx hb dX10_takesOne_98 (by decide) ?_
              refine vV (wr := [(tby, .inl (G.2.1, 240, .inl fby))]) hC hK hl hP hD hS hA (t_addStep l G h0 (-1) tby kt tln tsp kd12972 ks12973 kn12974 tf12975 tspc ksp12976 gtsp2977 (by omega)) si_X10_152 [0, 2, 3] [1] rfl rfl (by decide) rfl (by decide) (by decide) rfl rfl rfl rfl rfl (Nat.le_of_ble_eq_true rfl) ⟨Nat.le_of_ble_eq_true rfl, Nat.le_of_ble_eq_true rfl⟩ ⟨Nat.le_of_ble_eq_true rfl, Nat.le_of_ble_eq_true rfl⟩ dX10_takesOne_99 (fun u2982 H locs hr2981 hP hD hS => ?_)
              obtain ⟨ksp12983, gtsp2984⟩ := u2982
              try dsimp only at hr2981
              have hP : va_P G.1 vwCl [(tby, .inl (G.2.1, 240, .inl fby)), (h0, .inr (10, [.ref tby, .int (nI kt), .ref tln, .ref tsp, .int kd12972, .int (nI ks12973), .int (nI kn12974), .int tf12975])), (tsp, .inr (8, [.int 120, .int 1, .ref tspc, .int (nI ksp12983)])), (tspc, .inl (G.2.1, 120, .inl gtsp2984))] H := hP
              have hD : va_D A [(tby, .inl (G.2.1, 240, .inl fby)), (h0, .inr (10, [.ref tby, .int (nI kt), .ref tln, .ref tsp, .int kd12972, .int (nI ks12973), .int (nI kn12974), .int tf12975])), (tsp, .inr (8, [.int 120, .int 1, .ref tspc, .int (nI ksp12983)])), (tspc, .inl (G.2.1, 120, .inl gtsp2984))] := hD
              have w2985 := hr2981
              refine lv_iconst (v := 1) hx hb dX10_takesOne_102 (by decide) ?_
              exact RI (v := 1) hC hP hD hS [1, 0, 2, 3] (kd12972, ks12973, kn12974, tf12975, ksp12983, gtsp2984) rfl rfl (by decide) (⟨Or.inl (rfl), by dsimp only; omega⟩) (by decide +kernel) dX10_takesOne_103
          · refine lv_if_ne (tgt := 93) hx hb dX10_takesOne_53 (by decide) (fun c9 => absurd (by decide) c9) (fun _ => ?_)
            refine lv_iconst (v := 0) hx hb dX10_takesOne_56 (by decide) ?_
            exact RI (v := 0) hC hP hD hS [0, 1, 2, 3] (kd12972, ks12973, kn12974, tf12975, ksp12976, gtsp2977) rfl rfl (by decide) (⟨Or.inr (rfl), by dsimp only; omega⟩) (by decide +kernel) dX10_takesOne_57
  exact keyP 240 0 0 tkd tf9 ks kn _ _ _ (by omega) (by first | assumption | exact Or.inl rfl | exact Or.inr rfl | omega) (by first | assumption | exact Or.inl rfl | exact Or.inr rfl | omega) hP hD hS (lv_sub hl [0, 1, 2, 3] rfl)
set_option maxHeartbeats 4000000 in
set_option maxRecDepth 100000 in
theorem t_all3 (l : Launch) (G : GG) (K : OO) (h0 : Nat) (tby : Nat) (kt : Nat) (tln : Nat) (tsp : Nat) (tkd : Int32) (ks : Nat) (kn : Nat) (tf9 : Int32) (fby : Nat → Int32) (tspc : Nat) (ksp : Nat) (ftsp : Nat → Int32) (hkt : kt ≤ 240) (hks : ks ≤ 240) (hkn : kn ≤ 240) (hksp : ksp ≤ 120) : MIo l G K yX10_takesAll cX10_takesAll 3 (some .boolean) 14 0 0 [.ref h0, .int 3] [(h0, .inr (10, [.ref tby, .int (nI kt), .ref tln, .ref tsp, .int tkd, .int (nI ks), .int (nI kn), .int tf9])), (tby, .inl (G.2.1, 240, .inl fby)), (tsp, .inr (8, [.int 120, .int 1, .ref tspc, .int (nI ksp)])), (tspc, .inl (G.2.1, 120, .inl ftsp))] (fun (r : Int32) (u : Int32 × Nat × Nat × Int32 × Nat × (Nat → Int32)) => (r = 1 ∨ r = 0) ∧ (u.2.1 ≤ 240 ∧ u.2.2.1 ≤ 240 ∧ u.2.2.2.2.1 ≤ 120)) (fun u : Int32 × Nat × Nat × Int32 × Nat × (Nat → Int32) => [(h0, .inr (10, [.ref tby, .int (nI kt), .ref tln, .ref tsp, .int u.1, .int (nI u.2.1), .int (nI u.2.2.1), .int u.2.2.2.1])), (tby, .inl (G.2.1, 240, .inl fby)), (tsp, .inr (8, [.int 120, .int 1, .ref tspc, .int (nI u.2.2.2.2.1)])), (tspc, .inl (G.2.1, 120, .inl u.2.2.2.2.2))]) := by
  refine MIo.start (by decide +kernel) (Nat.le_of_ble_eq_true rfl) ?_
  intro p e s m below meth c A ls hC hK hP hD hS hA hl hO
  have hl : lv_has ls 3 [(0, .ref h0), (1, .int 3)] := hl
  obtain ⟨hx, hb, hr, hml, hB, hown, hlocks, hnm⟩ := id hC
  refine lv_aload_n hx hb dX10_takesAll_0 rfl (lv_at hl 0 rfl) ?_
  refine lv_iload_n hx hb dX10_takesAll_1 rfl (lv_at hl 1 rfl) ?_
  refine iVo (wr := []) hO hC hK hl hP hD hS hA (t_one3 l G K h0 tby kt tln tsp tkd ks kn tf9 fby tspc ksp ftsp (by omega) (by omega) (by omega) (by omega)) si_X10_155 [0, 1, 2, 3] [] rfl rfl (by decide) rfl (by decide) (by decide) rfl rfl rfl rfl rfl (Nat.le_of_ble_eq_true rfl) ⟨Nat.le_of_ble_eq_true rfl, Nat.le_of_ble_eq_true rfl⟩ ⟨Nat.le_of_ble_eq_true rfl, Nat.le_of_ble_eq_true rfl⟩ dX10_takesAll_2 (fun r2986 u2987 H locs hr2986 hP hD hS => ?_)
  obtain ⟨kd12988, ks12989, kn12990, tf12991, ksp12992, gtsp2993⟩ := u2987
  try dsimp only at hr2986
  have hP : va_P G.1 vwCl [(h0, .inr (10, [.ref tby, .int (nI kt), .ref tln, .ref tsp, .int kd12988, .int (nI ks12989), .int (nI kn12990), .int tf12991])), (tby, .inl (G.2.1, 240, .inl fby)), (tsp, .inr (8, [.int 120, .int 1, .ref tspc, .int (nI ksp12992)])), (tspc, .inl (G.2.1, 120, .inl gtsp2993))] H := hP
  have hD : va_D A [(h0, .inr (10, [.ref tby, .int (nI kt), .ref tln, .ref tsp, .int kd12988, .int (nI ks12989), .int (nI kn12990), .int tf12991])), (tby, .inl (G.2.1, 240, .inl fby)), (tsp, .inr (8, [.int 120, .int 1, .ref tspc, .int (nI ksp12992)])), (tspc, .inl (G.2.1, 120, .inl gtsp2993))] := hD
  obtain ⟨hr2986, w2994⟩ := hr2986
  rcases hr2986 with rfl | rfl
  · refine lv_if_ne (tgt := 10) hx hb dX10_takesAll_5 (by decide) (fun _ => ?_) (fun c9 => absurd c9 (by decide))
    refine lv_iconst (v := 0) hx hb dX10_takesAll_10 (by decide) ?_
    refine lv_istore_n (lv' := [(2, .int 0), (0, .ref h0), (1, .int 3)]) hx hb dX10_takesAll_11 rfl hl (by decide) rfl (fun ls hl => ?_)
    have keyP : ∀ (nP kP : Nat) (vkd : Int32) (vtf : Int32) (vtsp : Nat → Int32) (vks : Nat) (vkn : Nat) (vksp : Nat) (H : Heap) (locs : List Loc) (ls : Array Slot), kP + nP = 240 → (vks ≤ 240) → (vkn ≤ 240) → (vksp ≤ 120) → va_P G.1 vwCl [(h0, .inr (10, [.ref tby, .int (nI kt), .ref tln, .ref tsp, .int vkd, .int (nI vks), .int (nI vkn), .int vtf])), (tby, .inl (G.2.1, 240, .inl fby)), (tsp, .inr (8, [.int 120, .int 1, .ref tspc, .int (nI vksp)])), (tspc, .inl (G.2.1, 120, .inl vtsp))] H → va_D A [(h0, .inr (10, [.ref tby, .int (nI kt), .ref tln, .ref tsp, .int vkd, .int (nI vks), .int (nI vkn), .int vtf])), (tby, .inl (G.2.1, 240, .inl fby)), (tsp, .inr (8, [.int 120, .int 1, .ref tspc, .int (nI vksp)])), (tspc, .inl (G.2.1, 120, .inl vtsp))] → va_S A s.heap H locs → lv_has ls 3 [(2, .int (nI kP)), (0, .ref h0), (1, .int 3)] → W p l e (RM 14 0 0) s m ([.ref h0, .int 3] : List Value).toArray below meth c H locs 0 0 (MQ below (QI G (fun (r : Int32) (u : Int32 × Nat × Nat × Int32 × Nat × (Nat → Int32)) => (r = 1 ∨ r = 0) ∧ (u.2.1 ≤ 240 ∧ u.2.2.1 ≤ 240 ∧ u.2.2.2.2.1 ≤ 120)) (fun u : Int32 × Nat × Nat × Int32 × Nat × (Nat → Int32) => [(h0, .inr (10, [.ref tby, .int (nI kt), .ref tln, .ref tsp, .int u.1, .int (nI u.2.1), .int (nI u.2.2.1), .int u.2.2.2.1])), (tby, .inl (G.2.1, 240, .inl fby)), (tsp, .inr (8, [.int 120, .int 1, .ref tspc, .int (nI u.2.2.2.2.1)])), (tspc, .inl (G.2.1, 120, .inl u.2.2.2.2.2))]) A) ([.ref h0, .int 3] : List Value).toArray s 0 0 A) (F0 m 12 ls []) := by
      intro nP
      induction nP with
      | zero =>
        intro kP vkd vtf vtsp vks vkn vksp H locs ls hkP hvks hvkn hvksp hP hD hS hl
        obtain rfl : 240 = kP := by omega
        have hl : lv_has ls 3 [(2, .int 240), (0, .ref h0), (1, .int 3)] := hl
        refine lv_iload_n hx hb dX10_takesAll_12 rfl (lv_at hl 0 rfl) ?_
        refine lv_sipush (v := 240) hx hb dX10_takesAll_13 (by decide) ?_
        refine lv_icmp_ge (tgt := 54) hx hb dX10_takesAll_16 (by decide) (fun _ => ?_) (fun c9 => absurd (by decide) c9)
        refine lv_iconst (v := 1) hx hb dX10_takesAll_54 (by decide) ?_
        exact RI (v := 1) hC hP hD hS [0, 1, 2, 3] (vkd, vks, vkn, vtf, vksp, vtsp) rfl rfl (by decide) (⟨Or.inl (rfl), by dsimp only; omega⟩) (by decide +kernel) dX10_takesAll_55
      | succ nP ihP =>
        intro kP vkd vtf vtsp vks vkn vksp H locs ls hkP hvks hvkn hvksp hP hD hS hl
        refine lv_iload_n hx hb dX10_takesAll_12 rfl (lv_at hl 0 rfl) ?_
        refine lv_sipush (v := 240) hx hb dX10_takesAll_13 (by decide) ?_
        refine lv_icmp_ge (tgt := 54) hx hb dX10_takesAll_16 (by decide) (fun c9 => absurd c9 (nI_ge (a := kP) (b := 240) (by omega) (by omega))) (fun _ => ?_)
        refine lv_aload_n hx hb dX10_takesAll_19 rfl (lv_at hl 1 rfl) ?_
        refine va_ldcS (index := 158) (tx := "and") hx hb hown (hO.2.1 9 (by decide)) dX10_takesAll_20 ?_
        refine pVo hO hS hC hK hl hP hD (t_isName l G K 9 h0 tby kt tln tsp vkd vks vkn vtf fby (by omega) (by omega) (by omega) ((by decide))) si_X10_102 [0, 1] rfl rfl (by decide) rfl rfl rfl rfl rfl (Nat.le_of_ble_eq_true rfl) ⟨Nat.le_of_ble_eq_true rfl, Nat.le_of_ble_eq_true rfl⟩ ⟨by first | exact Nat.le_of_ble_eq_true rfl | exact Nat.zero_le _, by first | exact Nat.le_of_ble_eq_true rfl | exact Nat.zero_le _⟩ dX10_takesAll_22 (fun r2996 hr2996 => ?_)
        rcases hr2996 with rfl | rfl
        · refine lv_if_eq (tgt := 54) hx hb dX10_takesAll_25 (by decide) (fun c9 => absurd c9 (by decide)) (fun _ => ?_)
          refine lv_aload_n hx hb dX10_takesAll_28 rfl (lv_at hl 1 rfl) ?_
          refine vV (wr := [(tsp, .inr (8, [.int 120, .int 1, .ref tspc, .int (nI vksp)])), (tspc, .inl (G.2.1, 120, .inl vtsp))]) hC hK hl hP hD hS hA (t_advance l G h0 tby kt tln tsp vkd vks vkn vtf fby (by omega) (by omega) (by omega)) si_X10_47 [0, 1] [2, 3] rfl rfl (by decide) rfl (by decide) (by decide) rfl rfl rfl rfl rfl (Nat.le_of_ble_eq_true rfl) ⟨Nat.le_of_ble_eq_true rfl, Nat.le_of_ble_eq_true rfl⟩ ⟨Nat.le_of_ble_eq_true rfl, Nat.le_of_ble_eq_true rfl⟩ dX10_takesAll_29 (fun u2999 H locs hr2998 hP hD hS => ?_)
          obtain ⟨kd13000, ks13001, kn13002⟩ := u2999
          try dsimp only at hr2998
          have hP : va_P G.1 vwCl [(tsp, .inr (8, [.int 120, .int 1, .ref tspc, .int (nI vksp)])), (tspc, .inl (G.2.1, 120, .inl vtsp)), (h0, .inr (10, [.ref tby, .int (nI kt), .ref tln, .ref tsp, .int kd13000, .int (nI ks13001), .int (nI kn13002), .int vtf])), (tby, .inl (G.2.1, 240, .inl fby))] H := hP
          have hD : va_D A [(tsp, .inr (8, [.int 120, .int 1, .ref tspc, .int (nI vksp)])), (tspc, .inl (G.2.1, 120, .inl vtsp)), (h0, .inr (10, [.ref tby, .int (nI kt), .ref tln, .ref tsp, .int kd13000, .int (nI ks13001), .int (nI kn13002), .int vtf])), (tby, .inl (G.2.1, 240, .inl fby))] := hD
          have w3003 := hr2998
          refine lv_aload_n hx hb dX10_takesAll_32 rfl (lv_at hl 1 rfl) ?_
          refine lv_iload_n hx hb dX10_takesAll_33 rfl (lv_at hl 2 rfl) ?_
          refine iVo (wr := []) hO hC hK hl hP hD hS hA (t_one3 l G K h0 tby kt tln tsp kd13000 ks13001 kn13002 vtf fby tspc vksp vtsp (by omega) (by omega) (by omega) (by omega)) si_X10_155 [2, 3, 0, 1] [] rfl rfl (by decide) rfl (by decide) (by decide) rfl rfl rfl rfl rfl (Nat.le_of_ble_eq_true rfl) ⟨Nat.le_of_ble_eq_true rfl, Nat.le_of_ble_eq_true rfl⟩ ⟨Nat.le_of_ble_eq_true rfl, Nat.le_of_ble_eq_true rfl⟩ dX10_takesAll_34 (fun r3004 u3005 H locs hr3004 hP hD hS => ?_)
          obtain ⟨kd13006, ks13007, kn13008, tf13009, ksp13010, gtsp3011⟩ := u3005
          try dsimp only at hr3004
          have hP : va_P G.1 vwCl [(h0, .inr (10, [.ref tby, .int (nI kt), .ref tln, .ref tsp, .int kd13006, .int (nI ks13007), .int (nI kn13008), .int tf13009])), (tby, .inl (G.2.1, 240, .inl fby)), (tsp, .inr (8, [.int 120, .int 1, .ref tspc, .int (nI ksp13010)])), (tspc, .inl (G.2.1, 120, .inl gtsp3011))] H := hP
          have hD : va_D A [(h0, .inr (10, [.ref tby, .int (nI kt), .ref tln, .ref tsp, .int kd13006, .int (nI ks13007), .int (nI kn13008), .int tf13009])), (tby, .inl (G.2.1, 240, .inl fby)), (tsp, .inr (8, [.int 120, .int 1, .ref tspc, .int (nI ksp13010)])), (tspc, .inl (G.2.1, 120, .inl gtsp3011))] := hD
          obtain ⟨hr3004, w3012⟩ := hr3004
          rcases hr3004 with rfl | rfl
          · refine lv_if_ne (tgt := 42) hx hb dX10_takesAll_37 (by decide) (fun _ => ?_) (fun c9 => absurd c9 (by decide))
            refine lv_aload_n hx hb dX10_takesAll_42 rfl (lv_at hl 1 rfl) ?_
            refine lv_bipush (v := (-2)) hx hb dX10_takesAll_43 (by decide) ?_
            refine vV (wr := [(tby, .inl (G.2.1, 240, .inl fby))]) hC hK hl hP hD hS hA (t_addStep l G h0 (-2) tby kt tln tsp kd13006 ks13007 kn13008 tf13009 tspc ksp13010 gtsp3011 (by omega)) si_X10_152 [0, 2, 3] [1] rfl rfl (by decide) rfl (by decide) (by decide) rfl rfl rfl rfl rfl (Nat.le_of_ble_eq_true rfl) ⟨Nat.le_of_ble_eq_true rfl, Nat.le_of_ble_eq_true rfl⟩ ⟨Nat.le_of_ble_eq_true rfl, Nat.le_of_ble_eq_true rfl⟩ dX10_takesAll_45 (fun u3015 H locs hr3014 hP hD hS => ?_)
            obtain ⟨ksp13016, gtsp3017⟩ := u3015
            try dsimp only at hr3014
            have hP : va_P G.1 vwCl [(tby, .inl (G.2.1, 240, .inl fby)), (h0, .inr (10, [.ref tby, .int (nI kt), .ref tln, .ref tsp, .int kd13006, .int (nI ks13007), .int (nI kn13008), .int tf13009])), (tsp, .inr (8, [.int 120, .int 1, .ref tspc, .int (nI ksp13016)])), (tspc, .inl (G.2.1, 120, .inl gtsp3017))] H := hP
            have hD : va_D A [(tby, .inl (G.2.1, 240, .inl fby)), (h0, .inr (10, [.ref tby, .int (nI kt), .ref tln, .ref tsp, .int kd13006, .int (nI ks13007), .int (nI kn13008), .int tf13009])), (tsp, .inr (8, [.int 120, .int 1, .ref tspc, .int (nI ksp13016)])), (tspc, .inl (G.2.1, 120, .inl gtsp3017))] := hD
            have w3018 := hr3014
            refine lv_iinc (v := nI (kP + 1)) (lv' := [(2, .int (nI (kP + 1))), (0, .ref h0), (1, .int 3)]) hx hb dX10_takesAll_48 hl (k := 0) rfl (nI_1 _) (by decide) rfl (fun ls hl => ?_)
            refine lv_goto (tgt := 12) hx hb dX10_takesAll_51 (by decide) ?_
            have hP := hP.sub (ws' := [(h0, .inr (10, [.ref tby, .int (nI kt), .ref tln, .ref tsp, .int kd13006, .int (nI ks13007), .int (nI kn13008), .int tf13009])), (tby, .inl (G.2.1, 240, .inl fby)), (tsp, .inr (8, [.int 120, .int 1, .ref tspc, .int (nI ksp13016)])), (tspc, .inl (G.2.1, 120, .inl gtsp3017))]) [1, 0, 2, 3] rfl
            have hD := hD.sub (ws' := [(h0, .inr (10, [.ref tby, .int (nI kt), .ref tln, .ref tsp, .int kd13006, .int (nI ks13007), .int (nI kn13008), .int tf13009])), (tby, .inl (G.2.1, 240, .inl fby)), (tsp, .inr (8, [.int 120, .int 1, .ref tspc, .int (nI ksp13016)])), (tspc, .inl (G.2.1, 120, .inl gtsp3017))]) [1, 0, 2, 3] (by decide) rfl
            exact ihP (kP + 1) kd13006 tf13009 gtsp3017 ks13007 kn13008 ksp13016 _ _ _ (by omega) (by first | assumption | exact Or.inl rfl | exact Or.inr rfl | omega) (by first | assumption | exact Or.inl rfl | exact Or.inr rfl | omega) (by first | assumption | exact Or.inl rfl | exact Or.inr rfl | omega) hP hD hS (lv_sub hl [0, 1, 2] rfl)
          · refine lv_if_ne (tgt := 42) hx hb dX10_takesAll_37 (by decide) (fun c9 => absurd (by decide) c9) (fun _ => ?_)
            refine lv_iconst (v := 0) hx hb dX10_takesAll_40 (by decide) ?_
            exact RI (v := 0) hC hP hD hS [0, 1, 2, 3] (kd13006, ks13007, kn13008, tf13009, ksp13010, gtsp3011) rfl rfl (by decide) (⟨Or.inr (rfl), by dsimp only; omega⟩) (by decide +kernel) dX10_takesAll_41
        · refine lv_if_eq (tgt := 54) hx hb dX10_takesAll_25 (by decide) (fun _ => ?_) (fun c9 => absurd (by decide) c9)
          refine lv_iconst (v := 1) hx hb dX10_takesAll_54 (by decide) ?_
          exact RI (v := 1) hC hP hD hS [0, 1, 2, 3] (vkd, vks, vkn, vtf, vksp, vtsp) rfl rfl (by decide) (⟨Or.inl (rfl), by dsimp only; omega⟩) (by decide +kernel) dX10_takesAll_55
    exact keyP 240 0 kd12988 tf12991 gtsp2993 ks12989 kn12990 ksp12992 _ _ _ (by omega) (by first | assumption | exact Or.inl rfl | exact Or.inr rfl | omega) (by first | assumption | exact Or.inl rfl | exact Or.inr rfl | omega) (by first | assumption | exact Or.inl rfl | exact Or.inr rfl | omega) hP hD hS (lv_sub hl [0, 1, 2] rfl)
  · refine lv_if_ne (tgt := 10) hx hb dX10_takesAll_5 (by decide) (fun c9 => absurd (by decide) c9) (fun _ => ?_)
    refine lv_iconst (v := 0) hx hb dX10_takesAll_8 (by decide) ?_
    exact RI (v := 0) hC hP hD hS [0, 1, 2, 3] (kd12988, ks12989, kn12990, tf12991, ksp12992, gtsp2993) rfl rfl (by decide) (⟨Or.inr (rfl), by dsimp only; omega⟩) (by decide +kernel) dX10_takesAll_9
set_option maxHeartbeats 4000000 in
set_option maxRecDepth 100000 in
theorem t_cond3 (l : Launch) (G : GG) (K : OO) (h0 : Nat) (tby : Nat) (kt : Nat) (tln : Nat) (tsp : Nat) (tkd : Int32) (ks : Nat) (kn : Nat) (tf9 : Int32) (fby : Nat → Int32) (tspc : Nat) (ksp : Nat) (ftsp : Nat → Int32) (hkt : kt ≤ 240) (hks : ks ≤ 240) (hkn : kn ≤ 240) (hksp : ksp ≤ 120) : MIo l G K yX10_takesCond cX10_takesCond 3 (some .boolean) 15 0 0 [.ref h0, .int 3] [(h0, .inr (10, [.ref tby, .int (nI kt), .ref tln, .ref tsp, .int tkd, .int (nI ks), .int (nI kn), .int tf9])), (tby, .inl (G.2.1, 240, .inl fby)), (tsp, .inr (8, [.int 120, .int 1, .ref tspc, .int (nI ksp)])), (tspc, .inl (G.2.1, 120, .inl ftsp))] (fun (r : Int32) (u : Int32 × Nat × Nat × Int32 × Nat × (Nat → Int32)) => (r = 1 ∨ r = 0) ∧ (u.2.1 ≤ 240 ∧ u.2.2.1 ≤ 240 ∧ u.2.2.2.2.1 ≤ 120)) (fun u : Int32 × Nat × Nat × Int32 × Nat × (Nat → Int32) => [(h0, .inr (10, [.ref tby, .int (nI kt), .ref tln, .ref tsp, .int u.1, .int (nI u.2.1), .int (nI u.2.2.1), .int u.2.2.2.1])), (tby, .inl (G.2.1, 240, .inl fby)), (tsp, .inr (8, [.int 120, .int 1, .ref tspc, .int (nI u.2.2.2.2.1)])), (tspc, .inl (G.2.1, 120, .inl u.2.2.2.2.2))]) := by
  refine MIo.start (by decide +kernel) (Nat.le_of_ble_eq_true rfl) ?_
  intro p e s m below meth c A ls hC hK hP hD hS hA hl hO
  have hl : lv_has ls 3 [(0, .ref h0), (1, .int 3)] := hl
  obtain ⟨hx, hb, hr, hml, hB, hown, hlocks, hnm⟩ := id hC
  refine lv_aload_n hx hb dX10_takesCond_0 rfl (lv_at hl 0 rfl) ?_
  refine lv_iload_n hx hb dX10_takesCond_1 rfl (lv_at hl 1 rfl) ?_
  refine iVo (wr := []) hO hC hK hl hP hD hS hA (t_all3 l G K h0 tby kt tln tsp tkd ks kn tf9 fby tspc ksp ftsp (by omega) (by omega) (by omega) (by omega)) si_X10_147 [0, 1, 2, 3] [] rfl rfl (by decide) rfl (by decide) (by decide) rfl rfl rfl rfl rfl (Nat.le_of_ble_eq_true rfl) ⟨Nat.le_of_ble_eq_true rfl, Nat.le_of_ble_eq_true rfl⟩ ⟨Nat.le_of_ble_eq_true rfl, Nat.le_of_ble_eq_true rfl⟩ dX10_takesCond_2 (fun r3019 u3020 H locs hr3019 hP hD hS => ?_)
  obtain ⟨kd13021, ks13022, kn13023, tf13024, ksp13025, gtsp3026⟩ := u3020
  try dsimp only at hr3019
  have hP : va_P G.1 vwCl [(h0, .inr (10, [.ref tby, .int (nI kt), .ref tln, .ref tsp, .int kd13021, .int (nI ks13022), .int (nI kn13023), .int tf13024])), (tby, .inl (G.2.1, 240, .inl fby)), (tsp, .inr (8, [.int 120, .int 1, .ref tspc, .int (nI ksp13025)])), (tspc, .inl (G.2.1, 120, .inl gtsp3026))] H := hP
  have hD : va_D A [(h0, .inr (10, [.ref tby, .int (nI kt), .ref tln, .ref tsp, .int kd13021, .int (nI ks13022), .int (nI kn13023), .int tf13024])), (tby, .inl (G.2.1, 240, .inl fby)), (tsp, .inr (8, [.int 120, .int 1, .ref tspc, .int (nI ksp13025)])), (tspc, .inl (G.2.1, 120, .inl gtsp3026))] := hD
  obtain ⟨hr3019, w3027⟩ := hr3019
  rcases hr3019 with rfl | rfl
  · refine lv_if_ne (tgt := 10) hx hb dX10_takesCond_5 (by decide) (fun _ => ?_) (fun c9 => absurd c9 (by decide))
    refine lv_iconst (v := 0) hx hb dX10_takesCond_10 (by decide) ?_
    refine lv_istore_n (lv' := [(2, .int 0), (0, .ref h0), (1, .int 3)]) hx hb dX10_takesCond_11 rfl hl (by decide) rfl (fun ls hl => ?_)
    have keyP : ∀ (nP kP : Nat) (vkd : Int32) (vtf : Int32) (vtsp : Nat → Int32) (vks : Nat) (vkn : Nat) (vksp : Nat) (H : Heap) (locs : List Loc) (ls : Array Slot), kP + nP = 240 → (vks ≤ 240) → (vkn ≤ 240) → (vksp ≤ 120) → va_P G.1 vwCl [(h0, .inr (10, [.ref tby, .int (nI kt), .ref tln, .ref tsp, .int vkd, .int (nI vks), .int (nI vkn), .int vtf])), (tby, .inl (G.2.1, 240, .inl fby)), (tsp, .inr (8, [.int 120, .int 1, .ref tspc, .int (nI vksp)])), (tspc, .inl (G.2.1, 120, .inl vtsp))] H → va_D A [(h0, .inr (10, [.ref tby, .int (nI kt), .ref tln, .ref tsp, .int vkd, .int (nI vks), .int (nI vkn), .int vtf])), (tby, .inl (G.2.1, 240, .inl fby)), (tsp, .inr (8, [.int 120, .int 1, .ref tspc, .int (nI vksp)])), (tspc, .inl (G.2.1, 120, .inl vtsp))] → va_S A s.heap H locs → lv_has ls 3 [(2, .int (nI kP)), (0, .ref h0), (1, .int 3)] → W p l e (RM 15 0 0) s m ([.ref h0, .int 3] : List Value).toArray below meth c H locs 0 0 (MQ below (QI G (fun (r : Int32) (u : Int32 × Nat × Nat × Int32 × Nat × (Nat → Int32)) => (r = 1 ∨ r = 0) ∧ (u.2.1 ≤ 240 ∧ u.2.2.1 ≤ 240 ∧ u.2.2.2.2.1 ≤ 120)) (fun u : Int32 × Nat × Nat × Int32 × Nat × (Nat → Int32) => [(h0, .inr (10, [.ref tby, .int (nI kt), .ref tln, .ref tsp, .int u.1, .int (nI u.2.1), .int (nI u.2.2.1), .int u.2.2.2.1])), (tby, .inl (G.2.1, 240, .inl fby)), (tsp, .inr (8, [.int 120, .int 1, .ref tspc, .int (nI u.2.2.2.2.1)])), (tspc, .inl (G.2.1, 120, .inl u.2.2.2.2.2))]) A) ([.ref h0, .int 3] : List Value).toArray s 0 0 A) (F0 m 12 ls []) := by
      intro nP
      induction nP with
      | zero =>
        intro kP vkd vtf vtsp vks vkn vksp H locs ls hkP hvks hvkn hvksp hP hD hS hl
        obtain rfl : 240 = kP := by omega
        have hl : lv_has ls 3 [(2, .int 240), (0, .ref h0), (1, .int 3)] := hl
        refine lv_iload_n hx hb dX10_takesCond_12 rfl (lv_at hl 0 rfl) ?_
        refine lv_sipush (v := 240) hx hb dX10_takesCond_13 (by decide) ?_
        refine lv_icmp_ge (tgt := 54) hx hb dX10_takesCond_16 (by decide) (fun _ => ?_) (fun c9 => absurd (by decide) c9)
        refine lv_iconst (v := 1) hx hb dX10_takesCond_54 (by decide) ?_
        exact RI (v := 1) hC hP hD hS [0, 1, 2, 3] (vkd, vks, vkn, vtf, vksp, vtsp) rfl rfl (by decide) (⟨Or.inl (rfl), by dsimp only; omega⟩) (by decide +kernel) dX10_takesCond_55
      | succ nP ihP =>
        intro kP vkd vtf vtsp vks vkn vksp H locs ls hkP hvks hvkn hvksp hP hD hS hl
        refine lv_iload_n hx hb dX10_takesCond_12 rfl (lv_at hl 0 rfl) ?_
        refine lv_sipush (v := 240) hx hb dX10_takesCond_13 (by decide) ?_
        refine lv_icmp_ge (tgt := 54) hx hb dX10_takesCond_16 (by decide) (fun c9 => absurd c9 (nI_ge (a := kP) (b := 240) (by omega) (by omega))) (fun _ => ?_)
        refine lv_aload_n hx hb dX10_takesCond_19 rfl (lv_at hl 1 rfl) ?_
        refine va_ldcS (index := 150) (tx := "o\x72") hx hb hown (hO.2.1 8 (by decide)) dX10_takesCond_20 ?_
        refine pVo hO hS hC hK hl hP hD (t_isName l G K 8 h0 tby kt tln tsp vkd vks vkn vtf fby (by omega) (by omega) (by omega) ((by decide))) si_X10_102 [0, 1] rfl rfl (by decide) rfl rfl rfl rfl rfl (Nat.le_of_ble_eq_true rfl) ⟨Nat.le_of_ble_eq_true rfl, Nat.le_of_ble_eq_true rfl⟩ ⟨by first | exact Nat.le_of_ble_eq_true rfl | exact Nat.zero_le _, by first | exact Nat.le_of_ble_eq_true rfl | exact Nat.zero_le _⟩ dX10_takesCond_22 (fun r3029 hr3029 => ?_)
        rcases hr3029 with rfl | rfl
        · refine lv_if_eq (tgt := 54) hx hb dX10_takesCond_25 (by decide) (fun c9 => absurd c9 (by decide)) (fun _ => ?_)
          refine lv_aload_n hx hb dX10_takesCond_28 rfl (lv_at hl 1 rfl) ?_
          refine vV (wr := [(tsp, .inr (8, [.int 120, .int 1, .ref tspc, .int (nI vksp)])), (tspc, .inl (G.2.1, 120, .inl vtsp))]) hC hK hl hP hD hS hA (t_advance l G h0 tby kt tln tsp vkd vks vkn vtf fby (by omega) (by omega) (by omega)) si_X10_47 [0, 1] [2, 3] rfl rfl (by decide) rfl (by decide) (by decide) rfl rfl rfl rfl rfl (Nat.le_of_ble_eq_true rfl) ⟨Nat.le_of_ble_eq_true rfl, Nat.le_of_ble_eq_true rfl⟩ ⟨Nat.le_of_ble_eq_true rfl, Nat.le_of_ble_eq_true rfl⟩ dX10_takesCond_29 (fun u3032 H locs hr3031 hP hD hS => ?_)
          obtain ⟨kd13033, ks13034, kn13035⟩ := u3032
          try dsimp only at hr3031
          have hP : va_P G.1 vwCl [(tsp, .inr (8, [.int 120, .int 1, .ref tspc, .int (nI vksp)])), (tspc, .inl (G.2.1, 120, .inl vtsp)), (h0, .inr (10, [.ref tby, .int (nI kt), .ref tln, .ref tsp, .int kd13033, .int (nI ks13034), .int (nI kn13035), .int vtf])), (tby, .inl (G.2.1, 240, .inl fby))] H := hP
          have hD : va_D A [(tsp, .inr (8, [.int 120, .int 1, .ref tspc, .int (nI vksp)])), (tspc, .inl (G.2.1, 120, .inl vtsp)), (h0, .inr (10, [.ref tby, .int (nI kt), .ref tln, .ref tsp, .int kd13033, .int (nI ks13034), .int (nI kn13035), .int vtf])), (tby, .inl (G.2.1, 240, .inl fby))] := hD
          have w3036 := hr3031
          refine lv_aload_n hx hb dX10_takesCond_32 rfl (lv_at hl 1 rfl) ?_
          refine lv_iload_n hx hb dX10_takesCond_33 rfl (lv_at hl 2 rfl) ?_
          refine iVo (wr := []) hO hC hK hl hP hD hS hA (t_all3 l G K h0 tby kt tln tsp kd13033 ks13034 kn13035 vtf fby tspc vksp vtsp (by omega) (by omega) (by omega) (by omega)) si_X10_147 [2, 3, 0, 1] [] rfl rfl (by decide) rfl (by decide) (by decide) rfl rfl rfl rfl rfl (Nat.le_of_ble_eq_true rfl) ⟨Nat.le_of_ble_eq_true rfl, Nat.le_of_ble_eq_true rfl⟩ ⟨Nat.le_of_ble_eq_true rfl, Nat.le_of_ble_eq_true rfl⟩ dX10_takesCond_34 (fun r3037 u3038 H locs hr3037 hP hD hS => ?_)
          obtain ⟨kd13039, ks13040, kn13041, tf13042, ksp13043, gtsp3044⟩ := u3038
          try dsimp only at hr3037
          have hP : va_P G.1 vwCl [(h0, .inr (10, [.ref tby, .int (nI kt), .ref tln, .ref tsp, .int kd13039, .int (nI ks13040), .int (nI kn13041), .int tf13042])), (tby, .inl (G.2.1, 240, .inl fby)), (tsp, .inr (8, [.int 120, .int 1, .ref tspc, .int (nI ksp13043)])), (tspc, .inl (G.2.1, 120, .inl gtsp3044))] H := hP
          have hD : va_D A [(h0, .inr (10, [.ref tby, .int (nI kt), .ref tln, .ref tsp, .int kd13039, .int (nI ks13040), .int (nI kn13041), .int tf13042])), (tby, .inl (G.2.1, 240, .inl fby)), (tsp, .inr (8, [.int 120, .int 1, .ref tspc, .int (nI ksp13043)])), (tspc, .inl (G.2.1, 120, .inl gtsp3044))] := hD
          obtain ⟨hr3037, w3045⟩ := hr3037
          rcases hr3037 with rfl | rfl
          · refine lv_if_ne (tgt := 42) hx hb dX10_takesCond_37 (by decide) (fun _ => ?_) (fun c9 => absurd c9 (by decide))
            refine lv_aload_n hx hb dX10_takesCond_42 rfl (lv_at hl 1 rfl) ?_
            refine lv_bipush (v := (-3)) hx hb dX10_takesCond_43 (by decide) ?_
            refine vV (wr := [(tby, .inl (G.2.1, 240, .inl fby))]) hC hK hl hP hD hS hA (t_addStep l G h0 (-3) tby kt tln tsp kd13039 ks13040 kn13041 tf13042 tspc ksp13043 gtsp3044 (by omega)) si_X10_152 [0, 2, 3] [1] rfl rfl (by decide) rfl (by decide) (by decide) rfl rfl rfl rfl rfl (Nat.le_of_ble_eq_true rfl) ⟨Nat.le_of_ble_eq_true rfl, Nat.le_of_ble_eq_true rfl⟩ ⟨Nat.le_of_ble_eq_true rfl, Nat.le_of_ble_eq_true rfl⟩ dX10_takesCond_45 (fun u3048 H locs hr3047 hP hD hS => ?_)
            obtain ⟨ksp13049, gtsp3050⟩ := u3048
            try dsimp only at hr3047
            have hP : va_P G.1 vwCl [(tby, .inl (G.2.1, 240, .inl fby)), (h0, .inr (10, [.ref tby, .int (nI kt), .ref tln, .ref tsp, .int kd13039, .int (nI ks13040), .int (nI kn13041), .int tf13042])), (tsp, .inr (8, [.int 120, .int 1, .ref tspc, .int (nI ksp13049)])), (tspc, .inl (G.2.1, 120, .inl gtsp3050))] H := hP
            have hD : va_D A [(tby, .inl (G.2.1, 240, .inl fby)), (h0, .inr (10, [.ref tby, .int (nI kt), .ref tln, .ref tsp, .int kd13039, .int (nI ks13040), .int (nI kn13041), .int tf13042])), (tsp, .inr (8, [.int 120, .int 1, .ref tspc, .int (nI ksp13049)])), (tspc, .inl (G.2.1, 120, .inl gtsp3050))] := hD
            have w3051 := hr3047
            refine lv_iinc (v := nI (kP + 1)) (lv' := [(2, .int (nI (kP + 1))), (0, .ref h0), (1, .int 3)]) hx hb dX10_takesCond_48 hl (k := 0) rfl (nI_1 _) (by decide) rfl (fun ls hl => ?_)
            refine lv_goto (tgt := 12) hx hb dX10_takesCond_51 (by decide) ?_
            have hP := hP.sub (ws' := [(h0, .inr (10, [.ref tby, .int (nI kt), .ref tln, .ref tsp, .int kd13039, .int (nI ks13040), .int (nI kn13041), .int tf13042])), (tby, .inl (G.2.1, 240, .inl fby)), (tsp, .inr (8, [.int 120, .int 1, .ref tspc, .int (nI ksp13049)])), (tspc, .inl (G.2.1, 120, .inl gtsp3050))]) [1, 0, 2, 3] rfl
            have hD := hD.sub (ws' := [(h0, .inr (10, [.ref tby, .int (nI kt), .ref tln, .ref tsp, .int kd13039, .int (nI ks13040), .int (nI kn13041), .int tf13042])), (tby, .inl (G.2.1, 240, .inl fby)), (tsp, .inr (8, [.int 120, .int 1, .ref tspc, .int (nI ksp13049)])), (tspc, .inl (G.2.1, 120, .inl gtsp3050))]) [1, 0, 2, 3] (by decide) rfl
            exact ihP (kP + 1) kd13039 tf13042 gtsp3050 ks13040 kn13041 ksp13049 _ _ _ (by omega) (by first | assumption | exact Or.inl rfl | exact Or.inr rfl | omega) (by first | assumption | exact Or.inl rfl | exact Or.inr rfl | omega) (by first | assumption | exact Or.inl rfl | exact Or.inr rfl | omega) hP hD hS (lv_sub hl [0, 1, 2] rfl)
          · refine lv_if_ne (tgt := 42) hx hb dX10_takesCond_37 (by decide) (fun c9 => absurd (by decide) c9) (fun _ => ?_)
            refine lv_iconst (v := 0) hx hb dX10_takesCond_40 (by decide) ?_
            exact RI (v := 0) hC hP hD hS [0, 1, 2, 3] (kd13039, ks13040, kn13041, tf13042, ksp13043, gtsp3044) rfl rfl (by decide) (⟨Or.inr (rfl), by dsimp only; omega⟩) (by decide +kernel) dX10_takesCond_41
        · refine lv_if_eq (tgt := 54) hx hb dX10_takesCond_25 (by decide) (fun _ => ?_) (fun c9 => absurd (by decide) c9)
          refine lv_iconst (v := 1) hx hb dX10_takesCond_54 (by decide) ?_
          exact RI (v := 1) hC hP hD hS [0, 1, 2, 3] (vkd, vks, vkn, vtf, vksp, vtsp) rfl rfl (by decide) (⟨Or.inl (rfl), by dsimp only; omega⟩) (by decide +kernel) dX10_takesCond_55
    exact keyP 240 0 kd13021 tf13024 gtsp3026 ks13022 kn13023 ksp13025 _ _ _ (by omega) (by first | assumption | exact Or.inl rfl | exact Or.inr rfl | omega) (by first | assumption | exact Or.inl rfl | exact Or.inr rfl | omega) (by first | assumption | exact Or.inl rfl | exact Or.inr rfl | omega) hP hD hS (lv_sub hl [0, 1, 2] rfl)
  · refine lv_if_ne (tgt := 10) hx hb dX10_takesCond_5 (by decide) (fun c9 => absurd (by decide) c9) (fun _ => ?_)
    refine lv_iconst (v := 0) hx hb dX10_takesCond_8 (by decide) ?_
    exact RI (v := 0) hC hP hD hS [0, 1, 2, 3] (kd13021, ks13022, kn13023, tf13024, ksp13025, gtsp3026) rfl rfl (by decide) (⟨Or.inr (rfl), by dsimp only; omega⟩) (by decide +kernel) dX10_takesCond_9
set_option maxHeartbeats 4000000 in
set_option maxRecDepth 100000 in
theorem t_one2 (l : Launch) (G : GG) (K : OO) (h0 : Nat) (tby : Nat) (kt : Nat) (tln : Nat) (tsp : Nat) (tkd : Int32) (ks : Nat) (kn : Nat) (tf9 : Int32) (fby : Nat → Int32) (tspc : Nat) (ksp : Nat) (ftsp : Nat → Int32) (hkt : kt ≤ 240) (hks : ks ≤ 240) (hkn : kn ≤ 240) (hksp : ksp ≤ 120) : MIo l G K yX10_takesOne cX10_takesOne 4 (some .boolean) 17 0 0 [.ref h0, .int 2] [(h0, .inr (10, [.ref tby, .int (nI kt), .ref tln, .ref tsp, .int tkd, .int (nI ks), .int (nI kn), .int tf9])), (tby, .inl (G.2.1, 240, .inl fby)), (tsp, .inr (8, [.int 120, .int 1, .ref tspc, .int (nI ksp)])), (tspc, .inl (G.2.1, 120, .inl ftsp))] (fun (r : Int32) (u : Int32 × Nat × Nat × Int32 × Nat × (Nat → Int32)) => (r = 1 ∨ r = 0) ∧ (u.2.1 ≤ 240 ∧ u.2.2.1 ≤ 240 ∧ u.2.2.2.2.1 ≤ 120)) (fun u : Int32 × Nat × Nat × Int32 × Nat × (Nat → Int32) => [(h0, .inr (10, [.ref tby, .int (nI kt), .ref tln, .ref tsp, .int u.1, .int (nI u.2.1), .int (nI u.2.2.1), .int u.2.2.2.1])), (tby, .inl (G.2.1, 240, .inl fby)), (tsp, .inr (8, [.int 120, .int 1, .ref tspc, .int (nI u.2.2.2.2.1)])), (tspc, .inl (G.2.1, 120, .inl u.2.2.2.2.2))]) := by
  refine MIo.start (by decide +kernel) (Nat.le_of_ble_eq_true rfl) ?_
  intro p e s m below meth c A ls hC hK hP hD hS hA hl hO
  have hl : lv_has ls 4 [(0, .ref h0), (1, .int 2)] := hl
  obtain ⟨hx, hb, hr, hml, hB, hown, hlocks, hnm⟩ := id hC
  refine lv_iconst (v := 0) hx hb dX10_takesOne_0 (by decide) ?_
  refine lv_istore_n (lv' := [(2, .int 0), (0, .ref h0), (1, .int 2)]) hx hb dX10_takesOne_1 rfl hl (by decide) rfl (fun ls hl => ?_)
  refine lv_iconst (v := 0) hx hb dX10_takesOne_2 (by decide) ?_
  refine lv_istore_n (lv' := [(3, .int 0), (2, .int 0), (0, .ref h0), (1, .int 2)]) hx hb dX10_takesOne_3 rfl hl (by decide) rfl (fun ls hl => ?_)
  have keyP : ∀ (nP kP : Nat) (tu : Int32) (vkd : Int32) (vtf : Int32) (vks : Nat) (vkn : Nat) (H : Heap) (locs : List Loc) (ls : Array Slot), kP + nP = 240 → (vks ≤ 240) → (vkn ≤ 240) → va_P G.1 vwCl [(h0, .inr (10, [.ref tby, .int (nI kt), .ref tln, .ref tsp, .int vkd, .int (nI vks), .int (nI vkn), .int vtf])), (tby, .inl (G.2.1, 240, .inl fby)), (tsp, .inr (8, [.int 120, .int 1, .ref tspc, .int (nI ksp)])), (tspc, .inl (G.2.1, 120, .inl ftsp))] H → va_D A [(h0, .inr (10, [.ref tby, .int (nI kt), .ref tln, .ref tsp, .int vkd, .int (nI vks), .int (nI vkn), .int vtf])), (tby, .inl (G.2.1, 240, .inl fby)), (tsp, .inr (8, [.int 120, .int 1, .ref tspc, .int (nI ksp)])), (tspc, .inl (G.2.1, 120, .inl ftsp))] → va_S A s.heap H locs → lv_has ls 4 [(3, .int (nI kP)), (2, .int tu), (0, .ref h0), (1, .int 2)] → W p l e (RM 17 0 0) s m ([.ref h0, .int 2] : List Value).toArray below meth c H locs 0 0 (MQ below (QI G (fun (r : Int32) (u : Int32 × Nat × Nat × Int32 × Nat × (Nat → Int32)) => (r = 1 ∨ r = 0) ∧ (u.2.1 ≤ 240 ∧ u.2.2.1 ≤ 240 ∧ u.2.2.2.2.1 ≤ 120)) (fun u : Int32 × Nat × Nat × Int32 × Nat × (Nat → Int32) => [(h0, .inr (10, [.ref tby, .int (nI kt), .ref tln, .ref tsp, .int u.1, .int (nI u.2.1), .int (nI u.2.2.1), .int u.2.2.2.1])), (tby, .inl (G.2.1, 240, .inl fby)), (tsp, .inr (8, [.int 120, .int 1, .ref tspc, .int (nI u.2.2.2.2.1)])), (tspc, .inl (G.2.1, 120, .inl u.2.2.2.2.2))]) A) ([.ref h0, .int 2] : List Value).toArray s 0 0 A) (F0 m 4 ls []) := by
    intro nP
    induction nP with
    | zero =>
      intro kP tu vkd vtf vks vkn H locs ls hkP hvks hvkn hP hD hS hl
      obtain rfl : 240 = kP := by omega
      have hl : lv_has ls 4 [(3, .int 240), (2, .int tu), (0, .ref h0), (1, .int 2)] := hl
      refine lv_iload_n hx hb dX10_takesOne_4 rfl (lv_at hl 0 rfl) ?_
      refine lv_sipush (v := 240) hx hb dX10_takesOne_5 (by decide) ?_
      refine lv_icmp_ge (tgt := 40) hx hb dX10_takesOne_8 (by decide) (fun _ => ?_) (fun c9 => absurd (by decide) c9)
      refine lv_aload_n hx hb dX10_takesOne_40 rfl (lv_at hl 2 rfl) ?_
      refine gf_X10_31 hC rfl hK hP 0 rfl rfl dX10_takesOne_41 ?_
      refine lv_bipush (v := 40) hx hb dX10_takesOne_44 (by decide) ?_
      refine lv_icmp_eq (tgt := 58) hx hb dX10_takesOne_46 (by decide) (fun c_46_3052 => ?_) (fun c_46_3052 => ?_)
      · refine lv_iload_n hx hb dX10_takesOne_58 rfl (lv_at hl 3 rfl) ?_
        refine lv_iconst (v := 4) hx hb dX10_takesOne_59 (by decide) ?_
        refine lv_icmp_lt (tgt := 68) hx hb dX10_takesOne_60 (by decide) (fun _ => ?_) (fun c9 => absurd (by decide) c9)
        refine lv_aload_n hx hb dX10_takesOne_68 rfl (lv_at hl 2 rfl) ?_
        refine vV (wr := [(tsp, .inr (8, [.int 120, .int 1, .ref tspc, .int (nI ksp)])), (tspc, .inl (G.2.1, 120, .inl ftsp))]) hC hK hl hP hD hS hA (t_advance l G h0 tby kt tln tsp vkd vks vkn vtf fby (by omega) (by omega) (by omega)) si_X10_47 [0, 1] [2, 3] rfl rfl (by decide) rfl (by decide) (by decide) rfl rfl rfl rfl rfl (Nat.le_of_ble_eq_true rfl) ⟨Nat.le_of_ble_eq_true rfl, Nat.le_of_ble_eq_true rfl⟩ ⟨Nat.le_of_ble_eq_true rfl, Nat.le_of_ble_eq_true rfl⟩ dX10_takesOne_69 (fun u3054 H locs hr3053 hP hD hS => ?_)
        obtain ⟨kd13055, ks13056, kn13057⟩ := u3054
        try dsimp only at hr3053
        have hP : va_P G.1 vwCl [(tsp, .inr (8, [.int 120, .int 1, .ref tspc, .int (nI ksp)])), (tspc, .inl (G.2.1, 120, .inl ftsp)), (h0, .inr (10, [.ref tby, .int (nI kt), .ref tln, .ref tsp, .int kd13055, .int (nI ks13056), .int (nI kn13057), .int vtf])), (tby, .inl (G.2.1, 240, .inl fby))] H := hP
        have hD : va_D A [(tsp, .inr (8, [.int 120, .int 1, .ref tspc, .int (nI ksp)])), (tspc, .inl (G.2.1, 120, .inl ftsp)), (h0, .inr (10, [.ref tby, .int (nI kt), .ref tln, .ref tsp, .int kd13055, .int (nI ks13056), .int (nI kn13057), .int vtf])), (tby, .inl (G.2.1, 240, .inl fby))] := hD
        have w3058 := hr3053
        refine lv_aload_n hx hb dX10_takesOne_72 rfl (lv_at hl 2 rfl) ?_
        refine lv_iload_n hx hb dX10_takesOne_73 rfl (lv_at hl 3 rfl) ?_
        refine lv_iconst (v := 1) hx hb dX10_takesOne_74 (by decide) ?_
        refine lv_iadd hx hb dX10_takesOne_75 ?_
        refine eqi (x1 := 3) (by decide) ?_
        refine iVo (wr := []) hO hC hK hl hP hD hS hA (t_cond3 l G K h0 tby kt tln tsp kd13055 ks13056 kn13057 vtf fby tspc ksp ftsp (by omega) (by omega) (by omega) (by omega)) si_X10_121 [2, 3, 0, 1] [] rfl rfl (by decide) rfl (by decide) (by decide) rfl rfl rfl rfl rfl (Nat.le_of_ble_eq_true rfl) ⟨Nat.le_of_ble_eq_true rfl, Nat.le_of_ble_eq_true rfl⟩ ⟨Nat.le_of_ble_eq_true rfl, Nat.le_of_ble_eq_true rfl⟩ dX10_takesOne_76 (fun r3059 u3060 H locs hr3059 hP hD hS => ?_)
        obtain ⟨kd13061, ks13062, kn13063, tf13064, ksp13065, gtsp3066⟩ := u3060
        try dsimp only at hr3059
        have hP : va_P G.1 vwCl [(h0, .inr (10, [.ref tby, .int (nI kt), .ref tln, .ref tsp, .int kd13061, .int (nI ks13062), .int (nI kn13063), .int tf13064])), (tby, .inl (G.2.1, 240, .inl fby)), (tsp, .inr (8, [.int 120, .int 1, .ref tspc, .int (nI ksp13065)])), (tspc, .inl (G.2.1, 120, .inl gtsp3066))] H := hP
        have hD : va_D A [(h0, .inr (10, [.ref tby, .int (nI kt), .ref tln, .ref tsp, .int kd13061, .int (nI ks13062), .int (nI kn13063), .int tf13064])), (tby, .inl (G.2.1, 240, .inl fby)), (tsp, .inr (8, [.int 120, .int 1, .ref tspc, .int (nI ksp13065)])), (tspc, .inl (G.2.1, 120, .inl gtsp3066))] := hD
        obtain ⟨hr3059, w3067⟩ := hr3059
        rcases hr3059 with rfl | rfl
        · refine lv_if_eq (tgt := 91) hx hb dX10_takesOne_79 (by decide) (fun c9 => absurd c9 (by decide)) (fun _ => ?_)
          refine lv_aload_n hx hb dX10_takesOne_82 rfl (lv_at hl 2 rfl) ?_
          refine lv_bipush (v := 41) hx hb dX10_takesOne_83 (by decide) ?_
          refine iV (wr := [(tsp, .inr (8, [.int 120, .int 1, .ref tspc, .int (nI ksp13065)])), (tspc, .inl (G.2.1, 120, .inl gtsp3066))]) hC hK hl hP hD hS hA (t_takesByte l G h0 41 tby kt tln tsp kd13061 ks13062 kn13063 tf13064 fby (by omega) (by omega) (by omega)) si_X10_124 [0, 1] [2, 3] rfl rfl (by decide) rfl (by decide) (by decide) rfl rfl rfl rfl rfl (Nat.le_of_ble_eq_true rfl) ⟨Nat.le_of_ble_eq_true rfl, Nat.le_of_ble_eq_true rfl⟩ ⟨Nat.le_of_ble_eq_true rfl, Nat.le_of_ble_eq_true rfl⟩ dX10_takesOne_85 (fun r3069 u3070 H locs hr3069 hP hD hS => ?_)
          obtain ⟨kd13071, ks13072, kn13073, tf13074⟩ := u3070
          try dsimp only at hr3069
          have hP : va_P G.1 vwCl [(tsp, .inr (8, [.int 120, .int 1, .ref tspc, .int (nI ksp13065)])), (tspc, .inl (G.2.1, 120, .inl gtsp3066)), (h0, .inr (10, [.ref tby, .int (nI kt), .ref tln, .ref tsp, .int kd13071, .int (nI ks13072), .int (nI kn13073), .int tf13074])), (tby, .inl (G.2.1, 240, .inl fby))] H := hP
          have hD : va_D A [(tsp, .inr (8, [.int 120, .int 1, .ref tspc, .int (nI ksp13065)])), (tspc, .inl (G.2.1, 120, .inl gtsp3066)), (h0, .inr (10, [.ref tby, .int (nI kt), .ref tln, .ref tsp, .int kd13071, .int (nI ks13072), .int (nI kn13073), .int tf13074])), (tby, .inl (G.2.1, 240, .inl fby))] := hD
          obtain ⟨hr3069, w3075⟩ := hr3069
          rcases hr3069 with rfl | rfl
          · refine lv_if_ne (tgt := 93) hx hb dX10_takesOne_88 (by decide) (fun _ => ?_) (fun c9 => absurd c9 (by decide))
            refine lv_iload_n hx hb dX10_takesOne_93 rfl (lv_at hl 1 rfl) ?_
            refine lv_if_eq (tgt := 102) hx hb dX10_takesOne_94 (by decide) (fun c_94_3077 => ?_) (fun c_94_3077 => ?_)
            · refine lv_iconst (v := 1) hx hb dX10_takesOne_102 (by decide) ?_
              exact RI (v := 1) hC hP hD hS [2, 3, 0, 1] (kd13071, ks13072, kn13073, tf13074, ksp13065, gtsp3066) rfl rfl (by decide) (⟨Or.inl (rfl), by dsimp only; omega⟩) (by decide +kernel) dX10_takesOne_103
            · refine lv_aload_n hx hb dX10_takesOne_97 rfl (lv_at hl 2 rfl) ?_
              refine lv_iconst (v := (-1)) hx hb dX10_takesOne_98 (by decide) ?_
              refine vV (wr := [(tby, .inl (G.2.1, 240, .inl fby))]) hC hK hl hP hD hS hA (t_addStep l G h0 (-1) tby kt tln tsp kd13071 ks13072 kn13073 tf13074 tspc ksp13065 gtsp3066 (by omega)) si_X10_152 [2, 0, 1] [3] rfl rfl (by decide) rfl (by decide) (by decide) rfl rfl rfl rfl rfl (Nat.le_of_ble_eq_true rfl) ⟨Nat.le_of_ble_eq_true rfl, Nat.le_of_ble_eq_true rfl⟩ ⟨Nat.le_of_ble_eq_true rfl, Nat.le_of_ble_eq_true rfl⟩ dX10_takesOne_99 (fun u3079 H locs hr3078 hP hD hS => ?_)
              obtain ⟨ksp13080, gtsp3081⟩ := u3079
              try dsimp only at hr3078
              have hP : va_P G.1 vwCl [(tby, .inl (G.2.1, 240, .inl fby)), (h0, .inr (10, [.ref tby, .int (nI kt), .ref tln, .ref tsp, .int kd13071, .int (nI ks13072), .int (nI kn13073), .int tf13074])), (tsp, .inr (8, [.int 120, .int 1, .ref tspc, .int (nI ksp13080)])), (tspc, .inl (G.2.1, 120, .inl gtsp3081))] H := hP
              have hD : va_D A [(tby, .inl (G.2.1, 240, .inl fby)), (h0, .inr (10, [.ref tby, .int (nI kt), .ref tln, .ref tsp, .int kd13071, .int (nI ks13072), .int (nI kn13073), .int tf13074])), (tsp, .inr (8, [.int 120, .int 1, .ref tspc, .int (nI ksp13080)])), (tspc, .inl (G.2.1, 120, .inl gtsp3081))] := hD
              have w3082 := hr3078
              refine lv_iconst (v := 1) hx hb dX10_takesOne_102 (by decide) ?_
              exact RI (v := 1) hC hP hD hS [1, 0, 2, 3] (kd13071, ks13072, kn13073, tf13074, ksp13080, gtsp3081) rfl rfl (by decide) (⟨Or.inl (rfl), by dsimp only; omega⟩) (by decide +kernel) dX10_takesOne_103
          · refine lv_if_ne (tgt := 93) hx hb dX10_takesOne_88 (by decide) (fun c9 => absurd (by decide) c9) (fun _ => ?_)
            refine lv_iconst (v := 0) hx hb dX10_takesOne_91 (by decide) ?_
            exact RI (v := 0) hC hP hD hS [2, 3, 0, 1] (kd13071, ks13072, kn13073, tf13074, ksp13065, gtsp3066) rfl rfl (by decide) (⟨Or.inr (rfl), by dsimp only; omega⟩) (by decide +kernel) dX10_takesOne_92
        · refine lv_if_eq (tgt := 91) hx hb dX10_takesOne_79 (by decide) (fun _ => ?_) (fun c9 => absurd (by decide) c9)
          refine lv_iconst (v := 0) hx hb dX10_takesOne_91 (by decide) ?_
          exact RI (v := 0) hC hP hD hS [0, 1, 2, 3] (kd13061, ks13062, kn13063, tf13064, ksp13065, gtsp3066) rfl rfl (by decide) (⟨Or.inr (rfl), by dsimp only; omega⟩) (by decide +kernel) dX10_takesOne_92
      · refine lv_aload_n hx hb dX10_takesOne_49 rfl (lv_at hl 2 rfl) ?_
        refine iVo (wr := []) hO hC hK hl hP hD hS hA (t_takesComparison l G K h0 tby kt tln tsp vkd vks vkn vtf fby tspc ksp ftsp (by omega) (by omega) (by omega) (by omega)) si_X10_162 [0, 1, 2, 3] [] rfl rfl (by decide) rfl (by decide) (by decide) rfl rfl rfl rfl rfl (Nat.le_of_ble_eq_true rfl) ⟨Nat.le_of_ble_eq_true rfl, Nat.le_of_ble_eq_true rfl⟩ ⟨Nat.le_of_ble_eq_true rfl, Nat.le_of_ble_eq_true rfl⟩ dX10_takesOne_50 (fun r3083 u3084 H locs hr3083 hP hD hS => ?_)
        obtain ⟨kd13085, ks13086, kn13087, tf13088, ksp13089, gtsp3090⟩ := u3084
        try dsimp only at hr3083
        have hP : va_P G.1 vwCl [(h0, .inr (10, [.ref tby, .int (nI kt), .ref tln, .ref tsp, .int kd13085, .int (nI ks13086), .int (nI kn13087), .int tf13088])), (tby, .inl (G.2.1, 240, .inl fby)), (tsp, .inr (8, [.int 120, .int 1, .ref tspc, .int (nI ksp13089)])), (tspc, .inl (G.2.1, 120, .inl gtsp3090))] H := hP
        have hD : va_D A [(h0, .inr (10, [.ref tby, .int (nI kt), .ref tln, .ref tsp, .int kd13085, .int (nI ks13086), .int (nI kn13087), .int tf13088])), (tby, .inl (G.2.1, 240, .inl fby)), (tsp, .inr (8, [.int 120, .int 1, .ref tspc, .int (nI ksp13089)])), (tspc, .inl (G.2.1, 120, .inl gtsp3090))] := hD
        obtain ⟨hr3083, w3091⟩ := hr3083
        rcases hr3083 with rfl | rfl
        · refine lv_if_ne (tgt := 93) hx hb dX10_takesOne_53 (by decide) (fun _ => ?_) (fun c9 => absurd c9 (by decide))
          refine lv_iload_n hx hb dX10_takesOne_93 rfl (lv_at hl 1 rfl) ?_
          refine lv_if_eq (tgt := 102) hx hb dX10_takesOne_94 (by decide) (fun c_94_3093 => ?_) (fun c_94_3093 => ?_)
          · refine lv_iconst (v := 1) hx hb dX10_takesOne_102 (by decide) ?_
            exact RI (v := 1) hC hP hD hS [0, 1, 2, 3] (kd13085, ks13086, kn13087, tf13088, ksp13089, gtsp3090) rfl rfl (by decide) (⟨Or.inl (rfl), by dsimp only; omega⟩) (by decide +kernel) dX10_takesOne_103
          · refine lv_aload_n hx hb dX10_takesOne_97 rfl (lv_at hl 2 rfl) ?_
            refine lv_iconst (v := (-1)) hx hb dX10_takesOne_98 (by decide) ?_
            refine vV (wr := [(tby, .inl (G.2.1, 240, .inl fby))]) hC hK hl hP hD hS hA (t_addStep l G h0 (-1) tby kt tln tsp kd13085 ks13086 kn13087 tf13088 tspc ksp13089 gtsp3090 (by omega)) si_X10_152 [0, 2, 3] [1] rfl rfl (by decide) rfl (by decide) (by decide) rfl rfl rfl rfl rfl (Nat.le_of_ble_eq_true rfl) ⟨Nat.le_of_ble_eq_true rfl, Nat.le_of_ble_eq_true rfl⟩ ⟨Nat.le_of_ble_eq_true rfl, Nat.le_of_ble_eq_true rfl⟩ dX10_takesOne_99 (fun u3095 H locs hr3094 hP hD hS => ?_)
            obtain ⟨ksp13096, gtsp3097⟩ := u3095
            try dsimp only at hr3094
            have hP : va_P G.1 vwCl [(tby, .inl (G.2.1, 240, .inl fby)), (h0, .inr (10, [.ref tby, .int (nI kt), .ref tln, .ref tsp, .int kd13085, .int (nI ks13086), .int (nI kn13087), .int tf13088])), (tsp, .inr (8, [.int 120, .int 1, .ref tspc, .int (nI ksp13096)])), (tspc, .inl (G.2.1, 120, .inl gtsp3097))] H := hP
            have hD : va_D A [(tby, .inl (G.2.1, 240, .inl fby)), (h0, .inr (10, [.ref tby, .int (nI kt), .ref tln, .ref tsp, .int kd13085, .int (nI ks13086), .int (nI kn13087), .int tf13088])), (tsp, .inr (8, [.int 120, .int 1, .ref tspc, .int (nI ksp13096)])), (tspc, .inl (G.2.1, 120, .inl gtsp3097))] := hD
            have w3098 := hr3094
            refine lv_iconst (v := 1) hx hb dX10_takesOne_102 (by decide) ?_
            exact RI (v := 1) hC hP hD hS [1, 0, 2, 3] (kd13085, ks13086, kn13087, tf13088, ksp13096, gtsp3097) rfl rfl (by decide) (⟨Or.inl (rfl), by dsimp only; omega⟩) (by decide +kernel) dX10_takesOne_103
        · refine lv_if_ne (tgt := 93) hx hb dX10_takesOne_53 (by decide) (fun c9 => absurd (by decide) c9) (fun _ => ?_)
          refine lv_iconst (v := 0) hx hb dX10_takesOne_56 (by decide) ?_
          exact RI (v := 0) hC hP hD hS [0, 1, 2, 3] (kd13085, ks13086, kn13087, tf13088, ksp13089, gtsp3090) rfl rfl (by decide) (⟨Or.inr (rfl), by dsimp only; omega⟩) (by decide +kernel) dX10_takesOne_57
    | succ nP ihP =>
      intro kP tu vkd vtf vks vkn H locs ls hkP hvks hvkn hP hD hS hl
      refine lv_iload_n hx hb dX10_takesOne_4 rfl (lv_at hl 0 rfl) ?_
      refine lv_sipush (v := 240) hx hb dX10_takesOne_5 (by decide) ?_
      refine lv_icmp_ge (tgt := 40) hx hb dX10_takesOne_8 (by decide) (fun c9 => absurd c9 (nI_ge (a := kP) (b := 240) (by omega) (by omega))) (fun _ => ?_)
      refine lv_aload_n hx hb dX10_takesOne_11 rfl (lv_at hl 2 rfl) ?_
      refine va_ldcS (index := 160) (tx := "not") hx hb hown (hO.2.1 10 (by decide)) dX10_takesOne_12 ?_
      refine pVo hO hS hC hK hl hP hD (t_isName l G K 10 h0 tby kt tln tsp vkd vks vkn vtf fby (by omega) (by omega) (by omega) ((by decide))) si_X10_102 [0, 1] rfl rfl (by decide) rfl rfl rfl rfl rfl (Nat.le_of_ble_eq_true rfl) ⟨Nat.le_of_ble_eq_true rfl, Nat.le_of_ble_eq_true rfl⟩ ⟨by first | exact Nat.le_of_ble_eq_true rfl | exact Nat.zero_le _, by first | exact Nat.le_of_ble_eq_true rfl | exact Nat.zero_le _⟩ dX10_takesOne_14 (fun r3099 hr3099 => ?_)
      rcases hr3099 with rfl | rfl
      · refine lv_if_eq (tgt := 40) hx hb dX10_takesOne_17 (by decide) (fun c9 => absurd c9 (by decide)) (fun _ => ?_)
        refine lv_aload_n hx hb dX10_takesOne_20 rfl (lv_at hl 2 rfl) ?_
        refine vV (wr := [(tsp, .inr (8, [.int 120, .int 1, .ref tspc, .int (nI ksp)])), (tspc, .inl (G.2.1, 120, .inl ftsp))]) hC hK hl hP hD hS hA (t_advance l G h0 tby kt tln tsp vkd vks vkn vtf fby (by omega) (by omega) (by omega)) si_X10_47 [0, 1] [2, 3] rfl rfl (by decide) rfl (by decide) (by decide) rfl rfl rfl rfl rfl (Nat.le_of_ble_eq_true rfl) ⟨Nat.le_of_ble_eq_true rfl, Nat.le_of_ble_eq_true rfl⟩ ⟨Nat.le_of_ble_eq_true rfl, Nat.le_of_ble_eq_true rfl⟩ dX10_takesOne_21 (fun u3102 H locs hr3101 hP hD hS => ?_)
        obtain ⟨kd13103, ks13104, kn13105⟩ := u3102
        try dsimp only at hr3101
        have hP : va_P G.1 vwCl [(tsp, .inr (8, [.int 120, .int 1, .ref tspc, .int (nI ksp)])), (tspc, .inl (G.2.1, 120, .inl ftsp)), (h0, .inr (10, [.ref tby, .int (nI kt), .ref tln, .ref tsp, .int kd13103, .int (nI ks13104), .int (nI kn13105), .int vtf])), (tby, .inl (G.2.1, 240, .inl fby))] H := hP
        have hD : va_D A [(tsp, .inr (8, [.int 120, .int 1, .ref tspc, .int (nI ksp)])), (tspc, .inl (G.2.1, 120, .inl ftsp)), (h0, .inr (10, [.ref tby, .int (nI kt), .ref tln, .ref tsp, .int kd13103, .int (nI ks13104), .int (nI kn13105), .int vtf])), (tby, .inl (G.2.1, 240, .inl fby))] := hD
        have w3106 := hr3101
        refine lv_iload_n hx hb dX10_takesOne_24 rfl (lv_at hl 1 rfl) ?_
        refine lv_if_ne (tgt := 32) hx hb dX10_takesOne_25 (by decide) (fun c_25_3107 => ?_) (fun c_25_3107 => ?_)
        · refine lv_iconst (v := 0) hx hb dX10_takesOne_32 (by decide) ?_
          refine lv_istore_n (lv' := [(2, .int 0), (3, .int (nI kP)), (0, .ref h0), (1, .int 2)]) hx hb dX10_takesOne_33 rfl hl (by decide) rfl (fun ls hl => ?_)
          refine lv_iinc (v := nI (kP + 1)) (lv' := [(3, .int (nI (kP + 1))), (2, .int 0), (0, .ref h0), (1, .int 2)]) hx hb dX10_takesOne_34 hl (k := 1) rfl (nI_1 _) (by decide) rfl (fun ls hl => ?_)
          refine lv_goto (tgt := 4) hx hb dX10_takesOne_37 (by decide) ?_
          have hP := hP.sub (ws' := [(h0, .inr (10, [.ref tby, .int (nI kt), .ref tln, .ref tsp, .int kd13103, .int (nI ks13104), .int (nI kn13105), .int vtf])), (tby, .inl (G.2.1, 240, .inl fby)), (tsp, .inr (8, [.int 120, .int 1, .ref tspc, .int (nI ksp)])), (tspc, .inl (G.2.1, 120, .inl ftsp))]) [2, 3, 0, 1] rfl
          have hD := hD.sub (ws' := [(h0, .inr (10, [.ref tby, .int (nI kt), .ref tln, .ref tsp, .int kd13103, .int (nI ks13104), .int (nI kn13105), .int vtf])), (tby, .inl (G.2.1, 240, .inl fby)), (tsp, .inr (8, [.int 120, .int 1, .ref tspc, .int (nI ksp)])), (tspc, .inl (G.2.1, 120, .inl ftsp))]) [2, 3, 0, 1] (by decide) rfl
          exact ihP (kP + 1) 0 kd13103 vtf ks13104 kn13105 _ _ _ (by omega) (by first | assumption | exact Or.inl rfl | exact Or.inr rfl | omega) (by first | assumption | exact Or.inl rfl | exact Or.inr rfl | omega) hP hD hS (lv_sub hl [0, 1, 2, 3] rfl)
        · refine lv_iconst (v := 1) hx hb dX10_takesOne_28 (by decide) ?_
          refine lv_goto (tgt := 33) hx hb dX10_takesOne_29 (by decide) ?_
          refine lv_istore_n (lv' := [(2, .int 1), (3, .int (nI kP)), (0, .ref h0), (1, .int 2)]) hx hb dX10_takesOne_33 rfl hl (by decide) rfl (fun ls hl => ?_)
          refine lv_iinc (v := nI (kP + 1)) (lv' := [(3, .int (nI (kP + 1))), (2, .int 1), (0, .ref h0), (1, .int 2)]) hx hb dX10_takesOne_34 hl (k := 1) rfl (nI_1 _) (by decide) rfl (fun ls hl => ?_)
          refine lv_goto (tgt := 4) hx hb dX10_takesOne_37 (by decide) ?_
          have hP := hP.sub (ws' := [(h0, .inr (10, [.ref tby, .int (nI kt), .ref tln, .ref tsp, .int kd13103, .int (nI ks13104), .int (nI kn13105), .int vtf])), (tby, .inl (G.2.1, 240, .inl fby)), (tsp, .inr (8, [.int 120, .int 1, .ref tspc, .int (nI ksp)])), (tspc, .inl (G.2.1, 120, .inl ftsp))]) [2, 3, 0, 1] rfl
          have hD := hD.sub (ws' := [(h0, .inr (10, [.ref tby, .int (nI kt), .ref tln, .ref tsp, .int kd13103, .int (nI ks13104), .int (nI kn13105), .int vtf])), (tby, .inl (G.2.1, 240, .inl fby)), (tsp, .inr (8, [.int 120, .int 1, .ref tspc, .int (nI ksp)])), (tspc, .inl (G.2.1, 120, .inl ftsp))]) [2, 3, 0, 1] (by decide) rfl
          exact ihP (kP + 1) 1 kd13103 vtf ks13104 kn13105 _ _ _ (by omega) (by first | assumption | exact Or.inl rfl | exact Or.inr rfl | omega) (by first | assumption | exact Or.inl rfl | exact Or.inr rfl | omega) hP hD hS (lv_sub hl [0, 1, 2, 3] rfl)
      · refine lv_if_eq (tgt := 40) hx hb dX10_takesOne_17 (by decide) (fun _ => ?_) (fun c9 => absurd (by decide) c9)
        refine lv_aload_n hx hb dX10_takesOne_40 rfl (lv_at hl 2 rfl) ?_
        refine gf_X10_31 hC rfl hK hP 0 rfl rfl dX10_takesOne_41 ?_
        refine lv_bipush (v := 40) hx hb dX10_takesOne_44 (by decide) ?_
        refine lv_icmp_eq (tgt := 58) hx hb dX10_takesOne_46 (by decide) (fun c_46_3108 => ?_) (fun c_46_3108 => ?_)
        · refine lv_iload_n hx hb dX10_takesOne_58 rfl (lv_at hl 3 rfl) ?_
          refine lv_iconst (v := 4) hx hb dX10_takesOne_59 (by decide) ?_
          refine lv_icmp_lt (tgt := 68) hx hb dX10_takesOne_60 (by decide) (fun _ => ?_) (fun c9 => absurd (by decide) c9)
          refine lv_aload_n hx hb dX10_takesOne_68 rfl (lv_at hl 2 rfl) ?_
          refine vV (wr := [(tsp, .inr (8, [.int 120, .int 1, .ref tspc, .int (nI ksp)])), (tspc, .inl (G.2.1, 120, .inl ftsp))]) hC hK hl hP hD hS hA (t_advance l G h0 tby kt tln tsp vkd vks vkn vtf fby (by omega) (by omega) (by omega)) si_X10_47 [0, 1] [2, 3] rfl rfl (by decide) rfl (by decide) (by decide) rfl rfl rfl rfl rfl (Nat.le_of_ble_eq_true rfl) ⟨Nat.le_of_ble_eq_true rfl, Nat.le_of_ble_eq_true rfl⟩ ⟨Nat.le_of_ble_eq_true rfl, Nat.le_of_ble_eq_true rfl⟩ dX10_takesOne_69 (fun u3110 H locs hr3109 hP hD hS => ?_)
          obtain ⟨kd13111, ks13112, kn13113⟩ := u3110
          try dsimp only at hr3109
          have hP : va_P G.1 vwCl [(tsp, .inr (8, [.int 120, .int 1, .ref tspc, .int (nI ksp)])), (tspc, .inl (G.2.1, 120, .inl ftsp)), (h0, .inr (10, [.ref tby, .int (nI kt), .ref tln, .ref tsp, .int kd13111, .int (nI ks13112), .int (nI kn13113), .int vtf])), (tby, .inl (G.2.1, 240, .inl fby))] H := hP
          have hD : va_D A [(tsp, .inr (8, [.int 120, .int 1, .ref tspc, .int (nI ksp)])), (tspc, .inl (G.2.1, 120, .inl ftsp)), (h0, .inr (10, [.ref tby, .int (nI kt), .ref tln, .ref tsp, .int kd13111, .int (nI ks13112), .int (nI kn13113), .int vtf])), (tby, .inl (G.2.1, 240, .inl fby))] := hD
          have w3114 := hr3109
          refine lv_aload_n hx hb dX10_takesOne_72 rfl (lv_at hl 2 rfl) ?_
          refine lv_iload_n hx hb dX10_takesOne_73 rfl (lv_at hl 3 rfl) ?_
          refine lv_iconst (v := 1) hx hb dX10_takesOne_74 (by decide) ?_
          refine lv_iadd hx hb dX10_takesOne_75 ?_
          refine eqi (x1 := 3) (by decide) ?_
          refine iVo (wr := []) hO hC hK hl hP hD hS hA (t_cond3 l G K h0 tby kt tln tsp kd13111 ks13112 kn13113 vtf fby tspc ksp ftsp (by omega) (by omega) (by omega) (by omega)) si_X10_121 [2, 3, 0, 1] [] rfl rfl (by decide) rfl (by decide) (by decide) rfl rfl rfl rfl rfl (Nat.le_of_ble_eq_true rfl) ⟨Nat.le_of_ble_eq_true rfl, Nat.le_of_ble_eq_true rfl⟩ ⟨Nat.le_of_ble_eq_true rfl, Nat.le_of_ble_eq_true rfl⟩ dX10_takesOne_76 (fun r3115 u3116 H locs hr3115 hP hD hS => ?_)
          obtain ⟨kd13117, ks13118, kn13119, tf13120, ksp13121, gtsp3122⟩ := u3116
          try dsimp only at hr3115
          have hP : va_P G.1 vwCl [(h0, .inr (10, [.ref tby, .int (nI kt), .ref tln, .ref tsp, .int kd13117, .int (nI ks13118), .int (nI kn13119), .int tf13120])), (tby, .inl (G.2.1, 240, .inl fby)), (tsp, .inr (8, [.int 120, .int 1, .ref tspc, .int (nI ksp13121)])), (tspc, .inl (G.2.1, 120, .inl gtsp3122))] H := hP
          have hD : va_D A [(h0, .inr (10, [.ref tby, .int (nI kt), .ref tln, .ref tsp, .int kd13117, .int (nI ks13118), .int (nI kn13119), .int tf13120])), (tby, .inl (G.2.1, 240, .inl fby)), (tsp, .inr (8, [.int 120, .int 1, .ref tspc, .int (nI ksp13121)])), (tspc, .inl (G.2.1, 120, .inl gtsp3122))] := hD
          obtain ⟨hr3115, w3123⟩ := hr3115
          rcases hr3115 with rfl | rfl
          · refine lv_if_eq (tgt := 91) hx hb dX10_takesOne_79 (by decide) (fun c9 => absurd c9 (by decide)) (fun _ => ?_)
            refine lv_aload_n hx hb dX10_takesOne_82 rfl (lv_at hl 2 rfl) ?_
            refine lv_bipush (v := 41) hx hb dX10_takesOne_83 (by decide) ?_
            refine iV (wr := [(tsp, .inr (8, [.int 120, .int 1, .ref tspc, .int (nI ksp13121)])), (tspc, .inl (G.2.1, 120, .inl gtsp3122))]) hC hK hl hP hD hS hA (t_takesByte l G h0 41 tby kt tln tsp kd13117 ks13118 kn13119 tf13120 fby (by omega) (by omega) (by omega)) si_X10_124 [0, 1] [2, 3] rfl rfl (by decide) rfl (by decide) (by decide) rfl rfl rfl rfl rfl (Nat.le_of_ble_eq_true rfl) ⟨Nat.le_of_ble_eq_true rfl, Nat.le_of_ble_eq_true rfl⟩ ⟨Nat.le_of_ble_eq_true rfl, Nat.le_of_ble_eq_true rfl⟩ dX10_takesOne_85 (fun r3125 u3126 H locs hr3125 hP hD hS => ?_)
            obtain ⟨kd13127, ks13128, kn13129, tf13130⟩ := u3126
            try dsimp only at hr3125
            have hP : va_P G.1 vwCl [(tsp, .inr (8, [.int 120, .int 1, .ref tspc, .int (nI ksp13121)])), (tspc, .inl (G.2.1, 120, .inl gtsp3122)), (h0, .inr (10, [.ref tby, .int (nI kt), .ref tln, .ref tsp, .int kd13127, .int (nI ks13128), .int (nI kn13129), .int tf13130])), (tby, .inl (G.2.1, 240, .inl fby))] H := hP
            have hD : va_D A [(tsp, .inr (8, [.int 120, .int 1, .ref tspc, .int (nI ksp13121)])), (tspc, .inl (G.2.1, 120, .inl gtsp3122)), (h0, .inr (10, [.ref tby, .int (nI kt), .ref tln, .ref tsp, .int kd13127, .int (nI ks13128), .int (nI kn13129), .int tf13130])), (tby, .inl (G.2.1, 240, .inl fby))] := hD
            obtain ⟨hr3125, w3131⟩ := hr3125
            rcases hr3125 with rfl | rfl
            · refine lv_if_ne (tgt := 93) hx hb dX10_takesOne_88 (by decide) (fun _ => ?_) (fun c9 => absurd c9 (by decide))
              refine lv_iload_n hx hb dX10_takesOne_93 rfl (lv_at hl 1 rfl) ?_
              refine lv_if_eq (tgt := 102) hx hb dX10_takesOne_94 (by decide) (fun c_94_3133 => ?_) (fun c_94_3133 => ?_)
              · refine lv_iconst (v := 1) hx hb dX10_takesOne_102 (by decide) ?_
                exact RI (v := 1) hC hP hD hS [2, 3, 0, 1] (kd13127, ks13128, kn13129, tf13130, ksp13121, gtsp3122) rfl rfl (by decide) (⟨Or.inl (rfl), by dsimp only; omega⟩) (by decide +kernel) dX10_takesOne_103
              · refine lv_aload_n hx hb dX10_takesOne_97 rfl (lv_at hl 2 rfl) ?_
                refine lv_iconst (v := (-1)) hx hb dX10_takesOne_98 (by decide) ?_
                refine vV (wr := [(tby, .inl (G.2.1, 240, .inl fby))]) hC hK hl hP hD hS hA (t_addStep l G h0 (-1) tby kt tln tsp kd13127 ks13128 kn13129 tf13130 tspc ksp13121 gtsp3122 (by omega)) si_X10_152 [2, 0, 1] [3] rfl rfl (by decide) rfl (by decide) (by decide) rfl rfl rfl rfl rfl (Nat.le_of_ble_eq_true rfl) ⟨Nat.le_of_ble_eq_true rfl, Nat.le_of_ble_eq_true rfl⟩ ⟨Nat.le_of_ble_eq_true rfl, Nat.le_of_ble_eq_true rfl⟩ dX10_takesOne_99 (fun u3135 H locs hr3134 hP hD hS => ?_)
                obtain ⟨ksp13136, gtsp3137⟩ := u3135
                try dsimp only at hr3134
                have hP : va_P G.1 vwCl [(tby, .inl (G.2.1, 240, .inl fby)), (h0, .inr (10, [.ref tby, .int (nI kt), .ref tln, .ref tsp, .int kd13127, .int (nI ks13128), .int (nI kn13129), .int tf13130])), (tsp, .inr (8, [.int 120, .int 1, .ref tspc, .int (nI ksp13136)])), (tspc, .inl (G.2.1, 120, .inl gtsp3137))] H := hP
                have hD : va_D A [(tby, .inl (G.2.1, 240, .inl fby)), (h0, .inr (10, [.ref tby, .int (nI kt), .ref tln, .ref tsp, .int kd13127, .int (nI ks13128), .int (nI kn13129), .int tf13130])), (tsp, .inr (8, [.int 120, .int 1, .ref tspc, .int (nI ksp13136)])), (tspc, .inl (G.2.1, 120, .inl gtsp3137))] := hD
                have w3138 := hr3134
                refine lv_iconst (v := 1) hx hb dX10_takesOne_102 (by decide) ?_
                exact RI (v := 1) hC hP hD hS [1, 0, 2, 3] (kd13127, ks13128, kn13129, tf13130, ksp13136, gtsp3137) rfl rfl (by decide) (⟨Or.inl (rfl), by dsimp only; omega⟩) (by decide +kernel) dX10_takesOne_103
            · refine lv_if_ne (tgt := 93) hx hb dX10_takesOne_88 (by decide) (fun c9 => absurd (by decide) c9) (fun _ => ?_)
              refine lv_iconst (v := 0) hx hb dX10_takesOne_91 (by decide) ?_
              exact RI (v := 0) hC hP hD hS [2, 3, 0, 1] (kd13127, ks13128, kn13129, tf13130, ksp13121, gtsp3122) rfl rfl (by decide) (⟨Or.inr (rfl), by dsimp only; omega⟩) (by decide +kernel) dX10_takesOne_92
          · refine lv_if_eq (tgt := 91) hx hb dX10_takesOne_79 (by decide) (fun _ => ?_) (fun c9 => absurd (by decide) c9)
            refine lv_iconst (v := 0) hx hb dX10_takesOne_91 (by decide) ?_
            exact RI (v := 0) hC hP hD hS [0, 1, 2, 3] (kd13117, ks13118, kn13119, tf13120, ksp13121, gtsp3122) rfl rfl (by decide) (⟨Or.inr (rfl), by dsimp only; omega⟩) (by decide +kernel) dX10_takesOne_92
        · refine lv_aload_n hx hb dX10_takesOne_49 rfl (lv_at hl 2 rfl) ?_
          refine iVo (wr := []) hO hC hK hl hP hD hS hA (t_takesComparison l G K h0 tby kt tln tsp vkd vks vkn vtf fby tspc ksp ftsp (by omega) (by omega) (by omega) (by omega)) si_X10_162 [0, 1, 2, 3] [] rfl rfl (by decide) rfl (by decide) (by decide) rfl rfl rfl rfl rfl (Nat.le_of_ble_eq_true rfl) ⟨Nat.le_of_ble_eq_true rfl, Nat.le_of_ble_eq_true rfl⟩ ⟨Nat.le_of_ble_eq_true rfl, Nat.le_of_ble_eq_true rfl⟩ dX10_takesOne_50 (fun r3139 u3140 H locs hr3139 hP hD hS => ?_)
          obtain ⟨kd13141, ks13142, kn13143, tf13144, ksp13145, gtsp3146⟩ := u3140
          try dsimp only at hr3139
          have hP : va_P G.1 vwCl [(h0, .inr (10, [.ref tby, .int (nI kt), .ref tln, .ref tsp, .int kd13141, .int (nI ks13142), .int (nI kn13143), .int tf13144])), (tby, .inl (G.2.1, 240, .inl fby)), (tsp, .inr (8, [.int 120, .int 1, .ref tspc, .int (nI ksp13145)])), (tspc, .inl (G.2.1, 120, .inl gtsp3146))] H := hP
          have hD : va_D A [(h0, .inr (10, [.ref tby, .int (nI kt), .ref tln, .ref tsp, .int kd13141, .int (nI ks13142), .int (nI kn13143), .int tf13144])), (tby, .inl (G.2.1, 240, .inl fby)), (tsp, .inr (8, [.int 120, .int 1, .ref tspc, .int (nI ksp13145)])), (tspc, .inl (G.2.1, 120, .inl gtsp3146))] := hD
          obtain ⟨hr3139, w3147⟩ := hr3139
          rcases hr3139 with rfl | rfl
          · refine lv_if_ne (tgt := 93) hx hb dX10_takesOne_53 (by decide) (fun _ => ?_) (fun c9 => absurd c9 (by decide))
            refine lv_iload_n hx hb dX10_takesOne_93 rfl (lv_at hl 1 rfl) ?_
            refine lv_if_eq (tgt := 102) hx hb dX10_takesOne_94 (by decide) (fun c_94_3149 => ?_) (fun c_94_3149 => ?_)
            · refine lv_iconst (v := 1) hx hb dX10_takesOne_102 (by decide) ?_
              exact RI (v := 1) hC hP hD hS [0, 1, 2, 3] (kd13141, ks13142, kn13143, tf13144, ksp13145, gtsp3146) rfl rfl (by decide) (⟨Or.inl (rfl), by dsimp only; omega⟩) (by decide +kernel) dX10_takesOne_103
            · refine lv_aload_n hx hb dX10_takesOne_97 rfl (lv_at hl 2 rfl) ?_
              refine lv_iconst (v := (-1)) hx hb dX10_takesOne_98 (by decide) ?_
              refine vV (wr := [(tby, .inl (G.2.1, 240, .inl fby))]) hC hK hl hP hD hS hA (t_addStep l G h0 (-1) tby kt tln tsp kd13141 ks13142 kn13143 tf13144 tspc ksp13145 gtsp3146 (by omega)) si_X10_152 [0, 2, 3] [1] rfl rfl (by decide) rfl (by decide) (by decide) rfl rfl rfl rfl rfl (Nat.le_of_ble_eq_true rfl) ⟨Nat.le_of_ble_eq_true rfl, Nat.le_of_ble_eq_true rfl⟩ ⟨Nat.le_of_ble_eq_true rfl, Nat.le_of_ble_eq_true rfl⟩ dX10_takesOne_99 (fun u3151 H locs hr3150 hP hD hS => ?_)
              obtain ⟨ksp13152, gtsp3153⟩ := u3151
              try dsimp only at hr3150
              have hP : va_P G.1 vwCl [(tby, .inl (G.2.1, 240, .inl fby)), (h0, .inr (10, [.ref tby, .int (nI kt), .ref tln, .ref tsp, .int kd13141, .int (nI ks13142), .int (nI kn13143), .int tf13144])), (tsp, .inr (8, [.int 120, .int 1, .ref tspc, .int (nI ksp13152)])), (tspc, .inl (G.2.1, 120, .inl gtsp3153))] H := hP
              have hD : va_D A [(tby, .inl (G.2.1, 240, .inl fby)), (h0, .inr (10, [.ref tby, .int (nI kt), .ref tln, .ref tsp, .int kd13141, .int (nI ks13142), .int (nI kn13143), .int tf13144])), (tsp, .inr (8, [.int 120, .int 1, .ref tspc, .int (nI ksp13152)])), (tspc, .inl (G.2.1, 120, .inl gtsp3153))] := hD
              have w3154 := hr3150
              refine lv_iconst (v := 1) hx hb dX10_takesOne_102 (by decide) ?_
              exact RI (v := 1) hC hP hD hS [1, 0, 2, 3] (kd13141, ks13142, kn13143, tf13144, ksp13152, gtsp3153) rfl rfl (by decide) (⟨Or.inl (rfl), by dsimp only; omega⟩) (by decide +kernel) dX10_takesOne_103
          · refine lv_if_ne (tgt := 93) hx hb dX10_takesOne_53 (by decide) (fun c9 => absurd (by decide) c9) (fun _ => ?_)
            refine lv_iconst (v := 0) hx hb dX10_takesOne_56 (by decide) ?_
            exact RI (v := 0) hC hP hD hS [0, 1, 2, 3] (kd13141, ks13142, kn13143, tf13144, ksp13145, gtsp3146) rfl rfl (by decide) (⟨Or.inr (rfl), by dsimp only; omega⟩) (by decide +kernel) dX10_takesOne_57
  exact keyP 240 0 0 tkd tf9 ks kn _ _ _ (by omega) (by first | assumption | exact Or.inl rfl | exact Or.inr rfl | omega) (by first | assumption | exact Or.inl rfl | exact Or.inr rfl | omega) hP hD hS (lv_sub hl [0, 1, 2, 3] rfl)
set_option maxHeartbeats 4000000 in
set_option maxRecDepth 100000 in
theorem t_all2 (l : Launch) (G : GG) (K : OO) (h0 : Nat) (tby : Nat) (kt : Nat) (tln : Nat) (tsp : Nat) (tkd : Int32) (ks : Nat) (kn : Nat) (tf9 : Int32) (fby : Nat → Int32) (tspc : Nat) (ksp : Nat) (ftsp : Nat → Int32) (hkt : kt ≤ 240) (hks : ks ≤ 240) (hkn : kn ≤ 240) (hksp : ksp ≤ 120) : MIo l G K yX10_takesAll cX10_takesAll 3 (some .boolean) 18 0 0 [.ref h0, .int 2] [(h0, .inr (10, [.ref tby, .int (nI kt), .ref tln, .ref tsp, .int tkd, .int (nI ks), .int (nI kn), .int tf9])), (tby, .inl (G.2.1, 240, .inl fby)), (tsp, .inr (8, [.int 120, .int 1, .ref tspc, .int (nI ksp)])), (tspc, .inl (G.2.1, 120, .inl ftsp))] (fun (r : Int32) (u : Int32 × Nat × Nat × Int32 × Nat × (Nat → Int32)) => (r = 1 ∨ r = 0) ∧ (u.2.1 ≤ 240 ∧ u.2.2.1 ≤ 240 ∧ u.2.2.2.2.1 ≤ 120)) (fun u : Int32 × Nat × Nat × Int32 × Nat × (Nat → Int32) => [(h0, .inr (10, [.ref tby, .int (nI kt), .ref tln, .ref tsp, .int u.1, .int (nI u.2.1), .int (nI u.2.2.1), .int u.2.2.2.1])), (tby, .inl (G.2.1, 240, .inl fby)), (tsp, .inr (8, [.int 120, .int 1, .ref tspc, .int (nI u.2.2.2.2.1)])), (tspc, .inl (G.2.1, 120, .inl u.2.2.2.2.2))]) := by
  refine MIo.start (by decide +kernel) (Nat.le_of_ble_eq_true rfl) ?_
  intro p e s m below meth c A ls hC hK hP hD hS hA hl hO
  have hl : lv_has ls 3 [(0, .ref h0), (1, .int 2)] := hl
  obtain ⟨hx, hb, hr, hml, hB, hown, hlocks, hnm⟩ := id hC
  refine lv_aload_n hx hb dX10_takesAll_0 rfl (lv_at hl 0 rfl) ?_
  refine lv_iload_n hx hb dX10_takesAll_1 rfl (lv_at hl 1 rfl) ?_
  refine iVo (wr := []) hO hC hK hl hP hD hS hA (t_one2 l G K h0 tby kt tln tsp tkd ks kn tf9 fby tspc ksp ftsp (by omega) (by omega) (by omega) (by omega)) si_X10_155 [0, 1, 2, 3] [] rfl rfl (by decide) rfl (by decide) (by decide) rfl rfl rfl rfl rfl (Nat.le_of_ble_eq_true rfl) ⟨Nat.le_of_ble_eq_true rfl, Nat.le_of_ble_eq_true rfl⟩ ⟨Nat.le_of_ble_eq_true rfl, Nat.le_of_ble_eq_true rfl⟩ dX10_takesAll_2 (fun r3155 u3156 H locs hr3155 hP hD hS => ?_)
  obtain ⟨kd13157, ks13158, kn13159, tf13160, ksp13161, gtsp3162⟩ := u3156
  try dsimp only at hr3155
  have hP : va_P G.1 vwCl [(h0, .inr (10, [.ref tby, .int (nI kt), .ref tln, .ref tsp, .int kd13157, .int (nI ks13158), .int (nI kn13159), .int tf13160])), (tby, .inl (G.2.1, 240, .inl fby)), (tsp, .inr (8, [.int 120, .int 1, .ref tspc, .int (nI ksp13161)])), (tspc, .inl (G.2.1, 120, .inl gtsp3162))] H := hP
  have hD : va_D A [(h0, .inr (10, [.ref tby, .int (nI kt), .ref tln, .ref tsp, .int kd13157, .int (nI ks13158), .int (nI kn13159), .int tf13160])), (tby, .inl (G.2.1, 240, .inl fby)), (tsp, .inr (8, [.int 120, .int 1, .ref tspc, .int (nI ksp13161)])), (tspc, .inl (G.2.1, 120, .inl gtsp3162))] := hD
  obtain ⟨hr3155, w3163⟩ := hr3155
  rcases hr3155 with rfl | rfl
  · refine lv_if_ne (tgt := 10) hx hb dX10_takesAll_5 (by decide) (fun _ => ?_) (fun c9 => absurd c9 (by decide))
    refine lv_iconst (v := 0) hx hb dX10_takesAll_10 (by decide) ?_
    refine lv_istore_n (lv' := [(2, .int 0), (0, .ref h0), (1, .int 2)]) hx hb dX10_takesAll_11 rfl hl (by decide) rfl (fun ls hl => ?_)
    have keyP : ∀ (nP kP : Nat) (vkd : Int32) (vtf : Int32) (vtsp : Nat → Int32) (vks : Nat) (vkn : Nat) (vksp : Nat) (H : Heap) (locs : List Loc) (ls : Array Slot), kP + nP = 240 → (vks ≤ 240) → (vkn ≤ 240) → (vksp ≤ 120) → va_P G.1 vwCl [(h0, .inr (10, [.ref tby, .int (nI kt), .ref tln, .ref tsp, .int vkd, .int (nI vks), .int (nI vkn), .int vtf])), (tby, .inl (G.2.1, 240, .inl fby)), (tsp, .inr (8, [.int 120, .int 1, .ref tspc, .int (nI vksp)])), (tspc, .inl (G.2.1, 120, .inl vtsp))] H → va_D A [(h0, .inr (10, [.ref tby, .int (nI kt), .ref tln, .ref tsp, .int vkd, .int (nI vks), .int (nI vkn), .int vtf])), (tby, .inl (G.2.1, 240, .inl fby)), (tsp, .inr (8, [.int 120, .int 1, .ref tspc, .int (nI vksp)])), (tspc, .inl (G.2.1, 120, .inl vtsp))] → va_S A s.heap H locs → lv_has ls 3 [(2, .int (nI kP)), (0, .ref h0), (1, .int 2)] → W p l e (RM 18 0 0) s m ([.ref h0, .int 2] : List Value).toArray below meth c H locs 0 0 (MQ below (QI G (fun (r : Int32) (u : Int32 × Nat × Nat × Int32 × Nat × (Nat → Int32)) => (r = 1 ∨ r = 0) ∧ (u.2.1 ≤ 240 ∧ u.2.2.1 ≤ 240 ∧ u.2.2.2.2.1 ≤ 120)) (fun u : Int32 × Nat × Nat × Int32 × Nat × (Nat → Int32) => [(h0, .inr (10, [.ref tby, .int (nI kt), .ref tln, .ref tsp, .int u.1, .int (nI u.2.1), .int (nI u.2.2.1), .int u.2.2.2.1])), (tby, .inl (G.2.1, 240, .inl fby)), (tsp, .inr (8, [.int 120, .int 1, .ref tspc, .int (nI u.2.2.2.2.1)])), (tspc, .inl (G.2.1, 120, .inl u.2.2.2.2.2))]) A) ([.ref h0, .int 2] : List Value).toArray s 0 0 A) (F0 m 12 ls []) := by
      intro nP
      induction nP with
      | zero =>
        intro kP vkd vtf vtsp vks vkn vksp H locs ls hkP hvks hvkn hvksp hP hD hS hl
        obtain rfl : 240 = kP := by omega
        have hl : lv_has ls 3 [(2, .int 240), (0, .ref h0), (1, .int 2)] := hl
        refine lv_iload_n hx hb dX10_takesAll_12 rfl (lv_at hl 0 rfl) ?_
        refine lv_sipush (v := 240) hx hb dX10_takesAll_13 (by decide) ?_
        refine lv_icmp_ge (tgt := 54) hx hb dX10_takesAll_16 (by decide) (fun _ => ?_) (fun c9 => absurd (by decide) c9)
        refine lv_iconst (v := 1) hx hb dX10_takesAll_54 (by decide) ?_
        exact RI (v := 1) hC hP hD hS [0, 1, 2, 3] (vkd, vks, vkn, vtf, vksp, vtsp) rfl rfl (by decide) (⟨Or.inl (rfl), by dsimp only; omega⟩) (by decide +kernel) dX10_takesAll_55
      | succ nP ihP =>
        intro kP vkd vtf vtsp vks vkn vksp H locs ls hkP hvks hvkn hvksp hP hD hS hl
        refine lv_iload_n hx hb dX10_takesAll_12 rfl (lv_at hl 0 rfl) ?_
        refine lv_sipush (v := 240) hx hb dX10_takesAll_13 (by decide) ?_
        refine lv_icmp_ge (tgt := 54) hx hb dX10_takesAll_16 (by decide) (fun c9 => absurd c9 (nI_ge (a := kP) (b := 240) (by omega) (by omega))) (fun _ => ?_)
        refine lv_aload_n hx hb dX10_takesAll_19 rfl (lv_at hl 1 rfl) ?_
        refine va_ldcS (index := 158) (tx := "and") hx hb hown (hO.2.1 9 (by decide)) dX10_takesAll_20 ?_
        refine pVo hO hS hC hK hl hP hD (t_isName l G K 9 h0 tby kt tln tsp vkd vks vkn vtf fby (by omega) (by omega) (by omega) ((by decide))) si_X10_102 [0, 1] rfl rfl (by decide) rfl rfl rfl rfl rfl (Nat.le_of_ble_eq_true rfl) ⟨Nat.le_of_ble_eq_true rfl, Nat.le_of_ble_eq_true rfl⟩ ⟨by first | exact Nat.le_of_ble_eq_true rfl | exact Nat.zero_le _, by first | exact Nat.le_of_ble_eq_true rfl | exact Nat.zero_le _⟩ dX10_takesAll_22 (fun r3165 hr3165 => ?_)
        rcases hr3165 with rfl | rfl
        · refine lv_if_eq (tgt := 54) hx hb dX10_takesAll_25 (by decide) (fun c9 => absurd c9 (by decide)) (fun _ => ?_)
          refine lv_aload_n hx hb dX10_takesAll_28 rfl (lv_at hl 1 rfl) ?_
          refine vV (wr := [(tsp, .inr (8, [.int 120, .int 1, .ref tspc, .int (nI vksp)])), (tspc, .inl (G.2.1, 120, .inl vtsp))]) hC hK hl hP hD hS hA (t_advance l G h0 tby kt tln tsp vkd vks vkn vtf fby (by omega) (by omega) (by omega)) si_X10_47 [0, 1] [2, 3] rfl rfl (by decide) rfl (by decide) (by decide) rfl rfl rfl rfl rfl (Nat.le_of_ble_eq_true rfl) ⟨Nat.le_of_ble_eq_true rfl, Nat.le_of_ble_eq_true rfl⟩ ⟨Nat.le_of_ble_eq_true rfl, Nat.le_of_ble_eq_true rfl⟩ dX10_takesAll_29 (fun u3168 H locs hr3167 hP hD hS => ?_)
          obtain ⟨kd13169, ks13170, kn13171⟩ := u3168
          try dsimp only at hr3167
          have hP : va_P G.1 vwCl [(tsp, .inr (8, [.int 120, .int 1, .ref tspc, .int (nI vksp)])), (tspc, .inl (G.2.1, 120, .inl vtsp)), (h0, .inr (10, [.ref tby, .int (nI kt), .ref tln, .ref tsp, .int kd13169, .int (nI ks13170), .int (nI kn13171), .int vtf])), (tby, .inl (G.2.1, 240, .inl fby))] H := hP
          have hD : va_D A [(tsp, .inr (8, [.int 120, .int 1, .ref tspc, .int (nI vksp)])), (tspc, .inl (G.2.1, 120, .inl vtsp)), (h0, .inr (10, [.ref tby, .int (nI kt), .ref tln, .ref tsp, .int kd13169, .int (nI ks13170), .int (nI kn13171), .int vtf])), (tby, .inl (G.2.1, 240, .inl fby))] := hD
          have w3172 := hr3167
          refine lv_aload_n hx hb dX10_takesAll_32 rfl (lv_at hl 1 rfl) ?_
          refine lv_iload_n hx hb dX10_takesAll_33 rfl (lv_at hl 2 rfl) ?_
          refine iVo (wr := []) hO hC hK hl hP hD hS hA (t_one2 l G K h0 tby kt tln tsp kd13169 ks13170 kn13171 vtf fby tspc vksp vtsp (by omega) (by omega) (by omega) (by omega)) si_X10_155 [2, 3, 0, 1] [] rfl rfl (by decide) rfl (by decide) (by decide) rfl rfl rfl rfl rfl (Nat.le_of_ble_eq_true rfl) ⟨Nat.le_of_ble_eq_true rfl, Nat.le_of_ble_eq_true rfl⟩ ⟨Nat.le_of_ble_eq_true rfl, Nat.le_of_ble_eq_true rfl⟩ dX10_takesAll_34 (fun r3173 u3174 H locs hr3173 hP hD hS => ?_)
          obtain ⟨kd13175, ks13176, kn13177, tf13178, ksp13179, gtsp3180⟩ := u3174
          try dsimp only at hr3173
          have hP : va_P G.1 vwCl [(h0, .inr (10, [.ref tby, .int (nI kt), .ref tln, .ref tsp, .int kd13175, .int (nI ks13176), .int (nI kn13177), .int tf13178])), (tby, .inl (G.2.1, 240, .inl fby)), (tsp, .inr (8, [.int 120, .int 1, .ref tspc, .int (nI ksp13179)])), (tspc, .inl (G.2.1, 120, .inl gtsp3180))] H := hP
          have hD : va_D A [(h0, .inr (10, [.ref tby, .int (nI kt), .ref tln, .ref tsp, .int kd13175, .int (nI ks13176), .int (nI kn13177), .int tf13178])), (tby, .inl (G.2.1, 240, .inl fby)), (tsp, .inr (8, [.int 120, .int 1, .ref tspc, .int (nI ksp13179)])), (tspc, .inl (G.2.1, 120, .inl gtsp3180))] := hD
          obtain ⟨hr3173, w3181⟩ := hr3173
          rcases hr3173 with rfl | rfl
          · refine lv_if_ne (tgt := 42) hx hb dX10_takesAll_37 (by decide) (fun _ => ?_) (fun c9 => absurd c9 (by decide))
            refine lv_aload_n hx hb dX10_takesAll_42 rfl (lv_at hl 1 rfl) ?_
            refine lv_bipush (v := (-2)) hx hb dX10_takesAll_43 (by decide) ?_
            refine vV (wr := [(tby, .inl (G.2.1, 240, .inl fby))]) hC hK hl hP hD hS hA (t_addStep l G h0 (-2) tby kt tln tsp kd13175 ks13176 kn13177 tf13178 tspc ksp13179 gtsp3180 (by omega)) si_X10_152 [0, 2, 3] [1] rfl rfl (by decide) rfl (by decide) (by decide) rfl rfl rfl rfl rfl (Nat.le_of_ble_eq_true rfl) ⟨Nat.le_of_ble_eq_true rfl, Nat.le_of_ble_eq_true rfl⟩ ⟨Nat.le_of_ble_eq_true rfl, Nat.le_of_ble_eq_true rfl⟩ dX10_takesAll_45 (fun u3184 H locs hr3183 hP hD hS => ?_)
            obtain ⟨ksp13185, gtsp3186⟩ := u3184
            try dsimp only at hr3183
            have hP : va_P G.1 vwCl [(tby, .inl (G.2.1, 240, .inl fby)), (h0, .inr (10, [.ref tby, .int (nI kt), .ref tln, .ref tsp, .int kd13175, .int (nI ks13176), .int (nI kn13177), .int tf13178])), (tsp, .inr (8, [.int 120, .int 1, .ref tspc, .int (nI ksp13185)])), (tspc, .inl (G.2.1, 120, .inl gtsp3186))] H := hP
            have hD : va_D A [(tby, .inl (G.2.1, 240, .inl fby)), (h0, .inr (10, [.ref tby, .int (nI kt), .ref tln, .ref tsp, .int kd13175, .int (nI ks13176), .int (nI kn13177), .int tf13178])), (tsp, .inr (8, [.int 120, .int 1, .ref tspc, .int (nI ksp13185)])), (tspc, .inl (G.2.1, 120, .inl gtsp3186))] := hD
            have w3187 := hr3183
            refine lv_iinc (v := nI (kP + 1)) (lv' := [(2, .int (nI (kP + 1))), (0, .ref h0), (1, .int 2)]) hx hb dX10_takesAll_48 hl (k := 0) rfl (nI_1 _) (by decide) rfl (fun ls hl => ?_)
            refine lv_goto (tgt := 12) hx hb dX10_takesAll_51 (by decide) ?_
            have hP := hP.sub (ws' := [(h0, .inr (10, [.ref tby, .int (nI kt), .ref tln, .ref tsp, .int kd13175, .int (nI ks13176), .int (nI kn13177), .int tf13178])), (tby, .inl (G.2.1, 240, .inl fby)), (tsp, .inr (8, [.int 120, .int 1, .ref tspc, .int (nI ksp13185)])), (tspc, .inl (G.2.1, 120, .inl gtsp3186))]) [1, 0, 2, 3] rfl
            have hD := hD.sub (ws' := [(h0, .inr (10, [.ref tby, .int (nI kt), .ref tln, .ref tsp, .int kd13175, .int (nI ks13176), .int (nI kn13177), .int tf13178])), (tby, .inl (G.2.1, 240, .inl fby)), (tsp, .inr (8, [.int 120, .int 1, .ref tspc, .int (nI ksp13185)])), (tspc, .inl (G.2.1, 120, .inl gtsp3186))]) [1, 0, 2, 3] (by decide) rfl
            exact ihP (kP + 1) kd13175 tf13178 gtsp3186 ks13176 kn13177 ksp13185 _ _ _ (by omega) (by first | assumption | exact Or.inl rfl | exact Or.inr rfl | omega) (by first | assumption | exact Or.inl rfl | exact Or.inr rfl | omega) (by first | assumption | exact Or.inl rfl | exact Or.inr rfl | omega) hP hD hS (lv_sub hl [0, 1, 2] rfl)
          · refine lv_if_ne (tgt := 42) hx hb dX10_takesAll_37 (by decide) (fun c9 => absurd (by decide) c9) (fun _ => ?_)
            refine lv_iconst (v := 0) hx hb dX10_takesAll_40 (by decide) ?_
            exact RI (v := 0) hC hP hD hS [0, 1, 2, 3] (kd13175, ks13176, kn13177, tf13178, ksp13179, gtsp3180) rfl rfl (by decide) (⟨Or.inr (rfl), by dsimp only; omega⟩) (by decide +kernel) dX10_takesAll_41
        · refine lv_if_eq (tgt := 54) hx hb dX10_takesAll_25 (by decide) (fun _ => ?_) (fun c9 => absurd (by decide) c9)
          refine lv_iconst (v := 1) hx hb dX10_takesAll_54 (by decide) ?_
          exact RI (v := 1) hC hP hD hS [0, 1, 2, 3] (vkd, vks, vkn, vtf, vksp, vtsp) rfl rfl (by decide) (⟨Or.inl (rfl), by dsimp only; omega⟩) (by decide +kernel) dX10_takesAll_55
    exact keyP 240 0 kd13157 tf13160 gtsp3162 ks13158 kn13159 ksp13161 _ _ _ (by omega) (by first | assumption | exact Or.inl rfl | exact Or.inr rfl | omega) (by first | assumption | exact Or.inl rfl | exact Or.inr rfl | omega) (by first | assumption | exact Or.inl rfl | exact Or.inr rfl | omega) hP hD hS (lv_sub hl [0, 1, 2] rfl)
  · refine lv_if_ne (tgt := 10) hx hb dX10_takesAll_5 (by decide) (fun c9 => absurd (by decide) c9) (fun _ => ?_)
    refine lv_iconst (v := 0) hx hb dX10_takesAll_8 (by decide) ?_
    exact RI (v := 0) hC hP hD hS [0, 1, 2, 3] (kd13157, ks13158, kn13159, tf13160, ksp13161, gtsp3162) rfl rfl (by decide) (⟨Or.inr (rfl), by dsimp only; omega⟩) (by decide +kernel) dX10_takesAll_9
set_option maxHeartbeats 4000000 in
set_option maxRecDepth 100000 in
theorem t_cond2 (l : Launch) (G : GG) (K : OO) (h0 : Nat) (tby : Nat) (kt : Nat) (tln : Nat) (tsp : Nat) (tkd : Int32) (ks : Nat) (kn : Nat) (tf9 : Int32) (fby : Nat → Int32) (tspc : Nat) (ksp : Nat) (ftsp : Nat → Int32) (hkt : kt ≤ 240) (hks : ks ≤ 240) (hkn : kn ≤ 240) (hksp : ksp ≤ 120) : MIo l G K yX10_takesCond cX10_takesCond 3 (some .boolean) 19 0 0 [.ref h0, .int 2] [(h0, .inr (10, [.ref tby, .int (nI kt), .ref tln, .ref tsp, .int tkd, .int (nI ks), .int (nI kn), .int tf9])), (tby, .inl (G.2.1, 240, .inl fby)), (tsp, .inr (8, [.int 120, .int 1, .ref tspc, .int (nI ksp)])), (tspc, .inl (G.2.1, 120, .inl ftsp))] (fun (r : Int32) (u : Int32 × Nat × Nat × Int32 × Nat × (Nat → Int32)) => (r = 1 ∨ r = 0) ∧ (u.2.1 ≤ 240 ∧ u.2.2.1 ≤ 240 ∧ u.2.2.2.2.1 ≤ 120)) (fun u : Int32 × Nat × Nat × Int32 × Nat × (Nat → Int32) => [(h0, .inr (10, [.ref tby, .int (nI kt), .ref tln, .ref tsp, .int u.1, .int (nI u.2.1), .int (nI u.2.2.1), .int u.2.2.2.1])), (tby, .inl (G.2.1, 240, .inl fby)), (tsp, .inr (8, [.int 120, .int 1, .ref tspc, .int (nI u.2.2.2.2.1)])), (tspc, .inl (G.2.1, 120, .inl u.2.2.2.2.2))]) := by
  refine MIo.start (by decide +kernel) (Nat.le_of_ble_eq_true rfl) ?_
  intro p e s m below meth c A ls hC hK hP hD hS hA hl hO
  have hl : lv_has ls 3 [(0, .ref h0), (1, .int 2)] := hl
  obtain ⟨hx, hb, hr, hml, hB, hown, hlocks, hnm⟩ := id hC
  refine lv_aload_n hx hb dX10_takesCond_0 rfl (lv_at hl 0 rfl) ?_
  refine lv_iload_n hx hb dX10_takesCond_1 rfl (lv_at hl 1 rfl) ?_
  refine iVo (wr := []) hO hC hK hl hP hD hS hA (t_all2 l G K h0 tby kt tln tsp tkd ks kn tf9 fby tspc ksp ftsp (by omega) (by omega) (by omega) (by omega)) si_X10_147 [0, 1, 2, 3] [] rfl rfl (by decide) rfl (by decide) (by decide) rfl rfl rfl rfl rfl (Nat.le_of_ble_eq_true rfl) ⟨Nat.le_of_ble_eq_true rfl, Nat.le_of_ble_eq_true rfl⟩ ⟨Nat.le_of_ble_eq_true rfl, Nat.le_of_ble_eq_true rfl⟩ dX10_takesCond_2 (fun r3188 u3189 H locs hr3188 hP hD hS => ?_)
  obtain ⟨kd13190, ks13191, kn13192, tf13193, ksp13194, gtsp3195⟩ := u3189
  try dsimp only at hr3188
  have hP : va_P G.1 vwCl [(h0, .inr (10, [.ref tby, .int (nI kt), .ref tln, .ref tsp, .int kd13190, .int (nI ks13191), .int (nI kn13192), .int tf13193])), (tby, .inl (G.2.1, 240, .inl fby)), (tsp, .inr (8, [.int 120, .int 1, .ref tspc, .int (nI ksp13194)])), (tspc, .inl (G.2.1, 120, .inl gtsp3195))] H := hP
  have hD : va_D A [(h0, .inr (10, [.ref tby, .int (nI kt), .ref tln, .ref tsp, .int kd13190, .int (nI ks13191), .int (nI kn13192), .int tf13193])), (tby, .inl (G.2.1, 240, .inl fby)), (tsp, .inr (8, [.int 120, .int 1, .ref tspc, .int (nI ksp13194)])), (tspc, .inl (G.2.1, 120, .inl gtsp3195))] := hD
  obtain ⟨hr3188, w3196⟩ := hr3188
  rcases hr3188 with rfl | rfl
  · refine lv_if_ne (tgt := 10) hx hb dX10_takesCond_5 (by decide) (fun _ => ?_) (fun c9 => absurd c9 (by decide))
    refine lv_iconst (v := 0) hx hb dX10_takesCond_10 (by decide) ?_
    refine lv_istore_n (lv' := [(2, .int 0), (0, .ref h0), (1, .int 2)]) hx hb dX10_takesCond_11 rfl hl (by decide) rfl (fun ls hl => ?_)
    have keyP : ∀ (nP kP : Nat) (vkd : Int32) (vtf : Int32) (vtsp : Nat → Int32) (vks : Nat) (vkn : Nat) (vksp : Nat) (H : Heap) (locs : List Loc) (ls : Array Slot), kP + nP = 240 → (vks ≤ 240) → (vkn ≤ 240) → (vksp ≤ 120) → va_P G.1 vwCl [(h0, .inr (10, [.ref tby, .int (nI kt), .ref tln, .ref tsp, .int vkd, .int (nI vks), .int (nI vkn), .int vtf])), (tby, .inl (G.2.1, 240, .inl fby)), (tsp, .inr (8, [.int 120, .int 1, .ref tspc, .int (nI vksp)])), (tspc, .inl (G.2.1, 120, .inl vtsp))] H → va_D A [(h0, .inr (10, [.ref tby, .int (nI kt), .ref tln, .ref tsp, .int vkd, .int (nI vks), .int (nI vkn), .int vtf])), (tby, .inl (G.2.1, 240, .inl fby)), (tsp, .inr (8, [.int 120, .int 1, .ref tspc, .int (nI vksp)])), (tspc, .inl (G.2.1, 120, .inl vtsp))] → va_S A s.heap H locs → lv_has ls 3 [(2, .int (nI kP)), (0, .ref h0), (1, .int 2)] → W p l e (RM 19 0 0) s m ([.ref h0, .int 2] : List Value).toArray below meth c H locs 0 0 (MQ below (QI G (fun (r : Int32) (u : Int32 × Nat × Nat × Int32 × Nat × (Nat → Int32)) => (r = 1 ∨ r = 0) ∧ (u.2.1 ≤ 240 ∧ u.2.2.1 ≤ 240 ∧ u.2.2.2.2.1 ≤ 120)) (fun u : Int32 × Nat × Nat × Int32 × Nat × (Nat → Int32) => [(h0, .inr (10, [.ref tby, .int (nI kt), .ref tln, .ref tsp, .int u.1, .int (nI u.2.1), .int (nI u.2.2.1), .int u.2.2.2.1])), (tby, .inl (G.2.1, 240, .inl fby)), (tsp, .inr (8, [.int 120, .int 1, .ref tspc, .int (nI u.2.2.2.2.1)])), (tspc, .inl (G.2.1, 120, .inl u.2.2.2.2.2))]) A) ([.ref h0, .int 2] : List Value).toArray s 0 0 A) (F0 m 12 ls []) := by
      intro nP
      induction nP with
      | zero =>
        intro kP vkd vtf vtsp vks vkn vksp H locs ls hkP hvks hvkn hvksp hP hD hS hl
        obtain rfl : 240 = kP := by omega
        have hl : lv_has ls 3 [(2, .int 240), (0, .ref h0), (1, .int 2)] := hl
        refine lv_iload_n hx hb dX10_takesCond_12 rfl (lv_at hl 0 rfl) ?_
        refine lv_sipush (v := 240) hx hb dX10_takesCond_13 (by decide) ?_
        refine lv_icmp_ge (tgt := 54) hx hb dX10_takesCond_16 (by decide) (fun _ => ?_) (fun c9 => absurd (by decide) c9)
        refine lv_iconst (v := 1) hx hb dX10_takesCond_54 (by decide) ?_
        exact RI (v := 1) hC hP hD hS [0, 1, 2, 3] (vkd, vks, vkn, vtf, vksp, vtsp) rfl rfl (by decide) (⟨Or.inl (rfl), by dsimp only; omega⟩) (by decide +kernel) dX10_takesCond_55
      | succ nP ihP =>
        intro kP vkd vtf vtsp vks vkn vksp H locs ls hkP hvks hvkn hvksp hP hD hS hl
        refine lv_iload_n hx hb dX10_takesCond_12 rfl (lv_at hl 0 rfl) ?_
        refine lv_sipush (v := 240) hx hb dX10_takesCond_13 (by decide) ?_
        refine lv_icmp_ge (tgt := 54) hx hb dX10_takesCond_16 (by decide) (fun c9 => absurd c9 (nI_ge (a := kP) (b := 240) (by omega) (by omega))) (fun _ => ?_)
        refine lv_aload_n hx hb dX10_takesCond_19 rfl (lv_at hl 1 rfl) ?_
        refine va_ldcS (index := 150) (tx := "o\x72") hx hb hown (hO.2.1 8 (by decide)) dX10_takesCond_20 ?_
        refine pVo hO hS hC hK hl hP hD (t_isName l G K 8 h0 tby kt tln tsp vkd vks vkn vtf fby (by omega) (by omega) (by omega) ((by decide))) si_X10_102 [0, 1] rfl rfl (by decide) rfl rfl rfl rfl rfl (Nat.le_of_ble_eq_true rfl) ⟨Nat.le_of_ble_eq_true rfl, Nat.le_of_ble_eq_true rfl⟩ ⟨by first | exact Nat.le_of_ble_eq_true rfl | exact Nat.zero_le _, by first | exact Nat.le_of_ble_eq_true rfl | exact Nat.zero_le _⟩ dX10_takesCond_22 (fun r3198 hr3198 => ?_)
        rcases hr3198 with rfl | rfl
        · refine lv_if_eq (tgt := 54) hx hb dX10_takesCond_25 (by decide) (fun c9 => absurd c9 (by decide)) (fun _ => ?_)
          refine lv_aload_n hx hb dX10_takesCond_28 rfl (lv_at hl 1 rfl) ?_
          refine vV (wr := [(tsp, .inr (8, [.int 120, .int 1, .ref tspc, .int (nI vksp)])), (tspc, .inl (G.2.1, 120, .inl vtsp))]) hC hK hl hP hD hS hA (t_advance l G h0 tby kt tln tsp vkd vks vkn vtf fby (by omega) (by omega) (by omega)) si_X10_47 [0, 1] [2, 3] rfl rfl (by decide) rfl (by decide) (by decide) rfl rfl rfl rfl rfl (Nat.le_of_ble_eq_true rfl) ⟨Nat.le_of_ble_eq_true rfl, Nat.le_of_ble_eq_true rfl⟩ ⟨Nat.le_of_ble_eq_true rfl, Nat.le_of_ble_eq_true rfl⟩ dX10_takesCond_29 (fun u3201 H locs hr3200 hP hD hS => ?_)
          obtain ⟨kd13202, ks13203, kn13204⟩ := u3201
          try dsimp only at hr3200
          have hP : va_P G.1 vwCl [(tsp, .inr (8, [.int 120, .int 1, .ref tspc, .int (nI vksp)])), (tspc, .inl (G.2.1, 120, .inl vtsp)), (h0, .inr (10, [.ref tby, .int (nI kt), .ref tln, .ref tsp, .int kd13202, .int (nI ks13203), .int (nI kn13204), .int vtf])), (tby, .inl (G.2.1, 240, .inl fby))] H := hP
          have hD : va_D A [(tsp, .inr (8, [.int 120, .int 1, .ref tspc, .int (nI vksp)])), (tspc, .inl (G.2.1, 120, .inl vtsp)), (h0, .inr (10, [.ref tby, .int (nI kt), .ref tln, .ref tsp, .int kd13202, .int (nI ks13203), .int (nI kn13204), .int vtf])), (tby, .inl (G.2.1, 240, .inl fby))] := hD
          have w3205 := hr3200
          refine lv_aload_n hx hb dX10_takesCond_32 rfl (lv_at hl 1 rfl) ?_
          refine lv_iload_n hx hb dX10_takesCond_33 rfl (lv_at hl 2 rfl) ?_
          refine iVo (wr := []) hO hC hK hl hP hD hS hA (t_all2 l G K h0 tby kt tln tsp kd13202 ks13203 kn13204 vtf fby tspc vksp vtsp (by omega) (by omega) (by omega) (by omega)) si_X10_147 [2, 3, 0, 1] [] rfl rfl (by decide) rfl (by decide) (by decide) rfl rfl rfl rfl rfl (Nat.le_of_ble_eq_true rfl) ⟨Nat.le_of_ble_eq_true rfl, Nat.le_of_ble_eq_true rfl⟩ ⟨Nat.le_of_ble_eq_true rfl, Nat.le_of_ble_eq_true rfl⟩ dX10_takesCond_34 (fun r3206 u3207 H locs hr3206 hP hD hS => ?_)
          obtain ⟨kd13208, ks13209, kn13210, tf13211, ksp13212, gtsp3213⟩ := u3207
          try dsimp only at hr3206
          have hP : va_P G.1 vwCl [(h0, .inr (10, [.ref tby, .int (nI kt), .ref tln, .ref tsp, .int kd13208, .int (nI ks13209), .int (nI kn13210), .int tf13211])), (tby, .inl (G.2.1, 240, .inl fby)), (tsp, .inr (8, [.int 120, .int 1, .ref tspc, .int (nI ksp13212)])), (tspc, .inl (G.2.1, 120, .inl gtsp3213))] H := hP
          have hD : va_D A [(h0, .inr (10, [.ref tby, .int (nI kt), .ref tln, .ref tsp, .int kd13208, .int (nI ks13209), .int (nI kn13210), .int tf13211])), (tby, .inl (G.2.1, 240, .inl fby)), (tsp, .inr (8, [.int 120, .int 1, .ref tspc, .int (nI ksp13212)])), (tspc, .inl (G.2.1, 120, .inl gtsp3213))] := hD
          obtain ⟨hr3206, w3214⟩ := hr3206
          rcases hr3206 with rfl | rfl
          · refine lv_if_ne (tgt := 42) hx hb dX10_takesCond_37 (by decide) (fun _ => ?_) (fun c9 => absurd c9 (by decide))
            refine lv_aload_n hx hb dX10_takesCond_42 rfl (lv_at hl 1 rfl) ?_
            refine lv_bipush (v := (-3)) hx hb dX10_takesCond_43 (by decide) ?_
            refine vV (wr := [(tby, .inl (G.2.1, 240, .inl fby))]) hC hK hl hP hD hS hA (t_addStep l G h0 (-3) tby kt tln tsp kd13208 ks13209 kn13210 tf13211 tspc ksp13212 gtsp3213 (by omega)) si_X10_152 [0, 2, 3] [1] rfl rfl (by decide) rfl (by decide) (by decide) rfl rfl rfl rfl rfl (Nat.le_of_ble_eq_true rfl) ⟨Nat.le_of_ble_eq_true rfl, Nat.le_of_ble_eq_true rfl⟩ ⟨Nat.le_of_ble_eq_true rfl, Nat.le_of_ble_eq_true rfl⟩ dX10_takesCond_45 (fun u3217 H locs hr3216 hP hD hS => ?_)
            obtain ⟨ksp13218, gtsp3219⟩ := u3217
            try dsimp only at hr3216
            have hP : va_P G.1 vwCl [(tby, .inl (G.2.1, 240, .inl fby)), (h0, .inr (10, [.ref tby, .int (nI kt), .ref tln, .ref tsp, .int kd13208, .int (nI ks13209), .int (nI kn13210), .int tf13211])), (tsp, .inr (8, [.int 120, .int 1, .ref tspc, .int (nI ksp13218)])), (tspc, .inl (G.2.1, 120, .inl gtsp3219))] H := hP
            have hD : va_D A [(tby, .inl (G.2.1, 240, .inl fby)), (h0, .inr (10, [.ref tby, .int (nI kt), .ref tln, .ref tsp, .int kd13208, .int (nI ks13209), .int (nI kn13210), .int tf13211])), (tsp, .inr (8, [.int 120, .int 1, .ref tspc, .int (nI ksp13218)])), (tspc, .inl (G.2.1, 120, .inl gtsp3219))] := hD
            have w3220 := hr3216
            refine lv_iinc (v := nI (kP + 1)) (lv' := [(2, .int (nI (kP + 1))), (0, .ref h0), (1, .int 2)]) hx hb dX10_takesCond_48 hl (k := 0) rfl (nI_1 _) (by decide) rfl (fun ls hl => ?_)
            refine lv_goto (tgt := 12) hx hb dX10_takesCond_51 (by decide) ?_
            have hP := hP.sub (ws' := [(h0, .inr (10, [.ref tby, .int (nI kt), .ref tln, .ref tsp, .int kd13208, .int (nI ks13209), .int (nI kn13210), .int tf13211])), (tby, .inl (G.2.1, 240, .inl fby)), (tsp, .inr (8, [.int 120, .int 1, .ref tspc, .int (nI ksp13218)])), (tspc, .inl (G.2.1, 120, .inl gtsp3219))]) [1, 0, 2, 3] rfl
            have hD := hD.sub (ws' := [(h0, .inr (10, [.ref tby, .int (nI kt), .ref tln, .ref tsp, .int kd13208, .int (nI ks13209), .int (nI kn13210), .int tf13211])), (tby, .inl (G.2.1, 240, .inl fby)), (tsp, .inr (8, [.int 120, .int 1, .ref tspc, .int (nI ksp13218)])), (tspc, .inl (G.2.1, 120, .inl gtsp3219))]) [1, 0, 2, 3] (by decide) rfl
            exact ihP (kP + 1) kd13208 tf13211 gtsp3219 ks13209 kn13210 ksp13218 _ _ _ (by omega) (by first | assumption | exact Or.inl rfl | exact Or.inr rfl | omega) (by first | assumption | exact Or.inl rfl | exact Or.inr rfl | omega) (by first | assumption | exact Or.inl rfl | exact Or.inr rfl | omega) hP hD hS (lv_sub hl [0, 1, 2] rfl)
          · refine lv_if_ne (tgt := 42) hx hb dX10_takesCond_37 (by decide) (fun c9 => absurd (by decide) c9) (fun _ => ?_)
            refine lv_iconst (v := 0) hx hb dX10_takesCond_40 (by decide) ?_
            exact RI (v := 0) hC hP hD hS [0, 1, 2, 3] (kd13208, ks13209, kn13210, tf13211, ksp13212, gtsp3213) rfl rfl (by decide) (⟨Or.inr (rfl), by dsimp only; omega⟩) (by decide +kernel) dX10_takesCond_41
        · refine lv_if_eq (tgt := 54) hx hb dX10_takesCond_25 (by decide) (fun _ => ?_) (fun c9 => absurd (by decide) c9)
          refine lv_iconst (v := 1) hx hb dX10_takesCond_54 (by decide) ?_
          exact RI (v := 1) hC hP hD hS [0, 1, 2, 3] (vkd, vks, vkn, vtf, vksp, vtsp) rfl rfl (by decide) (⟨Or.inl (rfl), by dsimp only; omega⟩) (by decide +kernel) dX10_takesCond_55
    exact keyP 240 0 kd13190 tf13193 gtsp3195 ks13191 kn13192 ksp13194 _ _ _ (by omega) (by first | assumption | exact Or.inl rfl | exact Or.inr rfl | omega) (by first | assumption | exact Or.inl rfl | exact Or.inr rfl | omega) (by first | assumption | exact Or.inl rfl | exact Or.inr rfl | omega) hP hD hS (lv_sub hl [0, 1, 2] rfl)
  · refine lv_if_ne (tgt := 10) hx hb dX10_takesCond_5 (by decide) (fun c9 => absurd (by decide) c9) (fun _ => ?_)
    refine lv_iconst (v := 0) hx hb dX10_takesCond_8 (by decide) ?_
    exact RI (v := 0) hC hP hD hS [0, 1, 2, 3] (kd13190, ks13191, kn13192, tf13193, ksp13194, gtsp3195) rfl rfl (by decide) (⟨Or.inr (rfl), by dsimp only; omega⟩) (by decide +kernel) dX10_takesCond_9
set_option maxHeartbeats 4000000 in
set_option maxRecDepth 100000 in
theorem t_one1 (l : Launch) (G : GG) (K : OO) (h0 : Nat) (tby : Nat) (kt : Nat) (tln : Nat) (tsp : Nat) (tkd : Int32) (ks : Nat) (kn : Nat) (tf9 : Int32) (fby : Nat → Int32) (tspc : Nat) (ksp : Nat) (ftsp : Nat → Int32) (hkt : kt ≤ 240) (hks : ks ≤ 240) (hkn : kn ≤ 240) (hksp : ksp ≤ 120) : MIo l G K yX10_takesOne cX10_takesOne 4 (some .boolean) 21 0 0 [.ref h0, .int 1] [(h0, .inr (10, [.ref tby, .int (nI kt), .ref tln, .ref tsp, .int tkd, .int (nI ks), .int (nI kn), .int tf9])), (tby, .inl (G.2.1, 240, .inl fby)), (tsp, .inr (8, [.int 120, .int 1, .ref tspc, .int (nI ksp)])), (tspc, .inl (G.2.1, 120, .inl ftsp))] (fun (r : Int32) (u : Int32 × Nat × Nat × Int32 × Nat × (Nat → Int32)) => (r = 1 ∨ r = 0) ∧ (u.2.1 ≤ 240 ∧ u.2.2.1 ≤ 240 ∧ u.2.2.2.2.1 ≤ 120)) (fun u : Int32 × Nat × Nat × Int32 × Nat × (Nat → Int32) => [(h0, .inr (10, [.ref tby, .int (nI kt), .ref tln, .ref tsp, .int u.1, .int (nI u.2.1), .int (nI u.2.2.1), .int u.2.2.2.1])), (tby, .inl (G.2.1, 240, .inl fby)), (tsp, .inr (8, [.int 120, .int 1, .ref tspc, .int (nI u.2.2.2.2.1)])), (tspc, .inl (G.2.1, 120, .inl u.2.2.2.2.2))]) := by
  refine MIo.start (by decide +kernel) (Nat.le_of_ble_eq_true rfl) ?_
  intro p e s m below meth c A ls hC hK hP hD hS hA hl hO
  have hl : lv_has ls 4 [(0, .ref h0), (1, .int 1)] := hl
  obtain ⟨hx, hb, hr, hml, hB, hown, hlocks, hnm⟩ := id hC
  refine lv_iconst (v := 0) hx hb dX10_takesOne_0 (by decide) ?_
  refine lv_istore_n (lv' := [(2, .int 0), (0, .ref h0), (1, .int 1)]) hx hb dX10_takesOne_1 rfl hl (by decide) rfl (fun ls hl => ?_)
  refine lv_iconst (v := 0) hx hb dX10_takesOne_2 (by decide) ?_
  refine lv_istore_n (lv' := [(3, .int 0), (2, .int 0), (0, .ref h0), (1, .int 1)]) hx hb dX10_takesOne_3 rfl hl (by decide) rfl (fun ls hl => ?_)
  have keyP : ∀ (nP kP : Nat) (tu : Int32) (vkd : Int32) (vtf : Int32) (vks : Nat) (vkn : Nat) (H : Heap) (locs : List Loc) (ls : Array Slot), kP + nP = 240 → (vks ≤ 240) → (vkn ≤ 240) → va_P G.1 vwCl [(h0, .inr (10, [.ref tby, .int (nI kt), .ref tln, .ref tsp, .int vkd, .int (nI vks), .int (nI vkn), .int vtf])), (tby, .inl (G.2.1, 240, .inl fby)), (tsp, .inr (8, [.int 120, .int 1, .ref tspc, .int (nI ksp)])), (tspc, .inl (G.2.1, 120, .inl ftsp))] H → va_D A [(h0, .inr (10, [.ref tby, .int (nI kt), .ref tln, .ref tsp, .int vkd, .int (nI vks), .int (nI vkn), .int vtf])), (tby, .inl (G.2.1, 240, .inl fby)), (tsp, .inr (8, [.int 120, .int 1, .ref tspc, .int (nI ksp)])), (tspc, .inl (G.2.1, 120, .inl ftsp))] → va_S A s.heap H locs → lv_has ls 4 [(3, .int (nI kP)), (2, .int tu), (0, .ref h0), (1, .int 1)] → W p l e (RM 21 0 0) s m ([.ref h0, .int 1] : List Value).toArray below meth c H locs 0 0 (MQ below (QI G (fun (r : Int32) (u : Int32 × Nat × Nat × Int32 × Nat × (Nat → Int32)) => (r = 1 ∨ r = 0) ∧ (u.2.1 ≤ 240 ∧ u.2.2.1 ≤ 240 ∧ u.2.2.2.2.1 ≤ 120)) (fun u : Int32 × Nat × Nat × Int32 × Nat × (Nat → Int32) => [(h0, .inr (10, [.ref tby, .int (nI kt), .ref tln, .ref tsp, .int u.1, .int (nI u.2.1), .int (nI u.2.2.1), .int u.2.2.2.1])), (tby, .inl (G.2.1, 240, .inl fby)), (tsp, .inr (8, [.int 120, .int 1, .ref tspc, .int (nI u.2.2.2.2.1)])), (tspc, .inl (G.2.1, 120, .inl u.2.2.2.2.2))]) A) ([.ref h0, .int 1] : List Value).toArray s 0 0 A) (F0 m 4 ls []) := by
    intro nP
    induction nP with
    | zero =>
      intro kP tu vkd vtf vks vkn H locs ls hkP hvks hvkn hP hD hS hl
      obtain rfl : 240 = kP := by omega
      have hl : lv_has ls 4 [(3, .int 240), (2, .int tu), (0, .ref h0), (1, .int 1)] := hl
      refine lv_iload_n hx hb dX10_takesOne_4 rfl (lv_at hl 0 rfl) ?_
      refine lv_sipush (v := 240) hx hb dX10_takesOne_5 (by decide) ?_
      refine lv_icmp_ge (tgt := 40) hx hb dX10_takesOne_8 (by decide) (fun _ => ?_) (fun c9 => absurd (by decide) c9)
      refine lv_aload_n hx hb dX10_takesOne_40 rfl (lv_at hl 2 rfl) ?_
      refine gf_X10_31 hC rfl hK hP 0 rfl rfl dX10_takesOne_41 ?_
      refine lv_bipush (v := 40) hx hb dX10_takesOne_44 (by decide) ?_
      refine lv_icmp_eq (tgt := 58) hx hb dX10_takesOne_46 (by decide) (fun c_46_3221 => ?_) (fun c_46_3221 => ?_)
      · refine lv_iload_n hx hb dX10_takesOne_58 rfl (lv_at hl 3 rfl) ?_
        refine lv_iconst (v := 4) hx hb dX10_takesOne_59 (by decide) ?_
        refine lv_icmp_lt (tgt := 68) hx hb dX10_takesOne_60 (by decide) (fun _ => ?_) (fun c9 => absurd (by decide) c9)
        refine lv_aload_n hx hb dX10_takesOne_68 rfl (lv_at hl 2 rfl) ?_
        refine vV (wr := [(tsp, .inr (8, [.int 120, .int 1, .ref tspc, .int (nI ksp)])), (tspc, .inl (G.2.1, 120, .inl ftsp))]) hC hK hl hP hD hS hA (t_advance l G h0 tby kt tln tsp vkd vks vkn vtf fby (by omega) (by omega) (by omega)) si_X10_47 [0, 1] [2, 3] rfl rfl (by decide) rfl (by decide) (by decide) rfl rfl rfl rfl rfl (Nat.le_of_ble_eq_true rfl) ⟨Nat.le_of_ble_eq_true rfl, Nat.le_of_ble_eq_true rfl⟩ ⟨Nat.le_of_ble_eq_true rfl, Nat.le_of_ble_eq_true rfl⟩ dX10_takesOne_69 (fun u3223 H locs hr3222 hP hD hS => ?_)
        obtain ⟨kd13224, ks13225, kn13226⟩ := u3223
        try dsimp only at hr3222
        have hP : va_P G.1 vwCl [(tsp, .inr (8, [.int 120, .int 1, .ref tspc, .int (nI ksp)])), (tspc, .inl (G.2.1, 120, .inl ftsp)), (h0, .inr (10, [.ref tby, .int (nI kt), .ref tln, .ref tsp, .int kd13224, .int (nI ks13225), .int (nI kn13226), .int vtf])), (tby, .inl (G.2.1, 240, .inl fby))] H := hP
        have hD : va_D A [(tsp, .inr (8, [.int 120, .int 1, .ref tspc, .int (nI ksp)])), (tspc, .inl (G.2.1, 120, .inl ftsp)), (h0, .inr (10, [.ref tby, .int (nI kt), .ref tln, .ref tsp, .int kd13224, .int (nI ks13225), .int (nI kn13226), .int vtf])), (tby, .inl (G.2.1, 240, .inl fby))] := hD
        have w3227 := hr3222
        refine lv_aload_n hx hb dX10_takesOne_72 rfl (lv_at hl 2 rfl) ?_
        refine lv_iload_n hx hb dX10_takesOne_73 rfl (lv_at hl 3 rfl) ?_
        refine lv_iconst (v := 1) hx hb dX10_takesOne_74 (by decide) ?_
        refine lv_iadd hx hb dX10_takesOne_75 ?_
        refine eqi (x1 := 2) (by decide) ?_
        refine iVo (wr := []) hO hC hK hl hP hD hS hA (t_cond2 l G K h0 tby kt tln tsp kd13224 ks13225 kn13226 vtf fby tspc ksp ftsp (by omega) (by omega) (by omega) (by omega)) si_X10_121 [2, 3, 0, 1] [] rfl rfl (by decide) rfl (by decide) (by decide) rfl rfl rfl rfl rfl (Nat.le_of_ble_eq_true rfl) ⟨Nat.le_of_ble_eq_true rfl, Nat.le_of_ble_eq_true rfl⟩ ⟨Nat.le_of_ble_eq_true rfl, Nat.le_of_ble_eq_true rfl⟩ dX10_takesOne_76 (fun r3228 u3229 H locs hr3228 hP hD hS => ?_)
        obtain ⟨kd13230, ks13231, kn13232, tf13233, ksp13234, gtsp3235⟩ := u3229
        try dsimp only at hr3228
        have hP : va_P G.1 vwCl [(h0, .inr (10, [.ref tby, .int (nI kt), .ref tln, .ref tsp, .int kd13230, .int (nI ks13231), .int (nI kn13232), .int tf13233])), (tby, .inl (G.2.1, 240, .inl fby)), (tsp, .inr (8, [.int 120, .int 1, .ref tspc, .int (nI ksp13234)])), (tspc, .inl (G.2.1, 120, .inl gtsp3235))] H := hP
        have hD : va_D A [(h0, .inr (10, [.ref tby, .int (nI kt), .ref tln, .ref tsp, .int kd13230, .int (nI ks13231), .int (nI kn13232), .int tf13233])), (tby, .inl (G.2.1, 240, .inl fby)), (tsp, .inr (8, [.int 120, .int 1, .ref tspc, .int (nI ksp13234)])), (tspc, .inl (G.2.1, 120, .inl gtsp3235))] := hD
        obtain ⟨hr3228, w3236⟩ := hr3228
        rcases hr3228 with rfl | rfl
        · refine lv_if_eq (tgt := 91) hx hb dX10_takesOne_79 (by decide) (fun c9 => absurd c9 (by decide)) (fun _ => ?_)
          refine lv_aload_n hx hb dX10_takesOne_82 rfl (lv_at hl 2 rfl) ?_
          refine lv_bipush (v := 41) hx hb dX10_takesOne_83 (by decide) ?_
          refine iV (wr := [(tsp, .inr (8, [.int 120, .int 1, .ref tspc, .int (nI ksp13234)])), (tspc, .inl (G.2.1, 120, .inl gtsp3235))]) hC hK hl hP hD hS hA (t_takesByte l G h0 41 tby kt tln tsp kd13230 ks13231 kn13232 tf13233 fby (by omega) (by omega) (by omega)) si_X10_124 [0, 1] [2, 3] rfl rfl (by decide) rfl (by decide) (by decide) rfl rfl rfl rfl rfl (Nat.le_of_ble_eq_true rfl) ⟨Nat.le_of_ble_eq_true rfl, Nat.le_of_ble_eq_true rfl⟩ ⟨Nat.le_of_ble_eq_true rfl, Nat.le_of_ble_eq_true rfl⟩ dX10_takesOne_85 (fun r3238 u3239 H locs hr3238 hP hD hS => ?_)
          obtain ⟨kd13240, ks13241, kn13242, tf13243⟩ := u3239
          try dsimp only at hr3238
          have hP : va_P G.1 vwCl [(tsp, .inr (8, [.int 120, .int 1, .ref tspc, .int (nI ksp13234)])), (tspc, .inl (G.2.1, 120, .inl gtsp3235)), (h0, .inr (10, [.ref tby, .int (nI kt), .ref tln, .ref tsp, .int kd13240, .int (nI ks13241), .int (nI kn13242), .int tf13243])), (tby, .inl (G.2.1, 240, .inl fby))] H := hP
          have hD : va_D A [(tsp, .inr (8, [.int 120, .int 1, .ref tspc, .int (nI ksp13234)])), (tspc, .inl (G.2.1, 120, .inl gtsp3235)), (h0, .inr (10, [.ref tby, .int (nI kt), .ref tln, .ref tsp, .int kd13240, .int (nI ks13241), .int (nI kn13242), .int tf13243])), (tby, .inl (G.2.1, 240, .inl fby))] := hD
          obtain ⟨hr3238, w3244⟩ := hr3238
          rcases hr3238 with rfl | rfl
          · refine lv_if_ne (tgt := 93) hx hb dX10_takesOne_88 (by decide) (fun _ => ?_) (fun c9 => absurd c9 (by decide))
            refine lv_iload_n hx hb dX10_takesOne_93 rfl (lv_at hl 1 rfl) ?_
            refine lv_if_eq (tgt := 102) hx hb dX10_takesOne_94 (by decide) (fun c_94_3246 => ?_) (fun c_94_3246 => ?_)
            · refine lv_iconst (v := 1) hx hb dX10_takesOne_102 (by decide) ?_
              exact RI (v := 1) hC hP hD hS [2, 3, 0, 1] (kd13240, ks13241, kn13242, tf13243, ksp13234, gtsp3235) rfl rfl (by decide) (⟨Or.inl (rfl), by dsimp only; omega⟩) (by decide +kernel) dX10_takesOne_103
            · refine lv_aload_n hx hb dX10_takesOne_97 rfl (lv_at hl 2 rfl) ?_
              refine lv_iconst (v := (-1)) hx hb dX10_takesOne_98 (by decide) ?_
              refine vV (wr := [(tby, .inl (G.2.1, 240, .inl fby))]) hC hK hl hP hD hS hA (t_addStep l G h0 (-1) tby kt tln tsp kd13240 ks13241 kn13242 tf13243 tspc ksp13234 gtsp3235 (by omega)) si_X10_152 [2, 0, 1] [3] rfl rfl (by decide) rfl (by decide) (by decide) rfl rfl rfl rfl rfl (Nat.le_of_ble_eq_true rfl) ⟨Nat.le_of_ble_eq_true rfl, Nat.le_of_ble_eq_true rfl⟩ ⟨Nat.le_of_ble_eq_true rfl, Nat.le_of_ble_eq_true rfl⟩ dX10_takesOne_99 (fun u3248 H locs hr3247 hP hD hS => ?_)
              obtain ⟨ksp13249, gtsp3250⟩ := u3248
              try dsimp only at hr3247
              have hP : va_P G.1 vwCl [(tby, .inl (G.2.1, 240, .inl fby)), (h0, .inr (10, [.ref tby, .int (nI kt), .ref tln, .ref tsp, .int kd13240, .int (nI ks13241), .int (nI kn13242), .int tf13243])), (tsp, .inr (8, [.int 120, .int 1, .ref tspc, .int (nI ksp13249)])), (tspc, .inl (G.2.1, 120, .inl gtsp3250))] H := hP
              have hD : va_D A [(tby, .inl (G.2.1, 240, .inl fby)), (h0, .inr (10, [.ref tby, .int (nI kt), .ref tln, .ref tsp, .int kd13240, .int (nI ks13241), .int (nI kn13242), .int tf13243])), (tsp, .inr (8, [.int 120, .int 1, .ref tspc, .int (nI ksp13249)])), (tspc, .inl (G.2.1, 120, .inl gtsp3250))] := hD
              have w3251 := hr3247
              refine lv_iconst (v := 1) hx hb dX10_takesOne_102 (by decide) ?_
              exact RI (v := 1) hC hP hD hS [1, 0, 2, 3] (kd13240, ks13241, kn13242, tf13243, ksp13249, gtsp3250) rfl rfl (by decide) (⟨Or.inl (rfl), by dsimp only; omega⟩) (by decide +kernel) dX10_takesOne_103
          · refine lv_if_ne (tgt := 93) hx hb dX10_takesOne_88 (by decide) (fun c9 => absurd (by decide) c9) (fun _ => ?_)
            refine lv_iconst (v := 0) hx hb dX10_takesOne_91 (by decide) ?_
            exact RI (v := 0) hC hP hD hS [2, 3, 0, 1] (kd13240, ks13241, kn13242, tf13243, ksp13234, gtsp3235) rfl rfl (by decide) (⟨Or.inr (rfl), by dsimp only; omega⟩) (by decide +kernel) dX10_takesOne_92
        · refine lv_if_eq (tgt := 91) hx hb dX10_takesOne_79 (by decide) (fun _ => ?_) (fun c9 => absurd (by decide) c9)
          refine lv_iconst (v := 0) hx hb dX10_takesOne_91 (by decide) ?_
          exact RI (v := 0) hC hP hD hS [0, 1, 2, 3] (kd13230, ks13231, kn13232, tf13233, ksp13234, gtsp3235) rfl rfl (by decide) (⟨Or.inr (rfl), by dsimp only; omega⟩) (by decide +kernel) dX10_takesOne_92
      · refine lv_aload_n hx hb dX10_takesOne_49 rfl (lv_at hl 2 rfl) ?_
        refine iVo (wr := []) hO hC hK hl hP hD hS hA (t_takesComparison l G K h0 tby kt tln tsp vkd vks vkn vtf fby tspc ksp ftsp (by omega) (by omega) (by omega) (by omega)) si_X10_162 [0, 1, 2, 3] [] rfl rfl (by decide) rfl (by decide) (by decide) rfl rfl rfl rfl rfl (Nat.le_of_ble_eq_true rfl) ⟨Nat.le_of_ble_eq_true rfl, Nat.le_of_ble_eq_true rfl⟩ ⟨Nat.le_of_ble_eq_true rfl, Nat.le_of_ble_eq_true rfl⟩ dX10_takesOne_50 (fun r3252 u3253 H locs hr3252 hP hD hS => ?_)
        obtain ⟨kd13254, ks13255, kn13256, tf13257, ksp13258, gtsp3259⟩ := u3253
        try dsimp only at hr3252
        have hP : va_P G.1 vwCl [(h0, .inr (10, [.ref tby, .int (nI kt), .ref tln, .ref tsp, .int kd13254, .int (nI ks13255), .int (nI kn13256), .int tf13257])), (tby, .inl (G.2.1, 240, .inl fby)), (tsp, .inr (8, [.int 120, .int 1, .ref tspc, .int (nI ksp13258)])), (tspc, .inl (G.2.1, 120, .inl gtsp3259))] H := hP
        have hD : va_D A [(h0, .inr (10, [.ref tby, .int (nI kt), .ref tln, .ref tsp, .int kd13254, .int (nI ks13255), .int (nI kn13256), .int tf13257])), (tby, .inl (G.2.1, 240, .inl fby)), (tsp, .inr (8, [.int 120, .int 1, .ref tspc, .int (nI ksp13258)])), (tspc, .inl (G.2.1, 120, .inl gtsp3259))] := hD
        obtain ⟨hr3252, w3260⟩ := hr3252
        rcases hr3252 with rfl | rfl
        · refine lv_if_ne (tgt := 93) hx hb dX10_takesOne_53 (by decide) (fun _ => ?_) (fun c9 => absurd c9 (by decide))
          refine lv_iload_n hx hb dX10_takesOne_93 rfl (lv_at hl 1 rfl) ?_
          refine lv_if_eq (tgt := 102) hx hb dX10_takesOne_94 (by decide) (fun c_94_3262 => ?_) (fun c_94_3262 => ?_)
          · refine lv_iconst (v := 1) hx hb dX10_takesOne_102 (by decide) ?_
            exact RI (v := 1) hC hP hD hS [0, 1, 2, 3] (kd13254, ks13255, kn13256, tf13257, ksp13258, gtsp3259) rfl rfl (by decide) (⟨Or.inl (rfl), by dsimp only; omega⟩) (by decide +kernel) dX10_takesOne_103
          · refine lv_aload_n hx hb dX10_takesOne_97 rfl (lv_at hl 2 rfl) ?_
            refine lv_iconst (v := (-1)) hx hb dX10_takesOne_98 (by decide) ?_
            refine vV (wr := [(tby, .inl (G.2.1, 240, .inl fby))]) hC hK hl hP hD hS hA (t_addStep l G h0 (-1) tby kt tln tsp kd13254 ks13255 kn13256 tf13257 tspc ksp13258 gtsp3259 (by omega)) si_X10_152 [0, 2, 3] [1] rfl rfl (by decide) rfl (by decide) (by decide) rfl rfl rfl rfl rfl (Nat.le_of_ble_eq_true rfl) ⟨Nat.le_of_ble_eq_true rfl, Nat.le_of_ble_eq_true rfl⟩ ⟨Nat.le_of_ble_eq_true rfl, Nat.le_of_ble_eq_true rfl⟩ dX10_takesOne_99 (fun u3264 H locs hr3263 hP hD hS => ?_)
            obtain ⟨ksp13265, gtsp3266⟩ := u3264
            try dsimp only at hr3263
            have hP : va_P G.1 vwCl [(tby, .inl (G.2.1, 240, .inl fby)), (h0, .inr (10, [.ref tby, .int (nI kt), .ref tln, .ref tsp, .int kd13254, .int (nI ks13255), .int (nI kn13256), .int tf13257])), (tsp, .inr (8, [.int 120, .int 1, .ref tspc, .int (nI ksp13265)])), (tspc, .inl (G.2.1, 120, .inl gtsp3266))] H := hP
            have hD : va_D A [(tby, .inl (G.2.1, 240, .inl fby)), (h0, .inr (10, [.ref tby, .int (nI kt), .ref tln, .ref tsp, .int kd13254, .int (nI ks13255), .int (nI kn13256), .int tf13257])), (tsp, .inr (8, [.int 120, .int 1, .ref tspc, .int (nI ksp13265)])), (tspc, .inl (G.2.1, 120, .inl gtsp3266))] := hD
            have w3267 := hr3263
            refine lv_iconst (v := 1) hx hb dX10_takesOne_102 (by decide) ?_
            exact RI (v := 1) hC hP hD hS [1, 0, 2, 3] (kd13254, ks13255, kn13256, tf13257, ksp13265, gtsp3266) rfl rfl (by decide) (⟨Or.inl (rfl), by dsimp only; omega⟩) (by decide +kernel) dX10_takesOne_103
        · refine lv_if_ne (tgt := 93) hx hb dX10_takesOne_53 (by decide) (fun c9 => absurd (by decide) c9) (fun _ => ?_)
          refine lv_iconst (v := 0) hx hb dX10_takesOne_56 (by decide) ?_
          exact RI (v := 0) hC hP hD hS [0, 1, 2, 3] (kd13254, ks13255, kn13256, tf13257, ksp13258, gtsp3259) rfl rfl (by decide) (⟨Or.inr (rfl), by dsimp only; omega⟩) (by decide +kernel) dX10_takesOne_57
    | succ nP ihP =>
      intro kP tu vkd vtf vks vkn H locs ls hkP hvks hvkn hP hD hS hl
      refine lv_iload_n hx hb dX10_takesOne_4 rfl (lv_at hl 0 rfl) ?_
      refine lv_sipush (v := 240) hx hb dX10_takesOne_5 (by decide) ?_
      refine lv_icmp_ge (tgt := 40) hx hb dX10_takesOne_8 (by decide) (fun c9 => absurd c9 (nI_ge (a := kP) (b := 240) (by omega) (by omega))) (fun _ => ?_)
      refine lv_aload_n hx hb dX10_takesOne_11 rfl (lv_at hl 2 rfl) ?_
      refine va_ldcS (index := 160) (tx := "not") hx hb hown (hO.2.1 10 (by decide)) dX10_takesOne_12 ?_
      refine pVo hO hS hC hK hl hP hD (t_isName l G K 10 h0 tby kt tln tsp vkd vks vkn vtf fby (by omega) (by omega) (by omega) ((by decide))) si_X10_102 [0, 1] rfl rfl (by decide) rfl rfl rfl rfl rfl (Nat.le_of_ble_eq_true rfl) ⟨Nat.le_of_ble_eq_true rfl, Nat.le_of_ble_eq_true rfl⟩ ⟨by first | exact Nat.le_of_ble_eq_true rfl | exact Nat.zero_le _, by first | exact Nat.le_of_ble_eq_true rfl | exact Nat.zero_le _⟩ dX10_takesOne_14 (fun r3268 hr3268 => ?_)
      rcases hr3268 with rfl | rfl
      · refine lv_if_eq (tgt := 40) hx hb dX10_takesOne_17 (by decide) (fun c9 => absurd c9 (by decide)) (fun _ => ?_)
        refine lv_aload_n hx hb dX10_takesOne_20 rfl (lv_at hl 2 rfl) ?_
        refine vV (wr := [(tsp, .inr (8, [.int 120, .int 1, .ref tspc, .int (nI ksp)])), (tspc, .inl (G.2.1, 120, .inl ftsp))]) hC hK hl hP hD hS hA (t_advance l G h0 tby kt tln tsp vkd vks vkn vtf fby (by omega) (by omega) (by omega)) si_X10_47 [0, 1] [2, 3] rfl rfl (by decide) rfl (by decide) (by decide) rfl rfl rfl rfl rfl (Nat.le_of_ble_eq_true rfl) ⟨Nat.le_of_ble_eq_true rfl, Nat.le_of_ble_eq_true rfl⟩ ⟨Nat.le_of_ble_eq_true rfl, Nat.le_of_ble_eq_true rfl⟩ dX10_takesOne_21 (fun u3271 H locs hr3270 hP hD hS => ?_)
        obtain ⟨kd13272, ks13273, kn13274⟩ := u3271
        try dsimp only at hr3270
        have hP : va_P G.1 vwCl [(tsp, .inr (8, [.int 120, .int 1, .ref tspc, .int (nI ksp)])), (tspc, .inl (G.2.1, 120, .inl ftsp)), (h0, .inr (10, [.ref tby, .int (nI kt), .ref tln, .ref tsp, .int kd13272, .int (nI ks13273), .int (nI kn13274), .int vtf])), (tby, .inl (G.2.1, 240, .inl fby))] H := hP
        have hD : va_D A [(tsp, .inr (8, [.int 120, .int 1, .ref tspc, .int (nI ksp)])), (tspc, .inl (G.2.1, 120, .inl ftsp)), (h0, .inr (10, [.ref tby, .int (nI kt), .ref tln, .ref tsp, .int kd13272, .int (nI ks13273), .int (nI kn13274), .int vtf])), (tby, .inl (G.2.1, 240, .inl fby))] := hD
        have w3275 := hr3270
        refine lv_iload_n hx hb dX10_takesOne_24 rfl (lv_at hl 1 rfl) ?_
        refine lv_if_ne (tgt := 32) hx hb dX10_takesOne_25 (by decide) (fun c_25_3276 => ?_) (fun c_25_3276 => ?_)
        · refine lv_iconst (v := 0) hx hb dX10_takesOne_32 (by decide) ?_
          refine lv_istore_n (lv' := [(2, .int 0), (3, .int (nI kP)), (0, .ref h0), (1, .int 1)]) hx hb dX10_takesOne_33 rfl hl (by decide) rfl (fun ls hl => ?_)
          refine lv_iinc (v := nI (kP + 1)) (lv' := [(3, .int (nI (kP + 1))), (2, .int 0), (0, .ref h0), (1, .int 1)]) hx hb dX10_takesOne_34 hl (k := 1) rfl (nI_1 _) (by decide) rfl (fun ls hl => ?_)
          refine lv_goto (tgt := 4) hx hb dX10_takesOne_37 (by decide) ?_
          have hP := hP.sub (ws' := [(h0, .inr (10, [.ref tby, .int (nI kt), .ref tln, .ref tsp, .int kd13272, .int (nI ks13273), .int (nI kn13274), .int vtf])), (tby, .inl (G.2.1, 240, .inl fby)), (tsp, .inr (8, [.int 120, .int 1, .ref tspc, .int (nI ksp)])), (tspc, .inl (G.2.1, 120, .inl ftsp))]) [2, 3, 0, 1] rfl
          have hD := hD.sub (ws' := [(h0, .inr (10, [.ref tby, .int (nI kt), .ref tln, .ref tsp, .int kd13272, .int (nI ks13273), .int (nI kn13274), .int vtf])), (tby, .inl (G.2.1, 240, .inl fby)), (tsp, .inr (8, [.int 120, .int 1, .ref tspc, .int (nI ksp)])), (tspc, .inl (G.2.1, 120, .inl ftsp))]) [2, 3, 0, 1] (by decide) rfl
          exact ihP (kP + 1) 0 kd13272 vtf ks13273 kn13274 _ _ _ (by omega) (by first | assumption | exact Or.inl rfl | exact Or.inr rfl | omega) (by first | assumption | exact Or.inl rfl | exact Or.inr rfl | omega) hP hD hS (lv_sub hl [0, 1, 2, 3] rfl)
        · refine lv_iconst (v := 1) hx hb dX10_takesOne_28 (by decide) ?_
          refine lv_goto (tgt := 33) hx hb dX10_takesOne_29 (by decide) ?_
          refine lv_istore_n (lv' := [(2, .int 1), (3, .int (nI kP)), (0, .ref h0), (1, .int 1)]) hx hb dX10_takesOne_33 rfl hl (by decide) rfl (fun ls hl => ?_)
          refine lv_iinc (v := nI (kP + 1)) (lv' := [(3, .int (nI (kP + 1))), (2, .int 1), (0, .ref h0), (1, .int 1)]) hx hb dX10_takesOne_34 hl (k := 1) rfl (nI_1 _) (by decide) rfl (fun ls hl => ?_)
          refine lv_goto (tgt := 4) hx hb dX10_takesOne_37 (by decide) ?_
          have hP := hP.sub (ws' := [(h0, .inr (10, [.ref tby, .int (nI kt), .ref tln, .ref tsp, .int kd13272, .int (nI ks13273), .int (nI kn13274), .int vtf])), (tby, .inl (G.2.1, 240, .inl fby)), (tsp, .inr (8, [.int 120, .int 1, .ref tspc, .int (nI ksp)])), (tspc, .inl (G.2.1, 120, .inl ftsp))]) [2, 3, 0, 1] rfl
          have hD := hD.sub (ws' := [(h0, .inr (10, [.ref tby, .int (nI kt), .ref tln, .ref tsp, .int kd13272, .int (nI ks13273), .int (nI kn13274), .int vtf])), (tby, .inl (G.2.1, 240, .inl fby)), (tsp, .inr (8, [.int 120, .int 1, .ref tspc, .int (nI ksp)])), (tspc, .inl (G.2.1, 120, .inl ftsp))]) [2, 3, 0, 1] (by decide) rfl
          exact ihP (kP + 1) 1 kd13272 vtf ks13273 kn13274 _ _ _ (by omega) (by first | assumption | exact Or.inl rfl | exact Or.inr rfl | omega) (by first | assumption | exact Or.inl rfl | exact Or.inr rfl | omega) hP hD hS (lv_sub hl [0, 1, 2, 3] rfl)
      · refine lv_if_eq (tgt := 40) hx hb dX10_takesOne_17 (by decide) (fun _ => ?_) (fun c9 => absurd (by decide) c9)
        refine lv_aload_n hx hb dX10_takesOne_40 rfl (lv_at hl 2 rfl) ?_
        refine gf_X10_31 hC rfl hK hP 0 rfl rfl dX10_takesOne_41 ?_
        refine lv_bipush (v := 40) hx hb dX10_takesOne_44 (by decide) ?_
        refine lv_icmp_eq (tgt := 58) hx hb dX10_takesOne_46 (by decide) (fun c_46_3277 => ?_) (fun c_46_3277 => ?_)
        · refine lv_iload_n hx hb dX10_takesOne_58 rfl (lv_at hl 3 rfl) ?_
          refine lv_iconst (v := 4) hx hb dX10_takesOne_59 (by decide) ?_
          refine lv_icmp_lt (tgt := 68) hx hb dX10_takesOne_60 (by decide) (fun _ => ?_) (fun c9 => absurd (by decide) c9)
          refine lv_aload_n hx hb dX10_takesOne_68 rfl (lv_at hl 2 rfl) ?_
          refine vV (wr := [(tsp, .inr (8, [.int 120, .int 1, .ref tspc, .int (nI ksp)])), (tspc, .inl (G.2.1, 120, .inl ftsp))]) hC hK hl hP hD hS hA (t_advance l G h0 tby kt tln tsp vkd vks vkn vtf fby (by omega) (by omega) (by omega)) si_X10_47 [0, 1] [2, 3] rfl rfl (by decide) rfl (by decide) (by decide) rfl rfl rfl rfl rfl (Nat.le_of_ble_eq_true rfl) ⟨Nat.le_of_ble_eq_true rfl, Nat.le_of_ble_eq_true rfl⟩ ⟨Nat.le_of_ble_eq_true rfl, Nat.le_of_ble_eq_true rfl⟩ dX10_takesOne_69 (fun u3279 H locs hr3278 hP hD hS => ?_)
          obtain ⟨kd13280, ks13281, kn13282⟩ := u3279
          try dsimp only at hr3278
          have hP : va_P G.1 vwCl [(tsp, .inr (8, [.int 120, .int 1, .ref tspc, .int (nI ksp)])), (tspc, .inl (G.2.1, 120, .inl ftsp)), (h0, .inr (10, [.ref tby, .int (nI kt), .ref tln, .ref tsp, .int kd13280, .int (nI ks13281), .int (nI kn13282), .int vtf])), (tby, .inl (G.2.1, 240, .inl fby))] H := hP
          have hD : va_D A [(tsp, .inr (8, [.int 120, .int 1, .ref tspc, .int (nI ksp)])), (tspc, .inl (G.2.1, 120, .inl ftsp)), (h0, .inr (10, [.ref tby, .int (nI kt), .ref tln, .ref tsp, .int kd13280, .int (nI ks13281), .int (nI kn13282), .int vtf])), (tby, .inl (G.2.1, 240, .inl fby))] := hD
          have w3283 := hr3278
          refine lv_aload_n hx hb dX10_takesOne_72 rfl (lv_at hl 2 rfl) ?_
          refine lv_iload_n hx hb dX10_takesOne_73 rfl (lv_at hl 3 rfl) ?_
          refine lv_iconst (v := 1) hx hb dX10_takesOne_74 (by decide) ?_
          refine lv_iadd hx hb dX10_takesOne_75 ?_
          refine eqi (x1 := 2) (by decide) ?_
          refine iVo (wr := []) hO hC hK hl hP hD hS hA (t_cond2 l G K h0 tby kt tln tsp kd13280 ks13281 kn13282 vtf fby tspc ksp ftsp (by omega) (by omega) (by omega) (by omega)) si_X10_121 [2, 3, 0, 1] [] rfl rfl (by decide) rfl (by decide) (by decide) rfl rfl rfl rfl rfl (Nat.le_of_ble_eq_true rfl) ⟨Nat.le_of_ble_eq_true rfl, Nat.le_of_ble_eq_true rfl⟩ ⟨Nat.le_of_ble_eq_true rfl, Nat.le_of_ble_eq_true rfl⟩ dX10_takesOne_76 (fun r3284 u3285 H locs hr3284 hP hD hS => ?_)
          obtain ⟨kd13286, ks13287, kn13288, tf13289, ksp13290, gtsp3291⟩ := u3285
          try dsimp only at hr3284
          have hP : va_P G.1 vwCl [(h0, .inr (10, [.ref tby, .int (nI kt), .ref tln, .ref tsp, .int kd13286, .int (nI ks13287), .int (nI kn13288), .int tf13289])), (tby, .inl (G.2.1, 240, .inl fby)), (tsp, .inr (8, [.int 120, .int 1, .ref tspc, .int (nI ksp13290)])), (tspc, .inl (G.2.1, 120, .inl gtsp3291))] H := hP
          have hD : va_D A [(h0, .inr (10, [.ref tby, .int (nI kt), .ref tln, .ref tsp, .int kd13286, .int (nI ks13287), .int (nI kn13288), .int tf13289])), (tby, .inl (G.2.1, 240, .inl fby)), (tsp, .inr (8, [.int 120, .int 1, .ref tspc, .int (nI ksp13290)])), (tspc, .inl (G.2.1, 120, .inl gtsp3291))] := hD
          obtain ⟨hr3284, w3292⟩ := hr3284
          rcases hr3284 with rfl | rfl
          · refine lv_if_eq (tgt := 91) hx hb dX10_takesOne_79 (by decide) (fun c9 => absurd c9 (by decide)) (fun _ => ?_)
            refine lv_aload_n hx hb dX10_takesOne_82 rfl (lv_at hl 2 rfl) ?_
            refine lv_bipush (v := 41) hx hb dX10_takesOne_83 (by decide) ?_
            refine iV (wr := [(tsp, .inr (8, [.int 120, .int 1, .ref tspc, .int (nI ksp13290)])), (tspc, .inl (G.2.1, 120, .inl gtsp3291))]) hC hK hl hP hD hS hA (t_takesByte l G h0 41 tby kt tln tsp kd13286 ks13287 kn13288 tf13289 fby (by omega) (by omega) (by omega)) si_X10_124 [0, 1] [2, 3] rfl rfl (by decide) rfl (by decide) (by decide) rfl rfl rfl rfl rfl (Nat.le_of_ble_eq_true rfl) ⟨Nat.le_of_ble_eq_true rfl, Nat.le_of_ble_eq_true rfl⟩ ⟨Nat.le_of_ble_eq_true rfl, Nat.le_of_ble_eq_true rfl⟩ dX10_takesOne_85 (fun r3294 u3295 H locs hr3294 hP hD hS => ?_)
            obtain ⟨kd13296, ks13297, kn13298, tf13299⟩ := u3295
            try dsimp only at hr3294
            have hP : va_P G.1 vwCl [(tsp, .inr (8, [.int 120, .int 1, .ref tspc, .int (nI ksp13290)])), (tspc, .inl (G.2.1, 120, .inl gtsp3291)), (h0, .inr (10, [.ref tby, .int (nI kt), .ref tln, .ref tsp, .int kd13296, .int (nI ks13297), .int (nI kn13298), .int tf13299])), (tby, .inl (G.2.1, 240, .inl fby))] H := hP
            have hD : va_D A [(tsp, .inr (8, [.int 120, .int 1, .ref tspc, .int (nI ksp13290)])), (tspc, .inl (G.2.1, 120, .inl gtsp3291)), (h0, .inr (10, [.ref tby, .int (nI kt), .ref tln, .ref tsp, .int kd13296, .int (nI ks13297), .int (nI kn13298), .int tf13299])), (tby, .inl (G.2.1, 240, .inl fby))] := hD
            obtain ⟨hr3294, w3300⟩ := hr3294
            rcases hr3294 with rfl | rfl
            · refine lv_if_ne (tgt := 93) hx hb dX10_takesOne_88 (by decide) (fun _ => ?_) (fun c9 => absurd c9 (by decide))
              refine lv_iload_n hx hb dX10_takesOne_93 rfl (lv_at hl 1 rfl) ?_
              refine lv_if_eq (tgt := 102) hx hb dX10_takesOne_94 (by decide) (fun c_94_3302 => ?_) (fun c_94_3302 => ?_)
              · refine lv_iconst (v := 1) hx hb dX10_takesOne_102 (by decide) ?_
                exact RI (v := 1) hC hP hD hS [2, 3, 0, 1] (kd13296, ks13297, kn13298, tf13299, ksp13290, gtsp3291) rfl rfl (by decide) (⟨Or.inl (rfl), by dsimp only; omega⟩) (by decide +kernel) dX10_takesOne_103
              · refine lv_aload_n hx hb dX10_takesOne_97 rfl (lv_at hl 2 rfl) ?_
                refine lv_iconst (v := (-1)) hx hb dX10_takesOne_98 (by decide) ?_
                refine vV (wr := [(tby, .inl (G.2.1, 240, .inl fby))]) hC hK hl hP hD hS hA (t_addStep l G h0 (-1) tby kt tln tsp kd13296 ks13297 kn13298 tf13299 tspc ksp13290 gtsp3291 (by omega)) si_X10_152 [2, 0, 1] [3] rfl rfl (by decide) rfl (by decide) (by decide) rfl rfl rfl rfl rfl (Nat.le_of_ble_eq_true rfl) ⟨Nat.le_of_ble_eq_true rfl, Nat.le_of_ble_eq_true rfl⟩ ⟨Nat.le_of_ble_eq_true rfl, Nat.le_of_ble_eq_true rfl⟩ dX10_takesOne_99 (fun u3304 H locs hr3303 hP hD hS => ?_)
                obtain ⟨ksp13305, gtsp3306⟩ := u3304
                try dsimp only at hr3303
                have hP : va_P G.1 vwCl [(tby, .inl (G.2.1, 240, .inl fby)), (h0, .inr (10, [.ref tby, .int (nI kt), .ref tln, .ref tsp, .int kd13296, .int (nI ks13297), .int (nI kn13298), .int tf13299])), (tsp, .inr (8, [.int 120, .int 1, .ref tspc, .int (nI ksp13305)])), (tspc, .inl (G.2.1, 120, .inl gtsp3306))] H := hP
                have hD : va_D A [(tby, .inl (G.2.1, 240, .inl fby)), (h0, .inr (10, [.ref tby, .int (nI kt), .ref tln, .ref tsp, .int kd13296, .int (nI ks13297), .int (nI kn13298), .int tf13299])), (tsp, .inr (8, [.int 120, .int 1, .ref tspc, .int (nI ksp13305)])), (tspc, .inl (G.2.1, 120, .inl gtsp3306))] := hD
                have w3307 := hr3303
                refine lv_iconst (v := 1) hx hb dX10_takesOne_102 (by decide) ?_
                exact RI (v := 1) hC hP hD hS [1, 0, 2, 3] (kd13296, ks13297, kn13298, tf13299, ksp13305, gtsp3306) rfl rfl (by decide) (⟨Or.inl (rfl), by dsimp only; omega⟩) (by decide +kernel) dX10_takesOne_103
            · refine lv_if_ne (tgt := 93) hx hb dX10_takesOne_88 (by decide) (fun c9 => absurd (by decide) c9) (fun _ => ?_)
              refine lv_iconst (v := 0) hx hb dX10_takesOne_91 (by decide) ?_
              exact RI (v := 0) hC hP hD hS [2, 3, 0, 1] (kd13296, ks13297, kn13298, tf13299, ksp13290, gtsp3291) rfl rfl (by decide) (⟨Or.inr (rfl), by dsimp only; omega⟩) (by decide +kernel) dX10_takesOne_92
          · refine lv_if_eq (tgt := 91) hx hb dX10_takesOne_79 (by decide) (fun _ => ?_) (fun c9 => absurd (by decide) c9)
            refine lv_iconst (v := 0) hx hb dX10_takesOne_91 (by decide) ?_
            exact RI (v := 0) hC hP hD hS [0, 1, 2, 3] (kd13286, ks13287, kn13288, tf13289, ksp13290, gtsp3291) rfl rfl (by decide) (⟨Or.inr (rfl), by dsimp only; omega⟩) (by decide +kernel) dX10_takesOne_92
        · refine lv_aload_n hx hb dX10_takesOne_49 rfl (lv_at hl 2 rfl) ?_
          refine iVo (wr := []) hO hC hK hl hP hD hS hA (t_takesComparison l G K h0 tby kt tln tsp vkd vks vkn vtf fby tspc ksp ftsp (by omega) (by omega) (by omega) (by omega)) si_X10_162 [0, 1, 2, 3] [] rfl rfl (by decide) rfl (by decide) (by decide) rfl rfl rfl rfl rfl (Nat.le_of_ble_eq_true rfl) ⟨Nat.le_of_ble_eq_true rfl, Nat.le_of_ble_eq_true rfl⟩ ⟨Nat.le_of_ble_eq_true rfl, Nat.le_of_ble_eq_true rfl⟩ dX10_takesOne_50 (fun r3308 u3309 H locs hr3308 hP hD hS => ?_)
          obtain ⟨kd13310, ks13311, kn13312, tf13313, ksp13314, gtsp3315⟩ := u3309
          try dsimp only at hr3308
          have hP : va_P G.1 vwCl [(h0, .inr (10, [.ref tby, .int (nI kt), .ref tln, .ref tsp, .int kd13310, .int (nI ks13311), .int (nI kn13312), .int tf13313])), (tby, .inl (G.2.1, 240, .inl fby)), (tsp, .inr (8, [.int 120, .int 1, .ref tspc, .int (nI ksp13314)])), (tspc, .inl (G.2.1, 120, .inl gtsp3315))] H := hP
          have hD : va_D A [(h0, .inr (10, [.ref tby, .int (nI kt), .ref tln, .ref tsp, .int kd13310, .int (nI ks13311), .int (nI kn13312), .int tf13313])), (tby, .inl (G.2.1, 240, .inl fby)), (tsp, .inr (8, [.int 120, .int 1, .ref tspc, .int (nI ksp13314)])), (tspc, .inl (G.2.1, 120, .inl gtsp3315))] := hD
          obtain ⟨hr3308, w3316⟩ := hr3308
          rcases hr3308 with rfl | rfl
          · refine lv_if_ne (tgt := 93) hx hb dX10_takesOne_53 (by decide) (fun _ => ?_) (fun c9 => absurd c9 (by decide))
            refine lv_iload_n hx hb dX10_takesOne_93 rfl (lv_at hl 1 rfl) ?_
            refine lv_if_eq (tgt := 102) hx hb dX10_takesOne_94 (by decide) (fun c_94_3318 => ?_) (fun c_94_3318 => ?_)
            · refine lv_iconst (v := 1) hx hb dX10_takesOne_102 (by decide) ?_
              exact RI (v := 1) hC hP hD hS [0, 1, 2, 3] (kd13310, ks13311, kn13312, tf13313, ksp13314, gtsp3315) rfl rfl (by decide) (⟨Or.inl (rfl), by dsimp only; omega⟩) (by decide +kernel) dX10_takesOne_103
            · refine lv_aload_n hx hb dX10_takesOne_97 rfl (lv_at hl 2 rfl) ?_
              refine lv_iconst (v := (-1)) hx hb dX10_takesOne_98 (by decide) ?_
              refine vV (wr := [(tby, .inl (G.2.1, 240, .inl fby))]) hC hK hl hP hD hS hA (t_addStep l G h0 (-1) tby kt tln tsp kd13310 ks13311 kn13312 tf13313 tspc ksp13314 gtsp3315 (by omega)) si_X10_152 [0, 2, 3] [1] rfl rfl (by decide) rfl (by decide) (by decide) rfl rfl rfl rfl rfl (Nat.le_of_ble_eq_true rfl) ⟨Nat.le_of_ble_eq_true rfl, Nat.le_of_ble_eq_true rfl⟩ ⟨Nat.le_of_ble_eq_true rfl, Nat.le_of_ble_eq_true rfl⟩ dX10_takesOne_99 (fun u3320 H locs hr3319 hP hD hS => ?_)
              obtain ⟨ksp13321, gtsp3322⟩ := u3320
              try dsimp only at hr3319
              have hP : va_P G.1 vwCl [(tby, .inl (G.2.1, 240, .inl fby)), (h0, .inr (10, [.ref tby, .int (nI kt), .ref tln, .ref tsp, .int kd13310, .int (nI ks13311), .int (nI kn13312), .int tf13313])), (tsp, .inr (8, [.int 120, .int 1, .ref tspc, .int (nI ksp13321)])), (tspc, .inl (G.2.1, 120, .inl gtsp3322))] H := hP
              have hD : va_D A [(tby, .inl (G.2.1, 240, .inl fby)), (h0, .inr (10, [.ref tby, .int (nI kt), .ref tln, .ref tsp, .int kd13310, .int (nI ks13311), .int (nI kn13312), .int tf13313])), (tsp, .inr (8, [.int 120, .int 1, .ref tspc, .int (nI ksp13321)])), (tspc, .inl (G.2.1, 120, .inl gtsp3322))] := hD
              have w3323 := hr3319
              refine lv_iconst (v := 1) hx hb dX10_takesOne_102 (by decide) ?_
              exact RI (v := 1) hC hP hD hS [1, 0, 2, 3] (kd13310, ks13311, kn13312, tf13313, ksp13321, gtsp3322) rfl rfl (by decide) (⟨Or.inl (rfl), by dsimp only; omega⟩) (by decide +kernel) dX10_takesOne_103
          · refine lv_if_ne (tgt := 93) hx hb dX10_takesOne_53 (by decide) (fun c9 => absurd (by decide) c9) (fun _ => ?_)
            refine lv_iconst (v := 0) hx hb dX10_takesOne_56 (by decide) ?_
            exact RI (v := 0) hC hP hD hS [0, 1, 2, 3] (kd13310, ks13311, kn13312, tf13313, ksp13314, gtsp3315) rfl rfl (by decide) (⟨Or.inr (rfl), by dsimp only; omega⟩) (by decide +kernel) dX10_takesOne_57
  exact keyP 240 0 0 tkd tf9 ks kn _ _ _ (by omega) (by first | assumption | exact Or.inl rfl | exact Or.inr rfl | omega) (by first | assumption | exact Or.inl rfl | exact Or.inr rfl | omega) hP hD hS (lv_sub hl [0, 1, 2, 3] rfl)
set_option maxHeartbeats 4000000 in
set_option maxRecDepth 100000 in
theorem t_all1 (l : Launch) (G : GG) (K : OO) (h0 : Nat) (tby : Nat) (kt : Nat) (tln : Nat) (tsp : Nat) (tkd : Int32) (ks : Nat) (kn : Nat) (tf9 : Int32) (fby : Nat → Int32) (tspc : Nat) (ksp : Nat) (ftsp : Nat → Int32) (hkt : kt ≤ 240) (hks : ks ≤ 240) (hkn : kn ≤ 240) (hksp : ksp ≤ 120) : MIo l G K yX10_takesAll cX10_takesAll 3 (some .boolean) 22 0 0 [.ref h0, .int 1] [(h0, .inr (10, [.ref tby, .int (nI kt), .ref tln, .ref tsp, .int tkd, .int (nI ks), .int (nI kn), .int tf9])), (tby, .inl (G.2.1, 240, .inl fby)), (tsp, .inr (8, [.int 120, .int 1, .ref tspc, .int (nI ksp)])), (tspc, .inl (G.2.1, 120, .inl ftsp))] (fun (r : Int32) (u : Int32 × Nat × Nat × Int32 × Nat × (Nat → Int32)) => (r = 1 ∨ r = 0) ∧ (u.2.1 ≤ 240 ∧ u.2.2.1 ≤ 240 ∧ u.2.2.2.2.1 ≤ 120)) (fun u : Int32 × Nat × Nat × Int32 × Nat × (Nat → Int32) => [(h0, .inr (10, [.ref tby, .int (nI kt), .ref tln, .ref tsp, .int u.1, .int (nI u.2.1), .int (nI u.2.2.1), .int u.2.2.2.1])), (tby, .inl (G.2.1, 240, .inl fby)), (tsp, .inr (8, [.int 120, .int 1, .ref tspc, .int (nI u.2.2.2.2.1)])), (tspc, .inl (G.2.1, 120, .inl u.2.2.2.2.2))]) := by
  refine MIo.start (by decide +kernel) (Nat.le_of_ble_eq_true rfl) ?_
  intro p e s m below meth c A ls hC hK hP hD hS hA hl hO
  have hl : lv_has ls 3 [(0, .ref h0), (1, .int 1)] := hl
  obtain ⟨hx, hb, hr, hml, hB, hown, hlocks, hnm⟩ := id hC
  refine lv_aload_n hx hb dX10_takesAll_0 rfl (lv_at hl 0 rfl) ?_
  refine lv_iload_n hx hb dX10_takesAll_1 rfl (lv_at hl 1 rfl) ?_
  refine iVo (wr := []) hO hC hK hl hP hD hS hA (t_one1 l G K h0 tby kt tln tsp tkd ks kn tf9 fby tspc ksp ftsp (by omega) (by omega) (by omega) (by omega)) si_X10_155 [0, 1, 2, 3] [] rfl rfl (by decide) rfl (by decide) (by decide) rfl rfl rfl rfl rfl (Nat.le_of_ble_eq_true rfl) ⟨Nat.le_of_ble_eq_true rfl, Nat.le_of_ble_eq_true rfl⟩ ⟨Nat.le_of_ble_eq_true rfl, Nat.le_of_ble_eq_true rfl⟩ dX10_takesAll_2 (fun r3324 u3325 H locs hr3324 hP hD hS => ?_)
  obtain ⟨kd13326, ks13327, kn13328, tf13329, ksp13330, gtsp3331⟩ := u3325
  try dsimp only at hr3324
  have hP : va_P G.1 vwCl [(h0, .inr (10, [.ref tby, .int (nI kt), .ref tln, .ref tsp, .int kd13326, .int (nI ks13327), .int (nI kn13328), .int tf13329])), (tby, .inl (G.2.1, 240, .inl fby)), (tsp, .inr (8, [.int 120, .int 1, .ref tspc, .int (nI ksp13330)])), (tspc, .inl (G.2.1, 120, .inl gtsp3331))] H := hP
  have hD : va_D A [(h0, .inr (10, [.ref tby, .int (nI kt), .ref tln, .ref tsp, .int kd13326, .int (nI ks13327), .int (nI kn13328), .int tf13329])), (tby, .inl (G.2.1, 240, .inl fby)), (tsp, .inr (8, [.int 120, .int 1, .ref tspc, .int (nI ksp13330)])), (tspc, .inl (G.2.1, 120, .inl gtsp3331))] := hD
  obtain ⟨hr3324, w3332⟩ := hr3324
  rcases hr3324 with rfl | rfl
  · refine lv_if_ne (tgt := 10) hx hb dX10_takesAll_5 (by decide) (fun _ => ?_) (fun c9 => absurd c9 (by decide))
    refine lv_iconst (v := 0) hx hb dX10_takesAll_10 (by decide) ?_
    refine lv_istore_n (lv' := [(2, .int 0), (0, .ref h0), (1, .int 1)]) hx hb dX10_takesAll_11 rfl hl (by decide) rfl (fun ls hl => ?_)
    have keyP : ∀ (nP kP : Nat) (vkd : Int32) (vtf : Int32) (vtsp : Nat → Int32) (vks : Nat) (vkn : Nat) (vksp : Nat) (H : Heap) (locs : List Loc) (ls : Array Slot), kP + nP = 240 → (vks ≤ 240) → (vkn ≤ 240) → (vksp ≤ 120) → va_P G.1 vwCl [(h0, .inr (10, [.ref tby, .int (nI kt), .ref tln, .ref tsp, .int vkd, .int (nI vks), .int (nI vkn), .int vtf])), (tby, .inl (G.2.1, 240, .inl fby)), (tsp, .inr (8, [.int 120, .int 1, .ref tspc, .int (nI vksp)])), (tspc, .inl (G.2.1, 120, .inl vtsp))] H → va_D A [(h0, .inr (10, [.ref tby, .int (nI kt), .ref tln, .ref tsp, .int vkd, .int (nI vks), .int (nI vkn), .int vtf])), (tby, .inl (G.2.1, 240, .inl fby)), (tsp, .inr (8, [.int 120, .int 1, .ref tspc, .int (nI vksp)])), (tspc, .inl (G.2.1, 120, .inl vtsp))] → va_S A s.heap H locs → lv_has ls 3 [(2, .int (nI kP)), (0, .ref h0), (1, .int 1)] → W p l e (RM 22 0 0) s m ([.ref h0, .int 1] : List Value).toArray below meth c H locs 0 0 (MQ below (QI G (fun (r : Int32) (u : Int32 × Nat × Nat × Int32 × Nat × (Nat → Int32)) => (r = 1 ∨ r = 0) ∧ (u.2.1 ≤ 240 ∧ u.2.2.1 ≤ 240 ∧ u.2.2.2.2.1 ≤ 120)) (fun u : Int32 × Nat × Nat × Int32 × Nat × (Nat → Int32) => [(h0, .inr (10, [.ref tby, .int (nI kt), .ref tln, .ref tsp, .int u.1, .int (nI u.2.1), .int (nI u.2.2.1), .int u.2.2.2.1])), (tby, .inl (G.2.1, 240, .inl fby)), (tsp, .inr (8, [.int 120, .int 1, .ref tspc, .int (nI u.2.2.2.2.1)])), (tspc, .inl (G.2.1, 120, .inl u.2.2.2.2.2))]) A) ([.ref h0, .int 1] : List Value).toArray s 0 0 A) (F0 m 12 ls []) := by
      intro nP
      induction nP with
      | zero =>
        intro kP vkd vtf vtsp vks vkn vksp H locs ls hkP hvks hvkn hvksp hP hD hS hl
        obtain rfl : 240 = kP := by omega
        have hl : lv_has ls 3 [(2, .int 240), (0, .ref h0), (1, .int 1)] := hl
        refine lv_iload_n hx hb dX10_takesAll_12 rfl (lv_at hl 0 rfl) ?_
        refine lv_sipush (v := 240) hx hb dX10_takesAll_13 (by decide) ?_
        refine lv_icmp_ge (tgt := 54) hx hb dX10_takesAll_16 (by decide) (fun _ => ?_) (fun c9 => absurd (by decide) c9)
        refine lv_iconst (v := 1) hx hb dX10_takesAll_54 (by decide) ?_
        exact RI (v := 1) hC hP hD hS [0, 1, 2, 3] (vkd, vks, vkn, vtf, vksp, vtsp) rfl rfl (by decide) (⟨Or.inl (rfl), by dsimp only; omega⟩) (by decide +kernel) dX10_takesAll_55
      | succ nP ihP =>
        intro kP vkd vtf vtsp vks vkn vksp H locs ls hkP hvks hvkn hvksp hP hD hS hl
        refine lv_iload_n hx hb dX10_takesAll_12 rfl (lv_at hl 0 rfl) ?_
        refine lv_sipush (v := 240) hx hb dX10_takesAll_13 (by decide) ?_
        refine lv_icmp_ge (tgt := 54) hx hb dX10_takesAll_16 (by decide) (fun c9 => absurd c9 (nI_ge (a := kP) (b := 240) (by omega) (by omega))) (fun _ => ?_)
        refine lv_aload_n hx hb dX10_takesAll_19 rfl (lv_at hl 1 rfl) ?_
        refine va_ldcS (index := 158) (tx := "and") hx hb hown (hO.2.1 9 (by decide)) dX10_takesAll_20 ?_
        refine pVo hO hS hC hK hl hP hD (t_isName l G K 9 h0 tby kt tln tsp vkd vks vkn vtf fby (by omega) (by omega) (by omega) ((by decide))) si_X10_102 [0, 1] rfl rfl (by decide) rfl rfl rfl rfl rfl (Nat.le_of_ble_eq_true rfl) ⟨Nat.le_of_ble_eq_true rfl, Nat.le_of_ble_eq_true rfl⟩ ⟨by first | exact Nat.le_of_ble_eq_true rfl | exact Nat.zero_le _, by first | exact Nat.le_of_ble_eq_true rfl | exact Nat.zero_le _⟩ dX10_takesAll_22 (fun r3334 hr3334 => ?_)
        rcases hr3334 with rfl | rfl
        · refine lv_if_eq (tgt := 54) hx hb dX10_takesAll_25 (by decide) (fun c9 => absurd c9 (by decide)) (fun _ => ?_)
          refine lv_aload_n hx hb dX10_takesAll_28 rfl (lv_at hl 1 rfl) ?_
          refine vV (wr := [(tsp, .inr (8, [.int 120, .int 1, .ref tspc, .int (nI vksp)])), (tspc, .inl (G.2.1, 120, .inl vtsp))]) hC hK hl hP hD hS hA (t_advance l G h0 tby kt tln tsp vkd vks vkn vtf fby (by omega) (by omega) (by omega)) si_X10_47 [0, 1] [2, 3] rfl rfl (by decide) rfl (by decide) (by decide) rfl rfl rfl rfl rfl (Nat.le_of_ble_eq_true rfl) ⟨Nat.le_of_ble_eq_true rfl, Nat.le_of_ble_eq_true rfl⟩ ⟨Nat.le_of_ble_eq_true rfl, Nat.le_of_ble_eq_true rfl⟩ dX10_takesAll_29 (fun u3337 H locs hr3336 hP hD hS => ?_)
          obtain ⟨kd13338, ks13339, kn13340⟩ := u3337
          try dsimp only at hr3336
          have hP : va_P G.1 vwCl [(tsp, .inr (8, [.int 120, .int 1, .ref tspc, .int (nI vksp)])), (tspc, .inl (G.2.1, 120, .inl vtsp)), (h0, .inr (10, [.ref tby, .int (nI kt), .ref tln, .ref tsp, .int kd13338, .int (nI ks13339), .int (nI kn13340), .int vtf])), (tby, .inl (G.2.1, 240, .inl fby))] H := hP
          have hD : va_D A [(tsp, .inr (8, [.int 120, .int 1, .ref tspc, .int (nI vksp)])), (tspc, .inl (G.2.1, 120, .inl vtsp)), (h0, .inr (10, [.ref tby, .int (nI kt), .ref tln, .ref tsp, .int kd13338, .int (nI ks13339), .int (nI kn13340), .int vtf])), (tby, .inl (G.2.1, 240, .inl fby))] := hD
          have w3341 := hr3336
          refine lv_aload_n hx hb dX10_takesAll_32 rfl (lv_at hl 1 rfl) ?_
          refine lv_iload_n hx hb dX10_takesAll_33 rfl (lv_at hl 2 rfl) ?_
          refine iVo (wr := []) hO hC hK hl hP hD hS hA (t_one1 l G K h0 tby kt tln tsp kd13338 ks13339 kn13340 vtf fby tspc vksp vtsp (by omega) (by omega) (by omega) (by omega)) si_X10_155 [2, 3, 0, 1] [] rfl rfl (by decide) rfl (by decide) (by decide) rfl rfl rfl rfl rfl (Nat.le_of_ble_eq_true rfl) ⟨Nat.le_of_ble_eq_true rfl, Nat.le_of_ble_eq_true rfl⟩ ⟨Nat.le_of_ble_eq_true rfl, Nat.le_of_ble_eq_true rfl⟩ dX10_takesAll_34 (fun r3342 u3343 H locs hr3342 hP hD hS => ?_)
          obtain ⟨kd13344, ks13345, kn13346, tf13347, ksp13348, gtsp3349⟩ := u3343
          try dsimp only at hr3342
          have hP : va_P G.1 vwCl [(h0, .inr (10, [.ref tby, .int (nI kt), .ref tln, .ref tsp, .int kd13344, .int (nI ks13345), .int (nI kn13346), .int tf13347])), (tby, .inl (G.2.1, 240, .inl fby)), (tsp, .inr (8, [.int 120, .int 1, .ref tspc, .int (nI ksp13348)])), (tspc, .inl (G.2.1, 120, .inl gtsp3349))] H := hP
          have hD : va_D A [(h0, .inr (10, [.ref tby, .int (nI kt), .ref tln, .ref tsp, .int kd13344, .int (nI ks13345), .int (nI kn13346), .int tf13347])), (tby, .inl (G.2.1, 240, .inl fby)), (tsp, .inr (8, [.int 120, .int 1, .ref tspc, .int (nI ksp13348)])), (tspc, .inl (G.2.1, 120, .inl gtsp3349))] := hD
          obtain ⟨hr3342, w3350⟩ := hr3342
          rcases hr3342 with rfl | rfl
          · refine lv_if_ne (tgt := 42) hx hb dX10_takesAll_37 (by decide) (fun _ => ?_) (fun c9 => absurd c9 (by decide))
            refine lv_aload_n hx hb dX10_takesAll_42 rfl (lv_at hl 1 rfl) ?_
            refine lv_bipush (v := (-2)) hx hb dX10_takesAll_43 (by decide) ?_
            refine vV (wr := [(tby, .inl (G.2.1, 240, .inl fby))]) hC hK hl hP hD hS hA (t_addStep l G h0 (-2) tby kt tln tsp kd13344 ks13345 kn13346 tf13347 tspc ksp13348 gtsp3349 (by omega)) si_X10_152 [0, 2, 3] [1] rfl rfl (by decide) rfl (by decide) (by decide) rfl rfl rfl rfl rfl (Nat.le_of_ble_eq_true rfl) ⟨Nat.le_of_ble_eq_true rfl, Nat.le_of_ble_eq_true rfl⟩ ⟨Nat.le_of_ble_eq_true rfl, Nat.le_of_ble_eq_true rfl⟩ dX10_takesAll_45 (fun u3353 H locs hr3352 hP hD hS => ?_)
            obtain ⟨ksp13354, gtsp3355⟩ := u3353
            try dsimp only at hr3352
            have hP : va_P G.1 vwCl [(tby, .inl (G.2.1, 240, .inl fby)), (h0, .inr (10, [.ref tby, .int (nI kt), .ref tln, .ref tsp, .int kd13344, .int (nI ks13345), .int (nI kn13346), .int tf13347])), (tsp, .inr (8, [.int 120, .int 1, .ref tspc, .int (nI ksp13354)])), (tspc, .inl (G.2.1, 120, .inl gtsp3355))] H := hP
            have hD : va_D A [(tby, .inl (G.2.1, 240, .inl fby)), (h0, .inr (10, [.ref tby, .int (nI kt), .ref tln, .ref tsp, .int kd13344, .int (nI ks13345), .int (nI kn13346), .int tf13347])), (tsp, .inr (8, [.int 120, .int 1, .ref tspc, .int (nI ksp13354)])), (tspc, .inl (G.2.1, 120, .inl gtsp3355))] := hD
            have w3356 := hr3352
            refine lv_iinc (v := nI (kP + 1)) (lv' := [(2, .int (nI (kP + 1))), (0, .ref h0), (1, .int 1)]) hx hb dX10_takesAll_48 hl (k := 0) rfl (nI_1 _) (by decide) rfl (fun ls hl => ?_)
            refine lv_goto (tgt := 12) hx hb dX10_takesAll_51 (by decide) ?_
            have hP := hP.sub (ws' := [(h0, .inr (10, [.ref tby, .int (nI kt), .ref tln, .ref tsp, .int kd13344, .int (nI ks13345), .int (nI kn13346), .int tf13347])), (tby, .inl (G.2.1, 240, .inl fby)), (tsp, .inr (8, [.int 120, .int 1, .ref tspc, .int (nI ksp13354)])), (tspc, .inl (G.2.1, 120, .inl gtsp3355))]) [1, 0, 2, 3] rfl
            have hD := hD.sub (ws' := [(h0, .inr (10, [.ref tby, .int (nI kt), .ref tln, .ref tsp, .int kd13344, .int (nI ks13345), .int (nI kn13346), .int tf13347])), (tby, .inl (G.2.1, 240, .inl fby)), (tsp, .inr (8, [.int 120, .int 1, .ref tspc, .int (nI ksp13354)])), (tspc, .inl (G.2.1, 120, .inl gtsp3355))]) [1, 0, 2, 3] (by decide) rfl
            exact ihP (kP + 1) kd13344 tf13347 gtsp3355 ks13345 kn13346 ksp13354 _ _ _ (by omega) (by first | assumption | exact Or.inl rfl | exact Or.inr rfl | omega) (by first | assumption | exact Or.inl rfl | exact Or.inr rfl | omega) (by first | assumption | exact Or.inl rfl | exact Or.inr rfl | omega) hP hD hS (lv_sub hl [0, 1, 2] rfl)
          · refine lv_if_ne (tgt := 42) hx hb dX10_takesAll_37 (by decide) (fun c9 => absurd (by decide) c9) (fun _ => ?_)
            refine lv_iconst (v := 0) hx hb dX10_takesAll_40 (by decide) ?_
            exact RI (v := 0) hC hP hD hS [0, 1, 2, 3] (kd13344, ks13345, kn13346, tf13347, ksp13348, gtsp3349) rfl rfl (by decide) (⟨Or.inr (rfl), by dsimp only; omega⟩) (by decide +kernel) dX10_takesAll_41
        · refine lv_if_eq (tgt := 54) hx hb dX10_takesAll_25 (by decide) (fun _ => ?_) (fun c9 => absurd (by decide) c9)
          refine lv_iconst (v := 1) hx hb dX10_takesAll_54 (by decide) ?_
          exact RI (v := 1) hC hP hD hS [0, 1, 2, 3] (vkd, vks, vkn, vtf, vksp, vtsp) rfl rfl (by decide) (⟨Or.inl (rfl), by dsimp only; omega⟩) (by decide +kernel) dX10_takesAll_55
    exact keyP 240 0 kd13326 tf13329 gtsp3331 ks13327 kn13328 ksp13330 _ _ _ (by omega) (by first | assumption | exact Or.inl rfl | exact Or.inr rfl | omega) (by first | assumption | exact Or.inl rfl | exact Or.inr rfl | omega) (by first | assumption | exact Or.inl rfl | exact Or.inr rfl | omega) hP hD hS (lv_sub hl [0, 1, 2] rfl)
  · refine lv_if_ne (tgt := 10) hx hb dX10_takesAll_5 (by decide) (fun c9 => absurd (by decide) c9) (fun _ => ?_)
    refine lv_iconst (v := 0) hx hb dX10_takesAll_8 (by decide) ?_
    exact RI (v := 0) hC hP hD hS [0, 1, 2, 3] (kd13326, ks13327, kn13328, tf13329, ksp13330, gtsp3331) rfl rfl (by decide) (⟨Or.inr (rfl), by dsimp only; omega⟩) (by decide +kernel) dX10_takesAll_9
set_option maxHeartbeats 4000000 in
set_option maxRecDepth 100000 in
theorem t_cond1 (l : Launch) (G : GG) (K : OO) (h0 : Nat) (tby : Nat) (kt : Nat) (tln : Nat) (tsp : Nat) (tkd : Int32) (ks : Nat) (kn : Nat) (tf9 : Int32) (fby : Nat → Int32) (tspc : Nat) (ksp : Nat) (ftsp : Nat → Int32) (hkt : kt ≤ 240) (hks : ks ≤ 240) (hkn : kn ≤ 240) (hksp : ksp ≤ 120) : MIo l G K yX10_takesCond cX10_takesCond 3 (some .boolean) 23 0 0 [.ref h0, .int 1] [(h0, .inr (10, [.ref tby, .int (nI kt), .ref tln, .ref tsp, .int tkd, .int (nI ks), .int (nI kn), .int tf9])), (tby, .inl (G.2.1, 240, .inl fby)), (tsp, .inr (8, [.int 120, .int 1, .ref tspc, .int (nI ksp)])), (tspc, .inl (G.2.1, 120, .inl ftsp))] (fun (r : Int32) (u : Int32 × Nat × Nat × Int32 × Nat × (Nat → Int32)) => (r = 1 ∨ r = 0) ∧ (u.2.1 ≤ 240 ∧ u.2.2.1 ≤ 240 ∧ u.2.2.2.2.1 ≤ 120)) (fun u : Int32 × Nat × Nat × Int32 × Nat × (Nat → Int32) => [(h0, .inr (10, [.ref tby, .int (nI kt), .ref tln, .ref tsp, .int u.1, .int (nI u.2.1), .int (nI u.2.2.1), .int u.2.2.2.1])), (tby, .inl (G.2.1, 240, .inl fby)), (tsp, .inr (8, [.int 120, .int 1, .ref tspc, .int (nI u.2.2.2.2.1)])), (tspc, .inl (G.2.1, 120, .inl u.2.2.2.2.2))]) := by
  refine MIo.start (by decide +kernel) (Nat.le_of_ble_eq_true rfl) ?_
  intro p e s m below meth c A ls hC hK hP hD hS hA hl hO
  have hl : lv_has ls 3 [(0, .ref h0), (1, .int 1)] := hl
  obtain ⟨hx, hb, hr, hml, hB, hown, hlocks, hnm⟩ := id hC
  refine lv_aload_n hx hb dX10_takesCond_0 rfl (lv_at hl 0 rfl) ?_
  refine lv_iload_n hx hb dX10_takesCond_1 rfl (lv_at hl 1 rfl) ?_
  refine iVo (wr := []) hO hC hK hl hP hD hS hA (t_all1 l G K h0 tby kt tln tsp tkd ks kn tf9 fby tspc ksp ftsp (by omega) (by omega) (by omega) (by omega)) si_X10_147 [0, 1, 2, 3] [] rfl rfl (by decide) rfl (by decide) (by decide) rfl rfl rfl rfl rfl (Nat.le_of_ble_eq_true rfl) ⟨Nat.le_of_ble_eq_true rfl, Nat.le_of_ble_eq_true rfl⟩ ⟨Nat.le_of_ble_eq_true rfl, Nat.le_of_ble_eq_true rfl⟩ dX10_takesCond_2 (fun r3357 u3358 H locs hr3357 hP hD hS => ?_)
  obtain ⟨kd13359, ks13360, kn13361, tf13362, ksp13363, gtsp3364⟩ := u3358
  try dsimp only at hr3357
  have hP : va_P G.1 vwCl [(h0, .inr (10, [.ref tby, .int (nI kt), .ref tln, .ref tsp, .int kd13359, .int (nI ks13360), .int (nI kn13361), .int tf13362])), (tby, .inl (G.2.1, 240, .inl fby)), (tsp, .inr (8, [.int 120, .int 1, .ref tspc, .int (nI ksp13363)])), (tspc, .inl (G.2.1, 120, .inl gtsp3364))] H := hP
  have hD : va_D A [(h0, .inr (10, [.ref tby, .int (nI kt), .ref tln, .ref tsp, .int kd13359, .int (nI ks13360), .int (nI kn13361), .int tf13362])), (tby, .inl (G.2.1, 240, .inl fby)), (tsp, .inr (8, [.int 120, .int 1, .ref tspc, .int (nI ksp13363)])), (tspc, .inl (G.2.1, 120, .inl gtsp3364))] := hD
  obtain ⟨hr3357, w3365⟩ := hr3357
  rcases hr3357 with rfl | rfl
  · refine lv_if_ne (tgt := 10) hx hb dX10_takesCond_5 (by decide) (fun _ => ?_) (fun c9 => absurd c9 (by decide))
    refine lv_iconst (v := 0) hx hb dX10_takesCond_10 (by decide) ?_
    refine lv_istore_n (lv' := [(2, .int 0), (0, .ref h0), (1, .int 1)]) hx hb dX10_takesCond_11 rfl hl (by decide) rfl (fun ls hl => ?_)
    have keyP : ∀ (nP kP : Nat) (vkd : Int32) (vtf : Int32) (vtsp : Nat → Int32) (vks : Nat) (vkn : Nat) (vksp : Nat) (H : Heap) (locs : List Loc) (ls : Array Slot), kP + nP = 240 → (vks ≤ 240) → (vkn ≤ 240) → (vksp ≤ 120) → va_P G.1 vwCl [(h0, .inr (10, [.ref tby, .int (nI kt), .ref tln, .ref tsp, .int vkd, .int (nI vks), .int (nI vkn), .int vtf])), (tby, .inl (G.2.1, 240, .inl fby)), (tsp, .inr (8, [.int 120, .int 1, .ref tspc, .int (nI vksp)])), (tspc, .inl (G.2.1, 120, .inl vtsp))] H → va_D A [(h0, .inr (10, [.ref tby, .int (nI kt), .ref tln, .ref tsp, .int vkd, .int (nI vks), .int (nI vkn), .int vtf])), (tby, .inl (G.2.1, 240, .inl fby)), (tsp, .inr (8, [.int 120, .int 1, .ref tspc, .int (nI vksp)])), (tspc, .inl (G.2.1, 120, .inl vtsp))] → va_S A s.heap H locs → lv_has ls 3 [(2, .int (nI kP)), (0, .ref h0), (1, .int 1)] → W p l e (RM 23 0 0) s m ([.ref h0, .int 1] : List Value).toArray below meth c H locs 0 0 (MQ below (QI G (fun (r : Int32) (u : Int32 × Nat × Nat × Int32 × Nat × (Nat → Int32)) => (r = 1 ∨ r = 0) ∧ (u.2.1 ≤ 240 ∧ u.2.2.1 ≤ 240 ∧ u.2.2.2.2.1 ≤ 120)) (fun u : Int32 × Nat × Nat × Int32 × Nat × (Nat → Int32) => [(h0, .inr (10, [.ref tby, .int (nI kt), .ref tln, .ref tsp, .int u.1, .int (nI u.2.1), .int (nI u.2.2.1), .int u.2.2.2.1])), (tby, .inl (G.2.1, 240, .inl fby)), (tsp, .inr (8, [.int 120, .int 1, .ref tspc, .int (nI u.2.2.2.2.1)])), (tspc, .inl (G.2.1, 120, .inl u.2.2.2.2.2))]) A) ([.ref h0, .int 1] : List Value).toArray s 0 0 A) (F0 m 12 ls []) := by
      intro nP
      induction nP with
      | zero =>
        intro kP vkd vtf vtsp vks vkn vksp H locs ls hkP hvks hvkn hvksp hP hD hS hl
        obtain rfl : 240 = kP := by omega
        have hl : lv_has ls 3 [(2, .int 240), (0, .ref h0), (1, .int 1)] := hl
        refine lv_iload_n hx hb dX10_takesCond_12 rfl (lv_at hl 0 rfl) ?_
        refine lv_sipush (v := 240) hx hb dX10_takesCond_13 (by decide) ?_
        refine lv_icmp_ge (tgt := 54) hx hb dX10_takesCond_16 (by decide) (fun _ => ?_) (fun c9 => absurd (by decide) c9)
        refine lv_iconst (v := 1) hx hb dX10_takesCond_54 (by decide) ?_
        exact RI (v := 1) hC hP hD hS [0, 1, 2, 3] (vkd, vks, vkn, vtf, vksp, vtsp) rfl rfl (by decide) (⟨Or.inl (rfl), by dsimp only; omega⟩) (by decide +kernel) dX10_takesCond_55
      | succ nP ihP =>
        intro kP vkd vtf vtsp vks vkn vksp H locs ls hkP hvks hvkn hvksp hP hD hS hl
        refine lv_iload_n hx hb dX10_takesCond_12 rfl (lv_at hl 0 rfl) ?_
        refine lv_sipush (v := 240) hx hb dX10_takesCond_13 (by decide) ?_
        refine lv_icmp_ge (tgt := 54) hx hb dX10_takesCond_16 (by decide) (fun c9 => absurd c9 (nI_ge (a := kP) (b := 240) (by omega) (by omega))) (fun _ => ?_)
        refine lv_aload_n hx hb dX10_takesCond_19 rfl (lv_at hl 1 rfl) ?_
        refine va_ldcS (index := 150) (tx := "o\x72") hx hb hown (hO.2.1 8 (by decide)) dX10_takesCond_20 ?_
        refine pVo hO hS hC hK hl hP hD (t_isName l G K 8 h0 tby kt tln tsp vkd vks vkn vtf fby (by omega) (by omega) (by omega) ((by decide))) si_X10_102 [0, 1] rfl rfl (by decide) rfl rfl rfl rfl rfl (Nat.le_of_ble_eq_true rfl) ⟨Nat.le_of_ble_eq_true rfl, Nat.le_of_ble_eq_true rfl⟩ ⟨by first | exact Nat.le_of_ble_eq_true rfl | exact Nat.zero_le _, by first | exact Nat.le_of_ble_eq_true rfl | exact Nat.zero_le _⟩ dX10_takesCond_22 (fun r3367 hr3367 => ?_)
        rcases hr3367 with rfl | rfl
        · refine lv_if_eq (tgt := 54) hx hb dX10_takesCond_25 (by decide) (fun c9 => absurd c9 (by decide)) (fun _ => ?_)
          refine lv_aload_n hx hb dX10_takesCond_28 rfl (lv_at hl 1 rfl) ?_
          refine vV (wr := [(tsp, .inr (8, [.int 120, .int 1, .ref tspc, .int (nI vksp)])), (tspc, .inl (G.2.1, 120, .inl vtsp))]) hC hK hl hP hD hS hA (t_advance l G h0 tby kt tln tsp vkd vks vkn vtf fby (by omega) (by omega) (by omega)) si_X10_47 [0, 1] [2, 3] rfl rfl (by decide) rfl (by decide) (by decide) rfl rfl rfl rfl rfl (Nat.le_of_ble_eq_true rfl) ⟨Nat.le_of_ble_eq_true rfl, Nat.le_of_ble_eq_true rfl⟩ ⟨Nat.le_of_ble_eq_true rfl, Nat.le_of_ble_eq_true rfl⟩ dX10_takesCond_29 (fun u3370 H locs hr3369 hP hD hS => ?_)
          obtain ⟨kd13371, ks13372, kn13373⟩ := u3370
          try dsimp only at hr3369
          have hP : va_P G.1 vwCl [(tsp, .inr (8, [.int 120, .int 1, .ref tspc, .int (nI vksp)])), (tspc, .inl (G.2.1, 120, .inl vtsp)), (h0, .inr (10, [.ref tby, .int (nI kt), .ref tln, .ref tsp, .int kd13371, .int (nI ks13372), .int (nI kn13373), .int vtf])), (tby, .inl (G.2.1, 240, .inl fby))] H := hP
          have hD : va_D A [(tsp, .inr (8, [.int 120, .int 1, .ref tspc, .int (nI vksp)])), (tspc, .inl (G.2.1, 120, .inl vtsp)), (h0, .inr (10, [.ref tby, .int (nI kt), .ref tln, .ref tsp, .int kd13371, .int (nI ks13372), .int (nI kn13373), .int vtf])), (tby, .inl (G.2.1, 240, .inl fby))] := hD
          have w3374 := hr3369
          refine lv_aload_n hx hb dX10_takesCond_32 rfl (lv_at hl 1 rfl) ?_
          refine lv_iload_n hx hb dX10_takesCond_33 rfl (lv_at hl 2 rfl) ?_
          refine iVo (wr := []) hO hC hK hl hP hD hS hA (t_all1 l G K h0 tby kt tln tsp kd13371 ks13372 kn13373 vtf fby tspc vksp vtsp (by omega) (by omega) (by omega) (by omega)) si_X10_147 [2, 3, 0, 1] [] rfl rfl (by decide) rfl (by decide) (by decide) rfl rfl rfl rfl rfl (Nat.le_of_ble_eq_true rfl) ⟨Nat.le_of_ble_eq_true rfl, Nat.le_of_ble_eq_true rfl⟩ ⟨Nat.le_of_ble_eq_true rfl, Nat.le_of_ble_eq_true rfl⟩ dX10_takesCond_34 (fun r3375 u3376 H locs hr3375 hP hD hS => ?_)
          obtain ⟨kd13377, ks13378, kn13379, tf13380, ksp13381, gtsp3382⟩ := u3376
          try dsimp only at hr3375
          have hP : va_P G.1 vwCl [(h0, .inr (10, [.ref tby, .int (nI kt), .ref tln, .ref tsp, .int kd13377, .int (nI ks13378), .int (nI kn13379), .int tf13380])), (tby, .inl (G.2.1, 240, .inl fby)), (tsp, .inr (8, [.int 120, .int 1, .ref tspc, .int (nI ksp13381)])), (tspc, .inl (G.2.1, 120, .inl gtsp3382))] H := hP
          have hD : va_D A [(h0, .inr (10, [.ref tby, .int (nI kt), .ref tln, .ref tsp, .int kd13377, .int (nI ks13378), .int (nI kn13379), .int tf13380])), (tby, .inl (G.2.1, 240, .inl fby)), (tsp, .inr (8, [.int 120, .int 1, .ref tspc, .int (nI ksp13381)])), (tspc, .inl (G.2.1, 120, .inl gtsp3382))] := hD
          obtain ⟨hr3375, w3383⟩ := hr3375
          rcases hr3375 with rfl | rfl
          · refine lv_if_ne (tgt := 42) hx hb dX10_takesCond_37 (by decide) (fun _ => ?_) (fun c9 => absurd c9 (by decide))
            refine lv_aload_n hx hb dX10_takesCond_42 rfl (lv_at hl 1 rfl) ?_
            refine lv_bipush (v := (-3)) hx hb dX10_takesCond_43 (by decide) ?_
            refine vV (wr := [(tby, .inl (G.2.1, 240, .inl fby))]) hC hK hl hP hD hS hA (t_addStep l G h0 (-3) tby kt tln tsp kd13377 ks13378 kn13379 tf13380 tspc ksp13381 gtsp3382 (by omega)) si_X10_152 [0, 2, 3] [1] rfl rfl (by decide) rfl (by decide) (by decide) rfl rfl rfl rfl rfl (Nat.le_of_ble_eq_true rfl) ⟨Nat.le_of_ble_eq_true rfl, Nat.le_of_ble_eq_true rfl⟩ ⟨Nat.le_of_ble_eq_true rfl, Nat.le_of_ble_eq_true rfl⟩ dX10_takesCond_45 (fun u3386 H locs hr3385 hP hD hS => ?_)
            obtain ⟨ksp13387, gtsp3388⟩ := u3386
            try dsimp only at hr3385
            have hP : va_P G.1 vwCl [(tby, .inl (G.2.1, 240, .inl fby)), (h0, .inr (10, [.ref tby, .int (nI kt), .ref tln, .ref tsp, .int kd13377, .int (nI ks13378), .int (nI kn13379), .int tf13380])), (tsp, .inr (8, [.int 120, .int 1, .ref tspc, .int (nI ksp13387)])), (tspc, .inl (G.2.1, 120, .inl gtsp3388))] H := hP
            have hD : va_D A [(tby, .inl (G.2.1, 240, .inl fby)), (h0, .inr (10, [.ref tby, .int (nI kt), .ref tln, .ref tsp, .int kd13377, .int (nI ks13378), .int (nI kn13379), .int tf13380])), (tsp, .inr (8, [.int 120, .int 1, .ref tspc, .int (nI ksp13387)])), (tspc, .inl (G.2.1, 120, .inl gtsp3388))] := hD
            have w3389 := hr3385
            refine lv_iinc (v := nI (kP + 1)) (lv' := [(2, .int (nI (kP + 1))), (0, .ref h0), (1, .int 1)]) hx hb dX10_takesCond_48 hl (k := 0) rfl (nI_1 _) (by decide) rfl (fun ls hl => ?_)
            refine lv_goto (tgt := 12) hx hb dX10_takesCond_51 (by decide) ?_
            have hP := hP.sub (ws' := [(h0, .inr (10, [.ref tby, .int (nI kt), .ref tln, .ref tsp, .int kd13377, .int (nI ks13378), .int (nI kn13379), .int tf13380])), (tby, .inl (G.2.1, 240, .inl fby)), (tsp, .inr (8, [.int 120, .int 1, .ref tspc, .int (nI ksp13387)])), (tspc, .inl (G.2.1, 120, .inl gtsp3388))]) [1, 0, 2, 3] rfl
            have hD := hD.sub (ws' := [(h0, .inr (10, [.ref tby, .int (nI kt), .ref tln, .ref tsp, .int kd13377, .int (nI ks13378), .int (nI kn13379), .int tf13380])), (tby, .inl (G.2.1, 240, .inl fby)), (tsp, .inr (8, [.int 120, .int 1, .ref tspc, .int (nI ksp13387)])), (tspc, .inl (G.2.1, 120, .inl gtsp3388))]) [1, 0, 2, 3] (by decide) rfl
            exact ihP (kP + 1) kd13377 tf13380 gtsp3388 ks13378 kn13379 ksp13387 _ _ _ (by omega) (by first | assumption | exact Or.inl rfl | exact Or.inr rfl | omega) (by first | assumption | exact Or.inl rfl | exact Or.inr rfl | omega) (by first | assumption | exact Or.inl rfl | exact Or.inr rfl | omega) hP hD hS (lv_sub hl [0, 1, 2] rfl)
          · refine lv_if_ne (tgt := 42) hx hb dX10_takesCond_37 (by decide) (fun c9 => absurd (by decide) c9) (fun _ => ?_)
            refine lv_iconst (v := 0) hx hb dX10_takesCond_40 (by decide) ?_
            exact RI (v := 0) hC hP hD hS [0, 1, 2, 3] (kd13377, ks13378, kn13379, tf13380, ksp13381, gtsp3382) rfl rfl (by decide) (⟨Or.inr (rfl), by dsimp only; omega⟩) (by decide +kernel) dX10_takesCond_41
        · refine lv_if_eq (tgt := 54) hx hb dX10_takesCond_25 (by decide) (fun _ => ?_) (fun c9 => absurd (by decide) c9)
          refine lv_iconst (v := 1) hx hb dX10_takesCond_54 (by decide) ?_
          exact RI (v := 1) hC hP hD hS [0, 1, 2, 3] (vkd, vks, vkn, vtf, vksp, vtsp) rfl rfl (by decide) (⟨Or.inl (rfl), by dsimp only; omega⟩) (by decide +kernel) dX10_takesCond_55
    exact keyP 240 0 kd13359 tf13362 gtsp3364 ks13360 kn13361 ksp13363 _ _ _ (by omega) (by first | assumption | exact Or.inl rfl | exact Or.inr rfl | omega) (by first | assumption | exact Or.inl rfl | exact Or.inr rfl | omega) (by first | assumption | exact Or.inl rfl | exact Or.inr rfl | omega) hP hD hS (lv_sub hl [0, 1, 2] rfl)
  · refine lv_if_ne (tgt := 10) hx hb dX10_takesCond_5 (by decide) (fun c9 => absurd (by decide) c9) (fun _ => ?_)
    refine lv_iconst (v := 0) hx hb dX10_takesCond_8 (by decide) ?_
    exact RI (v := 0) hC hP hD hS [0, 1, 2, 3] (kd13359, ks13360, kn13361, tf13362, ksp13363, gtsp3364) rfl rfl (by decide) (⟨Or.inr (rfl), by dsimp only; omega⟩) (by decide +kernel) dX10_takesCond_9
set_option maxHeartbeats 4000000 in
set_option maxRecDepth 100000 in
theorem t_one0 (l : Launch) (G : GG) (K : OO) (h0 : Nat) (tby : Nat) (kt : Nat) (tln : Nat) (tsp : Nat) (tkd : Int32) (ks : Nat) (kn : Nat) (tf9 : Int32) (fby : Nat → Int32) (tspc : Nat) (ksp : Nat) (ftsp : Nat → Int32) (hkt : kt ≤ 240) (hks : ks ≤ 240) (hkn : kn ≤ 240) (hksp : ksp ≤ 120) : MIo l G K yX10_takesOne cX10_takesOne 4 (some .boolean) 25 0 0 [.ref h0, .int 0] [(h0, .inr (10, [.ref tby, .int (nI kt), .ref tln, .ref tsp, .int tkd, .int (nI ks), .int (nI kn), .int tf9])), (tby, .inl (G.2.1, 240, .inl fby)), (tsp, .inr (8, [.int 120, .int 1, .ref tspc, .int (nI ksp)])), (tspc, .inl (G.2.1, 120, .inl ftsp))] (fun (r : Int32) (u : Int32 × Nat × Nat × Int32 × Nat × (Nat → Int32)) => (r = 1 ∨ r = 0) ∧ (u.2.1 ≤ 240 ∧ u.2.2.1 ≤ 240 ∧ u.2.2.2.2.1 ≤ 120)) (fun u : Int32 × Nat × Nat × Int32 × Nat × (Nat → Int32) => [(h0, .inr (10, [.ref tby, .int (nI kt), .ref tln, .ref tsp, .int u.1, .int (nI u.2.1), .int (nI u.2.2.1), .int u.2.2.2.1])), (tby, .inl (G.2.1, 240, .inl fby)), (tsp, .inr (8, [.int 120, .int 1, .ref tspc, .int (nI u.2.2.2.2.1)])), (tspc, .inl (G.2.1, 120, .inl u.2.2.2.2.2))]) := by
  refine MIo.start (by decide +kernel) (Nat.le_of_ble_eq_true rfl) ?_
  intro p e s m below meth c A ls hC hK hP hD hS hA hl hO
  have hl : lv_has ls 4 [(0, .ref h0), (1, .int 0)] := hl
  obtain ⟨hx, hb, hr, hml, hB, hown, hlocks, hnm⟩ := id hC
  refine lv_iconst (v := 0) hx hb dX10_takesOne_0 (by decide) ?_
  refine lv_istore_n (lv' := [(2, .int 0), (0, .ref h0), (1, .int 0)]) hx hb dX10_takesOne_1 rfl hl (by decide) rfl (fun ls hl => ?_)
  refine lv_iconst (v := 0) hx hb dX10_takesOne_2 (by decide) ?_
  refine lv_istore_n (lv' := [(3, .int 0), (2, .int 0), (0, .ref h0), (1, .int 0)]) hx hb dX10_takesOne_3 rfl hl (by decide) rfl (fun ls hl => ?_)
  have keyP : ∀ (nP kP : Nat) (tu : Int32) (vkd : Int32) (vtf : Int32) (vks : Nat) (vkn : Nat) (H : Heap) (locs : List Loc) (ls : Array Slot), kP + nP = 240 → (vks ≤ 240) → (vkn ≤ 240) → va_P G.1 vwCl [(h0, .inr (10, [.ref tby, .int (nI kt), .ref tln, .ref tsp, .int vkd, .int (nI vks), .int (nI vkn), .int vtf])), (tby, .inl (G.2.1, 240, .inl fby)), (tsp, .inr (8, [.int 120, .int 1, .ref tspc, .int (nI ksp)])), (tspc, .inl (G.2.1, 120, .inl ftsp))] H → va_D A [(h0, .inr (10, [.ref tby, .int (nI kt), .ref tln, .ref tsp, .int vkd, .int (nI vks), .int (nI vkn), .int vtf])), (tby, .inl (G.2.1, 240, .inl fby)), (tsp, .inr (8, [.int 120, .int 1, .ref tspc, .int (nI ksp)])), (tspc, .inl (G.2.1, 120, .inl ftsp))] → va_S A s.heap H locs → lv_has ls 4 [(3, .int (nI kP)), (2, .int tu), (0, .ref h0), (1, .int 0)] → W p l e (RM 25 0 0) s m ([.ref h0, .int 0] : List Value).toArray below meth c H locs 0 0 (MQ below (QI G (fun (r : Int32) (u : Int32 × Nat × Nat × Int32 × Nat × (Nat → Int32)) => (r = 1 ∨ r = 0) ∧ (u.2.1 ≤ 240 ∧ u.2.2.1 ≤ 240 ∧ u.2.2.2.2.1 ≤ 120)) (fun u : Int32 × Nat × Nat × Int32 × Nat × (Nat → Int32) => [(h0, .inr (10, [.ref tby, .int (nI kt), .ref tln, .ref tsp, .int u.1, .int (nI u.2.1), .int (nI u.2.2.1), .int u.2.2.2.1])), (tby, .inl (G.2.1, 240, .inl fby)), (tsp, .inr (8, [.int 120, .int 1, .ref tspc, .int (nI u.2.2.2.2.1)])), (tspc, .inl (G.2.1, 120, .inl u.2.2.2.2.2))]) A) ([.ref h0, .int 0] : List Value).toArray s 0 0 A) (F0 m 4 ls []) := by
    intro nP
    induction nP with
    | zero =>
      intro kP tu vkd vtf vks vkn H locs ls hkP hvks hvkn hP hD hS hl
      obtain rfl : 240 = kP := by omega
      have hl : lv_has ls 4 [(3, .int 240), (2, .int tu), (0, .ref h0), (1, .int 0)] := hl
      refine lv_iload_n hx hb dX10_takesOne_4 rfl (lv_at hl 0 rfl) ?_
      refine lv_sipush (v := 240) hx hb dX10_takesOne_5 (by decide) ?_
      refine lv_icmp_ge (tgt := 40) hx hb dX10_takesOne_8 (by decide) (fun _ => ?_) (fun c9 => absurd (by decide) c9)
      refine lv_aload_n hx hb dX10_takesOne_40 rfl (lv_at hl 2 rfl) ?_
      refine gf_X10_31 hC rfl hK hP 0 rfl rfl dX10_takesOne_41 ?_
      refine lv_bipush (v := 40) hx hb dX10_takesOne_44 (by decide) ?_
      refine lv_icmp_eq (tgt := 58) hx hb dX10_takesOne_46 (by decide) (fun c_46_3390 => ?_) (fun c_46_3390 => ?_)
      · refine lv_iload_n hx hb dX10_takesOne_58 rfl (lv_at hl 3 rfl) ?_
        refine lv_iconst (v := 4) hx hb dX10_takesOne_59 (by decide) ?_
        refine lv_icmp_lt (tgt := 68) hx hb dX10_takesOne_60 (by decide) (fun _ => ?_) (fun c9 => absurd (by decide) c9)
        refine lv_aload_n hx hb dX10_takesOne_68 rfl (lv_at hl 2 rfl) ?_
        refine vV (wr := [(tsp, .inr (8, [.int 120, .int 1, .ref tspc, .int (nI ksp)])), (tspc, .inl (G.2.1, 120, .inl ftsp))]) hC hK hl hP hD hS hA (t_advance l G h0 tby kt tln tsp vkd vks vkn vtf fby (by omega) (by omega) (by omega)) si_X10_47 [0, 1] [2, 3] rfl rfl (by decide) rfl (by decide) (by decide) rfl rfl rfl rfl rfl (Nat.le_of_ble_eq_true rfl) ⟨Nat.le_of_ble_eq_true rfl, Nat.le_of_ble_eq_true rfl⟩ ⟨Nat.le_of_ble_eq_true rfl, Nat.le_of_ble_eq_true rfl⟩ dX10_takesOne_69 (fun u3392 H locs hr3391 hP hD hS => ?_)
        obtain ⟨kd13393, ks13394, kn13395⟩ := u3392
        try dsimp only at hr3391
        have hP : va_P G.1 vwCl [(tsp, .inr (8, [.int 120, .int 1, .ref tspc, .int (nI ksp)])), (tspc, .inl (G.2.1, 120, .inl ftsp)), (h0, .inr (10, [.ref tby, .int (nI kt), .ref tln, .ref tsp, .int kd13393, .int (nI ks13394), .int (nI kn13395), .int vtf])), (tby, .inl (G.2.1, 240, .inl fby))] H := hP
        have hD : va_D A [(tsp, .inr (8, [.int 120, .int 1, .ref tspc, .int (nI ksp)])), (tspc, .inl (G.2.1, 120, .inl ftsp)), (h0, .inr (10, [.ref tby, .int (nI kt), .ref tln, .ref tsp, .int kd13393, .int (nI ks13394), .int (nI kn13395), .int vtf])), (tby, .inl (G.2.1, 240, .inl fby))] := hD
        have w3396 := hr3391
        refine lv_aload_n hx hb dX10_takesOne_72 rfl (lv_at hl 2 rfl) ?_
        refine lv_iload_n hx hb dX10_takesOne_73 rfl (lv_at hl 3 rfl) ?_
        refine lv_iconst (v := 1) hx hb dX10_takesOne_74 (by decide) ?_
        refine lv_iadd hx hb dX10_takesOne_75 ?_
        refine eqi (x1 := 1) (by decide) ?_
        refine iVo (wr := []) hO hC hK hl hP hD hS hA (t_cond1 l G K h0 tby kt tln tsp kd13393 ks13394 kn13395 vtf fby tspc ksp ftsp (by omega) (by omega) (by omega) (by omega)) si_X10_121 [2, 3, 0, 1] [] rfl rfl (by decide) rfl (by decide) (by decide) rfl rfl rfl rfl rfl (Nat.le_of_ble_eq_true rfl) ⟨Nat.le_of_ble_eq_true rfl, Nat.le_of_ble_eq_true rfl⟩ ⟨Nat.le_of_ble_eq_true rfl, Nat.le_of_ble_eq_true rfl⟩ dX10_takesOne_76 (fun r3397 u3398 H locs hr3397 hP hD hS => ?_)
        obtain ⟨kd13399, ks13400, kn13401, tf13402, ksp13403, gtsp3404⟩ := u3398
        try dsimp only at hr3397
        have hP : va_P G.1 vwCl [(h0, .inr (10, [.ref tby, .int (nI kt), .ref tln, .ref tsp, .int kd13399, .int (nI ks13400), .int (nI kn13401), .int tf13402])), (tby, .inl (G.2.1, 240, .inl fby)), (tsp, .inr (8, [.int 120, .int 1, .ref tspc, .int (nI ksp13403)])), (tspc, .inl (G.2.1, 120, .inl gtsp3404))] H := hP
        have hD : va_D A [(h0, .inr (10, [.ref tby, .int (nI kt), .ref tln, .ref tsp, .int kd13399, .int (nI ks13400), .int (nI kn13401), .int tf13402])), (tby, .inl (G.2.1, 240, .inl fby)), (tsp, .inr (8, [.int 120, .int 1, .ref tspc, .int (nI ksp13403)])), (tspc, .inl (G.2.1, 120, .inl gtsp3404))] := hD
        obtain ⟨hr3397, w3405⟩ := hr3397
        rcases hr3397 with rfl | rfl
        · refine lv_if_eq (tgt := 91) hx hb dX10_takesOne_79 (by decide) (fun c9 => absurd c9 (by decide)) (fun _ => ?_)
          refine lv_aload_n hx hb dX10_takesOne_82 rfl (lv_at hl 2 rfl) ?_
          refine lv_bipush (v := 41) hx hb dX10_takesOne_83 (by decide) ?_
          refine iV (wr := [(tsp, .inr (8, [.int 120, .int 1, .ref tspc, .int (nI ksp13403)])), (tspc, .inl (G.2.1, 120, .inl gtsp3404))]) hC hK hl hP hD hS hA (t_takesByte l G h0 41 tby kt tln tsp kd13399 ks13400 kn13401 tf13402 fby (by omega) (by omega) (by omega)) si_X10_124 [0, 1] [2, 3] rfl rfl (by decide) rfl (by decide) (by decide) rfl rfl rfl rfl rfl (Nat.le_of_ble_eq_true rfl) ⟨Nat.le_of_ble_eq_true rfl, Nat.le_of_ble_eq_true rfl⟩ ⟨Nat.le_of_ble_eq_true rfl, Nat.le_of_ble_eq_true rfl⟩ dX10_takesOne_85 (fun r3407 u3408 H locs hr3407 hP hD hS => ?_)
          obtain ⟨kd13409, ks13410, kn13411, tf13412⟩ := u3408
          try dsimp only at hr3407
          have hP : va_P G.1 vwCl [(tsp, .inr (8, [.int 120, .int 1, .ref tspc, .int (nI ksp13403)])), (tspc, .inl (G.2.1, 120, .inl gtsp3404)), (h0, .inr (10, [.ref tby, .int (nI kt), .ref tln, .ref tsp, .int kd13409, .int (nI ks13410), .int (nI kn13411), .int tf13412])), (tby, .inl (G.2.1, 240, .inl fby))] H := hP
          have hD : va_D A [(tsp, .inr (8, [.int 120, .int 1, .ref tspc, .int (nI ksp13403)])), (tspc, .inl (G.2.1, 120, .inl gtsp3404)), (h0, .inr (10, [.ref tby, .int (nI kt), .ref tln, .ref tsp, .int kd13409, .int (nI ks13410), .int (nI kn13411), .int tf13412])), (tby, .inl (G.2.1, 240, .inl fby))] := hD
          obtain ⟨hr3407, w3413⟩ := hr3407
          rcases hr3407 with rfl | rfl
          · refine lv_if_ne (tgt := 93) hx hb dX10_takesOne_88 (by decide) (fun _ => ?_) (fun c9 => absurd c9 (by decide))
            refine lv_iload_n hx hb dX10_takesOne_93 rfl (lv_at hl 1 rfl) ?_
            refine lv_if_eq (tgt := 102) hx hb dX10_takesOne_94 (by decide) (fun c_94_3415 => ?_) (fun c_94_3415 => ?_)
            · refine lv_iconst (v := 1) hx hb dX10_takesOne_102 (by decide) ?_
              exact RI (v := 1) hC hP hD hS [2, 3, 0, 1] (kd13409, ks13410, kn13411, tf13412, ksp13403, gtsp3404) rfl rfl (by decide) (⟨Or.inl (rfl), by dsimp only; omega⟩) (by decide +kernel) dX10_takesOne_103
            · refine lv_aload_n hx hb dX10_takesOne_97 rfl (lv_at hl 2 rfl) ?_
              refine lv_iconst (v := (-1)) hx hb dX10_takesOne_98 (by decide) ?_
              refine vV (wr := [(tby, .inl (G.2.1, 240, .inl fby))]) hC hK hl hP hD hS hA (t_addStep l G h0 (-1) tby kt tln tsp kd13409 ks13410 kn13411 tf13412 tspc ksp13403 gtsp3404 (by omega)) si_X10_152 [2, 0, 1] [3] rfl rfl (by decide) rfl (by decide) (by decide) rfl rfl rfl rfl rfl (Nat.le_of_ble_eq_true rfl) ⟨Nat.le_of_ble_eq_true rfl, Nat.le_of_ble_eq_true rfl⟩ ⟨Nat.le_of_ble_eq_true rfl, Nat.le_of_ble_eq_true rfl⟩ dX10_takesOne_99 (fun u3417 H locs hr3416 hP hD hS => ?_)
              obtain ⟨ksp13418, gtsp3419⟩ := u3417
              try dsimp only at hr3416
              have hP : va_P G.1 vwCl [(tby, .inl (G.2.1, 240, .inl fby)), (h0, .inr (10, [.ref tby, .int (nI kt), .ref tln, .ref tsp, .int kd13409, .int (nI ks13410), .int (nI kn13411), .int tf13412])), (tsp, .inr (8, [.int 120, .int 1, .ref tspc, .int (nI ksp13418)])), (tspc, .inl (G.2.1, 120, .inl gtsp3419))] H := hP
              have hD : va_D A [(tby, .inl (G.2.1, 240, .inl fby)), (h0, .inr (10, [.ref tby, .int (nI kt), .ref tln, .ref tsp, .int kd13409, .int (nI ks13410), .int (nI kn13411), .int tf13412])), (tsp, .inr (8, [.int 120, .int 1, .ref tspc, .int (nI ksp13418)])), (tspc, .inl (G.2.1, 120, .inl gtsp3419))] := hD
              have w3420 := hr3416
              refine lv_iconst (v := 1) hx hb dX10_takesOne_102 (by decide) ?_
              exact RI (v := 1) hC hP hD hS [1, 0, 2, 3] (kd13409, ks13410, kn13411, tf13412, ksp13418, gtsp3419) rfl rfl (by decide) (⟨Or.inl (rfl), by dsimp only; omega⟩) (by decide +kernel) dX10_takesOne_103
          · refine lv_if_ne (tgt := 93) hx hb dX10_takesOne_88 (by decide) (fun c9 => absurd (by decide) c9) (fun _ => ?_)
            refine lv_iconst (v := 0) hx hb dX10_takesOne_91 (by decide) ?_
            exact RI (v := 0) hC hP hD hS [2, 3, 0, 1] (kd13409, ks13410, kn13411, tf13412, ksp13403, gtsp3404) rfl rfl (by decide) (⟨Or.inr (rfl), by dsimp only; omega⟩) (by decide +kernel) dX10_takesOne_92
        · refine lv_if_eq (tgt := 91) hx hb dX10_takesOne_79 (by decide) (fun _ => ?_) (fun c9 => absurd (by decide) c9)
          refine lv_iconst (v := 0) hx hb dX10_takesOne_91 (by decide) ?_
          exact RI (v := 0) hC hP hD hS [0, 1, 2, 3] (kd13399, ks13400, kn13401, tf13402, ksp13403, gtsp3404) rfl rfl (by decide) (⟨Or.inr (rfl), by dsimp only; omega⟩) (by decide +kernel) dX10_takesOne_92
      · refine lv_aload_n hx hb dX10_takesOne_49 rfl (lv_at hl 2 rfl) ?_
        refine iVo (wr := []) hO hC hK hl hP hD hS hA (t_takesComparison l G K h0 tby kt tln tsp vkd vks vkn vtf fby tspc ksp ftsp (by omega) (by omega) (by omega) (by omega)) si_X10_162 [0, 1, 2, 3] [] rfl rfl (by decide) rfl (by decide) (by decide) rfl rfl rfl rfl rfl (Nat.le_of_ble_eq_true rfl) ⟨Nat.le_of_ble_eq_true rfl, Nat.le_of_ble_eq_true rfl⟩ ⟨Nat.le_of_ble_eq_true rfl, Nat.le_of_ble_eq_true rfl⟩ dX10_takesOne_50 (fun r3421 u3422 H locs hr3421 hP hD hS => ?_)
        obtain ⟨kd13423, ks13424, kn13425, tf13426, ksp13427, gtsp3428⟩ := u3422
        try dsimp only at hr3421
        have hP : va_P G.1 vwCl [(h0, .inr (10, [.ref tby, .int (nI kt), .ref tln, .ref tsp, .int kd13423, .int (nI ks13424), .int (nI kn13425), .int tf13426])), (tby, .inl (G.2.1, 240, .inl fby)), (tsp, .inr (8, [.int 120, .int 1, .ref tspc, .int (nI ksp13427)])), (tspc, .inl (G.2.1, 120, .inl gtsp3428))] H := hP
        have hD : va_D A [(h0, .inr (10, [.ref tby, .int (nI kt), .ref tln, .ref tsp, .int kd13423, .int (nI ks13424), .int (nI kn13425), .int tf13426])), (tby, .inl (G.2.1, 240, .inl fby)), (tsp, .inr (8, [.int 120, .int 1, .ref tspc, .int (nI ksp13427)])), (tspc, .inl (G.2.1, 120, .inl gtsp3428))] := hD
        obtain ⟨hr3421, w3429⟩ := hr3421
        rcases hr3421 with rfl | rfl
        · refine lv_if_ne (tgt := 93) hx hb dX10_takesOne_53 (by decide) (fun _ => ?_) (fun c9 => absurd c9 (by decide))
          refine lv_iload_n hx hb dX10_takesOne_93 rfl (lv_at hl 1 rfl) ?_
          refine lv_if_eq (tgt := 102) hx hb dX10_takesOne_94 (by decide) (fun c_94_3431 => ?_) (fun c_94_3431 => ?_)
          · refine lv_iconst (v := 1) hx hb dX10_takesOne_102 (by decide) ?_
            exact RI (v := 1) hC hP hD hS [0, 1, 2, 3] (kd13423, ks13424, kn13425, tf13426, ksp13427, gtsp3428) rfl rfl (by decide) (⟨Or.inl (rfl), by dsimp only; omega⟩) (by decide +kernel) dX10_takesOne_103
          · refine lv_aload_n hx hb dX10_takesOne_97 rfl (lv_at hl 2 rfl) ?_
            refine lv_iconst (v := (-1)) hx hb dX10_takesOne_98 (by decide) ?_
            refine vV (wr := [(tby, .inl (G.2.1, 240, .inl fby))]) hC hK hl hP hD hS hA (t_addStep l G h0 (-1) tby kt tln tsp kd13423 ks13424 kn13425 tf13426 tspc ksp13427 gtsp3428 (by omega)) si_X10_152 [0, 2, 3] [1] rfl rfl (by decide) rfl (by decide) (by decide) rfl rfl rfl rfl rfl (Nat.le_of_ble_eq_true rfl) ⟨Nat.le_of_ble_eq_true rfl, Nat.le_of_ble_eq_true rfl⟩ ⟨Nat.le_of_ble_eq_true rfl, Nat.le_of_ble_eq_true rfl⟩ dX10_takesOne_99 (fun u3433 H locs hr3432 hP hD hS => ?_)
            obtain ⟨ksp13434, gtsp3435⟩ := u3433
            try dsimp only at hr3432
            have hP : va_P G.1 vwCl [(tby, .inl (G.2.1, 240, .inl fby)), (h0, .inr (10, [.ref tby, .int (nI kt), .ref tln, .ref tsp, .int kd13423, .int (nI ks13424), .int (nI kn13425), .int tf13426])), (tsp, .inr (8, [.int 120, .int 1, .ref tspc, .int (nI ksp13434)])), (tspc, .inl (G.2.1, 120, .inl gtsp3435))] H := hP
            have hD : va_D A [(tby, .inl (G.2.1, 240, .inl fby)), (h0, .inr (10, [.ref tby, .int (nI kt), .ref tln, .ref tsp, .int kd13423, .int (nI ks13424), .int (nI kn13425), .int tf13426])), (tsp, .inr (8, [.int 120, .int 1, .ref tspc, .int (nI ksp13434)])), (tspc, .inl (G.2.1, 120, .inl gtsp3435))] := hD
            have w3436 := hr3432
            refine lv_iconst (v := 1) hx hb dX10_takesOne_102 (by decide) ?_
            exact RI (v := 1) hC hP hD hS [1, 0, 2, 3] (kd13423, ks13424, kn13425, tf13426, ksp13434, gtsp3435) rfl rfl (by decide) (⟨Or.inl (rfl), by dsimp only; omega⟩) (by decide +kernel) dX10_takesOne_103
        · refine lv_if_ne (tgt := 93) hx hb dX10_takesOne_53 (by decide) (fun c9 => absurd (by decide) c9) (fun _ => ?_)
          refine lv_iconst (v := 0) hx hb dX10_takesOne_56 (by decide) ?_
          exact RI (v := 0) hC hP hD hS [0, 1, 2, 3] (kd13423, ks13424, kn13425, tf13426, ksp13427, gtsp3428) rfl rfl (by decide) (⟨Or.inr (rfl), by dsimp only; omega⟩) (by decide +kernel) dX10_takesOne_57
    | succ nP ihP =>
      intro kP tu vkd vtf vks vkn H locs ls hkP hvks hvkn hP hD hS hl
      refine lv_iload_n hx hb dX10_takesOne_4 rfl (lv_at hl 0 rfl) ?_
      refine lv_sipush (v := 240) hx hb dX10_takesOne_5 (by decide) ?_
      refine lv_icmp_ge (tgt := 40) hx hb dX10_takesOne_8 (by decide) (fun c9 => absurd c9 (nI_ge (a := kP) (b := 240) (by omega) (by omega))) (fun _ => ?_)
      refine lv_aload_n hx hb dX10_takesOne_11 rfl (lv_at hl 2 rfl) ?_
      refine va_ldcS (index := 160) (tx := "not") hx hb hown (hO.2.1 10 (by decide)) dX10_takesOne_12 ?_
      refine pVo hO hS hC hK hl hP hD (t_isName l G K 10 h0 tby kt tln tsp vkd vks vkn vtf fby (by omega) (by omega) (by omega) ((by decide))) si_X10_102 [0, 1] rfl rfl (by decide) rfl rfl rfl rfl rfl (Nat.le_of_ble_eq_true rfl) ⟨Nat.le_of_ble_eq_true rfl, Nat.le_of_ble_eq_true rfl⟩ ⟨by first | exact Nat.le_of_ble_eq_true rfl | exact Nat.zero_le _, by first | exact Nat.le_of_ble_eq_true rfl | exact Nat.zero_le _⟩ dX10_takesOne_14 (fun r3437 hr3437 => ?_)
      rcases hr3437 with rfl | rfl
      · refine lv_if_eq (tgt := 40) hx hb dX10_takesOne_17 (by decide) (fun c9 => absurd c9 (by decide)) (fun _ => ?_)
        refine lv_aload_n hx hb dX10_takesOne_20 rfl (lv_at hl 2 rfl) ?_
        refine vV (wr := [(tsp, .inr (8, [.int 120, .int 1, .ref tspc, .int (nI ksp)])), (tspc, .inl (G.2.1, 120, .inl ftsp))]) hC hK hl hP hD hS hA (t_advance l G h0 tby kt tln tsp vkd vks vkn vtf fby (by omega) (by omega) (by omega)) si_X10_47 [0, 1] [2, 3] rfl rfl (by decide) rfl (by decide) (by decide) rfl rfl rfl rfl rfl (Nat.le_of_ble_eq_true rfl) ⟨Nat.le_of_ble_eq_true rfl, Nat.le_of_ble_eq_true rfl⟩ ⟨Nat.le_of_ble_eq_true rfl, Nat.le_of_ble_eq_true rfl⟩ dX10_takesOne_21 (fun u3440 H locs hr3439 hP hD hS => ?_)
        obtain ⟨kd13441, ks13442, kn13443⟩ := u3440
        try dsimp only at hr3439
        have hP : va_P G.1 vwCl [(tsp, .inr (8, [.int 120, .int 1, .ref tspc, .int (nI ksp)])), (tspc, .inl (G.2.1, 120, .inl ftsp)), (h0, .inr (10, [.ref tby, .int (nI kt), .ref tln, .ref tsp, .int kd13441, .int (nI ks13442), .int (nI kn13443), .int vtf])), (tby, .inl (G.2.1, 240, .inl fby))] H := hP
        have hD : va_D A [(tsp, .inr (8, [.int 120, .int 1, .ref tspc, .int (nI ksp)])), (tspc, .inl (G.2.1, 120, .inl ftsp)), (h0, .inr (10, [.ref tby, .int (nI kt), .ref tln, .ref tsp, .int kd13441, .int (nI ks13442), .int (nI kn13443), .int vtf])), (tby, .inl (G.2.1, 240, .inl fby))] := hD
        have w3444 := hr3439
        refine lv_iload_n hx hb dX10_takesOne_24 rfl (lv_at hl 1 rfl) ?_
        refine lv_if_ne (tgt := 32) hx hb dX10_takesOne_25 (by decide) (fun c_25_3445 => ?_) (fun c_25_3445 => ?_)
        · refine lv_iconst (v := 0) hx hb dX10_takesOne_32 (by decide) ?_
          refine lv_istore_n (lv' := [(2, .int 0), (3, .int (nI kP)), (0, .ref h0), (1, .int 0)]) hx hb dX10_takesOne_33 rfl hl (by decide) rfl (fun ls hl => ?_)
          refine lv_iinc (v := nI (kP + 1)) (lv' := [(3, .int (nI (kP + 1))), (2, .int 0), (0, .ref h0), (1, .int 0)]) hx hb dX10_takesOne_34 hl (k := 1) rfl (nI_1 _) (by decide) rfl (fun ls hl => ?_)
          refine lv_goto (tgt := 4) hx hb dX10_takesOne_37 (by decide) ?_
          have hP := hP.sub (ws' := [(h0, .inr (10, [.ref tby, .int (nI kt), .ref tln, .ref tsp, .int kd13441, .int (nI ks13442), .int (nI kn13443), .int vtf])), (tby, .inl (G.2.1, 240, .inl fby)), (tsp, .inr (8, [.int 120, .int 1, .ref tspc, .int (nI ksp)])), (tspc, .inl (G.2.1, 120, .inl ftsp))]) [2, 3, 0, 1] rfl
          have hD := hD.sub (ws' := [(h0, .inr (10, [.ref tby, .int (nI kt), .ref tln, .ref tsp, .int kd13441, .int (nI ks13442), .int (nI kn13443), .int vtf])), (tby, .inl (G.2.1, 240, .inl fby)), (tsp, .inr (8, [.int 120, .int 1, .ref tspc, .int (nI ksp)])), (tspc, .inl (G.2.1, 120, .inl ftsp))]) [2, 3, 0, 1] (by decide) rfl
          exact ihP (kP + 1) 0 kd13441 vtf ks13442 kn13443 _ _ _ (by omega) (by first | assumption | exact Or.inl rfl | exact Or.inr rfl | omega) (by first | assumption | exact Or.inl rfl | exact Or.inr rfl | omega) hP hD hS (lv_sub hl [0, 1, 2, 3] rfl)
        · refine lv_iconst (v := 1) hx hb dX10_takesOne_28 (by decide) ?_
          refine lv_goto (tgt := 33) hx hb dX10_takesOne_29 (by decide) ?_
          refine lv_istore_n (lv' := [(2, .int 1), (3, .int (nI kP)), (0, .ref h0), (1, .int 0)]) hx hb dX10_takesOne_33 rfl hl (by decide) rfl (fun ls hl => ?_)
          refine lv_iinc (v := nI (kP + 1)) (lv' := [(3, .int (nI (kP + 1))), (2, .int 1), (0, .ref h0), (1, .int 0)]) hx hb dX10_takesOne_34 hl (k := 1) rfl (nI_1 _) (by decide) rfl (fun ls hl => ?_)
          refine lv_goto (tgt := 4) hx hb dX10_takesOne_37 (by decide) ?_
          have hP := hP.sub (ws' := [(h0, .inr (10, [.ref tby, .int (nI kt), .ref tln, .ref tsp, .int kd13441, .int (nI ks13442), .int (nI kn13443), .int vtf])), (tby, .inl (G.2.1, 240, .inl fby)), (tsp, .inr (8, [.int 120, .int 1, .ref tspc, .int (nI ksp)])), (tspc, .inl (G.2.1, 120, .inl ftsp))]) [2, 3, 0, 1] rfl
          have hD := hD.sub (ws' := [(h0, .inr (10, [.ref tby, .int (nI kt), .ref tln, .ref tsp, .int kd13441, .int (nI ks13442), .int (nI kn13443), .int vtf])), (tby, .inl (G.2.1, 240, .inl fby)), (tsp, .inr (8, [.int 120, .int 1, .ref tspc, .int (nI ksp)])), (tspc, .inl (G.2.1, 120, .inl ftsp))]) [2, 3, 0, 1] (by decide) rfl
          exact ihP (kP + 1) 1 kd13441 vtf ks13442 kn13443 _ _ _ (by omega) (by first | assumption | exact Or.inl rfl | exact Or.inr rfl | omega) (by first | assumption | exact Or.inl rfl | exact Or.inr rfl | omega) hP hD hS (lv_sub hl [0, 1, 2, 3] rfl)
      · refine lv_if_eq (tgt := 40) hx hb dX10_takesOne_17 (by decide) (fun _ => ?_) (fun c9 => absurd (by decide) c9)
        refine lv_aload_n hx hb dX10_takesOne_40 rfl (lv_at hl 2 rfl) ?_
        refine gf_X10_31 hC rfl hK hP 0 rfl rfl dX10_takesOne_41 ?_
        refine lv_bipush (v := 40) hx hb dX10_takesOne_44 (by decide) ?_
        refine lv_icmp_eq (tgt := 58) hx hb dX10_takesOne_46 (by decide) (fun c_46_3446 => ?_) (fun c_46_3446 => ?_)
        · refine lv_iload_n hx hb dX10_takesOne_58 rfl (lv_at hl 3 rfl) ?_
          refine lv_iconst (v := 4) hx hb dX10_takesOne_59 (by decide) ?_
          refine lv_icmp_lt (tgt := 68) hx hb dX10_takesOne_60 (by decide) (fun _ => ?_) (fun c9 => absurd (by decide) c9)
          refine lv_aload_n hx hb dX10_takesOne_68 rfl (lv_at hl 2 rfl) ?_
          refine vV (wr := [(tsp, .inr (8, [.int 120, .int 1, .ref tspc, .int (nI ksp)])), (tspc, .inl (G.2.1, 120, .inl ftsp))]) hC hK hl hP hD hS hA (t_advance l G h0 tby kt tln tsp vkd vks vkn vtf fby (by omega) (by omega) (by omega)) si_X10_47 [0, 1] [2, 3] rfl rfl (by decide) rfl (by decide) (by decide) rfl rfl rfl rfl rfl (Nat.le_of_ble_eq_true rfl) ⟨Nat.le_of_ble_eq_true rfl, Nat.le_of_ble_eq_true rfl⟩ ⟨Nat.le_of_ble_eq_true rfl, Nat.le_of_ble_eq_true rfl⟩ dX10_takesOne_69 (fun u3448 H locs hr3447 hP hD hS => ?_)
          obtain ⟨kd13449, ks13450, kn13451⟩ := u3448
          try dsimp only at hr3447
          have hP : va_P G.1 vwCl [(tsp, .inr (8, [.int 120, .int 1, .ref tspc, .int (nI ksp)])), (tspc, .inl (G.2.1, 120, .inl ftsp)), (h0, .inr (10, [.ref tby, .int (nI kt), .ref tln, .ref tsp, .int kd13449, .int (nI ks13450), .int (nI kn13451), .int vtf])), (tby, .inl (G.2.1, 240, .inl fby))] H := hP
          have hD : va_D A [(tsp, .inr (8, [.int 120, .int 1, .ref tspc, .int (nI ksp)])), (tspc, .inl (G.2.1, 120, .inl ftsp)), (h0, .inr (10, [.ref tby, .int (nI kt), .ref tln, .ref tsp, .int kd13449, .int (nI ks13450), .int (nI kn13451), .int vtf])), (tby, .inl (G.2.1, 240, .inl fby))] := hD
          have w3452 := hr3447
          refine lv_aload_n hx hb dX10_takesOne_72 rfl (lv_at hl 2 rfl) ?_
          refine lv_iload_n hx hb dX10_takesOne_73 rfl (lv_at hl 3 rfl) ?_
          refine lv_iconst (v := 1) hx hb dX10_takesOne_74 (by decide) ?_
          refine lv_iadd hx hb dX10_takesOne_75 ?_
          refine eqi (x1 := 1) (by decide) ?_
          refine iVo (wr := []) hO hC hK hl hP hD hS hA (t_cond1 l G K h0 tby kt tln tsp kd13449 ks13450 kn13451 vtf fby tspc ksp ftsp (by omega) (by omega) (by omega) (by omega)) si_X10_121 [2, 3, 0, 1] [] rfl rfl (by decide) rfl (by decide) (by decide) rfl rfl rfl rfl rfl (Nat.le_of_ble_eq_true rfl) ⟨Nat.le_of_ble_eq_true rfl, Nat.le_of_ble_eq_true rfl⟩ ⟨Nat.le_of_ble_eq_true rfl, Nat.le_of_ble_eq_true rfl⟩ dX10_takesOne_76 (fun r3453 u3454 H locs hr3453 hP hD hS => ?_)
          obtain ⟨kd13455, ks13456, kn13457, tf13458, ksp13459, gtsp3460⟩ := u3454
          try dsimp only at hr3453
          have hP : va_P G.1 vwCl [(h0, .inr (10, [.ref tby, .int (nI kt), .ref tln, .ref tsp, .int kd13455, .int (nI ks13456), .int (nI kn13457), .int tf13458])), (tby, .inl (G.2.1, 240, .inl fby)), (tsp, .inr (8, [.int 120, .int 1, .ref tspc, .int (nI ksp13459)])), (tspc, .inl (G.2.1, 120, .inl gtsp3460))] H := hP
          have hD : va_D A [(h0, .inr (10, [.ref tby, .int (nI kt), .ref tln, .ref tsp, .int kd13455, .int (nI ks13456), .int (nI kn13457), .int tf13458])), (tby, .inl (G.2.1, 240, .inl fby)), (tsp, .inr (8, [.int 120, .int 1, .ref tspc, .int (nI ksp13459)])), (tspc, .inl (G.2.1, 120, .inl gtsp3460))] := hD
          obtain ⟨hr3453, w3461⟩ := hr3453
          rcases hr3453 with rfl | rfl
          · refine lv_if_eq (tgt := 91) hx hb dX10_takesOne_79 (by decide) (fun c9 => absurd c9 (by decide)) (fun _ => ?_)
            refine lv_aload_n hx hb dX10_takesOne_82 rfl (lv_at hl 2 rfl) ?_
            refine lv_bipush (v := 41) hx hb dX10_takesOne_83 (by decide) ?_
            refine iV (wr := [(tsp, .inr (8, [.int 120, .int 1, .ref tspc, .int (nI ksp13459)])), (tspc, .inl (G.2.1, 120, .inl gtsp3460))]) hC hK hl hP hD hS hA (t_takesByte l G h0 41 tby kt tln tsp kd13455 ks13456 kn13457 tf13458 fby (by omega) (by omega) (by omega)) si_X10_124 [0, 1] [2, 3] rfl rfl (by decide) rfl (by decide) (by decide) rfl rfl rfl rfl rfl (Nat.le_of_ble_eq_true rfl) ⟨Nat.le_of_ble_eq_true rfl, Nat.le_of_ble_eq_true rfl⟩ ⟨Nat.le_of_ble_eq_true rfl, Nat.le_of_ble_eq_true rfl⟩ dX10_takesOne_85 (fun r3463 u3464 H locs hr3463 hP hD hS => ?_)
            obtain ⟨kd13465, ks13466, kn13467, tf13468⟩ := u3464
            try dsimp only at hr3463
            have hP : va_P G.1 vwCl [(tsp, .inr (8, [.int 120, .int 1, .ref tspc, .int (nI ksp13459)])), (tspc, .inl (G.2.1, 120, .inl gtsp3460)), (h0, .inr (10, [.ref tby, .int (nI kt), .ref tln, .ref tsp, .int kd13465, .int (nI ks13466), .int (nI kn13467), .int tf13468])), (tby, .inl (G.2.1, 240, .inl fby))] H := hP
            have hD : va_D A [(tsp, .inr (8, [.int 120, .int 1, .ref tspc, .int (nI ksp13459)])), (tspc, .inl (G.2.1, 120, .inl gtsp3460)), (h0, .inr (10, [.ref tby, .int (nI kt), .ref tln, .ref tsp, .int kd13465, .int (nI ks13466), .int (nI kn13467), .int tf13468])), (tby, .inl (G.2.1, 240, .inl fby))] := hD
            obtain ⟨hr3463, w3469⟩ := hr3463
            rcases hr3463 with rfl | rfl
            · refine lv_if_ne (tgt := 93) hx hb dX10_takesOne_88 (by decide) (fun _ => ?_) (fun c9 => absurd c9 (by decide))
              refine lv_iload_n hx hb dX10_takesOne_93 rfl (lv_at hl 1 rfl) ?_
              refine lv_if_eq (tgt := 102) hx hb dX10_takesOne_94 (by decide) (fun c_94_3471 => ?_) (fun c_94_3471 => ?_)
              · refine lv_iconst (v := 1) hx hb dX10_takesOne_102 (by decide) ?_
                exact RI (v := 1) hC hP hD hS [2, 3, 0, 1] (kd13465, ks13466, kn13467, tf13468, ksp13459, gtsp3460) rfl rfl (by decide) (⟨Or.inl (rfl), by dsimp only; omega⟩) (by decide +kernel) dX10_takesOne_103
              · refine lv_aload_n hx hb dX10_takesOne_97 rfl (lv_at hl 2 rfl) ?_
                refine lv_iconst (v := (-1)) hx hb dX10_takesOne_98 (by decide) ?_
                refine vV (wr := [(tby, .inl (G.2.1, 240, .inl fby))]) hC hK hl hP hD hS hA (t_addStep l G h0 (-1) tby kt tln tsp kd13465 ks13466 kn13467 tf13468 tspc ksp13459 gtsp3460 (by omega)) si_X10_152 [2, 0, 1] [3] rfl rfl (by decide) rfl (by decide) (by decide) rfl rfl rfl rfl rfl (Nat.le_of_ble_eq_true rfl) ⟨Nat.le_of_ble_eq_true rfl, Nat.le_of_ble_eq_true rfl⟩ ⟨Nat.le_of_ble_eq_true rfl, Nat.le_of_ble_eq_true rfl⟩ dX10_takesOne_99 (fun u3473 H locs hr3472 hP hD hS => ?_)
                obtain ⟨ksp13474, gtsp3475⟩ := u3473
                try dsimp only at hr3472
                have hP : va_P G.1 vwCl [(tby, .inl (G.2.1, 240, .inl fby)), (h0, .inr (10, [.ref tby, .int (nI kt), .ref tln, .ref tsp, .int kd13465, .int (nI ks13466), .int (nI kn13467), .int tf13468])), (tsp, .inr (8, [.int 120, .int 1, .ref tspc, .int (nI ksp13474)])), (tspc, .inl (G.2.1, 120, .inl gtsp3475))] H := hP
                have hD : va_D A [(tby, .inl (G.2.1, 240, .inl fby)), (h0, .inr (10, [.ref tby, .int (nI kt), .ref tln, .ref tsp, .int kd13465, .int (nI ks13466), .int (nI kn13467), .int tf13468])), (tsp, .inr (8, [.int 120, .int 1, .ref tspc, .int (nI ksp13474)])), (tspc, .inl (G.2.1, 120, .inl gtsp3475))] := hD
                have w3476 := hr3472
                refine lv_iconst (v := 1) hx hb dX10_takesOne_102 (by decide) ?_
                exact RI (v := 1) hC hP hD hS [1, 0, 2, 3] (kd13465, ks13466, kn13467, tf13468, ksp13474, gtsp3475) rfl rfl (by decide) (⟨Or.inl (rfl), by dsimp only; omega⟩) (by decide +kernel) dX10_takesOne_103
            · refine lv_if_ne (tgt := 93) hx hb dX10_takesOne_88 (by decide) (fun c9 => absurd (by decide) c9) (fun _ => ?_)
              refine lv_iconst (v := 0) hx hb dX10_takesOne_91 (by decide) ?_
              exact RI (v := 0) hC hP hD hS [2, 3, 0, 1] (kd13465, ks13466, kn13467, tf13468, ksp13459, gtsp3460) rfl rfl (by decide) (⟨Or.inr (rfl), by dsimp only; omega⟩) (by decide +kernel) dX10_takesOne_92
          · refine lv_if_eq (tgt := 91) hx hb dX10_takesOne_79 (by decide) (fun _ => ?_) (fun c9 => absurd (by decide) c9)
            refine lv_iconst (v := 0) hx hb dX10_takesOne_91 (by decide) ?_
            exact RI (v := 0) hC hP hD hS [0, 1, 2, 3] (kd13455, ks13456, kn13457, tf13458, ksp13459, gtsp3460) rfl rfl (by decide) (⟨Or.inr (rfl), by dsimp only; omega⟩) (by decide +kernel) dX10_takesOne_92
        · refine lv_aload_n hx hb dX10_takesOne_49 rfl (lv_at hl 2 rfl) ?_
          refine iVo (wr := []) hO hC hK hl hP hD hS hA (t_takesComparison l G K h0 tby kt tln tsp vkd vks vkn vtf fby tspc ksp ftsp (by omega) (by omega) (by omega) (by omega)) si_X10_162 [0, 1, 2, 3] [] rfl rfl (by decide) rfl (by decide) (by decide) rfl rfl rfl rfl rfl (Nat.le_of_ble_eq_true rfl) ⟨Nat.le_of_ble_eq_true rfl, Nat.le_of_ble_eq_true rfl⟩ ⟨Nat.le_of_ble_eq_true rfl, Nat.le_of_ble_eq_true rfl⟩ dX10_takesOne_50 (fun r3477 u3478 H locs hr3477 hP hD hS => ?_)
          obtain ⟨kd13479, ks13480, kn13481, tf13482, ksp13483, gtsp3484⟩ := u3478
          try dsimp only at hr3477
          have hP : va_P G.1 vwCl [(h0, .inr (10, [.ref tby, .int (nI kt), .ref tln, .ref tsp, .int kd13479, .int (nI ks13480), .int (nI kn13481), .int tf13482])), (tby, .inl (G.2.1, 240, .inl fby)), (tsp, .inr (8, [.int 120, .int 1, .ref tspc, .int (nI ksp13483)])), (tspc, .inl (G.2.1, 120, .inl gtsp3484))] H := hP
          have hD : va_D A [(h0, .inr (10, [.ref tby, .int (nI kt), .ref tln, .ref tsp, .int kd13479, .int (nI ks13480), .int (nI kn13481), .int tf13482])), (tby, .inl (G.2.1, 240, .inl fby)), (tsp, .inr (8, [.int 120, .int 1, .ref tspc, .int (nI ksp13483)])), (tspc, .inl (G.2.1, 120, .inl gtsp3484))] := hD
          obtain ⟨hr3477, w3485⟩ := hr3477
          rcases hr3477 with rfl | rfl
          · refine lv_if_ne (tgt := 93) hx hb dX10_takesOne_53 (by decide) (fun _ => ?_) (fun c9 => absurd c9 (by decide))
            refine lv_iload_n hx hb dX10_takesOne_93 rfl (lv_at hl 1 rfl) ?_
            refine lv_if_eq (tgt := 102) hx hb dX10_takesOne_94 (by decide) (fun c_94_3487 => ?_) (fun c_94_3487 => ?_)
            · refine lv_iconst (v := 1) hx hb dX10_takesOne_102 (by decide) ?_
              exact RI (v := 1) hC hP hD hS [0, 1, 2, 3] (kd13479, ks13480, kn13481, tf13482, ksp13483, gtsp3484) rfl rfl (by decide) (⟨Or.inl (rfl), by dsimp only; omega⟩) (by decide +kernel) dX10_takesOne_103
            · refine lv_aload_n hx hb dX10_takesOne_97 rfl (lv_at hl 2 rfl) ?_
              refine lv_iconst (v := (-1)) hx hb dX10_takesOne_98 (by decide) ?_
              refine vV (wr := [(tby, .inl (G.2.1, 240, .inl fby))]) hC hK hl hP hD hS hA (t_addStep l G h0 (-1) tby kt tln tsp kd13479 ks13480 kn13481 tf13482 tspc ksp13483 gtsp3484 (by omega)) si_X10_152 [0, 2, 3] [1] rfl rfl (by decide) rfl (by decide) (by decide) rfl rfl rfl rfl rfl (Nat.le_of_ble_eq_true rfl) ⟨Nat.le_of_ble_eq_true rfl, Nat.le_of_ble_eq_true rfl⟩ ⟨Nat.le_of_ble_eq_true rfl, Nat.le_of_ble_eq_true rfl⟩ dX10_takesOne_99 (fun u3489 H locs hr3488 hP hD hS => ?_)
              obtain ⟨ksp13490, gtsp3491⟩ := u3489
              try dsimp only at hr3488
              have hP : va_P G.1 vwCl [(tby, .inl (G.2.1, 240, .inl fby)), (h0, .inr (10, [.ref tby, .int (nI kt), .ref tln, .ref tsp, .int kd13479, .int (nI ks13480), .int (nI kn13481), .int tf13482])), (tsp, .inr (8, [.int 120, .int 1, .ref tspc, .int (nI ksp13490)])), (tspc, .inl (G.2.1, 120, .inl gtsp3491))] H := hP
              have hD : va_D A [(tby, .inl (G.2.1, 240, .inl fby)), (h0, .inr (10, [.ref tby, .int (nI kt), .ref tln, .ref tsp, .int kd13479, .int (nI ks13480), .int (nI kn13481), .int tf13482])), (tsp, .inr (8, [.int 120, .int 1, .ref tspc, .int (nI ksp13490)])), (tspc, .inl (G.2.1, 120, .inl gtsp3491))] := hD
              have w3492 := hr3488
              refine lv_iconst (v := 1) hx hb dX10_takesOne_102 (by decide) ?_
              exact RI (v := 1) hC hP hD hS [1, 0, 2, 3] (kd13479, ks13480, kn13481, tf13482, ksp13490, gtsp3491) rfl rfl (by decide) (⟨Or.inl (rfl), by dsimp only; omega⟩) (by decide +kernel) dX10_takesOne_103
          · refine lv_if_ne (tgt := 93) hx hb dX10_takesOne_53 (by decide) (fun c9 => absurd (by decide) c9) (fun _ => ?_)
            refine lv_iconst (v := 0) hx hb dX10_takesOne_56 (by decide) ?_
            exact RI (v := 0) hC hP hD hS [0, 1, 2, 3] (kd13479, ks13480, kn13481, tf13482, ksp13483, gtsp3484) rfl rfl (by decide) (⟨Or.inr (rfl), by dsimp only; omega⟩) (by decide +kernel) dX10_takesOne_57
  exact keyP 240 0 0 tkd tf9 ks kn _ _ _ (by omega) (by first | assumption | exact Or.inl rfl | exact Or.inr rfl | omega) (by first | assumption | exact Or.inl rfl | exact Or.inr rfl | omega) hP hD hS (lv_sub hl [0, 1, 2, 3] rfl)
set_option maxHeartbeats 4000000 in
set_option maxRecDepth 100000 in
theorem t_all0 (l : Launch) (G : GG) (K : OO) (h0 : Nat) (tby : Nat) (kt : Nat) (tln : Nat) (tsp : Nat) (tkd : Int32) (ks : Nat) (kn : Nat) (tf9 : Int32) (fby : Nat → Int32) (tspc : Nat) (ksp : Nat) (ftsp : Nat → Int32) (hkt : kt ≤ 240) (hks : ks ≤ 240) (hkn : kn ≤ 240) (hksp : ksp ≤ 120) : MIo l G K yX10_takesAll cX10_takesAll 3 (some .boolean) 26 0 0 [.ref h0, .int 0] [(h0, .inr (10, [.ref tby, .int (nI kt), .ref tln, .ref tsp, .int tkd, .int (nI ks), .int (nI kn), .int tf9])), (tby, .inl (G.2.1, 240, .inl fby)), (tsp, .inr (8, [.int 120, .int 1, .ref tspc, .int (nI ksp)])), (tspc, .inl (G.2.1, 120, .inl ftsp))] (fun (r : Int32) (u : Int32 × Nat × Nat × Int32 × Nat × (Nat → Int32)) => (r = 1 ∨ r = 0) ∧ (u.2.1 ≤ 240 ∧ u.2.2.1 ≤ 240 ∧ u.2.2.2.2.1 ≤ 120)) (fun u : Int32 × Nat × Nat × Int32 × Nat × (Nat → Int32) => [(h0, .inr (10, [.ref tby, .int (nI kt), .ref tln, .ref tsp, .int u.1, .int (nI u.2.1), .int (nI u.2.2.1), .int u.2.2.2.1])), (tby, .inl (G.2.1, 240, .inl fby)), (tsp, .inr (8, [.int 120, .int 1, .ref tspc, .int (nI u.2.2.2.2.1)])), (tspc, .inl (G.2.1, 120, .inl u.2.2.2.2.2))]) := by
  refine MIo.start (by decide +kernel) (Nat.le_of_ble_eq_true rfl) ?_
  intro p e s m below meth c A ls hC hK hP hD hS hA hl hO
  have hl : lv_has ls 3 [(0, .ref h0), (1, .int 0)] := hl
  obtain ⟨hx, hb, hr, hml, hB, hown, hlocks, hnm⟩ := id hC
  refine lv_aload_n hx hb dX10_takesAll_0 rfl (lv_at hl 0 rfl) ?_
  refine lv_iload_n hx hb dX10_takesAll_1 rfl (lv_at hl 1 rfl) ?_
  refine iVo (wr := []) hO hC hK hl hP hD hS hA (t_one0 l G K h0 tby kt tln tsp tkd ks kn tf9 fby tspc ksp ftsp (by omega) (by omega) (by omega) (by omega)) si_X10_155 [0, 1, 2, 3] [] rfl rfl (by decide) rfl (by decide) (by decide) rfl rfl rfl rfl rfl (Nat.le_of_ble_eq_true rfl) ⟨Nat.le_of_ble_eq_true rfl, Nat.le_of_ble_eq_true rfl⟩ ⟨Nat.le_of_ble_eq_true rfl, Nat.le_of_ble_eq_true rfl⟩ dX10_takesAll_2 (fun r3493 u3494 H locs hr3493 hP hD hS => ?_)
  obtain ⟨kd13495, ks13496, kn13497, tf13498, ksp13499, gtsp3500⟩ := u3494
  try dsimp only at hr3493
  have hP : va_P G.1 vwCl [(h0, .inr (10, [.ref tby, .int (nI kt), .ref tln, .ref tsp, .int kd13495, .int (nI ks13496), .int (nI kn13497), .int tf13498])), (tby, .inl (G.2.1, 240, .inl fby)), (tsp, .inr (8, [.int 120, .int 1, .ref tspc, .int (nI ksp13499)])), (tspc, .inl (G.2.1, 120, .inl gtsp3500))] H := hP
  have hD : va_D A [(h0, .inr (10, [.ref tby, .int (nI kt), .ref tln, .ref tsp, .int kd13495, .int (nI ks13496), .int (nI kn13497), .int tf13498])), (tby, .inl (G.2.1, 240, .inl fby)), (tsp, .inr (8, [.int 120, .int 1, .ref tspc, .int (nI ksp13499)])), (tspc, .inl (G.2.1, 120, .inl gtsp3500))] := hD
  obtain ⟨hr3493, w3501⟩ := hr3493
  rcases hr3493 with rfl | rfl
  · refine lv_if_ne (tgt := 10) hx hb dX10_takesAll_5 (by decide) (fun _ => ?_) (fun c9 => absurd c9 (by decide))
    refine lv_iconst (v := 0) hx hb dX10_takesAll_10 (by decide) ?_
    refine lv_istore_n (lv' := [(2, .int 0), (0, .ref h0), (1, .int 0)]) hx hb dX10_takesAll_11 rfl hl (by decide) rfl (fun ls hl => ?_)
    have keyP : ∀ (nP kP : Nat) (vkd : Int32) (vtf : Int32) (vtsp : Nat → Int32) (vks : Nat) (vkn : Nat) (vksp : Nat) (H : Heap) (locs : List Loc) (ls : Array Slot), kP + nP = 240 → (vks ≤ 240) → (vkn ≤ 240) → (vksp ≤ 120) → va_P G.1 vwCl [(h0, .inr (10, [.ref tby, .int (nI kt), .ref tln, .ref tsp, .int vkd, .int (nI vks), .int (nI vkn), .int vtf])), (tby, .inl (G.2.1, 240, .inl fby)), (tsp, .inr (8, [.int 120, .int 1, .ref tspc, .int (nI vksp)])), (tspc, .inl (G.2.1, 120, .inl vtsp))] H → va_D A [(h0, .inr (10, [.ref tby, .int (nI kt), .ref tln, .ref tsp, .int vkd, .int (nI vks), .int (nI vkn), .int vtf])), (tby, .inl (G.2.1, 240, .inl fby)), (tsp, .inr (8, [.int 120, .int 1, .ref tspc, .int (nI vksp)])), (tspc, .inl (G.2.1, 120, .inl vtsp))] → va_S A s.heap H locs → lv_has ls 3 [(2, .int (nI kP)), (0, .ref h0), (1, .int 0)] → W p l e (RM 26 0 0) s m ([.ref h0, .int 0] : List Value).toArray below meth c H locs 0 0 (MQ below (QI G (fun (r : Int32) (u : Int32 × Nat × Nat × Int32 × Nat × (Nat → Int32)) => (r = 1 ∨ r = 0) ∧ (u.2.1 ≤ 240 ∧ u.2.2.1 ≤ 240 ∧ u.2.2.2.2.1 ≤ 120)) (fun u : Int32 × Nat × Nat × Int32 × Nat × (Nat → Int32) => [(h0, .inr (10, [.ref tby, .int (nI kt), .ref tln, .ref tsp, .int u.1, .int (nI u.2.1), .int (nI u.2.2.1), .int u.2.2.2.1])), (tby, .inl (G.2.1, 240, .inl fby)), (tsp, .inr (8, [.int 120, .int 1, .ref tspc, .int (nI u.2.2.2.2.1)])), (tspc, .inl (G.2.1, 120, .inl u.2.2.2.2.2))]) A) ([.ref h0, .int 0] : List Value).toArray s 0 0 A) (F0 m 12 ls []) := by
      intro nP
      induction nP with
      | zero =>
        intro kP vkd vtf vtsp vks vkn vksp H locs ls hkP hvks hvkn hvksp hP hD hS hl
        obtain rfl : 240 = kP := by omega
        have hl : lv_has ls 3 [(2, .int 240), (0, .ref h0), (1, .int 0)] := hl
        refine lv_iload_n hx hb dX10_takesAll_12 rfl (lv_at hl 0 rfl) ?_
        refine lv_sipush (v := 240) hx hb dX10_takesAll_13 (by decide) ?_
        refine lv_icmp_ge (tgt := 54) hx hb dX10_takesAll_16 (by decide) (fun _ => ?_) (fun c9 => absurd (by decide) c9)
        refine lv_iconst (v := 1) hx hb dX10_takesAll_54 (by decide) ?_
        exact RI (v := 1) hC hP hD hS [0, 1, 2, 3] (vkd, vks, vkn, vtf, vksp, vtsp) rfl rfl (by decide) (⟨Or.inl (rfl), by dsimp only; omega⟩) (by decide +kernel) dX10_takesAll_55
      | succ nP ihP =>
        intro kP vkd vtf vtsp vks vkn vksp H locs ls hkP hvks hvkn hvksp hP hD hS hl
        refine lv_iload_n hx hb dX10_takesAll_12 rfl (lv_at hl 0 rfl) ?_
        refine lv_sipush (v := 240) hx hb dX10_takesAll_13 (by decide) ?_
        refine lv_icmp_ge (tgt := 54) hx hb dX10_takesAll_16 (by decide) (fun c9 => absurd c9 (nI_ge (a := kP) (b := 240) (by omega) (by omega))) (fun _ => ?_)
        refine lv_aload_n hx hb dX10_takesAll_19 rfl (lv_at hl 1 rfl) ?_
        refine va_ldcS (index := 158) (tx := "and") hx hb hown (hO.2.1 9 (by decide)) dX10_takesAll_20 ?_
        refine pVo hO hS hC hK hl hP hD (t_isName l G K 9 h0 tby kt tln tsp vkd vks vkn vtf fby (by omega) (by omega) (by omega) ((by decide))) si_X10_102 [0, 1] rfl rfl (by decide) rfl rfl rfl rfl rfl (Nat.le_of_ble_eq_true rfl) ⟨Nat.le_of_ble_eq_true rfl, Nat.le_of_ble_eq_true rfl⟩ ⟨by first | exact Nat.le_of_ble_eq_true rfl | exact Nat.zero_le _, by first | exact Nat.le_of_ble_eq_true rfl | exact Nat.zero_le _⟩ dX10_takesAll_22 (fun r3503 hr3503 => ?_)
        rcases hr3503 with rfl | rfl
        · refine lv_if_eq (tgt := 54) hx hb dX10_takesAll_25 (by decide) (fun c9 => absurd c9 (by decide)) (fun _ => ?_)
          refine lv_aload_n hx hb dX10_takesAll_28 rfl (lv_at hl 1 rfl) ?_
          refine vV (wr := [(tsp, .inr (8, [.int 120, .int 1, .ref tspc, .int (nI vksp)])), (tspc, .inl (G.2.1, 120, .inl vtsp))]) hC hK hl hP hD hS hA (t_advance l G h0 tby kt tln tsp vkd vks vkn vtf fby (by omega) (by omega) (by omega)) si_X10_47 [0, 1] [2, 3] rfl rfl (by decide) rfl (by decide) (by decide) rfl rfl rfl rfl rfl (Nat.le_of_ble_eq_true rfl) ⟨Nat.le_of_ble_eq_true rfl, Nat.le_of_ble_eq_true rfl⟩ ⟨Nat.le_of_ble_eq_true rfl, Nat.le_of_ble_eq_true rfl⟩ dX10_takesAll_29 (fun u3506 H locs hr3505 hP hD hS => ?_)
          obtain ⟨kd13507, ks13508, kn13509⟩ := u3506
          try dsimp only at hr3505
          have hP : va_P G.1 vwCl [(tsp, .inr (8, [.int 120, .int 1, .ref tspc, .int (nI vksp)])), (tspc, .inl (G.2.1, 120, .inl vtsp)), (h0, .inr (10, [.ref tby, .int (nI kt), .ref tln, .ref tsp, .int kd13507, .int (nI ks13508), .int (nI kn13509), .int vtf])), (tby, .inl (G.2.1, 240, .inl fby))] H := hP
          have hD : va_D A [(tsp, .inr (8, [.int 120, .int 1, .ref tspc, .int (nI vksp)])), (tspc, .inl (G.2.1, 120, .inl vtsp)), (h0, .inr (10, [.ref tby, .int (nI kt), .ref tln, .ref tsp, .int kd13507, .int (nI ks13508), .int (nI kn13509), .int vtf])), (tby, .inl (G.2.1, 240, .inl fby))] := hD
          have w3510 := hr3505
          refine lv_aload_n hx hb dX10_takesAll_32 rfl (lv_at hl 1 rfl) ?_
          refine lv_iload_n hx hb dX10_takesAll_33 rfl (lv_at hl 2 rfl) ?_
          refine iVo (wr := []) hO hC hK hl hP hD hS hA (t_one0 l G K h0 tby kt tln tsp kd13507 ks13508 kn13509 vtf fby tspc vksp vtsp (by omega) (by omega) (by omega) (by omega)) si_X10_155 [2, 3, 0, 1] [] rfl rfl (by decide) rfl (by decide) (by decide) rfl rfl rfl rfl rfl (Nat.le_of_ble_eq_true rfl) ⟨Nat.le_of_ble_eq_true rfl, Nat.le_of_ble_eq_true rfl⟩ ⟨Nat.le_of_ble_eq_true rfl, Nat.le_of_ble_eq_true rfl⟩ dX10_takesAll_34 (fun r3511 u3512 H locs hr3511 hP hD hS => ?_)
          obtain ⟨kd13513, ks13514, kn13515, tf13516, ksp13517, gtsp3518⟩ := u3512
          try dsimp only at hr3511
          have hP : va_P G.1 vwCl [(h0, .inr (10, [.ref tby, .int (nI kt), .ref tln, .ref tsp, .int kd13513, .int (nI ks13514), .int (nI kn13515), .int tf13516])), (tby, .inl (G.2.1, 240, .inl fby)), (tsp, .inr (8, [.int 120, .int 1, .ref tspc, .int (nI ksp13517)])), (tspc, .inl (G.2.1, 120, .inl gtsp3518))] H := hP
          have hD : va_D A [(h0, .inr (10, [.ref tby, .int (nI kt), .ref tln, .ref tsp, .int kd13513, .int (nI ks13514), .int (nI kn13515), .int tf13516])), (tby, .inl (G.2.1, 240, .inl fby)), (tsp, .inr (8, [.int 120, .int 1, .ref tspc, .int (nI ksp13517)])), (tspc, .inl (G.2.1, 120, .inl gtsp3518))] := hD
          obtain ⟨hr3511, w3519⟩ := hr3511
          rcases hr3511 with rfl | rfl
          · refine lv_if_ne (tgt := 42) hx hb dX10_takesAll_37 (by decide) (fun _ => ?_) (fun c9 => absurd c9 (by decide))
            refine lv_aload_n hx hb dX10_takesAll_42 rfl (lv_at hl 1 rfl) ?_
            refine lv_bipush (v := (-2)) hx hb dX10_takesAll_43 (by decide) ?_
            refine vV (wr := [(tby, .inl (G.2.1, 240, .inl fby))]) hC hK hl hP hD hS hA (t_addStep l G h0 (-2) tby kt tln tsp kd13513 ks13514 kn13515 tf13516 tspc ksp13517 gtsp3518 (by omega)) si_X10_152 [0, 2, 3] [1] rfl rfl (by decide) rfl (by decide) (by decide) rfl rfl rfl rfl rfl (Nat.le_of_ble_eq_true rfl) ⟨Nat.le_of_ble_eq_true rfl, Nat.le_of_ble_eq_true rfl⟩ ⟨Nat.le_of_ble_eq_true rfl, Nat.le_of_ble_eq_true rfl⟩ dX10_takesAll_45 (fun u3522 H locs hr3521 hP hD hS => ?_)
            obtain ⟨ksp13523, gtsp3524⟩ := u3522
            try dsimp only at hr3521
            have hP : va_P G.1 vwCl [(tby, .inl (G.2.1, 240, .inl fby)), (h0, .inr (10, [.ref tby, .int (nI kt), .ref tln, .ref tsp, .int kd13513, .int (nI ks13514), .int (nI kn13515), .int tf13516])), (tsp, .inr (8, [.int 120, .int 1, .ref tspc, .int (nI ksp13523)])), (tspc, .inl (G.2.1, 120, .inl gtsp3524))] H := hP
            have hD : va_D A [(tby, .inl (G.2.1, 240, .inl fby)), (h0, .inr (10, [.ref tby, .int (nI kt), .ref tln, .ref tsp, .int kd13513, .int (nI ks13514), .int (nI kn13515), .int tf13516])), (tsp, .inr (8, [.int 120, .int 1, .ref tspc, .int (nI ksp13523)])), (tspc, .inl (G.2.1, 120, .inl gtsp3524))] := hD
            have w3525 := hr3521
            refine lv_iinc (v := nI (kP + 1)) (lv' := [(2, .int (nI (kP + 1))), (0, .ref h0), (1, .int 0)]) hx hb dX10_takesAll_48 hl (k := 0) rfl (nI_1 _) (by decide) rfl (fun ls hl => ?_)
            refine lv_goto (tgt := 12) hx hb dX10_takesAll_51 (by decide) ?_
            have hP := hP.sub (ws' := [(h0, .inr (10, [.ref tby, .int (nI kt), .ref tln, .ref tsp, .int kd13513, .int (nI ks13514), .int (nI kn13515), .int tf13516])), (tby, .inl (G.2.1, 240, .inl fby)), (tsp, .inr (8, [.int 120, .int 1, .ref tspc, .int (nI ksp13523)])), (tspc, .inl (G.2.1, 120, .inl gtsp3524))]) [1, 0, 2, 3] rfl
            have hD := hD.sub (ws' := [(h0, .inr (10, [.ref tby, .int (nI kt), .ref tln, .ref tsp, .int kd13513, .int (nI ks13514), .int (nI kn13515), .int tf13516])), (tby, .inl (G.2.1, 240, .inl fby)), (tsp, .inr (8, [.int 120, .int 1, .ref tspc, .int (nI ksp13523)])), (tspc, .inl (G.2.1, 120, .inl gtsp3524))]) [1, 0, 2, 3] (by decide) rfl
            exact ihP (kP + 1) kd13513 tf13516 gtsp3524 ks13514 kn13515 ksp13523 _ _ _ (by omega) (by first | assumption | exact Or.inl rfl | exact Or.inr rfl | omega) (by first | assumption | exact Or.inl rfl | exact Or.inr rfl | omega) (by first | assumption | exact Or.inl rfl | exact Or.inr rfl | omega) hP hD hS (lv_sub hl [0, 1, 2] rfl)
          · refine lv_if_ne (tgt := 42) hx hb dX10_takesAll_37 (by decide) (fun c9 => absurd (by decide) c9) (fun _ => ?_)
            refine lv_iconst (v := 0) hx hb dX10_takesAll_40 (by decide) ?_
            exact RI (v := 0) hC hP hD hS [0, 1, 2, 3] (kd13513, ks13514, kn13515, tf13516, ksp13517, gtsp3518) rfl rfl (by decide) (⟨Or.inr (rfl), by dsimp only; omega⟩) (by decide +kernel) dX10_takesAll_41
        · refine lv_if_eq (tgt := 54) hx hb dX10_takesAll_25 (by decide) (fun _ => ?_) (fun c9 => absurd (by decide) c9)
          refine lv_iconst (v := 1) hx hb dX10_takesAll_54 (by decide) ?_
          exact RI (v := 1) hC hP hD hS [0, 1, 2, 3] (vkd, vks, vkn, vtf, vksp, vtsp) rfl rfl (by decide) (⟨Or.inl (rfl), by dsimp only; omega⟩) (by decide +kernel) dX10_takesAll_55
    exact keyP 240 0 kd13495 tf13498 gtsp3500 ks13496 kn13497 ksp13499 _ _ _ (by omega) (by first | assumption | exact Or.inl rfl | exact Or.inr rfl | omega) (by first | assumption | exact Or.inl rfl | exact Or.inr rfl | omega) (by first | assumption | exact Or.inl rfl | exact Or.inr rfl | omega) hP hD hS (lv_sub hl [0, 1, 2] rfl)
  · refine lv_if_ne (tgt := 10) hx hb dX10_takesAll_5 (by decide) (fun c9 => absurd (by decide) c9) (fun _ => ?_)
    refine lv_iconst (v := 0) hx hb dX10_takesAll_8 (by decide) ?_
    exact RI (v := 0) hC hP hD hS [0, 1, 2, 3] (kd13495, ks13496, kn13497, tf13498, ksp13499, gtsp3500) rfl rfl (by decide) (⟨Or.inr (rfl), by dsimp only; omega⟩) (by decide +kernel) dX10_takesAll_9
set_option maxHeartbeats 4000000 in
set_option maxRecDepth 100000 in
theorem t_cond0 (l : Launch) (G : GG) (K : OO) (h0 : Nat) (tby : Nat) (kt : Nat) (tln : Nat) (tsp : Nat) (tkd : Int32) (ks : Nat) (kn : Nat) (tf9 : Int32) (fby : Nat → Int32) (tspc : Nat) (ksp : Nat) (ftsp : Nat → Int32) (hkt : kt ≤ 240) (hks : ks ≤ 240) (hkn : kn ≤ 240) (hksp : ksp ≤ 120) : MIo l G K yX10_takesCond cX10_takesCond 3 (some .boolean) 27 0 0 [.ref h0, .int 0] [(h0, .inr (10, [.ref tby, .int (nI kt), .ref tln, .ref tsp, .int tkd, .int (nI ks), .int (nI kn), .int tf9])), (tby, .inl (G.2.1, 240, .inl fby)), (tsp, .inr (8, [.int 120, .int 1, .ref tspc, .int (nI ksp)])), (tspc, .inl (G.2.1, 120, .inl ftsp))] (fun (r : Int32) (u : Int32 × Nat × Nat × Int32 × Nat × (Nat → Int32)) => (r = 1 ∨ r = 0) ∧ (u.2.1 ≤ 240 ∧ u.2.2.1 ≤ 240 ∧ u.2.2.2.2.1 ≤ 120)) (fun u : Int32 × Nat × Nat × Int32 × Nat × (Nat → Int32) => [(h0, .inr (10, [.ref tby, .int (nI kt), .ref tln, .ref tsp, .int u.1, .int (nI u.2.1), .int (nI u.2.2.1), .int u.2.2.2.1])), (tby, .inl (G.2.1, 240, .inl fby)), (tsp, .inr (8, [.int 120, .int 1, .ref tspc, .int (nI u.2.2.2.2.1)])), (tspc, .inl (G.2.1, 120, .inl u.2.2.2.2.2))]) := by
  refine MIo.start (by decide +kernel) (Nat.le_of_ble_eq_true rfl) ?_
  intro p e s m below meth c A ls hC hK hP hD hS hA hl hO
  have hl : lv_has ls 3 [(0, .ref h0), (1, .int 0)] := hl
  obtain ⟨hx, hb, hr, hml, hB, hown, hlocks, hnm⟩ := id hC
  refine lv_aload_n hx hb dX10_takesCond_0 rfl (lv_at hl 0 rfl) ?_
  refine lv_iload_n hx hb dX10_takesCond_1 rfl (lv_at hl 1 rfl) ?_
  refine iVo (wr := []) hO hC hK hl hP hD hS hA (t_all0 l G K h0 tby kt tln tsp tkd ks kn tf9 fby tspc ksp ftsp (by omega) (by omega) (by omega) (by omega)) si_X10_147 [0, 1, 2, 3] [] rfl rfl (by decide) rfl (by decide) (by decide) rfl rfl rfl rfl rfl (Nat.le_of_ble_eq_true rfl) ⟨Nat.le_of_ble_eq_true rfl, Nat.le_of_ble_eq_true rfl⟩ ⟨Nat.le_of_ble_eq_true rfl, Nat.le_of_ble_eq_true rfl⟩ dX10_takesCond_2 (fun r3526 u3527 H locs hr3526 hP hD hS => ?_)
  obtain ⟨kd13528, ks13529, kn13530, tf13531, ksp13532, gtsp3533⟩ := u3527
  try dsimp only at hr3526
  have hP : va_P G.1 vwCl [(h0, .inr (10, [.ref tby, .int (nI kt), .ref tln, .ref tsp, .int kd13528, .int (nI ks13529), .int (nI kn13530), .int tf13531])), (tby, .inl (G.2.1, 240, .inl fby)), (tsp, .inr (8, [.int 120, .int 1, .ref tspc, .int (nI ksp13532)])), (tspc, .inl (G.2.1, 120, .inl gtsp3533))] H := hP
  have hD : va_D A [(h0, .inr (10, [.ref tby, .int (nI kt), .ref tln, .ref tsp, .int kd13528, .int (nI ks13529), .int (nI kn13530), .int tf13531])), (tby, .inl (G.2.1, 240, .inl fby)), (tsp, .inr (8, [.int 120, .int 1, .ref tspc, .int (nI ksp13532)])), (tspc, .inl (G.2.1, 120, .inl gtsp3533))] := hD
  obtain ⟨hr3526, w3534⟩ := hr3526
  rcases hr3526 with rfl | rfl
  · refine lv_if_ne (tgt := 10) hx hb dX10_takesCond_5 (by decide) (fun _ => ?_) (fun c9 => absurd c9 (by decide))
    refine lv_iconst (v := 0) hx hb dX10_takesCond_10 (by decide) ?_
    refine lv_istore_n (lv' := [(2, .int 0), (0, .ref h0), (1, .int 0)]) hx hb dX10_takesCond_11 rfl hl (by decide) rfl (fun ls hl => ?_)
    have keyP : ∀ (nP kP : Nat) (vkd : Int32) (vtf : Int32) (vtsp : Nat → Int32) (vks : Nat) (vkn : Nat) (vksp : Nat) (H : Heap) (locs : List Loc) (ls : Array Slot), kP + nP = 240 → (vks ≤ 240) → (vkn ≤ 240) → (vksp ≤ 120) → va_P G.1 vwCl [(h0, .inr (10, [.ref tby, .int (nI kt), .ref tln, .ref tsp, .int vkd, .int (nI vks), .int (nI vkn), .int vtf])), (tby, .inl (G.2.1, 240, .inl fby)), (tsp, .inr (8, [.int 120, .int 1, .ref tspc, .int (nI vksp)])), (tspc, .inl (G.2.1, 120, .inl vtsp))] H → va_D A [(h0, .inr (10, [.ref tby, .int (nI kt), .ref tln, .ref tsp, .int vkd, .int (nI vks), .int (nI vkn), .int vtf])), (tby, .inl (G.2.1, 240, .inl fby)), (tsp, .inr (8, [.int 120, .int 1, .ref tspc, .int (nI vksp)])), (tspc, .inl (G.2.1, 120, .inl vtsp))] → va_S A s.heap H locs → lv_has ls 3 [(2, .int (nI kP)), (0, .ref h0), (1, .int 0)] → W p l e (RM 27 0 0) s m ([.ref h0, .int 0] : List Value).toArray below meth c H locs 0 0 (MQ below (QI G (fun (r : Int32) (u : Int32 × Nat × Nat × Int32 × Nat × (Nat → Int32)) => (r = 1 ∨ r = 0) ∧ (u.2.1 ≤ 240 ∧ u.2.2.1 ≤ 240 ∧ u.2.2.2.2.1 ≤ 120)) (fun u : Int32 × Nat × Nat × Int32 × Nat × (Nat → Int32) => [(h0, .inr (10, [.ref tby, .int (nI kt), .ref tln, .ref tsp, .int u.1, .int (nI u.2.1), .int (nI u.2.2.1), .int u.2.2.2.1])), (tby, .inl (G.2.1, 240, .inl fby)), (tsp, .inr (8, [.int 120, .int 1, .ref tspc, .int (nI u.2.2.2.2.1)])), (tspc, .inl (G.2.1, 120, .inl u.2.2.2.2.2))]) A) ([.ref h0, .int 0] : List Value).toArray s 0 0 A) (F0 m 12 ls []) := by
      intro nP
      induction nP with
      | zero =>
        intro kP vkd vtf vtsp vks vkn vksp H locs ls hkP hvks hvkn hvksp hP hD hS hl
        obtain rfl : 240 = kP := by omega
        have hl : lv_has ls 3 [(2, .int 240), (0, .ref h0), (1, .int 0)] := hl
        refine lv_iload_n hx hb dX10_takesCond_12 rfl (lv_at hl 0 rfl) ?_
        refine lv_sipush (v := 240) hx hb dX10_takesCond_13 (by decide) ?_
        refine lv_icmp_ge (tgt := 54) hx hb dX10_takesCond_16 (by decide) (fun _ => ?_) (fun c9 => absurd (by decide) c9)
        refine lv_iconst (v := 1) hx hb dX10_takesCond_54 (by decide) ?_
        exact RI (v := 1) hC hP hD hS [0, 1, 2, 3] (vkd, vks, vkn, vtf, vksp, vtsp) rfl rfl (by decide) (⟨Or.inl (rfl), by dsimp only; omega⟩) (by decide +kernel) dX10_takesCond_55
      | succ nP ihP =>
        intro kP vkd vtf vtsp vks vkn vksp H locs ls hkP hvks hvkn hvksp hP hD hS hl
        refine lv_iload_n hx hb dX10_takesCond_12 rfl (lv_at hl 0 rfl) ?_
        refine lv_sipush (v := 240) hx hb dX10_takesCond_13 (by decide) ?_
        refine lv_icmp_ge (tgt := 54) hx hb dX10_takesCond_16 (by decide) (fun c9 => absurd c9 (nI_ge (a := kP) (b := 240) (by omega) (by omega))) (fun _ => ?_)
        refine lv_aload_n hx hb dX10_takesCond_19 rfl (lv_at hl 1 rfl) ?_
        refine va_ldcS (index := 150) (tx := "o\x72") hx hb hown (hO.2.1 8 (by decide)) dX10_takesCond_20 ?_
        refine pVo hO hS hC hK hl hP hD (t_isName l G K 8 h0 tby kt tln tsp vkd vks vkn vtf fby (by omega) (by omega) (by omega) ((by decide))) si_X10_102 [0, 1] rfl rfl (by decide) rfl rfl rfl rfl rfl (Nat.le_of_ble_eq_true rfl) ⟨Nat.le_of_ble_eq_true rfl, Nat.le_of_ble_eq_true rfl⟩ ⟨by first | exact Nat.le_of_ble_eq_true rfl | exact Nat.zero_le _, by first | exact Nat.le_of_ble_eq_true rfl | exact Nat.zero_le _⟩ dX10_takesCond_22 (fun r3536 hr3536 => ?_)
        rcases hr3536 with rfl | rfl
        · refine lv_if_eq (tgt := 54) hx hb dX10_takesCond_25 (by decide) (fun c9 => absurd c9 (by decide)) (fun _ => ?_)
          refine lv_aload_n hx hb dX10_takesCond_28 rfl (lv_at hl 1 rfl) ?_
          refine vV (wr := [(tsp, .inr (8, [.int 120, .int 1, .ref tspc, .int (nI vksp)])), (tspc, .inl (G.2.1, 120, .inl vtsp))]) hC hK hl hP hD hS hA (t_advance l G h0 tby kt tln tsp vkd vks vkn vtf fby (by omega) (by omega) (by omega)) si_X10_47 [0, 1] [2, 3] rfl rfl (by decide) rfl (by decide) (by decide) rfl rfl rfl rfl rfl (Nat.le_of_ble_eq_true rfl) ⟨Nat.le_of_ble_eq_true rfl, Nat.le_of_ble_eq_true rfl⟩ ⟨Nat.le_of_ble_eq_true rfl, Nat.le_of_ble_eq_true rfl⟩ dX10_takesCond_29 (fun u3539 H locs hr3538 hP hD hS => ?_)
          obtain ⟨kd13540, ks13541, kn13542⟩ := u3539
          try dsimp only at hr3538
          have hP : va_P G.1 vwCl [(tsp, .inr (8, [.int 120, .int 1, .ref tspc, .int (nI vksp)])), (tspc, .inl (G.2.1, 120, .inl vtsp)), (h0, .inr (10, [.ref tby, .int (nI kt), .ref tln, .ref tsp, .int kd13540, .int (nI ks13541), .int (nI kn13542), .int vtf])), (tby, .inl (G.2.1, 240, .inl fby))] H := hP
          have hD : va_D A [(tsp, .inr (8, [.int 120, .int 1, .ref tspc, .int (nI vksp)])), (tspc, .inl (G.2.1, 120, .inl vtsp)), (h0, .inr (10, [.ref tby, .int (nI kt), .ref tln, .ref tsp, .int kd13540, .int (nI ks13541), .int (nI kn13542), .int vtf])), (tby, .inl (G.2.1, 240, .inl fby))] := hD
          have w3543 := hr3538
          refine lv_aload_n hx hb dX10_takesCond_32 rfl (lv_at hl 1 rfl) ?_
          refine lv_iload_n hx hb dX10_takesCond_33 rfl (lv_at hl 2 rfl) ?_
          refine iVo (wr := []) hO hC hK hl hP hD hS hA (t_all0 l G K h0 tby kt tln tsp kd13540 ks13541 kn13542 vtf fby tspc vksp vtsp (by omega) (by omega) (by omega) (by omega)) si_X10_147 [2, 3, 0, 1] [] rfl rfl (by decide) rfl (by decide) (by decide) rfl rfl rfl rfl rfl (Nat.le_of_ble_eq_true rfl) ⟨Nat.le_of_ble_eq_true rfl, Nat.le_of_ble_eq_true rfl⟩ ⟨Nat.le_of_ble_eq_true rfl, Nat.le_of_ble_eq_true rfl⟩ dX10_takesCond_34 (fun r3544 u3545 H locs hr3544 hP hD hS => ?_)
          obtain ⟨kd13546, ks13547, kn13548, tf13549, ksp13550, gtsp3551⟩ := u3545
          try dsimp only at hr3544
          have hP : va_P G.1 vwCl [(h0, .inr (10, [.ref tby, .int (nI kt), .ref tln, .ref tsp, .int kd13546, .int (nI ks13547), .int (nI kn13548), .int tf13549])), (tby, .inl (G.2.1, 240, .inl fby)), (tsp, .inr (8, [.int 120, .int 1, .ref tspc, .int (nI ksp13550)])), (tspc, .inl (G.2.1, 120, .inl gtsp3551))] H := hP
          have hD : va_D A [(h0, .inr (10, [.ref tby, .int (nI kt), .ref tln, .ref tsp, .int kd13546, .int (nI ks13547), .int (nI kn13548), .int tf13549])), (tby, .inl (G.2.1, 240, .inl fby)), (tsp, .inr (8, [.int 120, .int 1, .ref tspc, .int (nI ksp13550)])), (tspc, .inl (G.2.1, 120, .inl gtsp3551))] := hD
          obtain ⟨hr3544, w3552⟩ := hr3544
          rcases hr3544 with rfl | rfl
          · refine lv_if_ne (tgt := 42) hx hb dX10_takesCond_37 (by decide) (fun _ => ?_) (fun c9 => absurd c9 (by decide))
            refine lv_aload_n hx hb dX10_takesCond_42 rfl (lv_at hl 1 rfl) ?_
            refine lv_bipush (v := (-3)) hx hb dX10_takesCond_43 (by decide) ?_
            refine vV (wr := [(tby, .inl (G.2.1, 240, .inl fby))]) hC hK hl hP hD hS hA (t_addStep l G h0 (-3) tby kt tln tsp kd13546 ks13547 kn13548 tf13549 tspc ksp13550 gtsp3551 (by omega)) si_X10_152 [0, 2, 3] [1] rfl rfl (by decide) rfl (by decide) (by decide) rfl rfl rfl rfl rfl (Nat.le_of_ble_eq_true rfl) ⟨Nat.le_of_ble_eq_true rfl, Nat.le_of_ble_eq_true rfl⟩ ⟨Nat.le_of_ble_eq_true rfl, Nat.le_of_ble_eq_true rfl⟩ dX10_takesCond_45 (fun u3555 H locs hr3554 hP hD hS => ?_)
            obtain ⟨ksp13556, gtsp3557⟩ := u3555
            try dsimp only at hr3554
            have hP : va_P G.1 vwCl [(tby, .inl (G.2.1, 240, .inl fby)), (h0, .inr (10, [.ref tby, .int (nI kt), .ref tln, .ref tsp, .int kd13546, .int (nI ks13547), .int (nI kn13548), .int tf13549])), (tsp, .inr (8, [.int 120, .int 1, .ref tspc, .int (nI ksp13556)])), (tspc, .inl (G.2.1, 120, .inl gtsp3557))] H := hP
            have hD : va_D A [(tby, .inl (G.2.1, 240, .inl fby)), (h0, .inr (10, [.ref tby, .int (nI kt), .ref tln, .ref tsp, .int kd13546, .int (nI ks13547), .int (nI kn13548), .int tf13549])), (tsp, .inr (8, [.int 120, .int 1, .ref tspc, .int (nI ksp13556)])), (tspc, .inl (G.2.1, 120, .inl gtsp3557))] := hD
            have w3558 := hr3554
            refine lv_iinc (v := nI (kP + 1)) (lv' := [(2, .int (nI (kP + 1))), (0, .ref h0), (1, .int 0)]) hx hb dX10_takesCond_48 hl (k := 0) rfl (nI_1 _) (by decide) rfl (fun ls hl => ?_)
            refine lv_goto (tgt := 12) hx hb dX10_takesCond_51 (by decide) ?_
            have hP := hP.sub (ws' := [(h0, .inr (10, [.ref tby, .int (nI kt), .ref tln, .ref tsp, .int kd13546, .int (nI ks13547), .int (nI kn13548), .int tf13549])), (tby, .inl (G.2.1, 240, .inl fby)), (tsp, .inr (8, [.int 120, .int 1, .ref tspc, .int (nI ksp13556)])), (tspc, .inl (G.2.1, 120, .inl gtsp3557))]) [1, 0, 2, 3] rfl
            have hD := hD.sub (ws' := [(h0, .inr (10, [.ref tby, .int (nI kt), .ref tln, .ref tsp, .int kd13546, .int (nI ks13547), .int (nI kn13548), .int tf13549])), (tby, .inl (G.2.1, 240, .inl fby)), (tsp, .inr (8, [.int 120, .int 1, .ref tspc, .int (nI ksp13556)])), (tspc, .inl (G.2.1, 120, .inl gtsp3557))]) [1, 0, 2, 3] (by decide) rfl
            exact ihP (kP + 1) kd13546 tf13549 gtsp3557 ks13547 kn13548 ksp13556 _ _ _ (by omega) (by first | assumption | exact Or.inl rfl | exact Or.inr rfl | omega) (by first | assumption | exact Or.inl rfl | exact Or.inr rfl | omega) (by first | assumption | exact Or.inl rfl | exact Or.inr rfl | omega) hP hD hS (lv_sub hl [0, 1, 2] rfl)
          · refine lv_if_ne (tgt := 42) hx hb dX10_takesCond_37 (by decide) (fun c9 => absurd (by decide) c9) (fun _ => ?_)
            refine lv_iconst (v := 0) hx hb dX10_takesCond_40 (by decide) ?_
            exact RI (v := 0) hC hP hD hS [0, 1, 2, 3] (kd13546, ks13547, kn13548, tf13549, ksp13550, gtsp3551) rfl rfl (by decide) (⟨Or.inr (rfl), by dsimp only; omega⟩) (by decide +kernel) dX10_takesCond_41
        · refine lv_if_eq (tgt := 54) hx hb dX10_takesCond_25 (by decide) (fun _ => ?_) (fun c9 => absurd (by decide) c9)
          refine lv_iconst (v := 1) hx hb dX10_takesCond_54 (by decide) ?_
          exact RI (v := 1) hC hP hD hS [0, 1, 2, 3] (vkd, vks, vkn, vtf, vksp, vtsp) rfl rfl (by decide) (⟨Or.inl (rfl), by dsimp only; omega⟩) (by decide +kernel) dX10_takesCond_55
    exact keyP 240 0 kd13528 tf13531 gtsp3533 ks13529 kn13530 ksp13532 _ _ _ (by omega) (by first | assumption | exact Or.inl rfl | exact Or.inr rfl | omega) (by first | assumption | exact Or.inl rfl | exact Or.inr rfl | omega) (by first | assumption | exact Or.inl rfl | exact Or.inr rfl | omega) hP hD hS (lv_sub hl [0, 1, 2] rfl)
  · refine lv_if_ne (tgt := 10) hx hb dX10_takesCond_5 (by decide) (fun c9 => absurd (by decide) c9) (fun _ => ?_)
    refine lv_iconst (v := 0) hx hb dX10_takesCond_8 (by decide) ?_
    exact RI (v := 0) hC hP hD hS [0, 1, 2, 3] (kd13528, ks13529, kn13530, tf13531, ksp13532, gtsp3533) rfl rfl (by decide) (⟨Or.inr (rfl), by dsimp only; omega⟩) (by decide +kernel) dX10_takesCond_9
