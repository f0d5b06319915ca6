section WR
variable {p : Program} {l : Launch} {e : Env} {R : Room} {s : State} {m : MethodId} {args : Array Value} {below : List Frame} {meth : Method} {c : Code} {H : Heap} {locs : List Loc} {cells slots : Nat} {Q : State → Prop}
variable {pc : Nat} {ls : Array Slot} {rest : List Value} {G : GG} {ws : va_W} {A : Nat → Prop} {y0 : MethodName} {b0 : ByteArray} {mL0 : Nat} {rt0 : Option FieldType} {a : Nat} {H0 : Heap}
theorem gX10_byteAt_0 : (decode cX10_byteAt 0 = .ok (.iload_n 1, 1)) ∧ (decode cX10_byteAt 1 = .ok (.ifCond .lt 29, 3)) ∧ (decode cX10_byteAt 4 = .ok (.iload_n 1, 1)) ∧ (decode cX10_byteAt 5 = .ok (.aload_n 0, 1)) ∧ (decode cX10_byteAt 6 = .ok (.getfield 27, 3)) ∧ (decode cX10_byteAt 9 = .ok (.if_icmp .ge 21, 3)) ∧ (decode cX10_byteAt 12 = .ok (.iload_n 1, 1)) ∧ (decode cX10_byteAt 13 = .ok (.aload_n 0, 1)) ∧ (decode cX10_byteAt 14 = .ok (.getfield 9, 3)) ∧ (decode cX10_byteAt 17 = .ok (.arraylength, 1)) := by decide +kernel
theorem gX10_byteAt_1 : (decode cX10_byteAt 18 = .ok (.if_icmp .ge 12, 3)) ∧ (decode cX10_byteAt 21 = .ok (.aload_n 0, 1)) ∧ (decode cX10_byteAt 22 = .ok (.getfield 9, 3)) ∧ (decode cX10_byteAt 25 = .ok (.iload_n 1, 1)) ∧ (decode cX10_byteAt 26 = .ok (.iaload, 1)) ∧ (decode cX10_byteAt 27 = .ok (.goto 4, 3)) ∧ (decode cX10_byteAt 30 = .ok (.iconst (-1), 1)) ∧ (decode cX10_byteAt 31 = .ok (.ireturn, 1)) := by decide +kernel
theorem gX10_isLetter_0 : (decode cX10_isLetter 0 = .ok (.iload_n 0, 1)) ∧ (decode cX10_isLetter 1 = .ok (.bipush 97, 2)) ∧ (decode cX10_isLetter 3 = .ok (.bipush 122, 2)) ∧ (decode cX10_isLetter 5 = .ok (.invokestatic 89, 3)) ∧ (decode cX10_isLetter 8 = .ok (.ireturn, 1)) := by decide +kernel
theorem nm_50 : Cond.methodLinkNest RX10 89 yX11_within RX11 ∈ NestW := List.mem_of_getElem? (i := 50) rfl
theorem si_X10_89 : SSN RX10 RX11 89 yX11_within cX11_within 3 (some .boolean) 3 := ⟨⟨nm_50, m_293, m_102, m_294⟩, ⟨nK_RX11.1, nK_RX11.2, pd_0⟩⟩
theorem gX10_isDigit_0 : (decode cX10_isDigit 0 = .ok (.iload_n 0, 1)) ∧ (decode cX10_isDigit 1 = .ok (.bipush 48, 2)) ∧ (decode cX10_isDigit 3 = .ok (.bipush 57, 2)) ∧ (decode cX10_isDigit 5 = .ok (.invokestatic 89, 3)) ∧ (decode cX10_isDigit 8 = .ok (.ireturn, 1)) := by decide +kernel
theorem gX10_refuse_0 : (decode cX10_refuse 0 = .ok (.aload_n 0, 1)) ∧ (decode cX10_refuse 1 = .ok (.aload_n 0, 1)) ∧ (decode cX10_refuse 2 = .ok (.getfield 34, 3)) ∧ (decode cX10_refuse 5 = .ok (.putfield 40, 3)) ∧ (decode cX10_refuse 8 = .ok (.iconst 0, 1)) ∧ (decode cX10_refuse 9 = .ok (.ireturn, 1)) := by decide +kernel
theorem m_234 : Cond.fieldLink RX10 34 "InquiryBench$Tape" "start" "I" ∈ BW := iB_BW13 _ (List.mem_of_getElem? (i := 0) rfl)
theorem gf_X10_34 (hC : CX p s m meth c y0 b0 mL0 rt0 args) (hy0 : y0.cls = RX10) (hK : KK G s) (hP : va_P G.1 vwCl ws H) (q0 : Nat) {fs : List Value} {v : Value} (he : ws[q0]? = some (a, .inr (10, fs))) (hv : fs[5]? = some v) (hdg : decode b0 pc = .ok (.getfield 34, 3)) (kk : W p l e R s m args below meth c H locs cells slots Q (F0 m (pc + 3) ls (v :: rest))) : W p l e R s m args below meth c H locs cells slots Q (F0 m pc ls (.ref a :: rest)) := by
  obtain ⟨hx, hb, hr, hml, hB, hown, hlocks, hnm⟩ := hC
  rw [hy0] at hown
  exact va_get (ci := 10) (C := RX10) (T := TX10) (N := 8) hx hb hB in_X10 hown hK.1 hP q0 he rfl 5 (by decide) (hB _ m_234) (fun _ h => h) hv hdg kk
theorem m_236 : Cond.fieldLink RX10 40 "InquiryBench$Tape" "fault" "I" ∈ BW := iB_BW13 _ (List.mem_of_getElem? (i := 2) rfl)
theorem pf_X10_40 (hC : CX p s m meth c y0 b0 mL0 rt0 args) (hy0 : y0.cls = RX10) (hK : KK G s) (hP : va_P G.1 vwCl ws H) (hD : va_D A ws) (hS : va_S A H0 H locs) (q0 : Nat) {fs : List Value} {v : Value} {ws' : va_W} (he : ws[q0]? = some (a, .inr (10, fs))) (hl : 7 < fs.length) (hws : ws.set q0 (a, .inr (10, fs.set 7 v)) = ws') (hn : narrow .int v = v) (hfit : fits .int v = true) (hdg : decode b0 pc = .ok (.putfield 40, 3)) (kk : ∀ (H1 : Heap) (locs1 : List Loc), va_P G.1 vwCl ws' H1 → va_D A ws' → va_S A H0 H1 locs1 → W p l e R s m args below meth c H1 locs1 cells slots Q (F0 m (pc + 3) ls rest)) : W p l e R s m args below meth c H locs cells slots Q (F0 m pc ls (v :: .ref a :: rest)) := by
  obtain ⟨hx, hb, hr, hml, hB, hown, hlocks, hnm⟩ := hC
  rw [hy0] at hown
  subst hws
  exact va_put (ci := 10) (ty := .int) (C := RX10) (T := TX10) (N := 8) hx hb hB in_X10 tyX10 tyX10_ok nmX10 hown hK.1 hP hD hS q0 he rfl 7 (by decide) (hB _ m_236) (fun _ h => h) rfl (by decide +kernel) hn hfit hl hdg kk
theorem gX10_clear_0 : (decode cX10_clear 0 = .ok (.aload_n 0, 1)) ∧ (decode cX10_clear 1 = .ok (.iconst 0, 1)) ∧ (decode cX10_clear 2 = .ok (.putfield 27, 3)) ∧ (decode cX10_clear 5 = .ok (.return_, 1)) := by decide +kernel
theorem gX10_advance_0 : (decode cX10_advance 0 = .ok (.aload_n 0, 1)) ∧ (decode cX10_advance 1 = .ok (.aload_n 0, 1)) ∧ (decode cX10_advance 2 = .ok (.getfield 37, 3)) ∧ (decode cX10_advance 5 = .ok (.putfield 34, 3)) ∧ (decode cX10_advance 8 = .ok (.aload_n 0, 1)) ∧ (decode cX10_advance 9 = .ok (.getfield 34, 3)) ∧ (decode cX10_advance 12 = .ok (.aload_n 0, 1)) ∧ (decode cX10_advance 13 = .ok (.getfield 27, 3)) ∧ (decode cX10_advance 16 = .ok (.if_icmp .ge 29, 3)) ∧ (decode cX10_advance 19 = .ok (.aload_n 0, 1)) := by decide +kernel
theorem m_235 : Cond.fieldLink RX10 37 "InquiryBench$Tape" "next" "I" ∈ BW := iB_BW13 _ (List.mem_of_getElem? (i := 1) rfl)
theorem gf_X10_37 (hC : CX p s m meth c y0 b0 mL0 rt0 args) (hy0 : y0.cls = RX10) (hK : KK G s) (hP : va_P G.1 vwCl ws H) (q0 : Nat) {fs : List Value} {v : Value} (he : ws[q0]? = some (a, .inr (10, fs))) (hv : fs[6]? = some v) (hdg : decode b0 pc = .ok (.getfield 37, 3)) (kk : W p l e R s m args below meth c H locs cells slots Q (F0 m (pc + 3) ls (v :: rest))) : W p l e R s m args below meth c H locs cells slots Q (F0 m pc ls (.ref a :: rest)) := by
  obtain ⟨hx, hb, hr, hml, hB, hown, hlocks, hnm⟩ := hC
  rw [hy0] at hown
  exact va_get (ci := 10) (C := RX10) (T := TX10) (N := 8) hx hb hB in_X10 hown hK.1 hP q0 he rfl 6 (by decide) (hB _ m_235) (fun _ h => h) hv hdg kk
theorem pf_X10_34 (hC : CX p s m meth c y0 b0 mL0 rt0 args) (hy0 : y0.cls = RX10) (hK : KK G s) (hP : va_P G.1 vwCl ws H) (hD : va_D A ws) (hS : va_S A H0 H locs) (q0 : Nat) {fs : List Value} {v : Value} {ws' : va_W} (he : ws[q0]? = some (a, .inr (10, fs))) (hl : 5 < fs.length) (hws : ws.set q0 (a, .inr (10, fs.set 5 v)) = ws') (hn : narrow .int v = v) (hfit : fits .int v = true) (hdg : decode b0 pc = .ok (.putfield 34, 3)) (kk : ∀ (H1 : Heap) (locs1 : List Loc), va_P G.1 vwCl ws' H1 → va_D A ws' → va_S A H0 H1 locs1 → W p l e R s m args below meth c H1 locs1 cells slots Q (F0 m (pc + 3) ls rest)) : W p l e R s m args below meth c H locs cells slots Q (F0 m pc ls (v :: .ref a :: rest)) := by
  obtain ⟨hx, hb, hr, hml, hB, hown, hlocks, hnm⟩ := hC
  rw [hy0] at hown
  subst hws
  exact va_put (ci := 10) (ty := .int) (C := RX10) (T := TX10) (N := 8) hx hb hB in_X10 tyX10 tyX10_ok nmX10 hown hK.1 hP hD hS q0 he rfl 5 (by decide) (hB _ m_234) (fun _ h => h) rfl (by decide +kernel) hn hfit hl hdg kk
theorem gX10_advance_2 : (decode cX10_advance 39 = .ok (.putfield 34, 3)) ∧ (decode cX10_advance 42 = .ok (.goto (-34), 3)) ∧ (decode cX10_advance 45 = .ok (.aload_n 0, 1)) ∧ (decode cX10_advance 46 = .ok (.aload_n 0, 1)) ∧ (decode cX10_advance 47 = .ok (.getfield 34, 3)) ∧ (decode cX10_advance 50 = .ok (.putfield 37, 3)) ∧ (decode cX10_advance 53 = .ok (.aload_n 0, 1)) ∧ (decode cX10_advance 54 = .ok (.aload_n 0, 1)) ∧ (decode cX10_advance 55 = .ok (.getfield 34, 3)) ∧ (decode cX10_advance 58 = .ok (.invokevirtual 78, 3)) := by decide +kernel
theorem pf_X10_37 (hC : CX p s m meth c y0 b0 mL0 rt0 args) (hy0 : y0.cls = RX10) (hK : KK G s) (hP : va_P G.1 vwCl ws H) (hD : va_D A ws) (hS : va_S A H0 H locs) (q0 : Nat) {fs : List Value} {v : Value} {ws' : va_W} (he : ws[q0]? = some (a, .inr (10, fs))) (hl : 6 < fs.length) (hws : ws.set q0 (a, .inr (10, fs.set 6 v)) = ws') (hn : narrow .int v = v) (hfit : fits .int v = true) (hdg : decode b0 pc = .ok (.putfield 37, 3)) (kk : ∀ (H1 : Heap) (locs1 : List Loc), va_P G.1 vwCl ws' H1 → va_D A ws' → va_S A H0 H1 locs1 → W p l e R s m args below meth c H1 locs1 cells slots Q (F0 m (pc + 3) ls rest)) : W p l e R s m args below meth c H locs cells slots Q (F0 m pc ls (v :: .ref a :: rest)) := by
  obtain ⟨hx, hb, hr, hml, hB, hown, hlocks, hnm⟩ := hC
  rw [hy0] at hown
  subst hws
  exact va_put (ci := 10) (ty := .int) (C := RX10) (T := TX10) (N := 8) hx hb hB in_X10 tyX10 tyX10_ok nmX10 hown hK.1 hP hD hS q0 he rfl 6 (by decide) (hB _ m_235) (fun _ h => h) rfl (by decide +kernel) hn hfit hl hdg kk
theorem m_629 : Cond.code yX10_byteAt cX10_byteAt 2 (some .int) ∈ BW := iB_BW34 _ (List.mem_of_getElem? (i := 9) rfl)
theorem m_627 : Cond.methodLink RX10 78 yX10_byteAt ∈ BW := iB_BW34 _ (List.mem_of_getElem? (i := 7) rfl)
theorem m_628 : Cond.instanceMethod yX10_byteAt ∈ BW := iB_BW34 _ (List.mem_of_getElem? (i := 8) rfl)
theorem m_15 : Cond.selects RX10 yX10_byteAt yX10_byteAt ∈ BW := iB_BW0 _ (List.mem_of_getElem? (i := 15) rfl)
theorem si_X10_78 : SV RX10 RX10 78 yX10_byteAt cX10_byteAt 2 (some .int) 1 := ⟨⟨m_627, m_628, m_15, m_111, m_629⟩, rfl, nK_RX10.1, nK_RX10.2, pd_7⟩
theorem gX10_advance_3 : (decode cX10_advance 61 = .ok (.invokestatic 82, 3)) ∧ (decode cX10_advance 64 = .ok (.ifCond .eq 47, 3)) ∧ (decode cX10_advance 67 = .ok (.aload_n 0, 1)) ∧ (decode cX10_advance 68 = .ok (.bipush (-2), 2)) ∧ (decode cX10_advance 70 = .ok (.putfield 31, 3)) ∧ (decode cX10_advance 73 = .ok (.aload_n 0, 1)) ∧ (decode cX10_advance 74 = .ok (.getfield 37, 3)) ∧ (decode cX10_advance 77 = .ok (.aload_n 0, 1)) ∧ (decode cX10_advance 78 = .ok (.getfield 27, 3)) ∧ (decode cX10_advance 81 = .ok (.if_icmp .ge 118, 3)) := by decide +kernel
theorem m_632 : Cond.code yX10_isLetter cX10_isLetter 1 (some .boolean) ∈ BW := iB_BW34 _ (List.mem_of_getElem? (i := 12) rfl)
theorem m_630 : Cond.methodLink RX10 82 yX10_isLetter ∈ BW := iB_BW34 _ (List.mem_of_getElem? (i := 10) rfl)
theorem m_631 : Cond.static yX10_isLetter ∈ BW := iB_BW34 _ (List.mem_of_getElem? (i := 11) rfl)
theorem si_X10_82 : SS RX10 82 yX10_isLetter cX10_isLetter 1 (some .boolean) 1 := ⟨⟨m_630, m_631, m_111, m_632⟩, ⟨nK_RX10.1, nK_RX10.2, pd_5⟩⟩
theorem m_233 : Cond.fieldLink RX10 31 "InquiryBench$Tape" "kind" "I" ∈ BW := iB_BW12 _ (List.mem_of_getElem? (i := 19) rfl)
theorem pf_X10_31 (hC : CX p s m meth c y0 b0 mL0 rt0 args) (hy0 : y0.cls = RX10) (hK : KK G s) (hP : va_P G.1 vwCl ws H) (hD : va_D A ws) (hS : va_S A H0 H locs) (q0 : Nat) {fs : List Value} {v : Value} {ws' : va_W} (he : ws[q0]? = some (a, .inr (10, fs))) (hl : 4 < fs.length) (hws : ws.set q0 (a, .inr (10, fs.set 4 v)) = ws') (hn : narrow .int v = v) (hfit : fits .int v = true) (hdg : decode b0 pc = .ok (.putfield 31, 3)) (kk : ∀ (H1 : Heap) (locs1 : List Loc), va_P G.1 vwCl ws' H1 → va_D A ws' → va_S A H0 H1 locs1 → W p l e R s m args below meth c H1 locs1 cells slots Q (F0 m (pc + 3) ls rest)) : W p l e R s m args below meth c H locs cells slots Q (F0 m pc ls (v :: .ref a :: rest)) := by
  obtain ⟨hx, hb, hr, hml, hB, hown, hlocks, hnm⟩ := hC
  rw [hy0] at hown
  subst hws
  exact va_put (ci := 10) (ty := .int) (C := RX10) (T := TX10) (N := 8) hx hb hB in_X10 tyX10 tyX10_ok nmX10 hown hK.1 hP hD hS q0 he rfl 4 (by decide) (hB _ m_233) (fun _ h => h) rfl (by decide +kernel) hn hfit hl hdg kk
theorem gX10_advance_9 : (decode cX10_advance 189 = .ok (.aload_n 0, 1)) ∧ (decode cX10_advance 190 = .ok (.dup, 1)) ∧ (decode cX10_advance 191 = .ok (.getfield 37, 3)) ∧ (decode cX10_advance 194 = .ok (.iconst 1, 1)) ∧ (decode cX10_advance 195 = .ok (.iadd, 1)) ∧ (decode cX10_advance 196 = .ok (.putfield 37, 3)) ∧ (decode cX10_advance 199 = .ok (.return_, 1)) := by decide +kernel
theorem gX10_advance_4 : (decode cX10_advance 84 = .ok (.aload_n 0, 1)) ∧ (decode cX10_advance 85 = .ok (.aload_n 0, 1)) ∧ (decode cX10_advance 86 = .ok (.getfield 37, 3)) ∧ (decode cX10_advance 89 = .ok (.invokevirtual 78, 3)) ∧ (decode cX10_advance 92 = .ok (.invokestatic 82, 3)) ∧ (decode cX10_advance 95 = .ok (.ifCond .eq 104, 3)) ∧ (decode cX10_advance 98 = .ok (.aload_n 0, 1)) ∧ (decode cX10_advance 99 = .ok (.dup, 1)) ∧ (decode cX10_advance 100 = .ok (.getfield 37, 3)) ∧ (decode cX10_advance 103 = .ok (.iconst 1, 1)) := by decide +kernel
theorem gX10_advance_5 : (decode cX10_advance 104 = .ok (.iadd, 1)) ∧ (decode cX10_advance 105 = .ok (.putfield 37, 3)) ∧ (decode cX10_advance 108 = .ok (.goto (-35), 3)) ∧ (decode cX10_advance 111 = .ok (.aload_n 0, 1)) ∧ (decode cX10_advance 112 = .ok (.aload_n 0, 1)) ∧ (decode cX10_advance 113 = .ok (.getfield 34, 3)) ∧ (decode cX10_advance 116 = .ok (.invokevirtual 78, 3)) ∧ (decode cX10_advance 119 = .ok (.invokestatic 86, 3)) ∧ (decode cX10_advance 122 = .ok (.ifCond .eq 47, 3)) ∧ (decode cX10_advance 125 = .ok (.aload_n 0, 1)) := by decide +kernel
theorem m_635 : Cond.code yX10_isDigit cX10_isDigit 1 (some .boolean) ∈ BW := iB_BW34 _ (List.mem_of_getElem? (i := 15) rfl)
theorem m_633 : Cond.methodLink RX10 86 yX10_isDigit ∈ BW := iB_BW34 _ (List.mem_of_getElem? (i := 13) rfl)
theorem m_634 : Cond.static yX10_isDigit ∈ BW := iB_BW34 _ (List.mem_of_getElem? (i := 14) rfl)
theorem si_X10_86 : SS RX10 86 yX10_isDigit cX10_isDigit 1 (some .boolean) 1 := ⟨⟨m_633, m_634, m_111, m_635⟩, ⟨nK_RX10.1, nK_RX10.2, pd_5⟩⟩
theorem gX10_advance_6 : (decode cX10_advance 126 = .ok (.bipush (-3), 2)) ∧ (decode cX10_advance 128 = .ok (.putfield 31, 3)) ∧ (decode cX10_advance 131 = .ok (.aload_n 0, 1)) ∧ (decode cX10_advance 132 = .ok (.getfield 37, 3)) ∧ (decode cX10_advance 135 = .ok (.aload_n 0, 1)) ∧ (decode cX10_advance 136 = .ok (.getfield 27, 3)) ∧ (decode cX10_advance 139 = .ok (.if_icmp .ge 60, 3)) ∧ (decode cX10_advance 142 = .ok (.aload_n 0, 1)) ∧ (decode cX10_advance 143 = .ok (.aload_n 0, 1)) ∧ (decode cX10_advance 144 = .ok (.getfield 37, 3)) := by decide +kernel
theorem gX10_advance_7 : (decode cX10_advance 147 = .ok (.invokevirtual 78, 3)) ∧ (decode cX10_advance 150 = .ok (.invokestatic 86, 3)) ∧ (decode cX10_advance 153 = .ok (.ifCond .eq 46, 3)) ∧ (decode cX10_advance 156 = .ok (.aload_n 0, 1)) ∧ (decode cX10_advance 157 = .ok (.dup, 1)) ∧ (decode cX10_advance 158 = .ok (.getfield 37, 3)) ∧ (decode cX10_advance 161 = .ok (.iconst 1, 1)) ∧ (decode cX10_advance 162 = .ok (.iadd, 1)) ∧ (decode cX10_advance 163 = .ok (.putfield 37, 3)) ∧ (decode cX10_advance 166 = .ok (.goto (-35), 3)) := by decide +kernel
theorem gX10_advance_8 : (decode cX10_advance 169 = .ok (.aload_n 0, 1)) ∧ (decode cX10_advance 170 = .ok (.aload_n 0, 1)) ∧ (decode cX10_advance 171 = .ok (.aload_n 0, 1)) ∧ (decode cX10_advance 172 = .ok (.getfield 34, 3)) ∧ (decode cX10_advance 175 = .ok (.invokevirtual 78, 3)) ∧ (decode cX10_advance 178 = .ok (.putfield 31, 3)) ∧ (decode cX10_advance 181 = .ok (.aload_n 0, 1)) ∧ (decode cX10_advance 182 = .ok (.getfield 31, 3)) ∧ (decode cX10_advance 185 = .ok (.iconst (-1), 1)) ∧ (decode cX10_advance 186 = .ok (.if_icmp .eq 13, 3)) := by decide +kernel
theorem gf_X10_31 (hC : CX p s m meth c y0 b0 mL0 rt0 args) (hy0 : y0.cls = RX10) (hK : KK G s) (hP : va_P G.1 vwCl ws H) (q0 : Nat) {fs : List Value} {v : Value} (he : ws[q0]? = some (a, .inr (10, fs))) (hv : fs[4]? = some v) (hdg : decode b0 pc = .ok (.getfield 31, 3)) (kk : W p l e R s m args below meth c H locs cells slots Q (F0 m (pc + 3) ls (v :: rest))) : W p l e R s m args below meth c H locs cells slots Q (F0 m pc ls (.ref a :: rest)) := by
  obtain ⟨hx, hb, hr, hml, hB, hown, hlocks, hnm⟩ := hC
  rw [hy0] at hown
  exact va_get (ci := 10) (C := RX10) (T := TX10) (N := 8) hx hb hB in_X10 hown hK.1 hP q0 he rfl 4 (by decide) (hB _ m_233) (fun _ h => h) hv hdg kk
theorem gX10_advance_1 : (decode cX10_advance 20 = .ok (.aload_n 0, 1)) ∧ (decode cX10_advance 21 = .ok (.getfield 34, 3)) ∧ (decode cX10_advance 24 = .ok (.invokevirtual 78, 3)) ∧ (decode cX10_advance 27 = .ok (.bipush 32, 2)) ∧ (decode cX10_advance 29 = .ok (.if_icmp .ne 16, 3)) ∧ (decode cX10_advance 32 = .ok (.aload_n 0, 1)) ∧ (decode cX10_advance 33 = .ok (.dup, 1)) ∧ (decode cX10_advance 34 = .ok (.getfield 34, 3)) ∧ (decode cX10_advance 37 = .ok (.iconst 1, 1)) ∧ (decode cX10_advance 38 = .ok (.iadd, 1)) := by decide +kernel
theorem gX10_isName_0 : (decode cX10_isName 0 = .ok (.aload_n 0, 1)) ∧ (decode cX10_isName 1 = .ok (.getfield 31, 3)) ∧ (decode cX10_isName 4 = .ok (.bipush (-2), 2)) ∧ (decode cX10_isName 6 = .ok (.if_icmp .ne 19, 3)) ∧ (decode cX10_isName 9 = .ok (.aload_n 0, 1)) ∧ (decode cX10_isName 10 = .ok (.getfield 37, 3)) ∧ (decode cX10_isName 13 = .ok (.aload_n 0, 1)) ∧ (decode cX10_isName 14 = .ok (.getfield 34, 3)) ∧ (decode cX10_isName 17 = .ok (.isub, 1)) ∧ (decode cX10_isName 18 = .ok (.aload_n 1, 1)) := by decide +kernel
theorem gX10_isName_1 : (decode cX10_isName 19 = .ok (.invokevirtual 93, 3)) ∧ (decode cX10_isName 22 = .ok (.if_icmp .eq 5, 3)) ∧ (decode cX10_isName 25 = .ok (.iconst 0, 1)) ∧ (decode cX10_isName 26 = .ok (.ireturn, 1)) ∧ (decode cX10_isName 27 = .ok (.iconst 0, 1)) ∧ (decode cX10_isName 28 = .ok (.istore_n 2, 1)) ∧ (decode cX10_isName 29 = .ok (.iload_n 2, 1)) ∧ (decode cX10_isName 30 = .ok (.aload_n 1, 1)) ∧ (decode cX10_isName 31 = .ok (.invokevirtual 93, 3)) ∧ (decode cX10_isName 34 = .ok (.if_icmp .ge 29, 3)) := by decide +kernel
theorem m_654 : Cond.code yJ0_length_8abf5 cJ0_length_8abf5 1 (some .int) ∈ BW := iB_BW35 _ (List.mem_of_getElem? (i := 14) rfl)
theorem m_651 : Cond.methodLink RX10 93 yJ0_length_8abf5 ∈ BW := iB_BW35 _ (List.mem_of_getElem? (i := 11) rfl)
theorem m_652 : Cond.instanceMethod yJ0_length_8abf5 ∈ BW := iB_BW35 _ (List.mem_of_getElem? (i := 12) rfl)
theorem m_653 : Cond.selects RJ0 yJ0_length_8abf5 yJ0_length_8abf5 ∈ BW := iB_BW35 _ (List.mem_of_getElem? (i := 13) rfl)
theorem si_X10_93 : SV RX10 RJ0 93 yJ0_length_8abf5 cJ0_length_8abf5 1 (some .int) 0 := ⟨⟨m_651, m_652, m_653, m_118, m_654⟩, rfl, nK_RJ0.1, nK_RJ0.2, pd_1⟩
theorem gX10_isName_3 : (decode cX10_isName 55 = .ok (.iconst 0, 1)) ∧ (decode cX10_isName 56 = .ok (.ireturn, 1)) ∧ (decode cX10_isName 57 = .ok (.iinc 2 1, 3)) ∧ (decode cX10_isName 60 = .ok (.goto (-31), 3)) ∧ (decode cX10_isName 63 = .ok (.iconst 1, 1)) ∧ (decode cX10_isName 64 = .ok (.ireturn, 1)) := by decide +kernel
theorem gX10_isName_2 : (decode cX10_isName 37 = .ok (.aload_n 0, 1)) ∧ (decode cX10_isName 38 = .ok (.aload_n 0, 1)) ∧ (decode cX10_isName 39 = .ok (.getfield 34, 3)) ∧ (decode cX10_isName 42 = .ok (.iload_n 2, 1)) ∧ (decode cX10_isName 43 = .ok (.iadd, 1)) ∧ (decode cX10_isName 44 = .ok (.invokevirtual 78, 3)) ∧ (decode cX10_isName 47 = .ok (.aload_n 1, 1)) ∧ (decode cX10_isName 48 = .ok (.iload_n 2, 1)) ∧ (decode cX10_isName 49 = .ok (.invokevirtual 98, 3)) ∧ (decode cX10_isName 52 = .ok (.if_icmp .eq 5, 3)) := by decide +kernel
theorem m_663 : Cond.code yJ0_charAt_5068e cJ0_charAt_5068e 2 (some .char) ∈ BW := iB_BW36 _ (List.mem_of_getElem? (i := 3) rfl)
theorem pd_25 : (parseMethodDescriptor "(I)C").map (fun d => d.parameters.length) = some 1 := by decide +kernel
theorem m_660 : Cond.methodLink RX10 98 yJ0_charAt_5068e ∈ BW := iB_BW36 _ (List.mem_of_getElem? (i := 0) rfl)
theorem m_661 : Cond.instanceMethod yJ0_charAt_5068e ∈ BW := iB_BW36 _ (List.mem_of_getElem? (i := 1) rfl)
theorem m_662 : Cond.selects RJ0 yJ0_charAt_5068e yJ0_charAt_5068e ∈ BW := iB_BW36 _ (List.mem_of_getElem? (i := 2) rfl)
theorem si_X10_98 : SV RX10 RJ0 98 yJ0_charAt_5068e cJ0_charAt_5068e 2 (some .char) 1 := ⟨⟨m_660, m_661, m_662, m_118, m_663⟩, rfl, nK_RJ0.1, nK_RJ0.2, pd_25⟩
theorem gX10_takesName_0 : (decode cX10_takesName 0 = .ok (.aload_n 0, 1)) ∧ (decode cX10_takesName 1 = .ok (.aload_n 1, 1)) ∧ (decode cX10_takesName 2 = .ok (.invokevirtual 102, 3)) ∧ (decode cX10_takesName 5 = .ok (.ifCond .ne 8, 3)) ∧ (decode cX10_takesName 8 = .ok (.aload_n 0, 1)) ∧ (decode cX10_takesName 9 = .ok (.invokevirtual 106, 3)) ∧ (decode cX10_takesName 12 = .ok (.ireturn, 1)) ∧ (decode cX10_takesName 13 = .ok (.aload_n 0, 1)) ∧ (decode cX10_takesName 14 = .ok (.invokevirtual 47, 3)) ∧ (decode cX10_takesName 17 = .ok (.iconst 1, 1)) := by decide +kernel
theorem m_650 : Cond.code yX10_isName cX10_isName 3 (some .boolean) ∈ BW := iB_BW35 _ (List.mem_of_getElem? (i := 10) rfl)
theorem pd_26 : (parseMethodDescriptor "(Ljava/lang/String;)Z").map (fun d => d.parameters.length) = some 1 := by decide +kernel
theorem m_648 : Cond.methodLink RX10 102 yX10_isName ∈ BW := iB_BW35 _ (List.mem_of_getElem? (i := 8) rfl)
theorem m_649 : Cond.instanceMethod yX10_isName ∈ BW := iB_BW35 _ (List.mem_of_getElem? (i := 9) rfl)
theorem m_19 : Cond.selects RX10 yX10_isName yX10_isName ∈ BW := iB_BW0 _ (List.mem_of_getElem? (i := 19) rfl)
theorem si_X10_102 : SV RX10 RX10 102 yX10_isName cX10_isName 3 (some .boolean) 1 := ⟨⟨m_648, m_649, m_19, m_111, m_650⟩, rfl, nK_RX10.1, nK_RX10.2, pd_26⟩
theorem m_626 : Cond.code yX10_advance cX10_advance 1 none ∈ BW := iB_BW34 _ (List.mem_of_getElem? (i := 6) rfl)
theorem m_624 : Cond.methodLink RX10 47 yX10_advance ∈ BW := iB_BW34 _ (List.mem_of_getElem? (i := 4) rfl)
theorem m_625 : Cond.instanceMethod yX10_advance ∈ BW := iB_BW34 _ (List.mem_of_getElem? (i := 5) rfl)
theorem m_14 : Cond.selects RX10 yX10_advance yX10_advance ∈ BW := iB_BW0 _ (List.mem_of_getElem? (i := 14) rfl)
theorem si_X10_47 : SV RX10 RX10 47 yX10_advance cX10_advance 1 none 0 := ⟨⟨m_624, m_625, m_14, m_111, m_626⟩, rfl, nK_RX10.1, nK_RX10.2, pd_9⟩
theorem gX10_takesName_1 : (decode cX10_takesName 18 = .ok (.ireturn, 1)) := by decide +kernel
theorem m_642 : Cond.code yX10_refuse cX10_refuse 1 (some .boolean) ∈ BW := iB_BW35 _ (List.mem_of_getElem? (i := 2) rfl)
theorem m_640 : Cond.methodLink RX10 106 yX10_refuse ∈ BW := iB_BW35 _ (List.mem_of_getElem? (i := 0) rfl)
theorem m_641 : Cond.instanceMethod yX10_refuse ∈ BW := iB_BW35 _ (List.mem_of_getElem? (i := 1) rfl)
theorem m_17 : Cond.selects RX10 yX10_refuse yX10_refuse ∈ BW := iB_BW0 _ (List.mem_of_getElem? (i := 17) rfl)
theorem si_X10_106 : SV RX10 RX10 106 yX10_refuse cX10_refuse 1 (some .boolean) 0 := ⟨⟨m_640, m_641, m_17, m_111, m_642⟩, rfl, nK_RX10.1, nK_RX10.2, pd_15⟩
theorem gX10_takesByte_0 : (decode cX10_takesByte 0 = .ok (.aload_n 0, 1)) ∧ (decode cX10_takesByte 1 = .ok (.getfield 31, 3)) ∧ (decode cX10_takesByte 4 = .ok (.iload_n 1, 1)) ∧ (decode cX10_takesByte 5 = .ok (.if_icmp .eq 8, 3)) ∧ (decode cX10_takesByte 8 = .ok (.aload_n 0, 1)) ∧ (decode cX10_takesByte 9 = .ok (.invokevirtual 106, 3)) ∧ (decode cX10_takesByte 12 = .ok (.ireturn, 1)) ∧ (decode cX10_takesByte 13 = .ok (.aload_n 0, 1)) ∧ (decode cX10_takesByte 14 = .ok (.invokevirtual 47, 3)) ∧ (decode cX10_takesByte 17 = .ok (.iconst 1, 1)) := by decide +kernel
theorem gX10_takesByte_1 : (decode cX10_takesByte 18 = .ok (.ireturn, 1)) := by decide +kernel
theorem gX10_numberHere_0 : (decode cX10_numberHere 0 = .ok (.aload_n 0, 1)) ∧ (decode cX10_numberHere 1 = .ok (.getfield 31, 3)) ∧ (decode cX10_numberHere 4 = .ok (.bipush (-3), 2)) ∧ (decode cX10_numberHere 6 = .ok (.if_icmp .ne 16, 3)) ∧ (decode cX10_numberHere 9 = .ok (.aload_n 0, 1)) ∧ (decode cX10_numberHere 10 = .ok (.getfield 37, 3)) ∧ (decode cX10_numberHere 13 = .ok (.aload_n 0, 1)) ∧ (decode cX10_numberHere 14 = .ok (.getfield 34, 3)) ∧ (decode cX10_numberHere 17 = .ok (.isub, 1)) ∧ (decode cX10_numberHere 18 = .ok (.iconst 3, 1)) := by decide +kernel
theorem gX10_numberHere_1 : (decode cX10_numberHere 19 = .ok (.if_icmp .le 5, 3)) ∧ (decode cX10_numberHere 22 = .ok (.iconst (-1), 1)) ∧ (decode cX10_numberHere 23 = .ok (.ireturn, 1)) ∧ (decode cX10_numberHere 24 = .ok (.iconst 0, 1)) ∧ (decode cX10_numberHere 25 = .ok (.istore_n 1, 1)) ∧ (decode cX10_numberHere 26 = .ok (.aload_n 0, 1)) ∧ (decode cX10_numberHere 27 = .ok (.getfield 34, 3)) ∧ (decode cX10_numberHere 30 = .ok (.istore_n 2, 1)) ∧ (decode cX10_numberHere 31 = .ok (.iload_n 2, 1)) ∧ (decode cX10_numberHere 32 = .ok (.aload_n 0, 1)) := by decide +kernel
theorem gX10_numberHere_2 : (decode cX10_numberHere 33 = .ok (.getfield 37, 3)) ∧ (decode cX10_numberHere 36 = .ok (.if_icmp .ge 23, 3)) ∧ (decode cX10_numberHere 39 = .ok (.iload_n 1, 1)) ∧ (decode cX10_numberHere 40 = .ok (.bipush 10, 2)) ∧ (decode cX10_numberHere 42 = .ok (.imul, 1)) ∧ (decode cX10_numberHere 43 = .ok (.aload_n 0, 1)) ∧ (decode cX10_numberHere 44 = .ok (.iload_n 2, 1)) ∧ (decode cX10_numberHere 45 = .ok (.invokevirtual 78, 3)) ∧ (decode cX10_numberHere 48 = .ok (.iadd, 1)) ∧ (decode cX10_numberHere 49 = .ok (.bipush 48, 2)) := by decide +kernel
theorem gX10_numberHere_3 : (decode cX10_numberHere 51 = .ok (.isub, 1)) ∧ (decode cX10_numberHere 52 = .ok (.istore_n 1, 1)) ∧ (decode cX10_numberHere 53 = .ok (.iinc 2 1, 3)) ∧ (decode cX10_numberHere 56 = .ok (.goto (-25), 3)) ∧ (decode cX10_numberHere 59 = .ok (.iload_n 1, 1)) ∧ (decode cX10_numberHere 60 = .ok (.ireturn, 1)) := by decide +kernel
theorem gX10_takesNumber_0 : (decode cX10_takesNumber 0 = .ok (.aload_n 0, 1)) ∧ (decode cX10_takesNumber 1 = .ok (.invokevirtual 109, 3)) ∧ (decode cX10_takesNumber 4 = .ok (.istore 4, 2)) ∧ (decode cX10_takesNumber 6 = .ok (.iload 4, 2)) ∧ (decode cX10_takesNumber 8 = .ok (.iconst 0, 1)) ∧ (decode cX10_takesNumber 9 = .ok (.iload_n 3, 1)) ∧ (decode cX10_takesNumber 10 = .ok (.invokestatic 89, 3)) ∧ (decode cX10_takesNumber 13 = .ok (.ifCond .ne 8, 3)) ∧ (decode cX10_takesNumber 16 = .ok (.aload_n 0, 1)) ∧ (decode cX10_takesNumber 17 = .ok (.invokevirtual 106, 3)) := by decide +kernel
theorem m_702 : Cond.code yX10_numberHere cX10_numberHere 3 (some .int) ∈ BW := iB_BW38 _ (List.mem_of_getElem? (i := 2) rfl)
theorem m_700 : Cond.methodLink RX10 109 yX10_numberHere ∈ BW := iB_BW38 _ (List.mem_of_getElem? (i := 0) rfl)
theorem m_701 : Cond.instanceMethod yX10_numberHere ∈ BW := iB_BW38 _ (List.mem_of_getElem? (i := 1) rfl)
theorem m_22 : Cond.selects RX10 yX10_numberHere yX10_numberHere ∈ BW := iB_BW1 _ (List.mem_of_getElem? (i := 2) rfl)
theorem si_X10_109 : SV RX10 RX10 109 yX10_numberHere cX10_numberHere 3 (some .int) 0 := ⟨⟨m_700, m_701, m_22, m_111, m_702⟩, rfl, nK_RX10.1, nK_RX10.2, pd_1⟩
theorem gX10_takesNumber_1 : (decode cX10_takesNumber 20 = .ok (.ireturn, 1)) ∧ (decode cX10_takesNumber 21 = .ok (.aload_n 0, 1)) ∧ (decode cX10_takesNumber 22 = .ok (.getfield 20, 3)) ∧ (decode cX10_takesNumber 25 = .ok (.iload_n 1, 1)) ∧ (decode cX10_takesNumber 26 = .ok (.iload_n 2, 1)) ∧ (decode cX10_takesNumber 27 = .ok (.iload 4, 2)) ∧ (decode cX10_takesNumber 29 = .ok (.invokevirtual 66, 3)) ∧ (decode cX10_takesNumber 32 = .ok (.aload_n 0, 1)) ∧ (decode cX10_takesNumber 33 = .ok (.invokevirtual 47, 3)) ∧ (decode cX10_takesNumber 36 = .ok (.iconst 1, 1)) := by decide +kernel
theorem m_231 : Cond.fieldLink RX10 20 "InquiryBench$Tape" "lines" "LInquiryBench$Table;" ∈ BW := iB_BW12 _ (List.mem_of_getElem? (i := 17) rfl)
theorem gf_X10_20 (hC : CX p s m meth c y0 b0 mL0 rt0 args) (hy0 : y0.cls = RX10) (hK : KK G s) (hP : va_P G.1 vwCl ws H) (q0 : Nat) {fs : List Value} {v : Value} (he : ws[q0]? = some (a, .inr (10, fs))) (hv : fs[2]? = some v) (hdg : decode b0 pc = .ok (.getfield 20, 3)) (kk : W p l e R s m args below meth c H locs cells slots Q (F0 m (pc + 3) ls (v :: rest))) : W p l e R s m args below meth c H locs cells slots Q (F0 m pc ls (.ref a :: rest)) := by
  obtain ⟨hx, hb, hr, hml, hB, hown, hlocks, hnm⟩ := hC
  rw [hy0] at hown
  exact va_get (ci := 10) (C := RX10) (T := TX10) (N := 8) hx hb hB in_X10 hown hK.1 hP q0 he rfl 2 (by decide) (hB _ m_231) (fun _ h => h) hv hdg kk
theorem m_643 : Cond.methodLink RX10 66 yX8_set ∈ BW := iB_BW35 _ (List.mem_of_getElem? (i := 3) rfl)
theorem si_X10_66 : SV RX10 RX8 66 yX8_set cX8_set 4 none 3 := ⟨⟨m_643, m_334, m_335, m_104, m_336⟩, rfl, nK_RX8.1, nK_RX8.2, pd_4⟩
theorem gX10_takesNumber_2 : (decode cX10_takesNumber 37 = .ok (.ireturn, 1)) := by decide +kernel
theorem gX10_addStep_0 : (decode cX10_addStep 0 = .ok (.aload_n 0, 1)) ∧ (decode cX10_addStep 1 = .ok (.getfield 24, 3)) ∧ (decode cX10_addStep 4 = .ok (.aload_n 0, 1)) ∧ (decode cX10_addStep 5 = .ok (.getfield 24, 3)) ∧ (decode cX10_addStep 8 = .ok (.invokevirtual 59, 3)) ∧ (decode cX10_addStep 11 = .ok (.iconst 0, 1)) ∧ (decode cX10_addStep 12 = .ok (.iload_n 1, 1)) ∧ (decode cX10_addStep 13 = .ok (.invokevirtual 66, 3)) ∧ (decode cX10_addStep 16 = .ok (.return_, 1)) := by decide +kernel
theorem m_232 : Cond.fieldLink RX10 24 "InquiryBench$Tape" "steps" "LInquiryBench$Table;" ∈ BW := iB_BW12 _ (List.mem_of_getElem? (i := 18) rfl)
theorem gf_X10_24 (hC : CX p s m meth c y0 b0 mL0 rt0 args) (hy0 : y0.cls = RX10) (hK : KK G s) (hP : va_P G.1 vwCl ws H) (q0 : Nat) {fs : List Value} {v : Value} (he : ws[q0]? = some (a, .inr (10, fs))) (hv : fs[3]? = some v) (hdg : decode b0 pc = .ok (.getfield 24, 3)) (kk : W p l e R s m args below meth c H locs cells slots Q (F0 m (pc + 3) ls (v :: rest))) : W p l e R s m args below meth c H locs cells slots Q (F0 m pc ls (.ref a :: rest)) := by
  obtain ⟨hx, hb, hr, hml, hB, hown, hlocks, hnm⟩ := hC
  rw [hy0] at hown
  exact va_get (ci := 10) (C := RX10) (T := TX10) (N := 8) hx hb hB in_X10 hown hK.1 hP q0 he rfl 3 (by decide) (hB _ m_232) (fun _ h => h) hv hdg kk
theorem m_639 : Cond.methodLink RX10 59 yX8_append ∈ BW := iB_BW34 _ (List.mem_of_getElem? (i := 19) rfl)
theorem si_X10_59 : SV RX10 RX8 59 yX8_append cX8_append 1 (some .int) 0 := ⟨⟨m_639, m_330, m_331, m_104, m_332⟩, rfl, nK_RX8.1, nK_RX8.2, pd_1⟩
theorem gX10_factHere_0 : (decode cX10_factHere 0 = .ok (.aload_n 0, 1)) ∧ (decode cX10_factHere 1 = .ok (.ldc 171, 2)) ∧ (decode cX10_factHere 3 = .ok (.invokevirtual 102, 3)) ∧ (decode cX10_factHere 6 = .ok (.ifCond .eq 5, 3)) ∧ (decode cX10_factHere 9 = .ok (.iconst 0, 1)) ∧ (decode cX10_factHere 10 = .ok (.ireturn, 1)) ∧ (decode cX10_factHere 11 = .ok (.aload_n 0, 1)) ∧ (decode cX10_factHere 12 = .ok (.ldc 173, 2)) ∧ (decode cX10_factHere 14 = .ok (.invokevirtual 102, 3)) ∧ (decode cX10_factHere 17 = .ok (.ifCond .eq 5, 3)) := by decide +kernel
theorem gX10_factHere_1 : (decode cX10_factHere 20 = .ok (.iconst 1, 1)) ∧ (decode cX10_factHere 21 = .ok (.ireturn, 1)) ∧ (decode cX10_factHere 22 = .ok (.aload_n 0, 1)) ∧ (decode cX10_factHere 23 = .ok (.ldc 175, 2)) ∧ (decode cX10_factHere 25 = .ok (.invokevirtual 102, 3)) ∧ (decode cX10_factHere 28 = .ok (.ifCond .eq 5, 3)) ∧ (decode cX10_factHere 31 = .ok (.iconst 2, 1)) ∧ (decode cX10_factHere 32 = .ok (.ireturn, 1)) ∧ (decode cX10_factHere 33 = .ok (.aload_n 0, 1)) ∧ (decode cX10_factHere 34 = .ok (.ldc 177, 2)) := by decide +kernel
theorem gX10_factHere_2 : (decode cX10_factHere 36 = .ok (.invokevirtual 102, 3)) ∧ (decode cX10_factHere 39 = .ok (.ifCond .eq 5, 3)) ∧ (decode cX10_factHere 42 = .ok (.iconst 3, 1)) ∧ (decode cX10_factHere 43 = .ok (.ireturn, 1)) ∧ (decode cX10_factHere 44 = .ok (.aload_n 0, 1)) ∧ (decode cX10_factHere 45 = .ok (.ldc 179, 2)) ∧ (decode cX10_factHere 47 = .ok (.invokevirtual 102, 3)) ∧ (decode cX10_factHere 50 = .ok (.ifCond .eq 7, 3)) ∧ (decode cX10_factHere 53 = .ok (.iconst 4, 1)) ∧ (decode cX10_factHere 54 = .ok (.goto 4, 3)) := by decide +kernel
theorem gX10_factHere_3 : (decode cX10_factHere 57 = .ok (.iconst (-1), 1)) ∧ (decode cX10_factHere 58 = .ok (.ireturn, 1)) := by decide +kernel
theorem gX10_signHere_0 : (decode cX10_signHere 0 = .ok (.aload_n 0, 1)) ∧ (decode cX10_signHere 1 = .ok (.getfield 31, 3)) ∧ (decode cX10_signHere 4 = .ok (.bipush 60, 2)) ∧ (decode cX10_signHere 6 = .ok (.if_icmp .ne 5, 3)) ∧ (decode cX10_signHere 9 = .ok (.iconst 0, 1)) ∧ (decode cX10_signHere 10 = .ok (.ireturn, 1)) ∧ (decode cX10_signHere 11 = .ok (.aload_n 0, 1)) ∧ (decode cX10_signHere 12 = .ok (.getfield 31, 3)) ∧ (decode cX10_signHere 15 = .ok (.bipush 61, 2)) ∧ (decode cX10_signHere 17 = .ok (.if_icmp .ne 5, 3)) := by decide +kernel
theorem gX10_signHere_1 : (decode cX10_signHere 20 = .ok (.iconst 1, 1)) ∧ (decode cX10_signHere 21 = .ok (.ireturn, 1)) ∧ (decode cX10_signHere 22 = .ok (.aload_n 0, 1)) ∧ (decode cX10_signHere 23 = .ok (.getfield 31, 3)) ∧ (decode cX10_signHere 26 = .ok (.bipush 62, 2)) ∧ (decode cX10_signHere 28 = .ok (.if_icmp .ne 7, 3)) ∧ (decode cX10_signHere 31 = .ok (.iconst 2, 1)) ∧ (decode cX10_signHere 32 = .ok (.goto 4, 3)) ∧ (decode cX10_signHere 35 = .ok (.iconst (-1), 1)) ∧ (decode cX10_signHere 36 = .ok (.ireturn, 1)) := by decide +kernel
theorem gX10_sortHere_0 : (decode cX10_sortHere 0 = .ok (.aload_n 0, 1)) ∧ (decode cX10_sortHere 1 = .ok (.ldc 127, 2)) ∧ (decode cX10_sortHere 3 = .ok (.invokevirtual 102, 3)) ∧ (decode cX10_sortHere 6 = .ok (.ifCond .eq 5, 3)) ∧ (decode cX10_sortHere 9 = .ok (.iconst 0, 1)) ∧ (decode cX10_sortHere 10 = .ok (.ireturn, 1)) ∧ (decode cX10_sortHere 11 = .ok (.aload_n 0, 1)) ∧ (decode cX10_sortHere 12 = .ok (.ldc 129, 2)) ∧ (decode cX10_sortHere 14 = .ok (.invokevirtual 102, 3)) ∧ (decode cX10_sortHere 17 = .ok (.ifCond .eq 5, 3)) := by decide +kernel
theorem gX10_sortHere_1 : (decode cX10_sortHere 20 = .ok (.iconst 1, 1)) ∧ (decode cX10_sortHere 21 = .ok (.ireturn, 1)) ∧ (decode cX10_sortHere 22 = .ok (.aload_n 0, 1)) ∧ (decode cX10_sortHere 23 = .ok (.ldc 131, 2)) ∧ (decode cX10_sortHere 25 = .ok (.invokevirtual 102, 3)) ∧ (decode cX10_sortHere 28 = .ok (.ifCond .eq 5, 3)) ∧ (decode cX10_sortHere 31 = .ok (.iconst 2, 1)) ∧ (decode cX10_sortHere 32 = .ok (.ireturn, 1)) ∧ (decode cX10_sortHere 33 = .ok (.aload_n 0, 1)) ∧ (decode cX10_sortHere 34 = .ok (.ldc 133, 2)) := by decide +kernel
theorem gX10_sortHere_2 : (decode cX10_sortHere 36 = .ok (.invokevirtual 102, 3)) ∧ (decode cX10_sortHere 39 = .ok (.ifCond .eq 7, 3)) ∧ (decode cX10_sortHere 42 = .ok (.iconst 3, 1)) ∧ (decode cX10_sortHere 43 = .ok (.goto 4, 3)) ∧ (decode cX10_sortHere 46 = .ok (.iconst (-1), 1)) ∧ (decode cX10_sortHere 47 = .ok (.ireturn, 1)) := by decide +kernel
theorem gX10_takesComparison_0 : (decode cX10_takesComparison 0 = .ok (.aload_n 0, 1)) ∧ (decode cX10_takesComparison 1 = .ok (.invokevirtual 165, 3)) ∧ (decode cX10_takesComparison 4 = .ok (.istore_n 1, 1)) ∧ (decode cX10_takesComparison 5 = .ok (.iload_n 1, 1)) ∧ (decode cX10_takesComparison 6 = .ok (.ifCond .ge 8, 3)) ∧ (decode cX10_takesComparison 9 = .ok (.aload_n 0, 1)) ∧ (decode cX10_takesComparison 10 = .ok (.invokevirtual 106, 3)) ∧ (decode cX10_takesComparison 13 = .ok (.ireturn, 1)) ∧ (decode cX10_takesComparison 14 = .ok (.aload_n 0, 1)) ∧ (decode cX10_takesComparison 15 = .ok (.invokevirtual 47, 3)) := by decide +kernel
theorem m_720 : Cond.code yX10_factHere cX10_factHere 1 (some .int) ∈ BW := iB_BW39 _ (List.mem_of_getElem? (i := 0) rfl)
theorem m_718 : Cond.methodLink RX10 165 yX10_factHere ∈ BW := iB_BW38 _ (List.mem_of_getElem? (i := 18) rfl)
theorem m_719 : Cond.instanceMethod yX10_factHere ∈ BW := iB_BW38 _ (List.mem_of_getElem? (i := 19) rfl)
theorem m_28 : Cond.selects RX10 yX10_factHere yX10_factHere ∈ BW := iB_BW1 _ (List.mem_of_getElem? (i := 8) rfl)
theorem si_X10_165 : SV RX10 RX10 165 yX10_factHere cX10_factHere 1 (some .int) 0 := ⟨⟨m_718, m_719, m_28, m_111, m_720⟩, rfl, nK_RX10.1, nK_RX10.2, pd_1⟩
theorem gX10_takesComparison_1 : (decode cX10_takesComparison 18 = .ok (.aload_n 0, 1)) ∧ (decode cX10_takesComparison 19 = .ok (.invokevirtual 168, 3)) ∧ (decode cX10_takesComparison 22 = .ok (.istore_n 2, 1)) ∧ (decode cX10_takesComparison 23 = .ok (.iload_n 2, 1)) ∧ (decode cX10_takesComparison 24 = .ok (.ifCond .ge 8, 3)) ∧ (decode cX10_takesComparison 27 = .ok (.aload_n 0, 1)) ∧ (decode cX10_takesComparison 28 = .ok (.invokevirtual 106, 3)) ∧ (decode cX10_takesComparison 31 = .ok (.ireturn, 1)) ∧ (decode cX10_takesComparison 32 = .ok (.aload_n 0, 1)) ∧ (decode cX10_takesComparison 33 = .ok (.invokevirtual 47, 3)) := by decide +kernel
theorem m_723 : Cond.code yX10_signHere cX10_signHere 1 (some .int) ∈ BW := iB_BW39 _ (List.mem_of_getElem? (i := 3) rfl)
theorem m_721 : Cond.methodLink RX10 168 yX10_signHere ∈ BW := iB_BW39 _ (List.mem_of_getElem? (i := 1) rfl)
theorem m_722 : Cond.instanceMethod yX10_signHere ∈ BW := iB_BW39 _ (List.mem_of_getElem? (i := 2) rfl)
theorem m_29 : Cond.selects RX10 yX10_signHere yX10_signHere ∈ BW := iB_BW1 _ (List.mem_of_getElem? (i := 9) rfl)
theorem si_X10_168 : SV RX10 RX10 168 yX10_signHere cX10_signHere 1 (some .int) 0 := ⟨⟨m_721, m_722, m_29, m_111, m_723⟩, rfl, nK_RX10.1, nK_RX10.2, pd_1⟩
theorem gX10_takesComparison_2 : (decode cX10_takesComparison 36 = .ok (.aload_n 0, 1)) ∧ (decode cX10_takesComparison 37 = .ok (.invokevirtual 109, 3)) ∧ (decode cX10_takesComparison 40 = .ok (.istore_n 3, 1)) ∧ (decode cX10_takesComparison 41 = .ok (.iload_n 3, 1)) ∧ (decode cX10_takesComparison 42 = .ok (.ifCond .ge 8, 3)) ∧ (decode cX10_takesComparison 45 = .ok (.aload_n 0, 1)) ∧ (decode cX10_takesComparison 46 = .ok (.invokevirtual 106, 3)) ∧ (decode cX10_takesComparison 49 = .ok (.ireturn, 1)) ∧ (decode cX10_takesComparison 50 = .ok (.aload_n 0, 1)) ∧ (decode cX10_takesComparison 51 = .ok (.invokevirtual 47, 3)) := by decide +kernel
theorem gX10_takesComparison_3 : (decode cX10_takesComparison 54 = .ok (.aload_n 0, 1)) ∧ (decode cX10_takesComparison 55 = .ok (.iload_n 1, 1)) ∧ (decode cX10_takesComparison 56 = .ok (.iconst 3, 1)) ∧ (decode cX10_takesComparison 57 = .ok (.imul, 1)) ∧ (decode cX10_takesComparison 58 = .ok (.iload_n 2, 1)) ∧ (decode cX10_takesComparison 59 = .ok (.iadd, 1)) ∧ (decode cX10_takesComparison 60 = .ok (.sipush 1000, 3)) ∧ (decode cX10_takesComparison 63 = .ok (.imul, 1)) ∧ (decode cX10_takesComparison 64 = .ok (.iload_n 3, 1)) ∧ (decode cX10_takesComparison 65 = .ok (.iadd, 1)) := by decide +kernel
theorem gX10_takesComparison_4 : (decode cX10_takesComparison 66 = .ok (.invokevirtual 152, 3)) ∧ (decode cX10_takesComparison 69 = .ok (.iconst 1, 1)) ∧ (decode cX10_takesComparison 70 = .ok (.ireturn, 1)) := by decide +kernel
theorem m_726 : Cond.code yX10_addStep cX10_addStep 2 none ∈ BW := iB_BW39 _ (List.mem_of_getElem? (i := 6) rfl)
theorem m_724 : Cond.methodLink RX10 152 yX10_addStep ∈ BW := iB_BW39 _ (List.mem_of_getElem? (i := 4) rfl)
theorem m_725 : Cond.instanceMethod yX10_addStep ∈ BW := iB_BW39 _ (List.mem_of_getElem? (i := 5) rfl)
theorem m_30 : Cond.selects RX10 yX10_addStep yX10_addStep ∈ BW := iB_BW1 _ (List.mem_of_getElem? (i := 10) rfl)
theorem si_X10_152 : SV RX10 RX10 152 yX10_addStep cX10_addStep 2 none 1 := ⟨⟨m_724, m_725, m_30, m_111, m_726⟩, rfl, nK_RX10.1, nK_RX10.2, pd_18⟩
end WR
theorem rmT {k x d mL mc ms : Nat} (h1 : d + 1 ≤ k) (h2 : 8 + (mL + 11) + 40 * d ≤ 40 * k) : d + 1 ≤ (RM (k + x) mc ms).frames ∧ 8 + (mL + 11) + 40 * d ≤ (RM (k + x) mc ms).locals := ⟨by show d + 1 ≤ k + x; omega, by show _ ≤ 40 * (k + x); omega⟩
section WR
variable {p : Program} {l : Launch} {e : Env} {R : Room} {s : State} {m : MethodId} {args : Array Value} {below : List Frame} {meth : Method} {c : Code} {H : Heap} {locs : List Loc} {cells slots : Nat} {Q : State → Prop}
variable {pc : Nat} {ls : Array Slot} {rest : List Value} {G : GG} {K : OO} {ws : va_W} {A : Nat → Prop} {y0 : MethodName} {b0 : ByteArray} {mL0 : Nat} {rt0 : Option FieldType} {a : Nat} {H0 : Heap}
theorem gX10_takesOne_0 : (decode cX10_takesOne 0 = .ok (.iconst 0, 1)) ∧ (decode cX10_takesOne 1 = .ok (.istore_n 2, 1)) ∧ (decode cX10_takesOne 2 = .ok (.iconst 0, 1)) ∧ (decode cX10_takesOne 3 = .ok (.istore_n 3, 1)) ∧ (decode cX10_takesOne 4 = .ok (.iload_n 3, 1)) ∧ (decode cX10_takesOne 5 = .ok (.sipush 240, 3)) ∧ (decode cX10_takesOne 8 = .ok (.if_icmp .ge 32, 3)) ∧ (decode cX10_takesOne 11 = .ok (.aload_n 0, 1)) ∧ (decode cX10_takesOne 12 = .ok (.ldc 160, 2)) ∧ (decode cX10_takesOne 14 = .ok (.invokevirtual 102, 3)) := by decide +kernel
theorem gX10_takesOne_2 : (decode cX10_takesOne 37 = .ok (.goto (-33), 3)) ∧ (decode cX10_takesOne 40 = .ok (.aload_n 0, 1)) ∧ (decode cX10_takesOne 41 = .ok (.getfield 31, 3)) ∧ (decode cX10_takesOne 44 = .ok (.bipush 40, 2)) ∧ (decode cX10_takesOne 46 = .ok (.if_icmp .eq 12, 3)) ∧ (decode cX10_takesOne 49 = .ok (.aload_n 0, 1)) ∧ (decode cX10_takesOne 50 = .ok (.invokevirtual 162, 3)) ∧ (decode cX10_takesOne 53 = .ok (.ifCond .ne 40, 3)) ∧ (decode cX10_takesOne 56 = .ok (.iconst 0, 1)) ∧ (decode cX10_takesOne 57 = .ok (.ireturn, 1)) := by decide +kernel
theorem gX10_takesOne_3 : (decode cX10_takesOne 58 = .ok (.iload_n 1, 1)) ∧ (decode cX10_takesOne 59 = .ok (.iconst 4, 1)) ∧ (decode cX10_takesOne 60 = .ok (.if_icmp .lt 8, 3)) ∧ (decode cX10_takesOne 63 = .ok (.aload_n 0, 1)) ∧ (decode cX10_takesOne 64 = .ok (.invokevirtual 106, 3)) ∧ (decode cX10_takesOne 67 = .ok (.ireturn, 1)) ∧ (decode cX10_takesOne 68 = .ok (.aload_n 0, 1)) ∧ (decode cX10_takesOne 69 = .ok (.invokevirtual 47, 3)) ∧ (decode cX10_takesOne 72 = .ok (.aload_n 0, 1)) ∧ (decode cX10_takesOne 73 = .ok (.iload_n 1, 1)) := by decide +kernel
theorem gX10_takesOne_4 : (decode cX10_takesOne 74 = .ok (.iconst 1, 1)) ∧ (decode cX10_takesOne 75 = .ok (.iadd, 1)) ∧ (decode cX10_takesOne 76 = .ok (.invokevirtual 121, 3)) ∧ (decode cX10_takesOne 79 = .ok (.ifCond .eq 12, 3)) ∧ (decode cX10_takesOne 82 = .ok (.aload_n 0, 1)) ∧ (decode cX10_takesOne 83 = .ok (.bipush 41, 2)) ∧ (decode cX10_takesOne 85 = .ok (.invokevirtual 124, 3)) ∧ (decode cX10_takesOne 88 = .ok (.ifCond .ne 5, 3)) ∧ (decode cX10_takesOne 91 = .ok (.iconst 0, 1)) ∧ (decode cX10_takesOne 92 = .ok (.ireturn, 1)) := by decide +kernel
theorem m_708 : Cond.code yX10_takesCond cX10_takesCond 3 (some .boolean) ∈ BW := iB_BW38 _ (List.mem_of_getElem? (i := 8) rfl)
theorem m_706 : Cond.methodLink RX10 121 yX10_takesCond ∈ BW := iB_BW38 _ (List.mem_of_getElem? (i := 6) rfl)
theorem m_707 : Cond.instanceMethod yX10_takesCond ∈ BW := iB_BW38 _ (List.mem_of_getElem? (i := 7) rfl)
theorem m_24 : Cond.selects RX10 yX10_takesCond yX10_takesCond ∈ BW := iB_BW1 _ (List.mem_of_getElem? (i := 4) rfl)
theorem si_X10_121 : SV RX10 RX10 121 yX10_takesCond cX10_takesCond 3 (some .boolean) 1 := ⟨⟨m_706, m_707, m_24, m_111, m_708⟩, rfl, nK_RX10.1, nK_RX10.2, pd_5⟩
theorem m_729 : Cond.code yX10_takesByte cX10_takesByte 2 (some .boolean) ∈ BW := iB_BW39 _ (List.mem_of_getElem? (i := 9) rfl)
theorem m_727 : Cond.methodLink RX10 124 yX10_takesByte ∈ BW := iB_BW39 _ (List.mem_of_getElem? (i := 7) rfl)
theorem m_728 : Cond.instanceMethod yX10_takesByte ∈ BW := iB_BW39 _ (List.mem_of_getElem? (i := 8) rfl)
theorem m_31 : Cond.selects RX10 yX10_takesByte yX10_takesByte ∈ BW := iB_BW1 _ (List.mem_of_getElem? (i := 11) rfl)
theorem si_X10_124 : SV RX10 RX10 124 yX10_takesByte cX10_takesByte 2 (some .boolean) 1 := ⟨⟨m_727, m_728, m_31, m_111, m_729⟩, rfl, nK_RX10.1, nK_RX10.2, pd_5⟩
theorem gX10_takesOne_5 : (decode cX10_takesOne 93 = .ok (.iload_n 2, 1)) ∧ (decode cX10_takesOne 94 = .ok (.ifCond .eq 8, 3)) ∧ (decode cX10_takesOne 97 = .ok (.aload_n 0, 1)) ∧ (decode cX10_takesOne 98 = .ok (.iconst (-1), 1)) ∧ (decode cX10_takesOne 99 = .ok (.invokevirtual 152, 3)) ∧ (decode cX10_takesOne 102 = .ok (.iconst 1, 1)) ∧ (decode cX10_takesOne 103 = .ok (.ireturn, 1)) := by decide +kernel
theorem m_717 : Cond.code yX10_takesComparison cX10_takesComparison 4 (some .boolean) ∈ BW := iB_BW38 _ (List.mem_of_getElem? (i := 17) rfl)
theorem m_715 : Cond.methodLink RX10 162 yX10_takesComparison ∈ BW := iB_BW38 _ (List.mem_of_getElem? (i := 15) rfl)
theorem m_716 : Cond.instanceMethod yX10_takesComparison ∈ BW := iB_BW38 _ (List.mem_of_getElem? (i := 16) rfl)
theorem m_27 : Cond.selects RX10 yX10_takesComparison yX10_takesComparison ∈ BW := iB_BW1 _ (List.mem_of_getElem? (i := 7) rfl)
theorem si_X10_162 : SV RX10 RX10 162 yX10_takesComparison cX10_takesComparison 4 (some .boolean) 0 := ⟨⟨m_715, m_716, m_27, m_111, m_717⟩, rfl, nK_RX10.1, nK_RX10.2, pd_15⟩
theorem gX10_takesOne_1 : (decode cX10_takesOne 17 = .ok (.ifCond .eq 23, 3)) ∧ (decode cX10_takesOne 20 = .ok (.aload_n 0, 1)) ∧ (decode cX10_takesOne 21 = .ok (.invokevirtual 47, 3)) ∧ (decode cX10_takesOne 24 = .ok (.iload_n 2, 1)) ∧ (decode cX10_takesOne 25 = .ok (.ifCond .ne 7, 3)) ∧ (decode cX10_takesOne 28 = .ok (.iconst 1, 1)) ∧ (decode cX10_takesOne 29 = .ok (.goto 4, 3)) ∧ (decode cX10_takesOne 32 = .ok (.iconst 0, 1)) ∧ (decode cX10_takesOne 33 = .ok (.istore_n 2, 1)) ∧ (decode cX10_takesOne 34 = .ok (.iinc 3 1, 3)) := by decide +kernel
theorem gX10_takesAll_0 : (decode cX10_takesAll 0 = .ok (.aload_n 0, 1)) ∧ (decode cX10_takesAll 1 = .ok (.iload_n 1, 1)) ∧ (decode cX10_takesAll 2 = .ok (.invokevirtual 155, 3)) ∧ (decode cX10_takesAll 5 = .ok (.ifCond .ne 5, 3)) ∧ (decode cX10_takesAll 8 = .ok (.iconst 0, 1)) ∧ (decode cX10_takesAll 9 = .ok (.ireturn, 1)) ∧ (decode cX10_takesAll 10 = .ok (.iconst 0, 1)) ∧ (decode cX10_takesAll 11 = .ok (.istore_n 2, 1)) ∧ (decode cX10_takesAll 12 = .ok (.iload_n 2, 1)) ∧ (decode cX10_takesAll 13 = .ok (.sipush 240, 3)) := by decide +kernel
theorem m_714 : Cond.code yX10_takesOne cX10_takesOne 4 (some .boolean) ∈ BW := iB_BW38 _ (List.mem_of_getElem? (i := 14) rfl)
theorem m_712 : Cond.methodLink RX10 155 yX10_takesOne ∈ BW := iB_BW38 _ (List.mem_of_getElem? (i := 12) rfl)
theorem m_713 : Cond.instanceMethod yX10_takesOne ∈ BW := iB_BW38 _ (List.mem_of_getElem? (i := 13) rfl)
theorem m_26 : Cond.selects RX10 yX10_takesOne yX10_takesOne ∈ BW := iB_BW1 _ (List.mem_of_getElem? (i := 6) rfl)
theorem si_X10_155 : SV RX10 RX10 155 yX10_takesOne cX10_takesOne 4 (some .boolean) 1 := ⟨⟨m_712, m_713, m_26, m_111, m_714⟩, rfl, nK_RX10.1, nK_RX10.2, pd_5⟩
theorem gX10_takesAll_1 : (decode cX10_takesAll 16 = .ok (.if_icmp .ge 38, 3)) ∧ (decode cX10_takesAll 19 = .ok (.aload_n 0, 1)) ∧ (decode cX10_takesAll 20 = .ok (.ldc 158, 2)) ∧ (decode cX10_takesAll 22 = .ok (.invokevirtual 102, 3)) ∧ (decode cX10_takesAll 25 = .ok (.ifCond .eq 29, 3)) ∧ (decode cX10_takesAll 28 = .ok (.aload_n 0, 1)) ∧ (decode cX10_takesAll 29 = .ok (.invokevirtual 47, 3)) ∧ (decode cX10_takesAll 32 = .ok (.aload_n 0, 1)) ∧ (decode cX10_takesAll 33 = .ok (.iload_n 1, 1)) ∧ (decode cX10_takesAll 34 = .ok (.invokevirtual 155, 3)) := by decide +kernel
theorem gX10_takesAll_2 : (decode cX10_takesAll 37 = .ok (.ifCond .ne 5, 3)) ∧ (decode cX10_takesAll 40 = .ok (.iconst 0, 1)) ∧ (decode cX10_takesAll 41 = .ok (.ireturn, 1)) ∧ (decode cX10_takesAll 42 = .ok (.aload_n 0, 1)) ∧ (decode cX10_takesAll 43 = .ok (.bipush (-2), 2)) ∧ (decode cX10_takesAll 45 = .ok (.invokevirtual 152, 3)) ∧ (decode cX10_takesAll 48 = .ok (.iinc 2 1, 3)) ∧ (decode cX10_takesAll 51 = .ok (.goto (-39), 3)) ∧ (decode cX10_takesAll 54 = .ok (.iconst 1, 1)) ∧ (decode cX10_takesAll 55 = .ok (.ireturn, 1)) := by decide +kernel
theorem gX10_takesCond_0 : (decode cX10_takesCond 0 = .ok (.aload_n 0, 1)) ∧ (decode cX10_takesCond 1 = .ok (.iload_n 1, 1)) ∧ (decode cX10_takesCond 2 = .ok (.invokevirtual 147, 3)) ∧ (decode cX10_takesCond 5 = .ok (.ifCond .ne 5, 3)) ∧ (decode cX10_takesCond 8 = .ok (.iconst 0, 1)) ∧ (decode cX10_takesCond 9 = .ok (.ireturn, 1)) ∧ (decode cX10_takesCond 10 = .ok (.iconst 0, 1)) ∧ (decode cX10_takesCond 11 = .ok (.istore_n 2, 1)) ∧ (decode cX10_takesCond 12 = .ok (.iload_n 2, 1)) ∧ (decode cX10_takesCond 13 = .ok (.sipush 240, 3)) := by decide +kernel
theorem m_711 : Cond.code yX10_takesAll cX10_takesAll 3 (some .boolean) ∈ BW := iB_BW38 _ (List.mem_of_getElem? (i := 11) rfl)
theorem m_709 : Cond.methodLink RX10 147 yX10_takesAll ∈ BW := iB_BW38 _ (List.mem_of_getElem? (i := 9) rfl)
theorem m_710 : Cond.instanceMethod yX10_takesAll ∈ BW := iB_BW38 _ (List.mem_of_getElem? (i := 10) rfl)
theorem m_25 : Cond.selects RX10 yX10_takesAll yX10_takesAll ∈ BW := iB_BW1 _ (List.mem_of_getElem? (i := 5) rfl)
theorem si_X10_147 : SV RX10 RX10 147 yX10_takesAll cX10_takesAll 3 (some .boolean) 1 := ⟨⟨m_709, m_710, m_25, m_111, m_711⟩, rfl, nK_RX10.1, nK_RX10.2, pd_5⟩
theorem gX10_takesCond_1 : (decode cX10_takesCond 16 = .ok (.if_icmp .ge 38, 3)) ∧ (decode cX10_takesCond 19 = .ok (.aload_n 0, 1)) ∧ (decode cX10_takesCond 20 = .ok (.ldc 150, 2)) ∧ (decode cX10_takesCond 22 = .ok (.invokevirtual 102, 3)) ∧ (decode cX10_takesCond 25 = .ok (.ifCond .eq 29, 3)) ∧ (decode cX10_takesCond 28 = .ok (.aload_n 0, 1)) ∧ (decode cX10_takesCond 29 = .ok (.invokevirtual 47, 3)) ∧ (decode cX10_takesCond 32 = .ok (.aload_n 0, 1)) ∧ (decode cX10_takesCond 33 = .ok (.iload_n 1, 1)) ∧ (decode cX10_takesCond 34 = .ok (.invokevirtual 147, 3)) := by decide +kernel
theorem gX10_takesCond_2 : (decode cX10_takesCond 37 = .ok (.ifCond .ne 5, 3)) ∧ (decode cX10_takesCond 40 = .ok (.iconst 0, 1)) ∧ (decode cX10_takesCond 41 = .ok (.ireturn, 1)) ∧ (decode cX10_takesCond 42 = .ok (.aload_n 0, 1)) ∧ (decode cX10_takesCond 43 = .ok (.bipush (-3), 2)) ∧ (decode cX10_takesCond 45 = .ok (.invokevirtual 152, 3)) ∧ (decode cX10_takesCond 48 = .ok (.iinc 2 1, 3)) ∧ (decode cX10_takesCond 51 = .ok (.goto (-39), 3)) ∧ (decode cX10_takesCond 54 = .ok (.iconst 1, 1)) ∧ (decode cX10_takesCond 55 = .ok (.ireturn, 1)) := by decide +kernel
end WR
theorem rm_6_4_2 {mc ms : Nat} : 4 + 1 ≤ (RM 6 mc ms).frames ∧ 8 + (2 + 11) + 40 * 4 ≤ (RM 6 mc ms).locals := ⟨by show 4 + 1 ≤ 6; decide, by show 8 + (2 + 11) + 40 * 4 ≤ 40 * 6; decide⟩
theorem rm_7_6_3 {mc ms : Nat} : 6 + 1 ≤ (RM 7 mc ms).frames ∧ 8 + (3 + 11) + 40 * 6 ≤ (RM 7 mc ms).locals := ⟨by show 6 + 1 ≤ 7; decide, by show 8 + (3 + 11) + 40 * 6 ≤ 40 * 7; decide⟩
theorem rm_7_3_1 {mc ms : Nat} : 3 + 1 ≤ (RM 7 mc ms).frames ∧ 8 + (1 + 11) + 40 * 3 ≤ (RM 7 mc ms).locals := ⟨by show 3 + 1 ≤ 7; decide, by show 8 + (1 + 11) + 40 * 3 ≤ 40 * 7; decide⟩
theorem dj_0__1 : ∀ i ∈ ([1] : List Nat), i ∉ ([0] : List Nat) := by decide
theorem rm_4_3_1 {mc ms : Nat} : 3 + 1 ≤ (RM 4 mc ms).frames ∧ 8 + (1 + 11) + 40 * 3 ≤ (RM 4 mc ms).locals := ⟨by show 3 + 1 ≤ 4; decide, by show 8 + (1 + 11) + 40 * 3 ≤ 40 * 4; decide⟩
theorem dj_0__1_2_3 : ∀ i ∈ ([1, 2, 3] : List Nat), i ∉ ([0] : List Nat) := by decide
theorem rm_2_1_4 {mc ms : Nat} : 1 + 1 ≤ (RM 2 mc ms).frames ∧ 8 + (4 + 11) + 40 * 1 ≤ (RM 2 mc ms).locals := ⟨by show 1 + 1 ≤ 2; decide, by show 8 + (4 + 11) + 40 * 1 ≤ 40 * 2; decide⟩
theorem rm_8_7_1 {mc ms : Nat} : 7 + 1 ≤ (RM 8 mc ms).frames ∧ 8 + (1 + 11) + 40 * 7 ≤ (RM 8 mc ms).locals := ⟨by show 7 + 1 ≤ 8; decide, by show 8 + (1 + 11) + 40 * 7 ≤ 40 * 8; decide⟩
theorem rm_8_3_1 {mc ms : Nat} : 3 + 1 ≤ (RM 8 mc ms).frames ∧ 8 + (1 + 11) + 40 * 3 ≤ (RM 8 mc ms).locals := ⟨by show 3 + 1 ≤ 8; decide, by show 8 + (1 + 11) + 40 * 3 ≤ 40 * 8; decide⟩
theorem rm_8_3_3 {mc ms : Nat} : 3 + 1 ≤ (RM 8 mc ms).frames ∧ 8 + (3 + 11) + 40 * 3 ≤ (RM 8 mc ms).locals := ⟨by show 3 + 1 ≤ 8; decide, by show 8 + (3 + 11) + 40 * 3 ≤ 40 * 8; decide⟩
theorem rm_8_2_2 {mc ms : Nat} : 2 + 1 ≤ (RM 8 mc ms).frames ∧ 8 + (2 + 11) + 40 * 2 ≤ (RM 8 mc ms).locals := ⟨by show 2 + 1 ≤ 8; decide, by show 8 + (2 + 11) + 40 * 2 ≤ 40 * 8; decide⟩
theorem sm_2_0_1 {a0 a1 a2 : Nat × va_E} {l : va_W} : ([2, 0, 1] : List Nat).map (fun i => (a0 :: a1 :: a2 :: l : va_W)[i]?) = ([a2, a0, a1] : va_W).map some := rfl
theorem fm_2_0_1 {a0 a1 a2 : Nat × va_E} {l : va_W} : ([2, 0, 1] : List Nat).filterMap (fun i => (a0 :: a1 :: a2 :: l : va_W)[i]?) = ([a2, a0, a1] : va_W) := rfl
theorem nd_2_0_1 : va_nd [2, 0, 1] = true := by decide
theorem dj_2_0_1__3 : ∀ i ∈ ([3] : List Nat), i ∉ ([2, 0, 1] : List Nat) := by decide
theorem sm_2_3_0_1 {a0 a1 a2 a3 : Nat × va_E} {l : va_W} : ([2, 3, 0, 1] : List Nat).map (fun i => (a0 :: a1 :: a2 :: a3 :: l : va_W)[i]?) = ([a2, a3, a0, a1] : va_W).map some := rfl
theorem fm_2_3_0_1 {a0 a1 a2 a3 : Nat × va_E} {l : va_W} : ([2, 3, 0, 1] : List Nat).filterMap (fun i => (a0 :: a1 :: a2 :: a3 :: l : va_W)[i]?) = ([a2, a3, a0, a1] : va_W) := rfl
theorem nd_2_3_0_1 : va_nd [2, 3, 0, 1] = true := by decide
theorem sm_0_2_3 {a0 a1 a2 a3 : Nat × va_E} {l : va_W} : ([0, 2, 3] : List Nat).map (fun i => (a0 :: a1 :: a2 :: a3 :: l : va_W)[i]?) = ([a0, a2, a3] : va_W).map some := rfl
theorem fm_0_2_3 {a0 a1 a2 a3 : Nat × va_E} {l : va_W} : ([0, 2, 3] : List Nat).filterMap (fun i => (a0 :: a1 :: a2 :: a3 :: l : va_W)[i]?) = ([a0, a2, a3] : va_W) := rfl
theorem nd_0_2_3 : va_nd [0, 2, 3] = true := by decide
theorem dj_0_2_3__1 : ∀ i ∈ ([1] : List Nat), i ∉ ([0, 2, 3] : List Nat) := by decide
theorem fm_1_0_2_3 {a0 a1 a2 a3 : Nat × va_E} {l : va_W} : ([1, 0, 2, 3] : List Nat).filterMap (fun i => (a0 :: a1 :: a2 :: a3 :: l : va_W)[i]?) = ([a1, a0, a2, a3] : va_W) := rfl
theorem nd_1_0_2_3 : va_nd [1, 0, 2, 3] = true := by decide
theorem sm_1_0_2_3 {a0 a1 a2 a3 : Nat × va_E} {l : va_W} : ([1, 0, 2, 3] : List Nat).map (fun i => (a0 :: a1 :: a2 :: a3 :: l : va_W)[i]?) = ([a1, a0, a2, a3] : va_W).map some := rfl
def K_t_byteAt (l : Launch) (G : GG) (h0 : Nat) (ix : Int32) (tby : Nat) (kt : Nat) (tln : Nat) (tsp : Nat) (tkd : Int32) (ts9 : Int32) (tn9 : Int32) (tf9 : Int32) (fby : Nat → Int32) : Prop := MP l G yX10_byteAt cX10_byteAt 2 (some .int) 1 [.ref h0, .int ix] [(h0, oX10 tby (nI kt) tln tsp tkd ts9 tn9 tf9), (tby, iA G 240 fby)] (fun r : Int32 => True)
set_option maxHeartbeats 4000000 in
set_option maxRecDepth 100000 in
theorem t_byteAt (l : Launch) (G : GG) (h0 : Nat) (ix : Int32) (tby : Nat) (kt : Nat) (tln : Nat) (tsp : Nat) (tkd : Int32) (ts9 : Int32) (tn9 : Int32) (tf9 : Int32) (fby : Nat → Int32) : K_t_byteAt l G h0 ix tby kt tln tsp tkd ts9 tn9 tf9 fby := by
  refine MP.start (by decide +kernel) (Nat.le_of_ble_eq_true rfl) ?_
  intro p e s m below meth c ls hC hK hP hD hl
  refine absQ (fun Q0 hQ0 => ?_)
  have hl : lv_has ls 2 [(0, .ref h0), (1, .int ix)] := hl
  refine Kan8 hC (fun hx hb hr hml hB hown hlocks hnm => ?_)
  refine lv_iload_n hx hb gX10_byteAt_0.1 rfl (lv_at1 hl) ?_
  refine lv_if_lt (tgt := 30) hx hb gX10_byteAt_0.2.1 (by decide) (fun c_1_3818 => ?_) (fun c_1_3818 => ?_)
  · refine lv_iconst (v := (-1)) hx hb gX10_byteAt_1.2.2.2.2.2.2.1 (by decide) ?_
    refine toQ hQ0 ?_
    exact RP (v := (-1)) hC (trivial) rfl gX10_byteAt_1.2.2.2.2.2.2.2
  · refine lv_iload_n hx hb gX10_byteAt_0.2.2.1 rfl (lv_at1 hl) ?_
    refine lv_aload_n hx hb gX10_byteAt_0.2.2.2.1 rfl (lv_at0 hl) ?_
    refine gf_X10_27 hC rfl hK hP 0 rfl rfl gX10_byteAt_0.2.2.2.2.1 ?_
    refine lv_icmp_ge (tgt := 30) hx hb gX10_byteAt_0.2.2.2.2.2.1 (by decide) (fun c_9_3819 => ?_) (fun c_9_3819 => ?_)
    · refine lv_iconst (v := (-1)) hx hb gX10_byteAt_1.2.2.2.2.2.2.1 (by decide) ?_
      refine toQ hQ0 ?_
      exact RP (v := (-1)) hC (trivial) rfl gX10_byteAt_1.2.2.2.2.2.2.2
    · refine lv_iload_n hx hb gX10_byteAt_0.2.2.2.2.2.2.1 rfl (lv_at1 hl) ?_
      refine lv_aload_n hx hb gX10_byteAt_0.2.2.2.2.2.2.2.1 rfl (lv_at0 hl) ?_
      refine gf_X10_9 hC rfl hK hP 0 rfl rfl gX10_byteAt_0.2.2.2.2.2.2.2.2.1 ?_
      refine va_alen (v := 240) hx hb hK.1 hP 1 0 rfl rfl (show Int32.ofNat 240 = 240 by decide) gX10_byteAt_0.2.2.2.2.2.2.2.2.2 ?_
      refine lv_icmp_ge (tgt := 30) hx hb gX10_byteAt_1.1 (by decide) (fun c_18_3820 => ?_) (fun c_18_3820 => ?_)
      · refine lv_iconst (v := (-1)) hx hb gX10_byteAt_1.2.2.2.2.2.2.1 (by decide) ?_
        refine toQ hQ0 ?_
        exact RP (v := (-1)) hC (trivial) rfl gX10_byteAt_1.2.2.2.2.2.2.2
      · refine lv_aload_n hx hb gX10_byteAt_1.2.1 rfl (lv_at0 hl) ?_
        obtain ⟨ji, hji, rfl⟩ := ltN (N := 240) (by decide) c_1_3818 c_18_3820
        refine gf_X10_9 hC rfl hK hP 0 rfl rfl gX10_byteAt_1.2.2.1 ?_
        refine lv_iload_n hx hb gX10_byteAt_1.2.2.2.1 rfl (lv_at1 hl) ?_
        refine aldN hC hK hP 1 rfl (k := ji) (by omega) (Nat.le_of_ble_eq_true rfl) (v := fby ji) rfl gX10_byteAt_1.2.2.2.2.1 ?_
        refine lv_topi (fun x3821 ex3821 => ?_)
        refine lv_goto (tgt := 31) hx hb gX10_byteAt_1.2.2.2.2.2.1 (by decide) ?_
        refine toQ hQ0 ?_
        exact RP (v := x3821) hC (trivial) rfl gX10_byteAt_1.2.2.2.2.2.2.2
def K_t_byteAtN (l : Launch) (G : GG) (h0 : Nat) (j9 : Nat) (tby : Nat) (kt : Nat) (tln : Nat) (tsp : Nat) (tkd : Int32) (ts9 : Int32) (tn9 : Int32) (tf9 : Int32) (fby : Nat → Int32) : Prop := MP l G yX10_byteAt cX10_byteAt 2 (some .int) 1 [.ref h0, .int (nI j9)] [(h0, oX10 tby (nI kt) tln tsp tkd ts9 tn9 tf9), (tby, iA G 240 fby)] (fun r : Int32 => r = (-1) ∨ (r = (fby j9) ∧ j9 < 240))
set_option maxHeartbeats 4000000 in
set_option maxRecDepth 100000 in
theorem t_byteAtN (l : Launch) (G : GG) (h0 : Nat) (j9 : Nat) (tby : Nat) (kt : Nat) (tln : Nat) (tsp : Nat) (tkd : Int32) (ts9 : Int32) (tn9 : Int32) (tf9 : Int32) (fby : Nat → Int32) (hj9 : j9 < 2 ^ 31) : K_t_byteAtN l G h0 j9 tby kt tln tsp tkd ts9 tn9 tf9 fby := by
  refine MP.start (by decide +kernel) (Nat.le_of_ble_eq_true rfl) ?_
  intro p e s m below meth c ls hC hK hP hD hl
  refine absQ (fun Q0 hQ0 => ?_)
  have hl : lv_has ls 2 [(0, .ref h0), (1, .int (nI j9))] := hl
  refine Kan8 hC (fun hx hb hr hml hB hown hlocks hnm => ?_)
  refine lv_iload_n hx hb gX10_byteAt_0.1 rfl (lv_at1 hl) ?_
  refine lv_if_lt (tgt := 30) hx hb gX10_byteAt_0.2.1 (by decide) (fun c9 => absurd c9 (nI_pos (by omega))) (fun _ => ?_)
  refine lv_iload_n hx hb gX10_byteAt_0.2.2.1 rfl (lv_at1 hl) ?_
  refine lv_aload_n hx hb gX10_byteAt_0.2.2.2.1 rfl (lv_at0 hl) ?_
  refine gf_X10_27 hC rfl hK hP 0 rfl rfl gX10_byteAt_0.2.2.2.2.1 ?_
  refine lv_icmp_ge (tgt := 30) hx hb gX10_byteAt_0.2.2.2.2.2.1 (by decide) (fun c_9_3822 => ?_) (fun c_9_3822 => ?_)
  · refine lv_iconst (v := (-1)) hx hb gX10_byteAt_1.2.2.2.2.2.2.1 (by decide) ?_
    refine toQ hQ0 ?_
    exact RP (v := (-1)) hC (Or.inl rfl) rfl gX10_byteAt_1.2.2.2.2.2.2.2
  · refine lv_iload_n hx hb gX10_byteAt_0.2.2.2.2.2.2.1 rfl (lv_at1 hl) ?_
    refine lv_aload_n hx hb gX10_byteAt_0.2.2.2.2.2.2.2.1 rfl (lv_at0 hl) ?_
    refine gf_X10_9 hC rfl hK hP 0 rfl rfl gX10_byteAt_0.2.2.2.2.2.2.2.2.1 ?_
    refine va_alen (v := 240) hx hb hK.1 hP 1 0 rfl rfl (show Int32.ofNat 240 = 240 by decide) gX10_byteAt_0.2.2.2.2.2.2.2.2.2 ?_
    refine lv_icmp_ge (tgt := 30) hx hb gX10_byteAt_1.1 (by decide) (fun c_18_3823 => ?_) (fun c_18_3823 => ?_)
    · refine lv_iconst (v := (-1)) hx hb gX10_byteAt_1.2.2.2.2.2.2.1 (by decide) ?_
      refine toQ hQ0 ?_
      exact RP (v := (-1)) hC (Or.inl rfl) rfl gX10_byteAt_1.2.2.2.2.2.2.2
    · refine lv_aload_n hx hb gX10_byteAt_1.2.1 rfl (lv_at0 hl) ?_
      have hj240 := nge_nat (R := 240) (k := j9) (by decide) (by omega) c_18_3823
      refine gf_X10_9 hC rfl hK hP 0 rfl rfl gX10_byteAt_1.2.2.1 ?_
      refine lv_iload_n hx hb gX10_byteAt_1.2.2.2.1 rfl (lv_at1 hl) ?_
      refine aldN hC hK hP 1 rfl (k := j9) (by omega) (Nat.le_of_ble_eq_true rfl) (v := (fby j9)) (rfl) gX10_byteAt_1.2.2.2.2.1 ?_
      refine lv_goto (tgt := 31) hx hb gX10_byteAt_1.2.2.2.2.2.1 (by decide) ?_
      refine toQ hQ0 ?_
      exact RP (v := (fby j9)) hC (Or.inr ⟨rfl, by omega⟩) rfl gX10_byteAt_1.2.2.2.2.2.2.2
def K_t_letter (l : Launch) (G : GG) (b9 : Int32) : Prop := MP l G yX10_isLetter cX10_isLetter 1 (some .boolean) 2 [.int b9] [] (fun r : Int32 => r = 1 ∨ r = 0)
set_option maxHeartbeats 4000000 in
set_option maxRecDepth 100000 in
theorem t_letter (l : Launch) (G : GG) (b9 : Int32) : K_t_letter l G b9 := by
  refine MP.start (by decide +kernel) (Nat.le_of_ble_eq_true rfl) ?_
  intro p e s m below meth c ls hC hK hP hD hl
  refine absQ (fun Q0 hQ0 => ?_)
  have hl : lv_has ls 1 [(0, .int b9)] := hl
  refine Kan8 hC (fun hx hb hr hml hB hown hlocks hnm => ?_)
  refine lv_iload_n hx hb gX10_isLetter_0.1 rfl (lv_at0 hl) ?_
  refine lv_bipush (v := 97) hx hb gX10_isLetter_0.2.1 (by decide) ?_
  refine lv_bipush (v := 122) hx hb gX10_isLetter_0.2.2.1 (by decide) ?_
  refine pSN hC hK hl (c_within l G b9 97 122) si_X10_89 rfl rfl (Nat.le_of_ble_eq_true rfl) rm_2_1_3 ⟨by first | exact Nat.le_of_ble_eq_true rfl | exact Nat.zero_le _, by first | exact Nat.le_of_ble_eq_true rfl | exact Nat.zero_le _⟩ gX10_isLetter_0.2.2.2.1 (Kors (Keqa fun a3825 => ?_) (Keqa fun a3825 => ?_))
  · refine toQ hQ0 ?_
    exact RP (v := 1) hC (Or.inl (rfl)) (by decide +kernel) gX10_isLetter_0.2.2.2.2
  · refine toQ hQ0 ?_
    exact RP (v := 0) hC (Or.inr (rfl)) (by decide +kernel) gX10_isLetter_0.2.2.2.2
def K_t_digit (l : Launch) (G : GG) (b9 : Int32) : Prop := MP l G yX10_isDigit cX10_isDigit 1 (some .boolean) 2 [.int b9] [] (fun r : Int32 => r = 1 ∨ r = 0)
set_option maxHeartbeats 4000000 in
set_option maxRecDepth 100000 in
theorem t_digit (l : Launch) (G : GG) (b9 : Int32) : K_t_digit l G b9 := by
  refine MP.start (by decide +kernel) (Nat.le_of_ble_eq_true rfl) ?_
  intro p e s m below meth c ls hC hK hP hD hl
  refine absQ (fun Q0 hQ0 => ?_)
  have hl : lv_has ls 1 [(0, .int b9)] := hl
  refine Kan8 hC (fun hx hb hr hml hB hown hlocks hnm => ?_)
  refine lv_iload_n hx hb gX10_isDigit_0.1 rfl (lv_at0 hl) ?_
  refine lv_bipush (v := 48) hx hb gX10_isDigit_0.2.1 (by decide) ?_
  refine lv_bipush (v := 57) hx hb gX10_isDigit_0.2.2.1 (by decide) ?_
  refine pSN hC hK hl (c_within l G b9 48 57) si_X10_89 rfl rfl (Nat.le_of_ble_eq_true rfl) rm_2_1_3 ⟨by first | exact Nat.le_of_ble_eq_true rfl | exact Nat.zero_le _, by first | exact Nat.le_of_ble_eq_true rfl | exact Nat.zero_le _⟩ gX10_isDigit_0.2.2.2.1 (Kors (Keqa fun a3827 => ?_) (Keqa fun a3827 => ?_))
  · refine toQ hQ0 ?_
    exact RP (v := 1) hC (Or.inl (rfl)) (by decide +kernel) gX10_isDigit_0.2.2.2.2
  · refine toQ hQ0 ?_
    exact RP (v := 0) hC (Or.inr (rfl)) (by decide +kernel) gX10_isDigit_0.2.2.2.2
def K_t_refuse (l : Launch) (G : GG) (h0 : Nat) (tby : Nat) (kt : Nat) (tln : Nat) (tsp : Nat) (tkd : Int32) (ks : Nat) (kn : Nat) (tf9 : Int32) : Prop := MI l G yX10_refuse cX10_refuse 1 (some .boolean) 1 0 0 [.ref h0] [(h0, oX10 tby (nI kt) tln tsp tkd (nI ks) (nI kn) tf9)] (fun (r : Int32) (u : Int32) => (r = 0)) (fun u : Int32 => [(h0, oX10 tby (nI kt) tln tsp tkd (nI ks) (nI kn) u)])
set_option maxHeartbeats 4000000 in
set_option maxRecDepth 100000 in
theorem t_refuse (l : Launch) (G : GG) (h0 : Nat) (tby : Nat) (kt : Nat) (tln : Nat) (tsp : Nat) (tkd : Int32) (ks : Nat) (kn : Nat) (tf9 : Int32) : K_t_refuse l G h0 tby kt tln tsp tkd ks kn tf9 := by
  refine MI.start (by decide +kernel) (Nat.le_of_ble_eq_true rfl) ?_
  intro p e s m below meth c A ls hC hK hP hD hS hA hl
  refine absQ (fun Q0 hQ0 => ?_)
  have hl : lv_has ls 1 [(0, .ref h0)] := hl
  refine Kan8 hC (fun hx hb hr hml hB hown hlocks hnm => ?_)
  refine lv_aload_n hx hb gX10_refuse_0.1 rfl (lv_at0 hl) ?_
  refine lv_aload_n hx hb gX10_refuse_0.2.1 rfl (lv_at0 hl) ?_
  refine gf_X10_34 hC rfl hK hP 0 rfl rfl gX10_refuse_0.2.2.1 ?_
  refine pf_X10_40 hC rfl hK hP hD hS 0 (ws' := [(h0, oX10 tby (nI kt) tln tsp tkd (nI ks) (nI kn) (nI ks))]) rfl (Nat.le_of_ble_eq_true rfl) rfl rfl rfl gX10_refuse_0.2.2.2.1 (fun H locs hP hD hS => ?_)
  refine lv_iconst (v := 0) hx hb gX10_refuse_0.2.2.2.2.1 (by decide) ?_
  refine toQ hQ0 ?_
  exact RI (v := 0) hC hP hD hS [0] (nI ks) rfl rfl (by decide) (rfl) (by decide +kernel) gX10_refuse_0.2.2.2.2.2
def K_t_clear (l : Launch) (G : GG) (h0 : Nat) (tby : Nat) (kt : Nat) (tln : Nat) (tsp : Nat) (tkd : Int32) (ts9 : Int32) (tn9 : Int32) (tf9 : Int32) : Prop := MV l G yX10_clear cX10_clear 1 1 0 0 [.ref h0] [(h0, oX10 tby (nI kt) tln tsp tkd ts9 tn9 tf9)] (fun u : Unit => True) (fun u : Unit => [(h0, oX10 tby 0 tln tsp tkd ts9 tn9 tf9)])
set_option maxHeartbeats 4000000 in
set_option maxRecDepth 100000 in
theorem t_clear (l : Launch) (G : GG) (h0 : Nat) (tby : Nat) (kt : Nat) (tln : Nat) (tsp : Nat) (tkd : Int32) (ts9 : Int32) (tn9 : Int32) (tf9 : Int32) : K_t_clear l G h0 tby kt tln tsp tkd ts9 tn9 tf9 := by
  refine MV.start (by decide +kernel) (Nat.le_of_ble_eq_true rfl) ?_
  intro p e s m below meth c A ls hC hK hP hD hS hA hl
  refine absQ (fun Q0 hQ0 => ?_)
  have hl : lv_has ls 1 [(0, .ref h0)] := hl
  refine Kan8 hC (fun hx hb hr hml hB hown hlocks hnm => ?_)
  refine lv_aload_n hx hb gX10_clear_0.1 rfl (lv_at0 hl) ?_
  refine lv_iconst (v := 0) hx hb gX10_clear_0.2.1 (by decide) ?_
  refine pf_X10_27 hC rfl hK hP hD hS 0 (ws' := [(h0, oX10 tby 0 tln tsp tkd ts9 tn9 tf9)]) rfl (Nat.le_of_ble_eq_true rfl) rfl rfl rfl gX10_clear_0.2.2.1 (fun H locs hP hD hS => ?_)
  refine toQ hQ0 ?_
  exact RV hC hP hD hS [0] () rfl rfl (by decide) (trivial) gX10_clear_0.2.2.2
def K_t_advance (l : Launch) (G : GG) (h0 : Nat) (tby : Nat) (kt : Nat) (tln : Nat) (tsp : Nat) (tkd : Int32) (ks : Nat) (kn : Nat) (tf9 : Int32) (fby : Nat → Int32) : Prop := MV l G yX10_advance cX10_advance 1 3 0 0 [.ref h0] [(h0, oX10 tby (nI kt) tln tsp tkd (nI ks) (nI kn) tf9), (tby, iA G 240 fby)] (fun u : Int32 × Nat × Nat => u.2.1 ≤ 240 ∧ u.2.2 ≤ 240) (fun u : Int32 × Nat × Nat => [(h0, oX10 tby (nI kt) tln tsp u.1 (nI u.2.1) (nI u.2.2) tf9), (tby, iA G 240 fby)])
set_option maxHeartbeats 4000000 in
set_option maxRecDepth 100000 in
theorem t_advance (l : Launch) (G : GG) (h0 : Nat) (tby : Nat) (kt : Nat) (tln : Nat) (tsp : Nat) (tkd : Int32) (ks : Nat) (kn : Nat) (tf9 : Int32) (fby : Nat → Int32) (hkt : kt ≤ 240) (hks : ks ≤ 240) (hkn : kn ≤ 240) : K_t_advance l G h0 tby kt tln tsp tkd ks kn tf9 fby := by
  refine MV.start (by decide +kernel) (Nat.le_of_ble_eq_true rfl) ?_
  intro p e s m below meth c A ls hC hK hP hD hS hA hl
  refine absQ (fun Q0 hQ0 => ?_)
  have hl : lv_has ls 1 [(0, .ref h0)] := hl
  refine Kan8 hC (fun hx hb hr hml hB hown hlocks hnm => ?_)
  refine lv_aload_n hx hb gX10_advance_0.1 rfl (lv_at0 hl) ?_
  refine lv_aload_n hx hb gX10_advance_0.2.1 rfl (lv_at0 hl) ?_
  refine gf_X10_37 hC rfl hK hP 0 rfl rfl gX10_advance_0.2.2.1 ?_
  refine pf_X10_34 hC rfl hK hP hD hS 0 (ws' := [(h0, oX10 tby (nI kt) tln tsp tkd (nI kn) (nI kn) tf9), (tby, iA G 240 fby)]) rfl (Nat.le_of_ble_eq_true rfl) rfl rfl rfl gX10_advance_0.2.2.2.1 (fun H locs hP hD hS => ?_)
  have keyA : ∀ (nA jA : Nat) (H : Heap) (locs : List Loc) (ls : Array Slot), kt ≤ jA + nA → jA ≤ 240 → va_PD G A [(h0, oX10 tby (nI kt) tln tsp tkd (nI jA) (nI kn) tf9), (tby, iA G 240 fby)] H → va_S A s.heap H locs → lv_has ls 1 [(0, .ref h0)] → W p l e (RM 3 0 0) s m ([.ref h0] : List Value).toArray below meth c H locs 0 0 Q0 (F0 m 8 ls []) := by
    intro nA
    induction nA with
    | zero =>
      intro jA H locs ls hkA hmA hPD hS hl
      refine Kan2 hPD (fun hP hD => ?_)
      have hzA : nI kt ≤ nI jA := (nI_leI (by omega) (by omega)).mpr (by omega)
      refine lv_aload_n hx hb gX10_advance_0.2.2.2.2.1 rfl (lv_at0 hl) ?_
      refine gf_X10_34 hC rfl hK hP 0 rfl rfl gX10_advance_0.2.2.2.2.2.1 ?_
      refine lv_aload_n hx hb gX10_advance_0.2.2.2.2.2.2.1 rfl (lv_at0 hl) ?_
      refine gf_X10_27 hC rfl hK hP 0 rfl rfl gX10_advance_0.2.2.2.2.2.2.2.1 ?_
      refine lv_icmp_ge (tgt := 45) hx hb gX10_advance_0.2.2.2.2.2.2.2.2.1 (by decide) (fun _ => ?_) (fun c9 => absurd (hzA) c9)
      refine lv_aload_n hx hb gX10_advance_2.2.2.1 rfl (lv_at0 hl) ?_
      refine lv_aload_n hx hb gX10_advance_2.2.2.2.1 rfl (lv_at0 hl) ?_
      refine gf_X10_34 hC rfl hK hP 0 rfl rfl gX10_advance_2.2.2.2.2.1 ?_
      refine pf_X10_37 hC rfl hK hP hD hS 0 (ws' := [(h0, oX10 tby (nI kt) tln tsp tkd (nI jA) (nI jA) tf9), (tby, iA G 240 fby)]) rfl (Nat.le_of_ble_eq_true rfl) rfl rfl rfl gX10_advance_2.2.2.2.2.2.1 (fun H locs hP hD hS => ?_)
      refine lv_aload_n hx hb gX10_advance_2.2.2.2.2.2.2.1 rfl (lv_at0 hl) ?_
      refine lv_aload_n hx hb gX10_advance_2.2.2.2.2.2.2.2.1 rfl (lv_at0 hl) ?_
      refine gf_X10_34 hC rfl hK hP 0 rfl rfl gX10_advance_2.2.2.2.2.2.2.2.2.1 ?_
      refine pV hC hK hl hP hD (t_byteAt l G h0 (nI jA) tby kt tln tsp tkd (nI jA) (nI jA) tf9 fby) si_X10_78 [0, 1] sm_0_1 fm_0_1 nd_0_1 rfl rfl rfl rfl rfl (Nat.le_of_ble_eq_true rfl) rm_3_1_2 ⟨by first | exact Nat.le_of_ble_eq_true rfl | exact Nat.zero_le _, by first | exact Nat.le_of_ble_eq_true rfl | exact Nat.zero_le _⟩ gX10_advance_2.2.2.2.2.2.2.2.2.2 (fun r3828 hr3828 => ?_)
      refine pS hC hK hl (t_letter l G r3828) si_X10_82 rfl rfl (Nat.le_of_ble_eq_true rfl) rm_3_2_1 ⟨by first | exact Nat.le_of_ble_eq_true rfl | exact Nat.zero_le _, by first | exact Nat.le_of_ble_eq_true rfl | exact Nat.zero_le _⟩ gX10_advance_3.1 (Kors (Keqr ?_) (Keqr ?_))
      · refine lv_if_eq (tgt := 111) hx hb gX10_advance_3.2.1 (by decide) (fun c9 => absurd c9 (by decide)) (fun _ => ?_)
        refine lv_aload_n hx hb gX10_advance_3.2.2.1 rfl (lv_at0 hl) ?_
        refine lv_bipush (v := (-2)) hx hb gX10_advance_3.2.2.2.1 (by decide) ?_
        refine pf_X10_31 hC rfl hK hP hD hS 0 (ws' := [(h0, oX10 tby (nI kt) tln tsp (-2) (nI jA) (nI jA) tf9), (tby, iA G 240 fby)]) rfl (Nat.le_of_ble_eq_true rfl) rfl rfl rfl gX10_advance_3.2.2.2.2.1 (fun H locs hP hD hS => ?_)
        have keyB : ∀ (nB jB : Nat) (H : Heap) (locs : List Loc) (ls : Array Slot), kt ≤ jB + nB → jB ≤ 240 → va_PD G A [(h0, oX10 tby (nI kt) tln tsp (-2) (nI jA) (nI jB) tf9), (tby, iA G 240 fby)] H → va_S A s.heap H locs → lv_has ls 1 [(0, .ref h0)] → W p l e (RM 3 0 0) s m ([.ref h0] : List Value).toArray below meth c H locs 0 0 Q0 (F0 m 73 ls []) := by
          intro nB
          induction nB with
          | zero =>
            intro jB H locs ls hkB hmB hPD hS hl
            refine Kan2 hPD (fun hP hD => ?_)
            have hzB : nI kt ≤ nI jB := (nI_leI (by omega) (by omega)).mpr (by omega)
            refine lv_aload_n hx hb gX10_advance_3.2.2.2.2.2.1 rfl (lv_at0 hl) ?_
            refine gf_X10_37 hC rfl hK hP 0 rfl rfl gX10_advance_3.2.2.2.2.2.2.1 ?_
            refine lv_aload_n hx hb gX10_advance_3.2.2.2.2.2.2.2.1 rfl (lv_at0 hl) ?_
            refine gf_X10_27 hC rfl hK hP 0 rfl rfl gX10_advance_3.2.2.2.2.2.2.2.2.1 ?_
            refine lv_icmp_ge (tgt := 199) hx hb gX10_advance_3.2.2.2.2.2.2.2.2.2 (by decide) (fun _ => ?_) (fun c9 => absurd (hzB) c9)
            refine toQ hQ0 ?_
            exact RV hC hP hD hS [0, 1] ((-2), jA, jB) rfl rfl (by decide) (by dsimp only; omega) gX10_advance_9.2.2.2.2.2.2
          | succ nB ihB =>
            intro jB H locs ls hkB hmB hPD hS hl
            refine Kan2 hPD (fun hP hD => ?_)
            refine lv_aload_n hx hb gX10_advance_3.2.2.2.2.2.1 rfl (lv_at0 hl) ?_
            refine gf_X10_37 hC rfl hK hP 0 rfl rfl gX10_advance_3.2.2.2.2.2.2.1 ?_
            refine lv_aload_n hx hb gX10_advance_3.2.2.2.2.2.2.2.1 rfl (lv_at0 hl) ?_
            refine gf_X10_27 hC rfl hK hP 0 rfl rfl gX10_advance_3.2.2.2.2.2.2.2.2.1 ?_
            refine lv_icmp_ge (tgt := 199) hx hb gX10_advance_3.2.2.2.2.2.2.2.2.2 (by decide) (fun c_81_3831 => ?_) (fun c_81_3831 => ?_)
            · refine toQ hQ0 ?_
              exact RV hC hP hD hS [0, 1] ((-2), jA, jB) rfl rfl (by decide) (by dsimp only; omega) gX10_advance_9.2.2.2.2.2.2
            · refine lv_aload_n hx hb gX10_advance_4.1 rfl (lv_at0 hl) ?_
              refine lv_aload_n hx hb gX10_advance_4.2.1 rfl (lv_at0 hl) ?_
              refine gf_X10_37 hC rfl hK hP 0 rfl rfl gX10_advance_4.2.2.1 ?_
              refine pV hC hK hl hP hD (t_byteAt l G h0 (nI jB) tby kt tln tsp (-2) (nI jA) (nI jB) tf9 fby) si_X10_78 [0, 1] sm_0_1 fm_0_1 nd_0_1 rfl rfl rfl rfl rfl (Nat.le_of_ble_eq_true rfl) rm_3_1_2 ⟨by first | exact Nat.le_of_ble_eq_true rfl | exact Nat.zero_le _, by first | exact Nat.le_of_ble_eq_true rfl | exact Nat.zero_le _⟩ gX10_advance_4.2.2.2.1 (fun r3832 hr3832 => ?_)
              refine pS hC hK hl (t_letter l G r3832) si_X10_82 rfl rfl (Nat.le_of_ble_eq_true rfl) rm_3_2_1 ⟨by first | exact Nat.le_of_ble_eq_true rfl | exact Nat.zero_le _, by first | exact Nat.le_of_ble_eq_true rfl | exact Nat.zero_le _⟩ gX10_advance_4.2.2.2.2.1 (Kors (Keqr ?_) (Keqr ?_))
              · refine lv_if_eq (tgt := 199) hx hb gX10_advance_4.2.2.2.2.2.1 (by decide) (fun c9 => absurd c9 (by decide)) (fun _ => ?_)
                refine lv_aload_n hx hb gX10_advance_4.2.2.2.2.2.2.1 rfl (lv_at0 hl) ?_
                refine lv_dup hx hb gX10_advance_4.2.2.2.2.2.2.2.1 rfl ?_
                refine gf_X10_37 hC rfl hK hP 0 rfl rfl gX10_advance_4.2.2.2.2.2.2.2.2.1 ?_
                refine lv_iconst (v := 1) hx hb gX10_advance_4.2.2.2.2.2.2.2.2.2 (by decide) ?_
                refine lv_iadd hx hb gX10_advance_5.1 ?_
                refine eqi (x1 := nI (jB + 1)) (nI_1 _) ?_
                refine pf_X10_37 hC rfl hK hP hD hS 0 (ws' := [(h0, oX10 tby (nI kt) tln tsp (-2) (nI jA) (nI (jB + 1)) tf9), (tby, iA G 240 fby)]) rfl (Nat.le_of_ble_eq_true rfl) rfl rfl rfl gX10_advance_5.2.1 (fun H locs hP hD hS => ?_)
                refine lv_goto (tgt := 73) hx hb gX10_advance_5.2.2.1 (by decide) ?_
                have hnB9 := nge_nat (R := kt) (k := jB) (by omega) (by omega) c_81_3831
                exact ihB (jB + 1) _ _ _ (by omega) (by omega) (And.intro hP hD) hS (lv_sub hl [0] rfl)
              · refine lv_if_eq (tgt := 199) hx hb gX10_advance_4.2.2.2.2.2.1 (by decide) (fun _ => ?_) (fun c9 => absurd (by decide) c9)
                refine toQ hQ0 ?_
                exact RV hC hP hD hS [0, 1] ((-2), jA, jB) rfl rfl (by decide) (by dsimp only; omega) gX10_advance_9.2.2.2.2.2.2
        exact keyB kt jA _ _ _ (by omega) (by omega) (And.intro hP hD) hS (lv_sub hl [0] rfl)
      · refine lv_if_eq (tgt := 111) hx hb gX10_advance_3.2.1 (by decide) (fun _ => ?_) (fun c9 => absurd (by decide) c9)
        refine lv_aload_n hx hb gX10_advance_5.2.2.2.1 rfl (lv_at0 hl) ?_
        refine lv_aload_n hx hb gX10_advance_5.2.2.2.2.1 rfl (lv_at0 hl) ?_
        refine gf_X10_34 hC rfl hK hP 0 rfl rfl gX10_advance_5.2.2.2.2.2.1 ?_
        refine pV hC hK hl hP hD (t_byteAt l G h0 (nI jA) tby kt tln tsp tkd (nI jA) (nI jA) tf9 fby) si_X10_78 [0, 1] sm_0_1 fm_0_1 nd_0_1 rfl rfl rfl rfl rfl (Nat.le_of_ble_eq_true rfl) rm_3_1_2 ⟨by first | exact Nat.le_of_ble_eq_true rfl | exact Nat.zero_le _, by first | exact Nat.le_of_ble_eq_true rfl | exact Nat.zero_le _⟩ gX10_advance_5.2.2.2.2.2.2.1 (fun r3835 hr3835 => ?_)
        refine pS hC hK hl (t_digit l G r3835) si_X10_86 rfl rfl (Nat.le_of_ble_eq_true rfl) rm_3_2_1 ⟨by first | exact Nat.le_of_ble_eq_true rfl | exact Nat.zero_le _, by first | exact Nat.le_of_ble_eq_true rfl | exact Nat.zero_le _⟩ gX10_advance_5.2.2.2.2.2.2.2.1 (Kors (Keqr ?_) (Keqr ?_))
        · refine lv_if_eq (tgt := 169) hx hb gX10_advance_5.2.2.2.2.2.2.2.2.1 (by decide) (fun c9 => absurd c9 (by decide)) (fun _ => ?_)
          refine lv_aload_n hx hb gX10_advance_5.2.2.2.2.2.2.2.2.2 rfl (lv_at0 hl) ?_
          refine lv_bipush (v := (-3)) hx hb gX10_advance_6.1 (by decide) ?_
          refine pf_X10_31 hC rfl hK hP hD hS 0 (ws' := [(h0, oX10 tby (nI kt) tln tsp (-3) (nI jA) (nI jA) tf9), (tby, iA G 240 fby)]) rfl (Nat.le_of_ble_eq_true rfl) rfl rfl rfl gX10_advance_6.2.1 (fun H locs hP hD hS => ?_)
          have keyC : ∀ (nC jC : Nat) (H : Heap) (locs : List Loc) (ls : Array Slot), kt ≤ jC + nC → jC ≤ 240 → va_PD G A [(h0, oX10 tby (nI kt) tln tsp (-3) (nI jA) (nI jC) tf9), (tby, iA G 240 fby)] H → va_S A s.heap H locs → lv_has ls 1 [(0, .ref h0)] → W p l e (RM 3 0 0) s m ([.ref h0] : List Value).toArray below meth c H locs 0 0 Q0 (F0 m 131 ls []) := by
            intro nC
            induction nC with
            | zero =>
              intro jC H locs ls hkC hmC hPD hS hl
              refine Kan2 hPD (fun hP hD => ?_)
              have hzC : nI kt ≤ nI jC := (nI_leI (by omega) (by omega)).mpr (by omega)
              refine lv_aload_n hx hb gX10_advance_6.2.2.1 rfl (lv_at0 hl) ?_
              refine gf_X10_37 hC rfl hK hP 0 rfl rfl gX10_advance_6.2.2.2.1 ?_
              refine lv_aload_n hx hb gX10_advance_6.2.2.2.2.1 rfl (lv_at0 hl) ?_
              refine gf_X10_27 hC rfl hK hP 0 rfl rfl gX10_advance_6.2.2.2.2.2.1 ?_
              refine lv_icmp_ge (tgt := 199) hx hb gX10_advance_6.2.2.2.2.2.2.1 (by decide) (fun _ => ?_) (fun c9 => absurd (hzC) c9)
              refine toQ hQ0 ?_
              exact RV hC hP hD hS [0, 1] ((-3), jA, jC) rfl rfl (by decide) (by dsimp only; omega) gX10_advance_9.2.2.2.2.2.2
            | succ nC ihC =>
              intro jC H locs ls hkC hmC hPD hS hl
              refine Kan2 hPD (fun hP hD => ?_)
              refine lv_aload_n hx hb gX10_advance_6.2.2.1 rfl (lv_at0 hl) ?_
              refine gf_X10_37 hC rfl hK hP 0 rfl rfl gX10_advance_6.2.2.2.1 ?_
              refine lv_aload_n hx hb gX10_advance_6.2.2.2.2.1 rfl (lv_at0 hl) ?_
              refine gf_X10_27 hC rfl hK hP 0 rfl rfl gX10_advance_6.2.2.2.2.2.1 ?_
              refine lv_icmp_ge (tgt := 199) hx hb gX10_advance_6.2.2.2.2.2.2.1 (by decide) (fun c_139_3838 => ?_) (fun c_139_3838 => ?_)
              · refine toQ hQ0 ?_
                exact RV hC hP hD hS [0, 1] ((-3), jA, jC) rfl rfl (by decide) (by dsimp only; omega) gX10_advance_9.2.2.2.2.2.2
              · refine lv_aload_n hx hb gX10_advance_6.2.2.2.2.2.2.2.1 rfl (lv_at0 hl) ?_
                refine lv_aload_n hx hb gX10_advance_6.2.2.2.2.2.2.2.2.1 rfl (lv_at0 hl) ?_
                refine gf_X10_37 hC rfl hK hP 0 rfl rfl gX10_advance_6.2.2.2.2.2.2.2.2.2 ?_
                refine pV hC hK hl hP hD (t_byteAt l G h0 (nI jC) tby kt tln tsp (-3) (nI jA) (nI jC) tf9 fby) si_X10_78 [0, 1] sm_0_1 fm_0_1 nd_0_1 rfl rfl rfl rfl rfl (Nat.le_of_ble_eq_true rfl) rm_3_1_2 ⟨by first | exact Nat.le_of_ble_eq_true rfl | exact Nat.zero_le _, by first | exact Nat.le_of_ble_eq_true rfl | exact Nat.zero_le _⟩ gX10_advance_7.1 (fun r3839 hr3839 => ?_)
                refine pS hC hK hl (t_digit l G r3839) si_X10_86 rfl rfl (Nat.le_of_ble_eq_true rfl) rm_3_2_1 ⟨by first | exact Nat.le_of_ble_eq_true rfl | exact Nat.zero_le _, by first | exact Nat.le_of_ble_eq_true rfl | exact Nat.zero_le _⟩ gX10_advance_7.2.1 (Kors (Keqr ?_) (Keqr ?_))
                · refine lv_if_eq (tgt := 199) hx hb gX10_advance_7.2.2.1 (by decide) (fun c9 => absurd c9 (by decide)) (fun _ => ?_)
                  refine lv_aload_n hx hb gX10_advance_7.2.2.2.1 rfl (lv_at0 hl) ?_
                  refine lv_dup hx hb gX10_advance_7.2.2.2.2.1 rfl ?_
                  refine gf_X10_37 hC rfl hK hP 0 rfl rfl gX10_advance_7.2.2.2.2.2.1 ?_
                  refine lv_iconst (v := 1) hx hb gX10_advance_7.2.2.2.2.2.2.1 (by decide) ?_
                  refine lv_iadd hx hb gX10_advance_7.2.2.2.2.2.2.2.1 ?_
                  refine eqi (x1 := nI (jC + 1)) (nI_1 _) ?_
                  refine pf_X10_37 hC rfl hK hP hD hS 0 (ws' := [(h0, oX10 tby (nI kt) tln tsp (-3) (nI jA) (nI (jC + 1)) tf9), (tby, iA G 240 fby)]) rfl (Nat.le_of_ble_eq_true rfl) rfl rfl rfl gX10_advance_7.2.2.2.2.2.2.2.2.1 (fun H locs hP hD hS => ?_)
                  refine lv_goto (tgt := 131) hx hb gX10_advance_7.2.2.2.2.2.2.2.2.2 (by decide) ?_
                  have hnC9 := nge_nat (R := kt) (k := jC) (by omega) (by omega) c_139_3838
                  exact ihC (jC + 1) _ _ _ (by omega) (by omega) (And.intro hP hD) hS (lv_sub hl [0] rfl)
                · refine lv_if_eq (tgt := 199) hx hb gX10_advance_7.2.2.1 (by decide) (fun _ => ?_) (fun c9 => absurd (by decide) c9)
                  refine toQ hQ0 ?_
                  exact RV hC hP hD hS [0, 1] ((-3), jA, jC) rfl rfl (by decide) (by dsimp only; omega) gX10_advance_9.2.2.2.2.2.2
          exact keyC kt jA _ _ _ (by omega) (by omega) (And.intro hP hD) hS (lv_sub hl [0] rfl)
        · refine lv_if_eq (tgt := 169) hx hb gX10_advance_5.2.2.2.2.2.2.2.2.1 (by decide) (fun _ => ?_) (fun c9 => absurd (by decide) c9)
          refine lv_aload_n hx hb gX10_advance_8.1 rfl (lv_at0 hl) ?_
          refine lv_aload_n hx hb gX10_advance_8.2.1 rfl (lv_at0 hl) ?_
          refine lv_aload_n hx hb gX10_advance_8.2.2.1 rfl (lv_at0 hl) ?_
          refine gf_X10_34 hC rfl hK hP 0 rfl rfl gX10_advance_8.2.2.2.1 ?_
          refine pV hC hK hl hP hD (t_byteAtN l G h0 jA tby kt tln tsp tkd (nI jA) (nI jA) tf9 fby (by omega)) si_X10_78 [0, 1] sm_0_1 fm_0_1 nd_0_1 rfl rfl rfl rfl rfl (Nat.le_of_ble_eq_true rfl) rm_3_1_2 ⟨by first | exact Nat.le_of_ble_eq_true rfl | exact Nat.zero_le _, by first | exact Nat.le_of_ble_eq_true rfl | exact Nat.zero_le _⟩ gX10_advance_8.2.2.2.2.1 (Kors (Keqr ?_) (Keqa fun a3843 => ?_))
          · refine pf_X10_31 hC rfl hK hP hD hS 0 (ws' := [(h0, oX10 tby (nI kt) tln tsp (-1) (nI jA) (nI jA) tf9), (tby, iA G 240 fby)]) rfl (Nat.le_of_ble_eq_true rfl) rfl rfl rfl gX10_advance_8.2.2.2.2.2.1 (fun H locs hP hD hS => ?_)
            refine lv_aload_n hx hb gX10_advance_8.2.2.2.2.2.2.1 rfl (lv_at0 hl) ?_
            refine gf_X10_31 hC rfl hK hP 0 rfl rfl gX10_advance_8.2.2.2.2.2.2.2.1 ?_
            refine lv_iconst (v := (-1)) hx hb gX10_advance_8.2.2.2.2.2.2.2.2.1 (by decide) ?_
            refine lv_icmp_eq (tgt := 199) hx hb gX10_advance_8.2.2.2.2.2.2.2.2.2 (by decide) (fun _ => ?_) (fun c9 => absurd (by decide) c9)
            refine toQ hQ0 ?_
            exact RV hC hP hD hS [0, 1] ((-1), jA, jA) rfl rfl (by decide) (by dsimp only; omega) gX10_advance_9.2.2.2.2.2.2
          · refine pf_X10_31 hC rfl hK hP hD hS 0 (ws' := [(h0, oX10 tby (nI kt) tln tsp (fby jA) (nI jA) (nI jA) tf9), (tby, iA G 240 fby)]) rfl (Nat.le_of_ble_eq_true rfl) rfl rfl rfl gX10_advance_8.2.2.2.2.2.1 (fun H locs hP hD hS => ?_)
            refine lv_aload_n hx hb gX10_advance_8.2.2.2.2.2.2.1 rfl (lv_at0 hl) ?_
            refine gf_X10_31 hC rfl hK hP 0 rfl rfl gX10_advance_8.2.2.2.2.2.2.2.1 ?_
            refine lv_iconst (v := (-1)) hx hb gX10_advance_8.2.2.2.2.2.2.2.2.1 (by decide) ?_
            refine lv_icmp_eq (tgt := 199) hx hb gX10_advance_8.2.2.2.2.2.2.2.2.2 (by decide) (fun c_186_3844 => ?_) (fun c_186_3844 => ?_)
            · refine toQ hQ0 ?_
              exact RV hC hP hD hS [0, 1] ((fby jA), jA, jA) rfl rfl (by decide) (by dsimp only; omega) gX10_advance_9.2.2.2.2.2.2
            · refine lv_aload_n hx hb gX10_advance_9.1 rfl (lv_at0 hl) ?_
              refine lv_dup hx hb gX10_advance_9.2.1 rfl ?_
              refine gf_X10_37 hC rfl hK hP 0 rfl rfl gX10_advance_9.2.2.1 ?_
              refine lv_iconst (v := 1) hx hb gX10_advance_9.2.2.2.1 (by decide) ?_
              refine lv_iadd hx hb gX10_advance_9.2.2.2.2.1 ?_
              refine eqi (x1 := nI (jA + 1)) (nI_1 _) ?_
              refine pf_X10_37 hC rfl hK hP hD hS 0 (ws' := [(h0, oX10 tby (nI kt) tln tsp (fby jA) (nI jA) (nI (jA + 1)) tf9), (tby, iA G 240 fby)]) rfl (Nat.le_of_ble_eq_true rfl) rfl rfl rfl gX10_advance_9.2.2.2.2.2.1 (fun H locs hP hD hS => ?_)
              refine toQ hQ0 ?_
              exact RV hC hP hD hS [0, 1] ((fby jA), jA, (jA + 1)) rfl rfl (by decide) (by dsimp only; omega) gX10_advance_9.2.2.2.2.2.2
    | succ nA ihA =>
      intro jA H locs ls hkA hmA hPD hS hl
      refine Kan2 hPD (fun hP hD => ?_)
      refine lv_aload_n hx hb gX10_advance_0.2.2.2.2.1 rfl (lv_at0 hl) ?_
      refine gf_X10_34 hC rfl hK hP 0 rfl rfl gX10_advance_0.2.2.2.2.2.1 ?_
      refine lv_aload_n hx hb gX10_advance_0.2.2.2.2.2.2.1 rfl (lv_at0 hl) ?_
      refine gf_X10_27 hC rfl hK hP 0 rfl rfl gX10_advance_0.2.2.2.2.2.2.2.1 ?_
      refine lv_icmp_ge (tgt := 45) hx hb gX10_advance_0.2.2.2.2.2.2.2.2.1 (by decide) (fun c_16_3845 => ?_) (fun c_16_3845 => ?_)
      · refine lv_aload_n hx hb gX10_advance_2.2.2.1 rfl (lv_at0 hl) ?_
        refine lv_aload_n hx hb gX10_advance_2.2.2.2.1 rfl (lv_at0 hl) ?_
        refine gf_X10_34 hC rfl hK hP 0 rfl rfl gX10_advance_2.2.2.2.2.1 ?_
        refine pf_X10_37 hC rfl hK hP hD hS 0 (ws' := [(h0, oX10 tby (nI kt) tln tsp tkd (nI jA) (nI jA) tf9), (tby, iA G 240 fby)]) rfl (Nat.le_of_ble_eq_true rfl) rfl rfl rfl gX10_advance_2.2.2.2.2.2.1 (fun H locs hP hD hS => ?_)
        refine lv_aload_n hx hb gX10_advance_2.2.2.2.2.2.2.1 rfl (lv_at0 hl) ?_
        refine lv_aload_n hx hb gX10_advance_2.2.2.2.2.2.2.2.1 rfl (lv_at0 hl) ?_
        refine gf_X10_34 hC rfl hK hP 0 rfl rfl gX10_advance_2.2.2.2.2.2.2.2.2.1 ?_
        refine pV hC hK hl hP hD (t_byteAt l G h0 (nI jA) tby kt tln tsp tkd (nI jA) (nI jA) tf9 fby) si_X10_78 [0, 1] sm_0_1 fm_0_1 nd_0_1 rfl rfl rfl rfl rfl (Nat.le_of_ble_eq_true rfl) rm_3_1_2 ⟨by first | exact Nat.le_of_ble_eq_true rfl | exact Nat.zero_le _, by first | exact Nat.le_of_ble_eq_true rfl | exact Nat.zero_le _⟩ gX10_advance_2.2.2.2.2.2.2.2.2.2 (fun r3846 hr3846 => ?_)
        refine pS hC hK hl (t_letter l G r3846) si_X10_82 rfl rfl (Nat.le_of_ble_eq_true rfl) rm_3_2_1 ⟨by first | exact Nat.le_of_ble_eq_true rfl | exact Nat.zero_le _, by first | exact Nat.le_of_ble_eq_true rfl | exact Nat.zero_le _⟩ gX10_advance_3.1 (Kors (Keqr ?_) (Keqr ?_))
        · refine lv_if_eq (tgt := 111) hx hb gX10_advance_3.2.1 (by decide) (fun c9 => absurd c9 (by decide)) (fun _ => ?_)
          refine lv_aload_n hx hb gX10_advance_3.2.2.1 rfl (lv_at0 hl) ?_
          refine lv_bipush (v := (-2)) hx hb gX10_advance_3.2.2.2.1 (by decide) ?_
          refine pf_X10_31 hC rfl hK hP hD hS 0 (ws' := [(h0, oX10 tby (nI kt) tln tsp (-2) (nI jA) (nI jA) tf9), (tby, iA G 240 fby)]) rfl (Nat.le_of_ble_eq_true rfl) rfl rfl rfl gX10_advance_3.2.2.2.2.1 (fun H locs hP hD hS => ?_)
          have keyB : ∀ (nB jB : Nat) (H : Heap) (locs : List Loc) (ls : Array Slot), kt ≤ jB + nB → jB ≤ 240 → va_PD G A [(h0, oX10 tby (nI kt) tln tsp (-2) (nI jA) (nI jB) tf9), (tby, iA G 240 fby)] H → va_S A s.heap H locs → lv_has ls 1 [(0, .ref h0)] → W p l e (RM 3 0 0) s m ([.ref h0] : List Value).toArray below meth c H locs 0 0 Q0 (F0 m 73 ls []) := by
            intro nB
            induction nB with
            | zero =>
              intro jB H locs ls hkB hmB hPD hS hl
              refine Kan2 hPD (fun hP hD => ?_)
              have hzB : nI kt ≤ nI jB := (nI_leI (by omega) (by omega)).mpr (by omega)
              refine lv_aload_n hx hb gX10_advance_3.2.2.2.2.2.1 rfl (lv_at0 hl) ?_
              refine gf_X10_37 hC rfl hK hP 0 rfl rfl gX10_advance_3.2.2.2.2.2.2.1 ?_
              refine lv_aload_n hx hb gX10_advance_3.2.2.2.2.2.2.2.1 rfl (lv_at0 hl) ?_
              refine gf_X10_27 hC rfl hK hP 0 rfl rfl gX10_advance_3.2.2.2.2.2.2.2.2.1 ?_
              refine lv_icmp_ge (tgt := 199) hx hb gX10_advance_3.2.2.2.2.2.2.2.2.2 (by decide) (fun _ => ?_) (fun c9 => absurd (hzB) c9)
              refine toQ hQ0 ?_
              exact RV hC hP hD hS [0, 1] ((-2), jA, jB) rfl rfl (by decide) (by dsimp only; omega) gX10_advance_9.2.2.2.2.2.2
            | succ nB ihB =>
              intro jB H locs ls hkB hmB hPD hS hl
              refine Kan2 hPD (fun hP hD => ?_)
              refine lv_aload_n hx hb gX10_advance_3.2.2.2.2.2.1 rfl (lv_at0 hl) ?_
              refine gf_X10_37 hC rfl hK hP 0 rfl rfl gX10_advance_3.2.2.2.2.2.2.1 ?_
              refine lv_aload_n hx hb gX10_advance_3.2.2.2.2.2.2.2.1 rfl (lv_at0 hl) ?_
              refine gf_X10_27 hC rfl hK hP 0 rfl rfl gX10_advance_3.2.2.2.2.2.2.2.2.1 ?_
              refine lv_icmp_ge (tgt := 199) hx hb gX10_advance_3.2.2.2.2.2.2.2.2.2 (by decide) (fun c_81_3849 => ?_) (fun c_81_3849 => ?_)
              · refine toQ hQ0 ?_
                exact RV hC hP hD hS [0, 1] ((-2), jA, jB) rfl rfl (by decide) (by dsimp only; omega) gX10_advance_9.2.2.2.2.2.2
              · refine lv_aload_n hx hb gX10_advance_4.1 rfl (lv_at0 hl) ?_
                refine lv_aload_n hx hb gX10_advance_4.2.1 rfl (lv_at0 hl) ?_
                refine gf_X10_37 hC rfl hK hP 0 rfl rfl gX10_advance_4.2.2.1 ?_
                refine pV hC hK hl hP hD (t_byteAt l G h0 (nI jB) tby kt tln tsp (-2) (nI jA) (nI jB) tf9 fby) si_X10_78 [0, 1] sm_0_1 fm_0_1 nd_0_1 rfl rfl rfl rfl rfl (Nat.le_of_ble_eq_true rfl) rm_3_1_2 ⟨by first | exact Nat.le_of_ble_eq_true rfl | exact Nat.zero_le _, by first | exact Nat.le_of_ble_eq_true rfl | exact Nat.zero_le _⟩ gX10_advance_4.2.2.2.1 (fun r3850 hr3850 => ?_)
                refine pS hC hK hl (t_letter l G r3850) si_X10_82 rfl rfl (Nat.le_of_ble_eq_true rfl) rm_3_2_1 ⟨by first | exact Nat.le_of_ble_eq_true rfl | exact Nat.zero_le _, by first | exact Nat.le_of_ble_eq_true rfl | exact Nat.zero_le _⟩ gX10_advance_4.2.2.2.2.1 (Kors (Keqr ?_) (Keqr ?_))
                · refine lv_if_eq (tgt := 199) hx hb gX10_advance_4.2.2.2.2.2.1 (by decide) (fun c9 => absurd c9 (by decide)) (fun _ => ?_)
                  refine lv_aload_n hx hb gX10_advance_4.2.2.2.2.2.2.1 rfl (lv_at0 hl) ?_
                  refine lv_dup hx hb gX10_advance_4.2.2.2.2.2.2.2.1 rfl ?_
                  refine gf_X10_37 hC rfl hK hP 0 rfl rfl gX10_advance_4.2.2.2.2.2.2.2.2.1 ?_
                  refine lv_iconst (v := 1) hx hb gX10_advance_4.2.2.2.2.2.2.2.2.2 (by decide) ?_
                  refine lv_iadd hx hb gX10_advance_5.1 ?_
                  refine eqi (x1 := nI (jB + 1)) (nI_1 _) ?_
                  refine pf_X10_37 hC rfl hK hP hD hS 0 (ws' := [(h0, oX10 tby (nI kt) tln tsp (-2) (nI jA) (nI (jB + 1)) tf9), (tby, iA G 240 fby)]) rfl (Nat.le_of_ble_eq_true rfl) rfl rfl rfl gX10_advance_5.2.1 (fun H locs hP hD hS => ?_)
                  refine lv_goto (tgt := 73) hx hb gX10_advance_5.2.2.1 (by decide) ?_
                  have hnB9 := nge_nat (R := kt) (k := jB) (by omega) (by omega) c_81_3849
                  exact ihB (jB + 1) _ _ _ (by omega) (by omega) (And.intro hP hD) hS (lv_sub hl [0] rfl)
                · refine lv_if_eq (tgt := 199) hx hb gX10_advance_4.2.2.2.2.2.1 (by decide) (fun _ => ?_) (fun c9 => absurd (by decide) c9)
                  refine toQ hQ0 ?_
                  exact RV hC hP hD hS [0, 1] ((-2), jA, jB) rfl rfl (by decide) (by dsimp only; omega) gX10_advance_9.2.2.2.2.2.2
          exact keyB kt jA _ _ _ (by omega) (by omega) (And.intro hP hD) hS (lv_sub hl [0] rfl)
        · refine lv_if_eq (tgt := 111) hx hb gX10_advance_3.2.1 (by decide) (fun _ => ?_) (fun c9 => absurd (by decide) c9)
          refine lv_aload_n hx hb gX10_advance_5.2.2.2.1 rfl (lv_at0 hl) ?_
          refine lv_aload_n hx hb gX10_advance_5.2.2.2.2.1 rfl (lv_at0 hl) ?_
          refine gf_X10_34 hC rfl hK hP 0 rfl rfl gX10_advance_5.2.2.2.2.2.1 ?_
          refine pV hC hK hl hP hD (t_byteAt l G h0 (nI jA) tby kt tln tsp tkd (nI jA) (nI jA) tf9 fby) si_X10_78 [0, 1] sm_0_1 fm_0_1 nd_0_1 rfl rfl rfl rfl rfl (Nat.le_of_ble_eq_true rfl) rm_3_1_2 ⟨by first | exact Nat.le_of_ble_eq_true rfl | exact Nat.zero_le _, by first | exact Nat.le_of_ble_eq_true rfl | exact Nat.zero_le _⟩ gX10_advance_5.2.2.2.2.2.2.1 (fun r3853 hr3853 => ?_)
          refine pS hC hK hl (t_digit l G r3853) si_X10_86 rfl rfl (Nat.le_of_ble_eq_true rfl) rm_3_2_1 ⟨by first | exact Nat.le_of_ble_eq_true rfl | exact Nat.zero_le _, by first | exact Nat.le_of_ble_eq_true rfl | exact Nat.zero_le _⟩ gX10_advance_5.2.2.2.2.2.2.2.1 (Kors (Keqr ?_) (Keqr ?_))
          · refine lv_if_eq (tgt := 169) hx hb gX10_advance_5.2.2.2.2.2.2.2.2.1 (by decide) (fun c9 => absurd c9 (by decide)) (fun _ => ?_)
            refine lv_aload_n hx hb gX10_advance_5.2.2.2.2.2.2.2.2.2 rfl (lv_at0 hl) ?_
            refine lv_bipush (v := (-3)) hx hb gX10_advance_6.1 (by decide) ?_
            refine pf_X10_31 hC rfl hK hP hD hS 0 (ws' := [(h0, oX10 tby (nI kt) tln tsp (-3) (nI jA) (nI jA) tf9), (tby, iA G 240 fby)]) rfl (Nat.le_of_ble_eq_true rfl) rfl rfl rfl gX10_advance_6.2.1 (fun H locs hP hD hS => ?_)
            have keyC : ∀ (nC jC : Nat) (H : Heap) (locs : List Loc) (ls : Array Slot), kt ≤ jC + nC → jC ≤ 240 → va_PD G A [(h0, oX10 tby (nI kt) tln tsp (-3) (nI jA) (nI jC) tf9), (tby, iA G 240 fby)] H → va_S A s.heap H locs → lv_has ls 1 [(0, .ref h0)] → W p l e (RM 3 0 0) s m ([.ref h0] : List Value).toArray below meth c H locs 0 0 Q0 (F0 m 131 ls []) := by
              intro nC
              induction nC with
              | zero =>
                intro jC H locs ls hkC hmC hPD hS hl
                refine Kan2 hPD (fun hP hD => ?_)
                have hzC : nI kt ≤ nI jC := (nI_leI (by omega) (by omega)).mpr (by omega)
                refine lv_aload_n hx hb gX10_advance_6.2.2.1 rfl (lv_at0 hl) ?_
                refine gf_X10_37 hC rfl hK hP 0 rfl rfl gX10_advance_6.2.2.2.1 ?_
                refine lv_aload_n hx hb gX10_advance_6.2.2.2.2.1 rfl (lv_at0 hl) ?_
                refine gf_X10_27 hC rfl hK hP 0 rfl rfl gX10_advance_6.2.2.2.2.2.1 ?_
                refine lv_icmp_ge (tgt := 199) hx hb gX10_advance_6.2.2.2.2.2.2.1 (by decide) (fun _ => ?_) (fun c9 => absurd (hzC) c9)
                refine toQ hQ0 ?_
                exact RV hC hP hD hS [0, 1] ((-3), jA, jC) rfl rfl (by decide) (by dsimp only; omega) gX10_advance_9.2.2.2.2.2.2
              | succ nC ihC =>
                intro jC H locs ls hkC hmC hPD hS hl
                refine Kan2 hPD (fun hP hD => ?_)
                refine lv_aload_n hx hb gX10_advance_6.2.2.1 rfl (lv_at0 hl) ?_
                refine gf_X10_37 hC rfl hK hP 0 rfl rfl gX10_advance_6.2.2.2.1 ?_
                refine lv_aload_n hx hb gX10_advance_6.2.2.2.2.1 rfl (lv_at0 hl) ?_
                refine gf_X10_27 hC rfl hK hP 0 rfl rfl gX10_advance_6.2.2.2.2.2.1 ?_
                refine lv_icmp_ge (tgt := 199) hx hb gX10_advance_6.2.2.2.2.2.2.1 (by decide) (fun c_139_3856 => ?_) (fun c_139_3856 => ?_)
                · refine toQ hQ0 ?_
                  exact RV hC hP hD hS [0, 1] ((-3), jA, jC) rfl rfl (by decide) (by dsimp only; omega) gX10_advance_9.2.2.2.2.2.2
                · refine lv_aload_n hx hb gX10_advance_6.2.2.2.2.2.2.2.1 rfl (lv_at0 hl) ?_
                  refine lv_aload_n hx hb gX10_advance_6.2.2.2.2.2.2.2.2.1 rfl (lv_at0 hl) ?_
                  refine gf_X10_37 hC rfl hK hP 0 rfl rfl gX10_advance_6.2.2.2.2.2.2.2.2.2 ?_
                  refine pV hC hK hl hP hD (t_byteAt l G h0 (nI jC) tby kt tln tsp (-3) (nI jA) (nI jC) tf9 fby) si_X10_78 [0, 1] sm_0_1 fm_0_1 nd_0_1 rfl rfl rfl rfl rfl (Nat.le_of_ble_eq_true rfl) rm_3_1_2 ⟨by first | exact Nat.le_of_ble_eq_true rfl | exact Nat.zero_le _, by first | exact Nat.le_of_ble_eq_true rfl | exact Nat.zero_le _⟩ gX10_advance_7.1 (fun r3857 hr3857 => ?_)
                  refine pS hC hK hl (t_digit l G r3857) si_X10_86 rfl rfl (Nat.le_of_ble_eq_true rfl) rm_3_2_1 ⟨by first | exact Nat.le_of_ble_eq_true rfl | exact Nat.zero_le _, by first | exact Nat.le_of_ble_eq_true rfl | exact Nat.zero_le _⟩ gX10_advance_7.2.1 (Kors (Keqr ?_) (Keqr ?_))
                  · refine lv_if_eq (tgt := 199) hx hb gX10_advance_7.2.2.1 (by decide) (fun c9 => absurd c9 (by decide)) (fun _ => ?_)
                    refine lv_aload_n hx hb gX10_advance_7.2.2.2.1 rfl (lv_at0 hl) ?_
                    refine lv_dup hx hb gX10_advance_7.2.2.2.2.1 rfl ?_
                    refine gf_X10_37 hC rfl hK hP 0 rfl rfl gX10_advance_7.2.2.2.2.2.1 ?_
                    refine lv_iconst (v := 1) hx hb gX10_advance_7.2.2.2.2.2.2.1 (by decide) ?_
                    refine lv_iadd hx hb gX10_advance_7.2.2.2.2.2.2.2.1 ?_
                    refine eqi (x1 := nI (jC + 1)) (nI_1 _) ?_
                    refine pf_X10_37 hC rfl hK hP hD hS 0 (ws' := [(h0, oX10 tby (nI kt) tln tsp (-3) (nI jA) (nI (jC + 1)) tf9), (tby, iA G 240 fby)]) rfl (Nat.le_of_ble_eq_true rfl) rfl rfl rfl gX10_advance_7.2.2.2.2.2.2.2.2.1 (fun H locs hP hD hS => ?_)
                    refine lv_goto (tgt := 131) hx hb gX10_advance_7.2.2.2.2.2.2.2.2.2 (by decide) ?_
                    have hnC9 := nge_nat (R := kt) (k := jC) (by omega) (by omega) c_139_3856
                    exact ihC (jC + 1) _ _ _ (by omega) (by omega) (And.intro hP hD) hS (lv_sub hl [0] rfl)
                  · refine lv_if_eq (tgt := 199) hx hb gX10_advance_7.2.2.1 (by decide) (fun _ => ?_) (fun c9 => absurd (by decide) c9)
                    refine toQ hQ0 ?_
                    exact RV hC hP hD hS [0, 1] ((-3), jA, jC) rfl rfl (by decide) (by dsimp only; omega) gX10_advance_9.2.2.2.2.2.2
            exact keyC kt jA _ _ _ (by omega) (by omega) (And.intro hP hD) hS (lv_sub hl [0] rfl)
          · refine lv_if_eq (tgt := 169) hx hb gX10_advance_5.2.2.2.2.2.2.2.2.1 (by decide) (fun _ => ?_) (fun c9 => absurd (by decide) c9)
            refine lv_aload_n hx hb gX10_advance_8.1 rfl (lv_at0 hl) ?_
            refine lv_aload_n hx hb gX10_advance_8.2.1 rfl (lv_at0 hl) ?_
            refine lv_aload_n hx hb gX10_advance_8.2.2.1 rfl (lv_at0 hl) ?_
            refine gf_X10_34 hC rfl hK hP 0 rfl rfl gX10_advance_8.2.2.2.1 ?_
            refine pV hC hK hl hP hD (t_byteAtN l G h0 jA tby kt tln tsp tkd (nI jA) (nI jA) tf9 fby (by omega)) si_X10_78 [0, 1] sm_0_1 fm_0_1 nd_0_1 rfl rfl rfl rfl rfl (Nat.le_of_ble_eq_true rfl) rm_3_1_2 ⟨by first | exact Nat.le_of_ble_eq_true rfl | exact Nat.zero_le _, by first | exact Nat.le_of_ble_eq_true rfl | exact Nat.zero_le _⟩ gX10_advance_8.2.2.2.2.1 (Kors (Keqr ?_) (Keqa fun a3861 => ?_))
            · refine pf_X10_31 hC rfl hK hP hD hS 0 (ws' := [(h0, oX10 tby (nI kt) tln tsp (-1) (nI jA) (nI jA) tf9), (tby, iA G 240 fby)]) rfl (Nat.le_of_ble_eq_true rfl) rfl rfl rfl gX10_advance_8.2.2.2.2.2.1 (fun H locs hP hD hS => ?_)
              refine lv_aload_n hx hb gX10_advance_8.2.2.2.2.2.2.1 rfl (lv_at0 hl) ?_
              refine gf_X10_31 hC rfl hK hP 0 rfl rfl gX10_advance_8.2.2.2.2.2.2.2.1 ?_
              refine lv_iconst (v := (-1)) hx hb gX10_advance_8.2.2.2.2.2.2.2.2.1 (by decide) ?_
              refine lv_icmp_eq (tgt := 199) hx hb gX10_advance_8.2.2.2.2.2.2.2.2.2 (by decide) (fun _ => ?_) (fun c9 => absurd (by decide) c9)
              refine toQ hQ0 ?_
              exact RV hC hP hD hS [0, 1] ((-1), jA, jA) rfl rfl (by decide) (by dsimp only; omega) gX10_advance_9.2.2.2.2.2.2
            · refine pf_X10_31 hC rfl hK hP hD hS 0 (ws' := [(h0, oX10 tby (nI kt) tln tsp (fby jA) (nI jA) (nI jA) tf9), (tby, iA G 240 fby)]) rfl (Nat.le_of_ble_eq_true rfl) rfl rfl rfl gX10_advance_8.2.2.2.2.2.1 (fun H locs hP hD hS => ?_)
              refine lv_aload_n hx hb gX10_advance_8.2.2.2.2.2.2.1 rfl (lv_at0 hl) ?_
              refine gf_X10_31 hC rfl hK hP 0 rfl rfl gX10_advance_8.2.2.2.2.2.2.2.1 ?_
              refine lv_iconst (v := (-1)) hx hb gX10_advance_8.2.2.2.2.2.2.2.2.1 (by decide) ?_
              refine lv_icmp_eq (tgt := 199) hx hb gX10_advance_8.2.2.2.2.2.2.2.2.2 (by decide) (fun c_186_3862 => ?_) (fun c_186_3862 => ?_)
              · refine toQ hQ0 ?_
                exact RV hC hP hD hS [0, 1] ((fby jA), jA, jA) rfl rfl (by decide) (by dsimp only; omega) gX10_advance_9.2.2.2.2.2.2
              · refine lv_aload_n hx hb gX10_advance_9.1 rfl (lv_at0 hl) ?_
                refine lv_dup hx hb gX10_advance_9.2.1 rfl ?_
                refine gf_X10_37 hC rfl hK hP 0 rfl rfl gX10_advance_9.2.2.1 ?_
                refine lv_iconst (v := 1) hx hb gX10_advance_9.2.2.2.1 (by decide) ?_
                refine lv_iadd hx hb gX10_advance_9.2.2.2.2.1 ?_
                refine eqi (x1 := nI (jA + 1)) (nI_1 _) ?_
                refine pf_X10_37 hC rfl hK hP hD hS 0 (ws' := [(h0, oX10 tby (nI kt) tln tsp (fby jA) (nI jA) (nI (jA + 1)) tf9), (tby, iA G 240 fby)]) rfl (Nat.le_of_ble_eq_true rfl) rfl rfl rfl gX10_advance_9.2.2.2.2.2.1 (fun H locs hP hD hS => ?_)
                refine toQ hQ0 ?_
                exact RV hC hP hD hS [0, 1] ((fby jA), jA, (jA + 1)) rfl rfl (by decide) (by dsimp only; omega) gX10_advance_9.2.2.2.2.2.2
      · refine lv_aload_n hx hb gX10_advance_0.2.2.2.2.2.2.2.2.2 rfl (lv_at0 hl) ?_
        refine lv_aload_n hx hb gX10_advance_1.1 rfl (lv_at0 hl) ?_
        refine gf_X10_34 hC rfl hK hP 0 rfl rfl gX10_advance_1.2.1 ?_
        refine pV hC hK hl hP hD (t_byteAt l G h0 (nI jA) tby kt tln tsp tkd (nI jA) (nI kn) tf9 fby) si_X10_78 [0, 1] sm_0_1 fm_0_1 nd_0_1 rfl rfl rfl rfl rfl (Nat.le_of_ble_eq_true rfl) rm_3_1_2 ⟨by first | exact Nat.le_of_ble_eq_true rfl | exact Nat.zero_le _, by first | exact Nat.le_of_ble_eq_true rfl | exact Nat.zero_le _⟩ gX10_advance_1.2.2.1 (fun r3863 hr3863 => ?_)
        refine lv_bipush (v := 32) hx hb gX10_advance_1.2.2.2.1 (by decide) ?_
        refine lv_icmp_ne (tgt := 45) hx hb gX10_advance_1.2.2.2.2.1 (by decide) (fun c_29_3864 => ?_) (fun c_29_3864 => ?_)
        · refine lv_aload_n hx hb gX10_advance_2.2.2.1 rfl (lv_at0 hl) ?_
          refine lv_aload_n hx hb gX10_advance_2.2.2.2.1 rfl (lv_at0 hl) ?_
          refine gf_X10_34 hC rfl hK hP 0 rfl rfl gX10_advance_2.2.2.2.2.1 ?_
          refine pf_X10_37 hC rfl hK hP hD hS 0 (ws' := [(h0, oX10 tby (nI kt) tln tsp tkd (nI jA) (nI jA) tf9), (tby, iA G 240 fby)]) rfl (Nat.le_of_ble_eq_true rfl) rfl rfl rfl gX10_advance_2.2.2.2.2.2.1 (fun H locs hP hD hS => ?_)
          refine lv_aload_n hx hb gX10_advance_2.2.2.2.2.2.2.1 rfl (lv_at0 hl) ?_
          refine lv_aload_n hx hb gX10_advance_2.2.2.2.2.2.2.2.1 rfl (lv_at0 hl) ?_
          refine gf_X10_34 hC rfl hK hP 0 rfl rfl gX10_advance_2.2.2.2.2.2.2.2.2.1 ?_
          refine pV hC hK hl hP hD (t_byteAt l G h0 (nI jA) tby kt tln tsp tkd (nI jA) (nI jA) tf9 fby) si_X10_78 [0, 1] sm_0_1 fm_0_1 nd_0_1 rfl rfl rfl rfl rfl (Nat.le_of_ble_eq_true rfl) rm_3_1_2 ⟨by first | exact Nat.le_of_ble_eq_true rfl | exact Nat.zero_le _, by first | exact Nat.le_of_ble_eq_true rfl | exact Nat.zero_le _⟩ gX10_advance_2.2.2.2.2.2.2.2.2.2 (fun r3865 hr3865 => ?_)
          refine pS hC hK hl (t_letter l G r3865) si_X10_82 rfl rfl (Nat.le_of_ble_eq_true rfl) rm_3_2_1 ⟨by first | exact Nat.le_of_ble_eq_true rfl | exact Nat.zero_le _, by first | exact Nat.le_of_ble_eq_true rfl | exact Nat.zero_le _⟩ gX10_advance_3.1 (Kors (Keqr ?_) (Keqr ?_))
          · refine lv_if_eq (tgt := 111) hx hb gX10_advance_3.2.1 (by decide) (fun c9 => absurd c9 (by decide)) (fun _ => ?_)
            refine lv_aload_n hx hb gX10_advance_3.2.2.1 rfl (lv_at0 hl) ?_
            refine lv_bipush (v := (-2)) hx hb gX10_advance_3.2.2.2.1 (by decide) ?_
            refine pf_X10_31 hC rfl hK hP hD hS 0 (ws' := [(h0, oX10 tby (nI kt) tln tsp (-2) (nI jA) (nI jA) tf9), (tby, iA G 240 fby)]) rfl (Nat.le_of_ble_eq_true rfl) rfl rfl rfl gX10_advance_3.2.2.2.2.1 (fun H locs hP hD hS => ?_)
            have keyB : ∀ (nB jB : Nat) (H : Heap) (locs : List Loc) (ls : Array Slot), kt ≤ jB + nB → jB ≤ 240 → va_PD G A [(h0, oX10 tby (nI kt) tln tsp (-2) (nI jA) (nI jB) tf9), (tby, iA G 240 fby)] H → va_S A s.heap H locs → lv_has ls 1 [(0, .ref h0)] → W p l e (RM 3 0 0) s m ([.ref h0] : List Value).toArray below meth c H locs 0 0 Q0 (F0 m 73 ls []) := by
              intro nB
              induction nB with
              | zero =>
                intro jB H locs ls hkB hmB hPD hS hl
                refine Kan2 hPD (fun hP hD => ?_)
                have hzB : nI kt ≤ nI jB := (nI_leI (by omega) (by omega)).mpr (by omega)
                refine lv_aload_n hx hb gX10_advance_3.2.2.2.2.2.1 rfl (lv_at0 hl) ?_
                refine gf_X10_37 hC rfl hK hP 0 rfl rfl gX10_advance_3.2.2.2.2.2.2.1 ?_
                refine lv_aload_n hx hb gX10_advance_3.2.2.2.2.2.2.2.1 rfl (lv_at0 hl) ?_
                refine gf_X10_27 hC rfl hK hP 0 rfl rfl gX10_advance_3.2.2.2.2.2.2.2.2.1 ?_
                refine lv_icmp_ge (tgt := 199) hx hb gX10_advance_3.2.2.2.2.2.2.2.2.2 (by decide) (fun _ => ?_) (fun c9 => absurd (hzB) c9)
                refine toQ hQ0 ?_
                exact RV hC hP hD hS [0, 1] ((-2), jA, jB) rfl rfl (by decide) (by dsimp only; omega) gX10_advance_9.2.2.2.2.2.2
              | succ nB ihB =>
                intro jB H locs ls hkB hmB hPD hS hl
                refine Kan2 hPD (fun hP hD => ?_)
                refine lv_aload_n hx hb gX10_advance_3.2.2.2.2.2.1 rfl (lv_at0 hl) ?_
                refine gf_X10_37 hC rfl hK hP 0 rfl rfl gX10_advance_3.2.2.2.2.2.2.1 ?_
                refine lv_aload_n hx hb gX10_advance_3.2.2.2.2.2.2.2.1 rfl (lv_at0 hl) ?_
                refine gf_X10_27 hC rfl hK hP 0 rfl rfl gX10_advance_3.2.2.2.2.2.2.2.2.1 ?_
                refine lv_icmp_ge (tgt := 199) hx hb gX10_advance_3.2.2.2.2.2.2.2.2.2 (by decide) (fun c_81_3868 => ?_) (fun c_81_3868 => ?_)
                · refine toQ hQ0 ?_
                  exact RV hC hP hD hS [0, 1] ((-2), jA, jB) rfl rfl (by decide) (by dsimp only; omega) gX10_advance_9.2.2.2.2.2.2
                · refine lv_aload_n hx hb gX10_advance_4.1 rfl (lv_at0 hl) ?_
                  refine lv_aload_n hx hb gX10_advance_4.2.1 rfl (lv_at0 hl) ?_
                  refine gf_X10_37 hC rfl hK hP 0 rfl rfl gX10_advance_4.2.2.1 ?_
                  refine pV hC hK hl hP hD (t_byteAt l G h0 (nI jB) tby kt tln tsp (-2) (nI jA) (nI jB) tf9 fby) si_X10_78 [0, 1] sm_0_1 fm_0_1 nd_0_1 rfl rfl rfl rfl rfl (Nat.le_of_ble_eq_true rfl) rm_3_1_2 ⟨by first | exact Nat.le_of_ble_eq_true rfl | exact Nat.zero_le _, by first | exact Nat.le_of_ble_eq_true rfl | exact Nat.zero_le _⟩ gX10_advance_4.2.2.2.1 (fun r3869 hr3869 => ?_)
                  refine pS hC hK hl (t_letter l G r3869) si_X10_82 rfl rfl (Nat.le_of_ble_eq_true rfl) rm_3_2_1 ⟨by first | exact Nat.le_of_ble_eq_true rfl | exact Nat.zero_le _, by first | exact Nat.le_of_ble_eq_true rfl | exact Nat.zero_le _⟩ gX10_advance_4.2.2.2.2.1 (Kors (Keqr ?_) (Keqr ?_))
                  · refine lv_if_eq (tgt := 199) hx hb gX10_advance_4.2.2.2.2.2.1 (by decide) (fun c9 => absurd c9 (by decide)) (fun _ => ?_)
                    refine lv_aload_n hx hb gX10_advance_4.2.2.2.2.2.2.1 rfl (lv_at0 hl) ?_
                    refine lv_dup hx hb gX10_advance_4.2.2.2.2.2.2.2.1 rfl ?_
                    refine gf_X10_37 hC rfl hK hP 0 rfl rfl gX10_advance_4.2.2.2.2.2.2.2.2.1 ?_
                    refine lv_iconst (v := 1) hx hb gX10_advance_4.2.2.2.2.2.2.2.2.2 (by decide) ?_
                    refine lv_iadd hx hb gX10_advance_5.1 ?_
                    refine eqi (x1 := nI (jB + 1)) (nI_1 _) ?_
                    refine pf_X10_37 hC rfl hK hP hD hS 0 (ws' := [(h0, oX10 tby (nI kt) tln tsp (-2) (nI jA) (nI (jB + 1)) tf9), (tby, iA G 240 fby)]) rfl (Nat.le_of_ble_eq_true rfl) rfl rfl rfl gX10_advance_5.2.1 (fun H locs hP hD hS => ?_)
                    refine lv_goto (tgt := 73) hx hb gX10_advance_5.2.2.1 (by decide) ?_
                    have hnB9 := nge_nat (R := kt) (k := jB) (by omega) (by omega) c_81_3868
                    exact ihB (jB + 1) _ _ _ (by omega) (by omega) (And.intro hP hD) hS (lv_sub hl [0] rfl)
                  · refine lv_if_eq (tgt := 199) hx hb gX10_advance_4.2.2.2.2.2.1 (by decide) (fun _ => ?_) (fun c9 => absurd (by decide) c9)
                    refine toQ hQ0 ?_
                    exact RV hC hP hD hS [0, 1] ((-2), jA, jB) rfl rfl (by decide) (by dsimp only; omega) gX10_advance_9.2.2.2.2.2.2
            exact keyB kt jA _ _ _ (by omega) (by omega) (And.intro hP hD) hS (lv_sub hl [0] rfl)
          · refine lv_if_eq (tgt := 111) hx hb gX10_advance_3.2.1 (by decide) (fun _ => ?_) (fun c9 => absurd (by decide) c9)
            refine lv_aload_n hx hb gX10_advance_5.2.2.2.1 rfl (lv_at0 hl) ?_
            refine lv_aload_n hx hb gX10_advance_5.2.2.2.2.1 rfl (lv_at0 hl) ?_
            refine gf_X10_34 hC rfl hK hP 0 rfl rfl gX10_advance_5.2.2.2.2.2.1 ?_
            refine pV hC hK hl hP hD (t_byteAt l G h0 (nI jA) tby kt tln tsp tkd (nI jA) (nI jA) tf9 fby) si_X10_78 [0, 1] sm_0_1 fm_0_1 nd_0_1 rfl rfl rfl rfl rfl (Nat.le_of_ble_eq_true rfl) rm_3_1_2 ⟨by first | exact Nat.le_of_ble_eq_true rfl | exact Nat.zero_le _, by first | exact Nat.le_of_ble_eq_true rfl | exact Nat.zero_le _⟩ gX10_advance_5.2.2.2.2.2.2.1 (fun r3872 hr3872 => ?_)
            refine pS hC hK hl (t_digit l G r3872) si_X10_86 rfl rfl (Nat.le_of_ble_eq_true rfl) rm_3_2_1 ⟨by first | exact Nat.le_of_ble_eq_true rfl | exact Nat.zero_le _, by first | exact Nat.le_of_ble_eq_true rfl | exact Nat.zero_le _⟩ gX10_advance_5.2.2.2.2.2.2.2.1 (Kors (Keqr ?_) (Keqr ?_))
            · refine lv_if_eq (tgt := 169) hx hb gX10_advance_5.2.2.2.2.2.2.2.2.1 (by decide) (fun c9 => absurd c9 (by decide)) (fun _ => ?_)
              refine lv_aload_n hx hb gX10_advance_5.2.2.2.2.2.2.2.2.2 rfl (lv_at0 hl) ?_
              refine lv_bipush (v := (-3)) hx hb gX10_advance_6.1 (by decide) ?_
              refine pf_X10_31 hC rfl hK hP hD hS 0 (ws' := [(h0, oX10 tby (nI kt) tln tsp (-3) (nI jA) (nI jA) tf9), (tby, iA G 240 fby)]) rfl (Nat.le_of_ble_eq_true rfl) rfl rfl rfl gX10_advance_6.2.1 (fun H locs hP hD hS => ?_)
              have keyC : ∀ (nC jC : Nat) (H : Heap) (locs : List Loc) (ls : Array Slot), kt ≤ jC + nC → jC ≤ 240 → va_PD G A [(h0, oX10 tby (nI kt) tln tsp (-3) (nI jA) (nI jC) tf9), (tby, iA G 240 fby)] H → va_S A s.heap H locs → lv_has ls 1 [(0, .ref h0)] → W p l e (RM 3 0 0) s m ([.ref h0] : List Value).toArray below meth c H locs 0 0 Q0 (F0 m 131 ls []) := by
                intro nC
                induction nC with
                | zero =>
                  intro jC H locs ls hkC hmC hPD hS hl
                  refine Kan2 hPD (fun hP hD => ?_)
                  have hzC : nI kt ≤ nI jC := (nI_leI (by omega) (by omega)).mpr (by omega)
                  refine lv_aload_n hx hb gX10_advance_6.2.2.1 rfl (lv_at0 hl) ?_
                  refine gf_X10_37 hC rfl hK hP 0 rfl rfl gX10_advance_6.2.2.2.1 ?_
                  refine lv_aload_n hx hb gX10_advance_6.2.2.2.2.1 rfl (lv_at0 hl) ?_
                  refine gf_X10_27 hC rfl hK hP 0 rfl rfl gX10_advance_6.2.2.2.2.2.1 ?_
                  refine lv_icmp_ge (tgt := 199) hx hb gX10_advance_6.2.2.2.2.2.2.1 (by decide) (fun _ => ?_) (fun c9 => absurd (hzC) c9)
                  refine toQ hQ0 ?_
                  exact RV hC hP hD hS [0, 1] ((-3), jA, jC) rfl rfl (by decide) (by dsimp only; omega) gX10_advance_9.2.2.2.2.2.2
                | succ nC ihC =>
                  intro jC H locs ls hkC hmC hPD hS hl
                  refine Kan2 hPD (fun hP hD => ?_)
                  refine lv_aload_n hx hb gX10_advance_6.2.2.1 rfl (lv_at0 hl) ?_
                  refine gf_X10_37 hC rfl hK hP 0 rfl rfl gX10_advance_6.2.2.2.1 ?_
                  refine lv_aload_n hx hb gX10_advance_6.2.2.2.2.1 rfl (lv_at0 hl) ?_
                  refine gf_X10_27 hC rfl hK hP 0 rfl rfl gX10_advance_6.2.2.2.2.2.1 ?_
                  refine lv_icmp_ge (tgt := 199) hx hb gX10_advance_6.2.2.2.2.2.2.1 (by decide) (fun c_139_3875 => ?_) (fun c_139_3875 => ?_)
                  · refine toQ hQ0 ?_
                    exact RV hC hP hD hS [0, 1] ((-3), jA, jC) rfl rfl (by decide) (by dsimp only; omega) gX10_advance_9.2.2.2.2.2.2
                  · refine lv_aload_n hx hb gX10_advance_6.2.2.2.2.2.2.2.1 rfl (lv_at0 hl) ?_
                    refine lv_aload_n hx hb gX10_advance_6.2.2.2.2.2.2.2.2.1 rfl (lv_at0 hl) ?_
                    refine gf_X10_37 hC rfl hK hP 0 rfl rfl gX10_advance_6.2.2.2.2.2.2.2.2.2 ?_
                    refine pV hC hK hl hP hD (t_byteAt l G h0 (nI jC) tby kt tln tsp (-3) (nI jA) (nI jC) tf9 fby) si_X10_78 [0, 1] sm_0_1 fm_0_1 nd_0_1 rfl rfl rfl rfl rfl (Nat.le_of_ble_eq_true rfl) rm_3_1_2 ⟨by first | exact Nat.le_of_ble_eq_true rfl | exact Nat.zero_le _, by first | exact Nat.le_of_ble_eq_true rfl | exact Nat.zero_le _⟩ gX10_advance_7.1 (fun r3876 hr3876 => ?_)
                    refine pS hC hK hl (t_digit l G r3876) si_X10_86 rfl rfl (Nat.le_of_ble_eq_true rfl) rm_3_2_1 ⟨by first | exact Nat.le_of_ble_eq_true rfl | exact Nat.zero_le _, by first | exact Nat.le_of_ble_eq_true rfl | exact Nat.zero_le _⟩ gX10_advance_7.2.1 (Kors (Keqr ?_) (Keqr ?_))
                    · refine lv_if_eq (tgt := 199) hx hb gX10_advance_7.2.2.1 (by decide) (fun c9 => absurd c9 (by decide)) (fun _ => ?_)
                      refine lv_aload_n hx hb gX10_advance_7.2.2.2.1 rfl (lv_at0 hl) ?_
                      refine lv_dup hx hb gX10_advance_7.2.2.2.2.1 rfl ?_
                      refine gf_X10_37 hC rfl hK hP 0 rfl rfl gX10_advance_7.2.2.2.2.2.1 ?_
                      refine lv_iconst (v := 1) hx hb gX10_advance_7.2.2.2.2.2.2.1 (by decide) ?_
                      refine lv_iadd hx hb gX10_advance_7.2.2.2.2.2.2.2.1 ?_
                      refine eqi (x1 := nI (jC + 1)) (nI_1 _) ?_
                      refine pf_X10_37 hC rfl hK hP hD hS 0 (ws' := [(h0, oX10 tby (nI kt) tln tsp (-3) (nI jA) (nI (jC + 1)) tf9), (tby, iA G 240 fby)]) rfl (Nat.le_of_ble_eq_true rfl) rfl rfl rfl gX10_advance_7.2.2.2.2.2.2.2.2.1 (fun H locs hP hD hS => ?_)
                      refine lv_goto (tgt := 131) hx hb gX10_advance_7.2.2.2.2.2.2.2.2.2 (by decide) ?_
                      have hnC9 := nge_nat (R := kt) (k := jC) (by omega) (by omega) c_139_3875
                      exact ihC (jC + 1) _ _ _ (by omega) (by omega) (And.intro hP hD) hS (lv_sub hl [0] rfl)
                    · refine lv_if_eq (tgt := 199) hx hb gX10_advance_7.2.2.1 (by decide) (fun _ => ?_) (fun c9 => absurd (by decide) c9)
                      refine toQ hQ0 ?_
                      exact RV hC hP hD hS [0, 1] ((-3), jA, jC) rfl rfl (by decide) (by dsimp only; omega) gX10_advance_9.2.2.2.2.2.2
              exact keyC kt jA _ _ _ (by omega) (by omega) (And.intro hP hD) hS (lv_sub hl [0] rfl)
            · refine lv_if_eq (tgt := 169) hx hb gX10_advance_5.2.2.2.2.2.2.2.2.1 (by decide) (fun _ => ?_) (fun c9 => absurd (by decide) c9)
              refine lv_aload_n hx hb gX10_advance_8.1 rfl (lv_at0 hl) ?_
              refine lv_aload_n hx hb gX10_advance_8.2.1 rfl (lv_at0 hl) ?_
              refine lv_aload_n hx hb gX10_advance_8.2.2.1 rfl (lv_at0 hl) ?_
              refine gf_X10_34 hC rfl hK hP 0 rfl rfl gX10_advance_8.2.2.2.1 ?_
              refine pV hC hK hl hP hD (t_byteAtN l G h0 jA tby kt tln tsp tkd (nI jA) (nI jA) tf9 fby (by omega)) si_X10_78 [0, 1] sm_0_1 fm_0_1 nd_0_1 rfl rfl rfl rfl rfl (Nat.le_of_ble_eq_true rfl) rm_3_1_2 ⟨by first | exact Nat.le_of_ble_eq_true rfl | exact Nat.zero_le _, by first | exact Nat.le_of_ble_eq_true rfl | exact Nat.zero_le _⟩ gX10_advance_8.2.2.2.2.1 (Kors (Keqr ?_) (Keqa fun a3880 => ?_))
              · refine pf_X10_31 hC rfl hK hP hD hS 0 (ws' := [(h0, oX10 tby (nI kt) tln tsp (-1) (nI jA) (nI jA) tf9), (tby, iA G 240 fby)]) rfl (Nat.le_of_ble_eq_true rfl) rfl rfl rfl gX10_advance_8.2.2.2.2.2.1 (fun H locs hP hD hS => ?_)
                refine lv_aload_n hx hb gX10_advance_8.2.2.2.2.2.2.1 rfl (lv_at0 hl) ?_
                refine gf_X10_31 hC rfl hK hP 0 rfl rfl gX10_advance_8.2.2.2.2.2.2.2.1 ?_
                refine lv_iconst (v := (-1)) hx hb gX10_advance_8.2.2.2.2.2.2.2.2.1 (by decide) ?_
                refine lv_icmp_eq (tgt := 199) hx hb gX10_advance_8.2.2.2.2.2.2.2.2.2 (by decide) (fun _ => ?_) (fun c9 => absurd (by decide) c9)
                refine toQ hQ0 ?_
                exact RV hC hP hD hS [0, 1] ((-1), jA, jA) rfl rfl (by decide) (by dsimp only; omega) gX10_advance_9.2.2.2.2.2.2
              · refine pf_X10_31 hC rfl hK hP hD hS 0 (ws' := [(h0, oX10 tby (nI kt) tln tsp (fby jA) (nI jA) (nI jA) tf9), (tby, iA G 240 fby)]) rfl (Nat.le_of_ble_eq_true rfl) rfl rfl rfl gX10_advance_8.2.2.2.2.2.1 (fun H locs hP hD hS => ?_)
                refine lv_aload_n hx hb gX10_advance_8.2.2.2.2.2.2.1 rfl (lv_at0 hl) ?_
                refine gf_X10_31 hC rfl hK hP 0 rfl rfl gX10_advance_8.2.2.2.2.2.2.2.1 ?_
                refine lv_iconst (v := (-1)) hx hb gX10_advance_8.2.2.2.2.2.2.2.2.1 (by decide) ?_
                refine lv_icmp_eq (tgt := 199) hx hb gX10_advance_8.2.2.2.2.2.2.2.2.2 (by decide) (fun c_186_3881 => ?_) (fun c_186_3881 => ?_)
                · refine toQ hQ0 ?_
                  exact RV hC hP hD hS [0, 1] ((fby jA), jA, jA) rfl rfl (by decide) (by dsimp only; omega) gX10_advance_9.2.2.2.2.2.2
                · refine lv_aload_n hx hb gX10_advance_9.1 rfl (lv_at0 hl) ?_
                  refine lv_dup hx hb gX10_advance_9.2.1 rfl ?_
                  refine gf_X10_37 hC rfl hK hP 0 rfl rfl gX10_advance_9.2.2.1 ?_
                  refine lv_iconst (v := 1) hx hb gX10_advance_9.2.2.2.1 (by decide) ?_
                  refine lv_iadd hx hb gX10_advance_9.2.2.2.2.1 ?_
                  refine eqi (x1 := nI (jA + 1)) (nI_1 _) ?_
                  refine pf_X10_37 hC rfl hK hP hD hS 0 (ws' := [(h0, oX10 tby (nI kt) tln tsp (fby jA) (nI jA) (nI (jA + 1)) tf9), (tby, iA G 240 fby)]) rfl (Nat.le_of_ble_eq_true rfl) rfl rfl rfl gX10_advance_9.2.2.2.2.2.1 (fun H locs hP hD hS => ?_)
                  refine toQ hQ0 ?_
                  exact RV hC hP hD hS [0, 1] ((fby jA), jA, (jA + 1)) rfl rfl (by decide) (by dsimp only; omega) gX10_advance_9.2.2.2.2.2.2
        · refine lv_aload_n hx hb gX10_advance_1.2.2.2.2.2.1 rfl (lv_at0 hl) ?_
          refine lv_dup hx hb gX10_advance_1.2.2.2.2.2.2.1 rfl ?_
          refine gf_X10_34 hC rfl hK hP 0 rfl rfl gX10_advance_1.2.2.2.2.2.2.2.1 ?_
          refine lv_iconst (v := 1) hx hb gX10_advance_1.2.2.2.2.2.2.2.2.1 (by decide) ?_
          refine lv_iadd hx hb gX10_advance_1.2.2.2.2.2.2.2.2.2 ?_
          refine eqi (x1 := nI (jA + 1)) (nI_1 _) ?_
          refine pf_X10_34 hC rfl hK hP hD hS 0 (ws' := [(h0, oX10 tby (nI kt) tln tsp tkd (nI (jA + 1)) (nI kn) tf9), (tby, iA G 240 fby)]) rfl (Nat.le_of_ble_eq_true rfl) rfl rfl rfl gX10_advance_2.1 (fun H locs hP hD hS => ?_)
          refine lv_goto (tgt := 8) hx hb gX10_advance_2.2.1 (by decide) ?_
          have hnA9 := nge_nat (R := kt) (k := jA) (by omega) (by omega) c_16_3845
          exact ihA (jA + 1) _ _ _ (by omega) (by omega) (And.intro hP hD) hS (lv_sub hl [0] rfl)
  exact keyA kt kn _ _ _ (by omega) (by omega) (And.intro hP hD) hS (lv_sub hl [0] rfl)
def K_t_isName (l : Launch) (G : GG) (K : OO) (i9 : Nat) (h0 : Nat) (tby : Nat) (kt : Nat) (tln : Nat) (tsp : Nat) (tkd : Int32) (ks : Nat) (kn : Nat) (tf9 : Int32) (fby : Nat → Int32) : Prop := MPo l G K yX10_isName cX10_isName 3 (some .boolean) 6 [.ref h0, .ref (K.1 i9)] [(h0, oX10 tby (nI kt) tln tsp tkd (nI ks) (nI kn) tf9), (tby, iA G 240 fby)] (fun r : Int32 => r = 1 ∨ r = 0)
set_option maxHeartbeats 4000000 in
set_option maxRecDepth 100000 in
theorem t_isName (l : Launch) (G : GG) (K : OO) (i9 : Nat) (h0 : Nat) (tby : Nat) (kt : Nat) (tln : Nat) (tsp : Nat) (tkd : Int32) (ks : Nat) (kn : Nat) (tf9 : Int32) (fby : Nat → Int32) (hkt : kt ≤ 240) (hks : ks ≤ 240) (hkn : kn ≤ 240) (hi9 : i9 < 16) : K_t_isName l G K i9 h0 tby kt tln tsp tkd ks kn tf9 fby := by
  refine MPo.start (by decide +kernel) (Nat.le_of_ble_eq_true rfl) ?_
  intro p e s m below meth c ls hC hK hP hD hl hO hS
  refine absQ (fun Q0 hQ0 => ?_)
  have hl : lv_has ls 3 [(0, .ref h0), (1, .ref (K.1 i9))] := hl
  refine Kan8 hC (fun hx hb hr hml hB hown hlocks hnm => ?_)
  have hs6 := slen6 i9 hi9
  refine lv_aload_n hx hb gX10_isName_0.1 rfl (lv_at0 hl) ?_
  refine gf_X10_31 hC rfl hK hP 0 rfl rfl gX10_isName_0.2.1 ?_
  refine lv_bipush (v := (-2)) hx hb gX10_isName_0.2.2.1 (by decide) ?_
  refine lv_icmp_ne (tgt := 25) hx hb gX10_isName_0.2.2.2.1 (by decide) (fun c_6_3882 => ?_) (fun c_6_3882 => ?_)
  · refine lv_iconst (v := 0) hx hb gX10_isName_1.2.2.1 (by decide) ?_
    refine toQ hQ0 ?_
    exact RP (v := 0) hC (Or.inr (rfl)) (by decide +kernel) gX10_isName_1.2.2.2.1
  · refine lv_aload_n hx hb gX10_isName_0.2.2.2.2.1 rfl (lv_at0 hl) ?_
    refine gf_X10_37 hC rfl hK hP 0 rfl rfl gX10_isName_0.2.2.2.2.2.1 ?_
    refine lv_aload_n hx hb gX10_isName_0.2.2.2.2.2.2.1 rfl (lv_at0 hl) ?_
    refine gf_X10_34 hC rfl hK hP 0 rfl rfl gX10_isName_0.2.2.2.2.2.2.2.1 ?_
    refine lv_isub hx hb gX10_isName_0.2.2.2.2.2.2.2.2.1 ?_
    refine lv_aload_n hx hb gX10_isName_0.2.2.2.2.2.2.2.2.2 rfl (lv_at1 hl) ?_
    refine pTo (i := i9) (hi9) hO hS hC hK hl (j_len l G K i9 ((hi9))) si_X10_93 rfl rfl (Nat.le_of_ble_eq_true rfl) rm_6_2_1 ⟨by first | exact Nat.le_of_ble_eq_true rfl | exact Nat.zero_le _, by first | exact Nat.le_of_ble_eq_true rfl | exact Nat.zero_le _⟩ gX10_isName_1.1 (fun r3883 hr3883 => ?_)
    obtain rfl := hr3883
    refine lv_icmp_eq (tgt := 27) hx hb gX10_isName_1.2.1 (by decide) (fun c_22_3885 => ?_) (fun c_22_3885 => ?_)
    · refine lv_iconst (v := 0) hx hb gX10_isName_1.2.2.2.2.1 (by decide) ?_
      refine lv_istore_n (lv' := [(2, .int 0), (0, .ref h0), (1, .ref (K.1 i9))]) hx hb gX10_isName_1.2.2.2.2.2.1 rfl hl (by decide) rfl (fun ls hl => ?_)
      have keyP : ∀ (nP kP : Nat) (ls : Array Slot), kP + nP = (SLEN.getD i9 0) → lv_has ls 3 [(2, .int (nI kP)), (0, .ref h0), (1, .ref (K.1 i9))] → W p l e (RM 6 0 0) s m ([.ref h0, .ref (K.1 i9)] : List Value).toArray below meth c s.heap [] 0 0 Q0 (F0 m 29 ls []) := by
        intro nP
        induction nP with
        | zero =>
          intro kP ls hkP hl
          obtain rfl : (SLEN.getD i9 0) = kP := by omega
          have hl : lv_has ls 3 [(2, .int (nI (SLEN.getD i9 0))), (0, .ref h0), (1, .ref (K.1 i9))] := hl
          refine lv_iload_n hx hb gX10_isName_1.2.2.2.2.2.2.1 rfl (lv_at0 hl) ?_
          refine lv_aload_n hx hb gX10_isName_1.2.2.2.2.2.2.2.1 rfl (lv_at2 hl) ?_
          refine pTo (i := i9) (hi9) hO hS hC hK hl (j_len l G K i9 ((hi9))) si_X10_93 rfl rfl (Nat.le_of_ble_eq_true rfl) rm_6_2_1 ⟨by first | exact Nat.le_of_ble_eq_true rfl | exact Nat.zero_le _, by first | exact Nat.le_of_ble_eq_true rfl | exact Nat.zero_le _⟩ gX10_isName_1.2.2.2.2.2.2.2.2.1 (fun r3886 hr3886 => ?_)
          obtain rfl := hr3886
          refine lv_icmp_ge (tgt := 63) hx hb gX10_isName_1.2.2.2.2.2.2.2.2.2 (by decide) (fun _ => ?_) (fun c9 => absurd (Int32.le_refl _) c9)
          refine lv_iconst (v := 1) hx hb gX10_isName_3.2.2.2.2.1 (by decide) ?_
          refine toQ hQ0 ?_
          exact RP (v := 1) hC (Or.inl (rfl)) (by decide +kernel) gX10_isName_3.2.2.2.2.2
        | succ nP ihP =>
          intro kP ls hkP hl
          refine lv_iload_n hx hb gX10_isName_1.2.2.2.2.2.2.1 rfl (lv_at0 hl) ?_
          refine lv_aload_n hx hb gX10_isName_1.2.2.2.2.2.2.2.1 rfl (lv_at2 hl) ?_
          refine pTo (i := i9) (hi9) hO hS hC hK hl (j_len l G K i9 ((hi9))) si_X10_93 rfl rfl (Nat.le_of_ble_eq_true rfl) rm_6_2_1 ⟨by first | exact Nat.le_of_ble_eq_true rfl | exact Nat.zero_le _, by first | exact Nat.le_of_ble_eq_true rfl | exact Nat.zero_le _⟩ gX10_isName_1.2.2.2.2.2.2.2.2.1 (fun r3888 hr3888 => ?_)
          obtain rfl := hr3888
          refine lv_icmp_ge (tgt := 63) hx hb gX10_isName_1.2.2.2.2.2.2.2.2.2 (by decide) (fun c9 => absurd c9 (nI_ge (a := kP) (b := (SLEN.getD i9 0)) (by omega) (by omega))) (fun _ => ?_)
          refine lv_aload_n hx hb gX10_isName_2.1 rfl (lv_at1 hl) ?_
          refine lv_aload_n hx hb gX10_isName_2.2.1 rfl (lv_at1 hl) ?_
          refine gf_X10_34 hC rfl hK hP 0 rfl rfl gX10_isName_2.2.2.1 ?_
          refine lv_iload_n hx hb gX10_isName_2.2.2.2.1 rfl (lv_at0 hl) ?_
          refine lv_iadd hx hb gX10_isName_2.2.2.2.2.1 ?_
          refine pV hC hK hl hP hD (t_byteAt l G h0 ((nI ks) + (nI kP)) tby kt tln tsp tkd (nI ks) (nI kn) tf9 fby) si_X10_78 [0, 1] sm_0_1 fm_0_1 nd_0_1 rfl rfl rfl rfl rfl (Nat.le_of_ble_eq_true rfl) rm_6_1_2 ⟨by first | exact Nat.le_of_ble_eq_true rfl | exact Nat.zero_le _, by first | exact Nat.le_of_ble_eq_true rfl | exact Nat.zero_le _⟩ gX10_isName_2.2.2.2.2.2.1 (fun r3890 hr3890 => ?_)
          refine lv_aload_n hx hb gX10_isName_2.2.2.2.2.2.2.1 rfl (lv_at2 hl) ?_
          refine lv_iload_n hx hb gX10_isName_2.2.2.2.2.2.2.2.1 rfl (lv_at0 hl) ?_
          refine pTo (i := i9) (hi9) hO hS hC hK hl (j_chr l G K i9 kP ((hi9)) (by omega)) si_X10_98 rfl rfl (Nat.le_of_ble_eq_true rfl) rm_6_4_2 ⟨by first | exact Nat.le_of_ble_eq_true rfl | exact Nat.zero_le _, by first | exact Nat.le_of_ble_eq_true rfl | exact Nat.zero_le _⟩ gX10_isName_2.2.2.2.2.2.2.2.2.1 (fun r3891 hr3891 => ?_)
          obtain rfl := hr3891
          refine lv_icmp_eq (tgt := 57) hx hb gX10_isName_2.2.2.2.2.2.2.2.2.2 (by decide) (fun c_52_3893 => ?_) (fun c_52_3893 => ?_)
          · refine lv_iinc (v := nI (kP + 1)) (lv' := [(2, .int (nI (kP + 1))), (0, .ref h0), (1, .ref (K.1 i9))]) hx hb gX10_isName_3.2.2.1 hl (k := 0) rfl (nI_1 _) (by decide) rfl (fun ls hl => ?_)
            refine lv_goto (tgt := 29) hx hb gX10_isName_3.2.2.2.1 (by decide) ?_
            exact ihP (kP + 1) _ (by omega) (lv_sub hl [0, 1, 2] rfl)
          · refine lv_iconst (v := 0) hx hb gX10_isName_3.1 (by decide) ?_
            refine toQ hQ0 ?_
            exact RP (v := 0) hC (Or.inr (rfl)) (by decide +kernel) gX10_isName_3.2.1
      exact keyP (SLEN.getD i9 0) 0 _ (by omega) (lv_sub hl [0, 1, 2] rfl)
    · refine lv_iconst (v := 0) hx hb gX10_isName_1.2.2.1 (by decide) ?_
      refine toQ hQ0 ?_
      exact RP (v := 0) hC (Or.inr (rfl)) (by decide +kernel) gX10_isName_1.2.2.2.1
def K_t_takesName (l : Launch) (G : GG) (K : OO) (i9 : Nat) (h0 : Nat) (tby : Nat) (kt : Nat) (tln : Nat) (tsp : Nat) (tkd : Int32) (ks : Nat) (kn : Nat) (tf9 : Int32) (fby : Nat → Int32) : Prop := MIo l G K yX10_takesName cX10_takesName 2 (some .boolean) 7 0 0 [.ref h0, .ref (K.1 i9)] [(h0, oX10 tby (nI kt) tln tsp tkd (nI ks) (nI kn) tf9), (tby, iA G 240 fby)] (fun (r : Int32) (u : Int32 × Nat × Nat × Int32) => (r = 1 ∨ r = 0) ∧ (u.2.1 ≤ 240 ∧ u.2.2.1 ≤ 240)) (fun u : Int32 × Nat × Nat × Int32 => [(h0, oX10 tby (nI kt) tln tsp u.1 (nI u.2.1) (nI u.2.2.1) u.2.2.2), (tby, iA G 240 fby)])
set_option maxHeartbeats 4000000 in
set_option maxRecDepth 100000 in
theorem t_takesName (l : Launch) (G : GG) (K : OO) (i9 : Nat) (h0 : Nat) (tby : Nat) (kt : Nat) (tln : Nat) (tsp : Nat) (tkd : Int32) (ks : Nat) (kn : Nat) (tf9 : Int32) (fby : Nat → Int32) (hkt : kt ≤ 240) (hks : ks ≤ 240) (hkn : kn ≤ 240) (hi9 : i9 < 16) : K_t_takesName l G K i9 h0 tby kt tln tsp tkd ks kn tf9 fby := by
  refine MIo.start (by decide +kernel) (Nat.le_of_ble_eq_true rfl) ?_
  intro p e s m below meth c A ls hC hK hP hD hS hA hl hO
  refine absQ (fun Q0 hQ0 => ?_)
  have hl : lv_has ls 2 [(0, .ref h0), (1, .ref (K.1 i9))] := hl
  refine Kan8 hC (fun hx hb hr hml hB hown hlocks hnm => ?_)
  refine lv_aload_n hx hb gX10_takesName_0.1 rfl (lv_at0 hl) ?_
  refine lv_aload_n hx hb gX10_takesName_0.2.1 rfl (lv_at1 hl) ?_
  refine pVo hO hS hC hK hl hP hD (t_isName l G K i9 h0 tby kt tln tsp tkd ks kn tf9 fby (hkt) (hks) (hkn) ((hi9))) si_X10_102 [0, 1] sm_0_1 fm_0_1 nd_0_1 rfl rfl rfl rfl rfl (Nat.le_of_ble_eq_true rfl) rm_7_6_3 ⟨by first | exact Nat.le_of_ble_eq_true rfl | exact Nat.zero_le _, by first | exact Nat.le_of_ble_eq_true rfl | exact Nat.zero_le _⟩ gX10_takesName_0.2.2.1 (Kors (Keqr ?_) (Keqr ?_))
  · refine lv_if_ne (tgt := 13) hx hb gX10_takesName_0.2.2.2.1 (by decide) (fun _ => ?_) (fun c9 => absurd c9 (by decide))
    refine lv_aload_n hx hb gX10_takesName_0.2.2.2.2.2.2.2.1 rfl (lv_at0 hl) ?_
    refine vV (wr := []) hC hK hl hP hD hS hA (t_advance l G h0 tby kt tln tsp tkd ks kn tf9 fby (hkt) (hks) (hkn)) si_X10_47 [0, 1] [] sm_0_1 fm_0_1 nd_0_1 rfl rfl (by decide) rfl rfl rfl rfl rfl (Nat.le_of_ble_eq_true rfl) rm_7_3_1 ⟨Nat.le_of_ble_eq_true rfl, Nat.le_of_ble_eq_true rfl⟩ gX10_takesName_0.2.2.2.2.2.2.2.2.1 (Ktu3 fun kd13898 ks13899 kn13900 => ?_)
    intro H locs hr3896 hP hD hS
    try dsimp only at hr3896
    refine Kpdr (ws := [(h0, oX10 tby (nI kt) tln tsp kd13898 (nI ks13899) (nI kn13900) tf9), (tby, iA G 240 fby)]) hP hD (fun hP hD => ?_)
    have w3901 := hr3896
    refine lv_iconst (v := 1) hx hb gX10_takesName_0.2.2.2.2.2.2.2.2.2 (by decide) ?_
    refine toQ hQ0 ?_
    exact RI (v := 1) hC hP hD hS [0, 1] (kd13898, ks13899, kn13900, tf9) rfl rfl (by decide) (⟨Or.inl (rfl), by dsimp only; omega⟩) (by decide +kernel) gX10_takesName_1
  · refine lv_if_ne (tgt := 13) hx hb gX10_takesName_0.2.2.2.1 (by decide) (fun c9 => absurd (by decide) c9) (fun _ => ?_)
    refine lv_aload_n hx hb gX10_takesName_0.2.2.2.2.1 rfl (lv_at0 hl) ?_
    refine iV (wr := [(tby, iA G 240 fby)]) hC hK hl hP hD hS hA (t_refuse l G h0 tby kt tln tsp tkd ks kn tf9) si_X10_106 [0] [1] sm_0 fm_0 nd_0 sm_1 nd_1 dj_0__1 rfl rfl rfl rfl rfl (Nat.le_of_ble_eq_true rfl) rm_7_1_1 ⟨Nat.le_of_ble_eq_true rfl, Nat.le_of_ble_eq_true rfl⟩ gX10_takesName_0.2.2.2.2.2.1 (fun r3902 tf13904 H locs hr3902 hP hD hS => ?_)
    try dsimp only at hr3902
    refine Kpdr (ws := [(tby, iA G 240 fby), (h0, oX10 tby (nI kt) tln tsp tkd (nI ks) (nI kn) tf13904)]) hP hD (fun hP hD => ?_)
    obtain rfl := hr3902
    refine toQ hQ0 ?_
    exact RI (v := 0) hC hP hD hS [1, 0] (tkd, ks, kn, tf13904) rfl rfl (by decide) (⟨Or.inr (rfl), by dsimp only; omega⟩) (by decide +kernel) gX10_takesName_0.2.2.2.2.2.2.1
def K_t_takesByte (l : Launch) (G : GG) (h0 : Nat) (b9 : Int32) (tby : Nat) (kt : Nat) (tln : Nat) (tsp : Nat) (tkd : Int32) (ks : Nat) (kn : Nat) (tf9 : Int32) (fby : Nat → Int32) : Prop := MI l G yX10_takesByte cX10_takesByte 2 (some .boolean) 4 0 0 [.ref h0, .int b9] [(h0, oX10 tby (nI kt) tln tsp tkd (nI ks) (nI kn) tf9), (tby, iA G 240 fby)] (fun (r : Int32) (u : Int32 × Nat × Nat × Int32) => (r = 1 ∨ r = 0) ∧ (u.2.1 ≤ 240 ∧ u.2.2.1 ≤ 240)) (fun u : Int32 × Nat × Nat × Int32 => [(h0, oX10 tby (nI kt) tln tsp u.1 (nI u.2.1) (nI u.2.2.1) u.2.2.2), (tby, iA G 240 fby)])
set_option maxHeartbeats 4000000 in
set_option maxRecDepth 100000 in
theorem t_takesByte (l : Launch) (G : GG) (h0 : Nat) (b9 : Int32) (tby : Nat) (kt : Nat) (tln : Nat) (tsp : Nat) (tkd : Int32) (ks : Nat) (kn : Nat) (tf9 : Int32) (fby : Nat → Int32) (hkt : kt ≤ 240) (hks : ks ≤ 240) (hkn : kn ≤ 240) : K_t_takesByte l G h0 b9 tby kt tln tsp tkd ks kn tf9 fby := by
  refine MI.start (by decide +kernel) (Nat.le_of_ble_eq_true rfl) ?_
  intro p e s m below meth c A ls hC hK hP hD hS hA hl
  refine absQ (fun Q0 hQ0 => ?_)
  have hl : lv_has ls 2 [(0, .ref h0), (1, .int b9)] := hl
  refine Kan8 hC (fun hx hb hr hml hB hown hlocks hnm => ?_)
  refine lv_aload_n hx hb gX10_takesByte_0.1 rfl (lv_at0 hl) ?_
  refine gf_X10_31 hC rfl hK hP 0 rfl rfl gX10_takesByte_0.2.1 ?_
  refine lv_iload_n hx hb gX10_takesByte_0.2.2.1 rfl (lv_at1 hl) ?_
  refine lv_icmp_eq (tgt := 13) hx hb gX10_takesByte_0.2.2.2.1 (by decide) (fun c_5_3906 => ?_) (fun c_5_3906 => ?_)
  · refine lv_aload_n hx hb gX10_takesByte_0.2.2.2.2.2.2.2.1 rfl (lv_at0 hl) ?_
    refine vV (wr := []) hC hK hl hP hD hS hA (t_advance l G h0 tby kt tln tsp tkd ks kn tf9 fby (hkt) (hks) (hkn)) si_X10_47 [0, 1] [] sm_0_1 fm_0_1 nd_0_1 rfl rfl (by decide) rfl rfl rfl rfl rfl (Nat.le_of_ble_eq_true rfl) rm_4_3_1 ⟨Nat.le_of_ble_eq_true rfl, Nat.le_of_ble_eq_true rfl⟩ gX10_takesByte_0.2.2.2.2.2.2.2.2.1 (Ktu3 fun kd13909 ks13910 kn13911 => ?_)
    intro H locs hr3907 hP hD hS
    try dsimp only at hr3907
    refine Kpdr (ws := [(h0, oX10 tby (nI kt) tln tsp kd13909 (nI ks13910) (nI kn13911) tf9), (tby, iA G 240 fby)]) hP hD (fun hP hD => ?_)
    have w3912 := hr3907
    refine lv_iconst (v := 1) hx hb gX10_takesByte_0.2.2.2.2.2.2.2.2.2 (by decide) ?_
    refine toQ hQ0 ?_
    exact RI (v := 1) hC hP hD hS [0, 1] (kd13909, ks13910, kn13911, tf9) rfl rfl (by decide) (⟨Or.inl (rfl), by dsimp only; omega⟩) (by decide +kernel) gX10_takesByte_1
  · refine lv_aload_n hx hb gX10_takesByte_0.2.2.2.2.1 rfl (lv_at0 hl) ?_
    refine iV (wr := [(tby, iA G 240 fby)]) hC hK hl hP hD hS hA (t_refuse l G h0 tby kt tln tsp tkd ks kn tf9) si_X10_106 [0] [1] sm_0 fm_0 nd_0 sm_1 nd_1 dj_0__1 rfl rfl rfl rfl rfl (Nat.le_of_ble_eq_true rfl) rm_4_1_1 ⟨Nat.le_of_ble_eq_true rfl, Nat.le_of_ble_eq_true rfl⟩ gX10_takesByte_0.2.2.2.2.2.1 (fun r3913 tf13915 H locs hr3913 hP hD hS => ?_)
    try dsimp only at hr3913
    refine Kpdr (ws := [(tby, iA G 240 fby), (h0, oX10 tby (nI kt) tln tsp tkd (nI ks) (nI kn) tf13915)]) hP hD (fun hP hD => ?_)
    obtain rfl := hr3913
    refine toQ hQ0 ?_
    exact RI (v := 0) hC hP hD hS [1, 0] (tkd, ks, kn, tf13915) rfl rfl (by decide) (⟨Or.inr (rfl), by dsimp only; omega⟩) (by decide +kernel) gX10_takesByte_0.2.2.2.2.2.2.1
def K_t_numberHere (l : Launch) (G : GG) (h0 : Nat) (tby : Nat) (kt : Nat) (tln : Nat) (tsp : Nat) (tkd : Int32) (ks : Nat) (kn : Nat) (tf9 : Int32) (fby : Nat → Int32) : Prop := MP l G yX10_numberHere cX10_numberHere 3 (some .int) 3 [.ref h0] [(h0, oX10 tby (nI kt) tln tsp tkd (nI ks) (nI kn) tf9), (tby, iA G 240 fby)] (fun r : Int32 => True)
set_option maxHeartbeats 4000000 in
set_option maxRecDepth 100000 in
theorem t_numberHere (l : Launch) (G : GG) (h0 : Nat) (tby : Nat) (kt : Nat) (tln : Nat) (tsp : Nat) (tkd : Int32) (ks : Nat) (kn : Nat) (tf9 : Int32) (fby : Nat → Int32) (hkt : kt ≤ 240) (hks : ks ≤ 240) (hkn : kn ≤ 240) : K_t_numberHere l G h0 tby kt tln tsp tkd ks kn tf9 fby := by
  refine MP.start (by decide +kernel) (Nat.le_of_ble_eq_true rfl) ?_
  intro p e s m below meth c ls hC hK hP hD hl
  refine absQ (fun Q0 hQ0 => ?_)
  have hl : lv_has ls 3 [(0, .ref h0)] := hl
  refine Kan8 hC (fun hx hb hr hml hB hown hlocks hnm => ?_)
  refine lv_aload_n hx hb gX10_numberHere_0.1 rfl (lv_at0 hl) ?_
  refine gf_X10_31 hC rfl hK hP 0 rfl rfl gX10_numberHere_0.2.1 ?_
  refine lv_bipush (v := (-3)) hx hb gX10_numberHere_0.2.2.1 (by decide) ?_
  refine lv_icmp_ne (tgt := 22) hx hb gX10_numberHere_0.2.2.2.1 (by decide) (fun c_6_3917 => ?_) (fun c_6_3917 => ?_)
  · refine lv_iconst (v := (-1)) hx hb gX10_numberHere_1.2.1 (by decide) ?_
    refine toQ hQ0 ?_
    exact RP (v := (-1)) hC (trivial) rfl gX10_numberHere_1.2.2.1
  · refine lv_aload_n hx hb gX10_numberHere_0.2.2.2.2.1 rfl (lv_at0 hl) ?_
    refine gf_X10_37 hC rfl hK hP 0 rfl rfl gX10_numberHere_0.2.2.2.2.2.1 ?_
    refine lv_aload_n hx hb gX10_numberHere_0.2.2.2.2.2.2.1 rfl (lv_at0 hl) ?_
    refine gf_X10_34 hC rfl hK hP 0 rfl rfl gX10_numberHere_0.2.2.2.2.2.2.2.1 ?_
    refine lv_isub hx hb gX10_numberHere_0.2.2.2.2.2.2.2.2.1 ?_
    refine lv_iconst (v := 3) hx hb gX10_numberHere_0.2.2.2.2.2.2.2.2.2 (by decide) ?_
    refine lv_icmp_le (tgt := 24) hx hb gX10_numberHere_1.1 (by decide) (fun c_19_3918 => ?_) (fun c_19_3918 => ?_)
    · refine lv_iconst (v := 0) hx hb gX10_numberHere_1.2.2.2.1 (by decide) ?_
      refine lv_istore_n (lv' := [(1, .int 0), (0, .ref h0)]) hx hb gX10_numberHere_1.2.2.2.2.1 rfl hl (by decide) rfl (fun ls hl => ?_)
      refine lv_aload_n hx hb gX10_numberHere_1.2.2.2.2.2.1 rfl (lv_at1 hl) ?_
      refine gf_X10_34 hC rfl hK hP 0 rfl rfl gX10_numberHere_1.2.2.2.2.2.2.1 ?_
      refine lv_istore_n (lv' := [(2, .int (nI ks)), (1, .int 0), (0, .ref h0)]) hx hb gX10_numberHere_1.2.2.2.2.2.2.2.1 rfl hl (by decide) rfl (fun ls hl => ?_)
      have keyP : ∀ (nP kP : Nat) (nn : Int32) (ls : Array Slot), kP < 2 ^ 31 → (nI kn).toInt ≤ ((kP + nP : Nat) : Int) → lv_has ls 3 [(2, .int (nI kP)), (1, .int nn), (0, .ref h0)] → W p l e (RM 3 0 0) s m ([.ref h0] : List Value).toArray below meth c s.heap [] 0 0 Q0 (F0 m 31 ls []) := by
        intro nP
        induction nP with
        | zero =>
          intro kP nn ls hjP hkP hl
          have hzP : nI kn ≤ nI kP := bz hjP (by omega)
          refine lv_iload_n hx hb gX10_numberHere_1.2.2.2.2.2.2.2.2.1 rfl (lv_at0 hl) ?_
          refine lv_aload_n hx hb gX10_numberHere_1.2.2.2.2.2.2.2.2.2 rfl (lv_at2 hl) ?_
          refine gf_X10_37 hC rfl hK hP 0 rfl rfl gX10_numberHere_2.1 ?_
          refine lv_icmp_ge (tgt := 59) hx hb gX10_numberHere_2.2.1 (by decide) (fun _ => ?_) (fun c9 => absurd (hzP) c9)
          refine lv_iload_n hx hb gX10_numberHere_3.2.2.2.2.1 rfl (lv_at1 hl) ?_
          refine toQ hQ0 ?_
          exact RP (v := nn) hC (trivial) rfl gX10_numberHere_3.2.2.2.2.2
        | succ nP ihP =>
          intro kP nn ls hjP hkP hl
          refine lv_iload_n hx hb gX10_numberHere_1.2.2.2.2.2.2.2.2.1 rfl (lv_at0 hl) ?_
          refine lv_aload_n hx hb gX10_numberHere_1.2.2.2.2.2.2.2.2.2 rfl (lv_at2 hl) ?_
          refine gf_X10_37 hC rfl hK hP 0 rfl rfl gX10_numberHere_2.1 ?_
          refine lv_icmp_ge (tgt := 59) hx hb gX10_numberHere_2.2.1 (by decide) (fun c_36_3919 => ?_) (fun c_36_3919 => ?_)
          · refine lv_iload_n hx hb gX10_numberHere_3.2.2.2.2.1 rfl (lv_at1 hl) ?_
            refine toQ hQ0 ?_
            exact RP (v := nn) hC (trivial) rfl gX10_numberHere_3.2.2.2.2.2
          · refine lv_iload_n hx hb gX10_numberHere_2.2.2.1 rfl (lv_at1 hl) ?_
            refine lv_bipush (v := 10) hx hb gX10_numberHere_2.2.2.2.1 (by decide) ?_
            refine lv_imul hx hb gX10_numberHere_2.2.2.2.2.1 ?_
            refine lv_aload_n hx hb gX10_numberHere_2.2.2.2.2.2.1 rfl (lv_at2 hl) ?_
            refine lv_iload_n hx hb gX10_numberHere_2.2.2.2.2.2.2.1 rfl (lv_at0 hl) ?_
            refine pV hC hK hl hP hD (t_byteAt l G h0 (nI kP) tby kt tln tsp tkd (nI ks) (nI kn) tf9 fby) si_X10_78 [0, 1] sm_0_1 fm_0_1 nd_0_1 rfl rfl rfl rfl rfl (Nat.le_of_ble_eq_true rfl) rm_3_1_2 ⟨by first | exact Nat.le_of_ble_eq_true rfl | exact Nat.zero_le _, by first | exact Nat.le_of_ble_eq_true rfl | exact Nat.zero_le _⟩ gX10_numberHere_2.2.2.2.2.2.2.2.1 (fun r3920 hr3920 => ?_)
            refine lv_iadd hx hb gX10_numberHere_2.2.2.2.2.2.2.2.2.1 ?_
            refine lv_bipush (v := 48) hx hb gX10_numberHere_2.2.2.2.2.2.2.2.2.2 (by decide) ?_
            refine lv_isub hx hb gX10_numberHere_3.1 ?_
            refine lv_istore_n (lv' := [(1, .int (((nn * 10) + r3920) - 48)), (2, .int (nI kP)), (0, .ref h0)]) hx hb gX10_numberHere_3.2.1 rfl hl (by decide) rfl (fun ls hl => ?_)
            refine lv_iinc (v := nI (kP + 1)) (lv' := [(2, .int (nI (kP + 1))), (1, .int (((nn * 10) + r3920) - 48)), (0, .ref h0)]) hx hb gX10_numberHere_3.2.2.1 hl (k := 1) rfl (nI_1 _) (by decide) rfl (fun ls hl => ?_)
            refine lv_goto (tgt := 31) hx hb gX10_numberHere_3.2.2.2.1 (by decide) ?_
            exact ihP (kP + 1) (((nn * 10) + r3920) - 48) _ (bs hjP c_36_3919) (by omega) (lv_sub hl [0, 1, 2] rfl)
      exact keyP (nI kn).toInt.toNat ks 0 _ (by first | decide | omega) (by omega) (lv_sub hl [0, 1, 2] rfl)
    · refine lv_iconst (v := (-1)) hx hb gX10_numberHere_1.2.1 (by decide) ?_
      refine toQ hQ0 ?_
      exact RP (v := (-1)) hC (trivial) rfl gX10_numberHere_1.2.2.1
def K_t_takesNumber (l : Launch) (G : GG) (h0 : Nat) (li : Int32) (co : Int32) (mo : Int32) (tby : Nat) (kt : Nat) (tln : Nat) (tsp : Nat) (tkd : Int32) (ks : Nat) (kn : Nat) (tf9 : Int32) (fby : Nat → Int32) (tlnc : Nat) (kln : Nat) (ftln : Nat → Int32) : Prop := MI l G yX10_takesNumber cX10_takesNumber 5 (some .boolean) 4 0 0 [.ref h0, .int li, .int co, .int mo] [(h0, oX10 tby (nI kt) tln tsp tkd (nI ks) (nI kn) tf9), (tby, iA G 240 fby), (tln, oX8 9 7 tlnc (nI kln)), (tlnc, iA G 63 ftln)] (fun (r : Int32) (u : Int32 × Nat × Nat × Int32 × (Nat → Int32)) => (r = 1 ∨ r = 0) ∧ (u.2.1 ≤ 240 ∧ u.2.2.1 ≤ 240)) (fun u : Int32 × Nat × Nat × Int32 × (Nat → Int32) => [(h0, oX10 tby (nI kt) tln tsp u.1 (nI u.2.1) (nI u.2.2.1) u.2.2.2.1), (tby, iA G 240 fby), (tln, oX8 9 7 tlnc (nI kln)), (tlnc, iA G 63 u.2.2.2.2)])
set_option maxHeartbeats 4000000 in
set_option maxRecDepth 100000 in
theorem t_takesNumber (l : Launch) (G : GG) (h0 : Nat) (li : Int32) (co : Int32) (mo : Int32) (tby : Nat) (kt : Nat) (tln : Nat) (tsp : Nat) (tkd : Int32) (ks : Nat) (kn : Nat) (tf9 : Int32) (fby : Nat → Int32) (tlnc : Nat) (kln : Nat) (ftln : Nat → Int32) (hkt : kt ≤ 240) (hks : ks ≤ 240) (hkn : kn ≤ 240) (hkln : kln ≤ 9) : K_t_takesNumber l G h0 li co mo tby kt tln tsp tkd ks kn tf9 fby tlnc kln ftln := by
  refine MI.start (by decide +kernel) (Nat.le_of_ble_eq_true rfl) ?_
  intro p e s m below meth c A ls hC hK hP hD hS hA hl
  refine absQ (fun Q0 hQ0 => ?_)
  have hl : lv_has ls 5 [(0, .ref h0), (1, .int li), (2, .int co), (3, .int mo)] := hl
  refine Kan8 hC (fun hx hb hr hml hB hown hlocks hnm => ?_)
  refine lv_aload_n hx hb gX10_takesNumber_0.1 rfl (lv_at0 hl) ?_
  refine pV hC hK hl hP hD (t_numberHere l G h0 tby kt tln tsp tkd ks kn tf9 fby (hkt) (hks) (hkn)) si_X10_109 [0, 1] sm_0_1 fm_0_1 nd_0_1 rfl rfl rfl rfl rfl (Nat.le_of_ble_eq_true rfl) rm_4_3_3 ⟨by first | exact Nat.le_of_ble_eq_true rfl | exact Nat.zero_le _, by first | exact Nat.le_of_ble_eq_true rfl | exact Nat.zero_le _⟩ gX10_takesNumber_0.2.1 (fun r3921 hr3921 => ?_)
  refine lv_istore (lv' := [(4, .int r3921), (0, .ref h0), (1, .int li), (2, .int co), (3, .int mo)]) hx hb gX10_takesNumber_0.2.2.1 hl (by decide) rfl (fun ls hl => ?_)
  refine lv_iload hx hb gX10_takesNumber_0.2.2.2.1 (lv_at0 hl) ?_
  refine lv_iconst (v := 0) hx hb gX10_takesNumber_0.2.2.2.2.1 (by decide) ?_
  refine lv_iload_n hx hb gX10_takesNumber_0.2.2.2.2.2.1 rfl (lv_at4 hl) ?_
  refine pSN hC hK hl (c_within l G r3921 0 mo) si_X10_89 rfl rfl (Nat.le_of_ble_eq_true rfl) rm_4_1_3 ⟨by first | exact Nat.le_of_ble_eq_true rfl | exact Nat.zero_le _, by first | exact Nat.le_of_ble_eq_true rfl | exact Nat.zero_le _⟩ gX10_takesNumber_0.2.2.2.2.2.2.1 (Kors (Keqa fun a3923 => ?_) (Keqa fun a3923 => ?_))
  · refine lv_if_ne (tgt := 21) hx hb gX10_takesNumber_0.2.2.2.2.2.2.2.1 (by decide) (fun _ => ?_) (fun c9 => absurd c9 (by decide))
    refine lv_aload_n hx hb gX10_takesNumber_1.2.1 rfl (lv_at1 hl) ?_
    refine gf_X10_20 hC rfl hK hP 0 rfl rfl gX10_takesNumber_1.2.2.1 ?_
    refine lv_iload_n hx hb gX10_takesNumber_1.2.2.2.1 rfl (lv_at2 hl) ?_
    refine lv_iload_n hx hb gX10_takesNumber_1.2.2.2.2.1 rfl (lv_at3 hl) ?_
    refine lv_iload hx hb gX10_takesNumber_1.2.2.2.2.2.1 (lv_at0 hl) ?_
    refine vV (wr := [(h0, oX10 tby (nI kt) tln tsp tkd (nI ks) (nI kn) tf9), (tby, iA G 240 fby)]) hC hK hl hP hD hS hA (c_T_set l G tln li co r3921 9 7 tlnc kln ftln (hkln) (by omega) (by omega)) si_X10_66 [2, 3] [0, 1] sm_2_3 fm_2_3 nd_2_3 sm_0_1 nd_0_1 dj_2_3__0_1 rfl rfl rfl rfl rfl (Nat.le_of_ble_eq_true rfl) rm_4_1_4 ⟨Nat.le_of_ble_eq_true rfl, Nat.le_of_ble_eq_true rfl⟩ gX10_takesNumber_1.2.2.2.2.2.2.1 (fun f13926 H locs hr3924 hP hD hS => ?_)
    try dsimp only at hr3924
    refine Kpdr (ws := [(h0, oX10 tby (nI kt) tln tsp tkd (nI ks) (nI kn) tf9), (tby, iA G 240 fby), (tln, oX8 9 7 tlnc (nI kln)), (tlnc, iA G 63 f13926)]) hP hD (fun hP hD => ?_)
    have w3927 := hr3924
    refine lv_aload_n hx hb gX10_takesNumber_1.2.2.2.2.2.2.2.1 rfl (lv_at1 hl) ?_
    refine vV (wr := [(tln, oX8 9 7 tlnc (nI kln)), (tlnc, iA G 63 f13926)]) hC hK hl hP hD hS hA (t_advance l G h0 tby kt tln tsp tkd ks kn tf9 fby (hkt) (hks) (hkn)) si_X10_47 [0, 1] [2, 3] sm_0_1 fm_0_1 nd_0_1 sm_2_3 nd_2_3 dj_0_1__2_3 rfl rfl rfl rfl rfl (Nat.le_of_ble_eq_true rfl) rm_4_3_1 ⟨Nat.le_of_ble_eq_true rfl, Nat.le_of_ble_eq_true rfl⟩ gX10_takesNumber_1.2.2.2.2.2.2.2.2.1 (Ktu3 fun kd13930 ks13931 kn13932 => ?_)
    intro H locs hr3928 hP hD hS
    try dsimp only at hr3928
    refine Kpdr (ws := [(tln, oX8 9 7 tlnc (nI kln)), (tlnc, iA G 63 f13926), (h0, oX10 tby (nI kt) tln tsp kd13930 (nI ks13931) (nI kn13932) tf9), (tby, iA G 240 fby)]) hP hD (fun hP hD => ?_)
    have w3933 := hr3928
    refine lv_iconst (v := 1) hx hb gX10_takesNumber_1.2.2.2.2.2.2.2.2.2 (by decide) ?_
    refine toQ hQ0 ?_
    exact RI (v := 1) hC hP hD hS [2, 3, 0, 1] (kd13930, ks13931, kn13932, tf9, f13926) rfl rfl (by decide) (⟨Or.inl (rfl), by dsimp only; omega⟩) (by decide +kernel) gX10_takesNumber_2
  · refine lv_if_ne (tgt := 21) hx hb gX10_takesNumber_0.2.2.2.2.2.2.2.1 (by decide) (fun c9 => absurd (by decide) c9) (fun _ => ?_)
    refine lv_aload_n hx hb gX10_takesNumber_0.2.2.2.2.2.2.2.2.1 rfl (lv_at1 hl) ?_
    refine iV (wr := [(tby, iA G 240 fby), (tln, oX8 9 7 tlnc (nI kln)), (tlnc, iA G 63 ftln)]) hC hK hl hP hD hS hA (t_refuse l G h0 tby kt tln tsp tkd ks kn tf9) si_X10_106 [0] [1, 2, 3] sm_0 fm_0 nd_0 sm_1_2_3 nd_1_2_3 dj_0__1_2_3 rfl rfl rfl rfl rfl (Nat.le_of_ble_eq_true rfl) rm_4_1_1 ⟨Nat.le_of_ble_eq_true rfl, Nat.le_of_ble_eq_true rfl⟩ gX10_takesNumber_0.2.2.2.2.2.2.2.2.2 (fun r3934 tf13936 H locs hr3934 hP hD hS => ?_)
    try dsimp only at hr3934
    refine Kpdr (ws := [(tby, iA G 240 fby), (tln, oX8 9 7 tlnc (nI kln)), (tlnc, iA G 63 ftln), (h0, oX10 tby (nI kt) tln tsp tkd (nI ks) (nI kn) tf13936)]) hP hD (fun hP hD => ?_)
    obtain rfl := hr3934
    refine toQ hQ0 ?_
    exact RI (v := 0) hC hP hD hS [3, 0, 1, 2] (tkd, ks, kn, tf13936, ftln) rfl rfl (by decide) (⟨Or.inr (rfl), by dsimp only; omega⟩) (by decide +kernel) gX10_takesNumber_1.1
def K_t_addStep (l : Launch) (G : GG) (h0 : Nat) (sp : Int32) (tby : Nat) (kt : Nat) (tln : Nat) (tsp : Nat) (tkd : Int32) (ks : Nat) (kn : Nat) (tf9 : Int32) (tspc : Nat) (ksp : Nat) (ftsp : Nat → Int32) : Prop := MV l G yX10_addStep cX10_addStep 2 2 0 0 [.ref h0, .int sp] [(h0, oX10 tby (nI kt) tln tsp tkd (nI ks) (nI kn) tf9), (tsp, oX8 120 1 tspc (nI ksp)), (tspc, iA G 120 ftsp)] (fun u : Nat × (Nat → Int32) => u.1 ≤ 120) (fun u : Nat × (Nat → Int32) => [(h0, oX10 tby (nI kt) tln tsp tkd (nI ks) (nI kn) tf9), (tsp, oX8 120 1 tspc (nI u.1)), (tspc, iA G 120 u.2)])
set_option maxHeartbeats 4000000 in
set_option maxRecDepth 100000 in
theorem t_addStep (l : Launch) (G : GG) (h0 : Nat) (sp : Int32) (tby : Nat) (kt : Nat) (tln : Nat) (tsp : Nat) (tkd : Int32) (ks : Nat) (kn : Nat) (tf9 : Int32) (tspc : Nat) (ksp : Nat) (ftsp : Nat → Int32) (hksp : ksp ≤ 120) : K_t_addStep l G h0 sp tby kt tln tsp tkd ks kn tf9 tspc ksp ftsp := by
  refine MV.start (by decide +kernel) (Nat.le_of_ble_eq_true rfl) ?_
  intro p e s m below meth c A ls hC hK hP hD hS hA hl
  refine absQ (fun Q0 hQ0 => ?_)
  have hl : lv_has ls 2 [(0, .ref h0), (1, .int sp)] := hl
  refine Kan8 hC (fun hx hb hr hml hB hown hlocks hnm => ?_)
  refine lv_aload_n hx hb gX10_addStep_0.1 rfl (lv_at0 hl) ?_
  refine gf_X10_24 hC rfl hK hP 0 rfl rfl gX10_addStep_0.2.1 ?_
  refine lv_aload_n hx hb gX10_addStep_0.2.2.1 rfl (lv_at0 hl) ?_
  refine gf_X10_24 hC rfl hK hP 0 rfl rfl gX10_addStep_0.2.2.2.1 ?_
  rcases Nat.lt_or_ge ksp 120 with hcap9 | hcap9
  · refine iV (wr := [(h0, oX10 tby (nI kt) tln tsp tkd (nI ks) (nI kn) tf9), (tspc, iA G 120 ftsp)]) hC hK hl hP hD hS hA (c_T_append l G tsp 120 1 tspc ksp (by omega) (by omega)) si_X10_59 [1] [0, 2] sm_1 fm_1 nd_1 sm_0_2 nd_0_2 dj_1__0_2 rfl rfl rfl rfl rfl (Nat.le_of_ble_eq_true rfl) rm_2_1_1 ⟨Nat.le_of_ble_eq_true rfl, Nat.le_of_ble_eq_true rfl⟩ gX10_addStep_0.2.2.2.2.1 (fun r3938 u3939 H locs hr3938 hP hD hS => ?_)
    refine Kpdr (ws := [(h0, oX10 tby (nI kt) tln tsp tkd (nI ks) (nI kn) tf9), (tspc, iA G 120 ftsp), (tsp, oX8 120 1 tspc (nI (ksp + 1)))]) hP hD (fun hP hD => ?_)
    obtain rfl := hr3938
    refine lv_iconst (v := 0) hx hb gX10_addStep_0.2.2.2.2.2.1 (by decide) ?_
    refine lv_iload_n hx hb gX10_addStep_0.2.2.2.2.2.2.1 rfl (lv_at1 hl) ?_
    refine vV (wr := [(h0, oX10 tby (nI kt) tln tsp tkd (nI ks) (nI kn) tf9)]) hC hK hl hP hD hS hA (c_T_set l G tsp (nI ksp) 0 sp 120 1 tspc (ksp + 1) ftsp (by omega) (by omega) (by omega)) si_X10_66 [2, 1] [0] sm_2_1 fm_2_1 nd_2_1 sm_0 nd_0 dj_2_1__0 rfl rfl rfl rfl rfl (Nat.le_of_ble_eq_true rfl) rm_2_1_4 ⟨Nat.le_of_ble_eq_true rfl, Nat.le_of_ble_eq_true rfl⟩ gX10_addStep_0.2.2.2.2.2.2.2.1 (fun f13943 H locs hr3941 hP hD hS => ?_)
    try dsimp only at hr3941
    refine Kpdr (ws := [(h0, oX10 tby (nI kt) tln tsp tkd (nI ks) (nI kn) tf9), (tsp, oX8 120 1 tspc (nI (ksp + 1))), (tspc, iA G 120 f13943)]) hP hD (fun hP hD => ?_)
    have w3944 := hr3941
    refine toQ hQ0 ?_
    exact RV hC hP hD hS [0, 1, 2] ((ksp + 1), f13943) rfl rfl (by decide) (by dsimp only; omega) gX10_addStep_0.2.2.2.2.2.2.2.2
  · refine iV (wr := [(h0, oX10 tby (nI kt) tln tsp tkd (nI ks) (nI kn) tf9), (tspc, iA G 120 ftsp)]) hC hK hl hP hD hS hA (c_T_appendF l G tsp 120 1 tspc ksp (by omega) (by omega)) si_X10_59 [1] [0, 2] sm_1 fm_1 nd_1 sm_0_2 nd_0_2 dj_1__0_2 rfl rfl rfl rfl rfl (Nat.le_of_ble_eq_true rfl) rm_2_1_1 ⟨Nat.le_of_ble_eq_true rfl, Nat.le_of_ble_eq_true rfl⟩ gX10_addStep_0.2.2.2.2.1 (fun r3945 u3946 H locs hr3945 hP hD hS => ?_)
    refine Kpdr (ws := [(h0, oX10 tby (nI kt) tln tsp tkd (nI ks) (nI kn) tf9), (tspc, iA G 120 ftsp), (tsp, oX8 120 1 tspc (nI ksp))]) hP hD (fun hP hD => ?_)
    obtain rfl := hr3945
    refine lv_iconst (v := 0) hx hb gX10_addStep_0.2.2.2.2.2.1 (by decide) ?_
    refine lv_iload_n hx hb gX10_addStep_0.2.2.2.2.2.2.1 rfl (lv_at1 hl) ?_
    refine vV (wr := [(h0, oX10 tby (nI kt) tln tsp tkd (nI ks) (nI kn) tf9)]) hC hK hl hP hD hS hA (c_T_set l G tsp (-2) 0 sp 120 1 tspc ksp ftsp (hksp) (by omega) (by omega)) si_X10_66 [2, 1] [0] sm_2_1 fm_2_1 nd_2_1 sm_0 nd_0 dj_2_1__0 rfl rfl rfl rfl rfl (Nat.le_of_ble_eq_true rfl) rm_2_1_4 ⟨Nat.le_of_ble_eq_true rfl, Nat.le_of_ble_eq_true rfl⟩ gX10_addStep_0.2.2.2.2.2.2.2.1 (fun f13950 H locs hr3948 hP hD hS => ?_)
    try dsimp only at hr3948
    refine Kpdr (ws := [(h0, oX10 tby (nI kt) tln tsp tkd (nI ks) (nI kn) tf9), (tsp, oX8 120 1 tspc (nI ksp)), (tspc, iA G 120 f13950)]) hP hD (fun hP hD => ?_)
    have w3951 := hr3948
    refine toQ hQ0 ?_
    exact RV hC hP hD hS [0, 1, 2] (ksp, f13950) rfl rfl (by decide) (by dsimp only; omega) gX10_addStep_0.2.2.2.2.2.2.2.2
def K_t_factHere (l : Launch) (G : GG) (K : OO) (h0 : Nat) (tby : Nat) (kt : Nat) (tln : Nat) (tsp : Nat) (tkd : Int32) (ks : Nat) (kn : Nat) (tf9 : Int32) (fby : Nat → Int32) : Prop := MPo l G K yX10_factHere cX10_factHere 1 (some .int) 7 [.ref h0] [(h0, oX10 tby (nI kt) tln tsp tkd (nI ks) (nI kn) tf9), (tby, iA G 240 fby)] (fun r : Int32 => True)
set_option maxHeartbeats 4000000 in
set_option maxRecDepth 100000 in
theorem t_factHere (l : Launch) (G : GG) (K : OO) (h0 : Nat) (tby : Nat) (kt : Nat) (tln : Nat) (tsp : Nat) (tkd : Int32) (ks : Nat) (kn : Nat) (tf9 : Int32) (fby : Nat → Int32) (hkt : kt ≤ 240) (hks : ks ≤ 240) (hkn : kn ≤ 240) : K_t_factHere l G K h0 tby kt tln tsp tkd ks kn tf9 fby := by
  refine MPo.start (by decide +kernel) (Nat.le_of_ble_eq_true rfl) ?_
  intro p e s m below meth c ls hC hK hP hD hl hO hS
  refine absQ (fun Q0 hQ0 => ?_)
  have hl : lv_has ls 1 [(0, .ref h0)] := hl
  refine Kan8 hC (fun hx hb hr hml hB hown hlocks hnm => ?_)
  refine lv_aload_n hx hb gX10_factHere_0.1 rfl (lv_at0 hl) ?_
  refine va_ldcS (index := 171) (tx := "person") hx hb hown (hO.2.1 11 (by decide)) gX10_factHere_0.2.1 ?_
  refine pVo hO hS hC hK hl hP hD (t_isName l G K 11 h0 tby kt tln tsp tkd ks kn tf9 fby (hkt) (hks) (hkn) ((by decide))) si_X10_102 [0, 1] sm_0_1 fm_0_1 nd_0_1 rfl rfl rfl rfl rfl (Nat.le_of_ble_eq_true rfl) rm_7_6_3 ⟨by first | exact Nat.le_of_ble_eq_true rfl | exact Nat.zero_le _, by first | exact Nat.le_of_ble_eq_true rfl | exact Nat.zero_le _⟩ gX10_factHere_0.2.2.1 (Kors (Keqr ?_) (Keqr ?_))
  · refine lv_if_eq (tgt := 11) hx hb gX10_factHere_0.2.2.2.1 (by decide) (fun c9 => absurd c9 (by decide)) (fun _ => ?_)
    refine lv_iconst (v := 0) hx hb gX10_factHere_0.2.2.2.2.1 (by decide) ?_
    refine toQ hQ0 ?_
    exact RP (v := 0) hC (trivial) rfl gX10_factHere_0.2.2.2.2.2.1
  · refine lv_if_eq (tgt := 11) hx hb gX10_factHere_0.2.2.2.1 (by decide) (fun _ => ?_) (fun c9 => absurd (by decide) c9)
    refine lv_aload_n hx hb gX10_factHere_0.2.2.2.2.2.2.1 rfl (lv_at0 hl) ?_
    refine va_ldcS (index := 173) (tx := "post") hx hb hown (hO.2.1 12 (by decide)) gX10_factHere_0.2.2.2.2.2.2.2.1 ?_
    refine pVo hO hS hC hK hl hP hD (t_isName l G K 12 h0 tby kt tln tsp tkd ks kn tf9 fby (hkt) (hks) (hkn) ((by decide))) si_X10_102 [0, 1] sm_0_1 fm_0_1 nd_0_1 rfl rfl rfl rfl rfl (Nat.le_of_ble_eq_true rfl) rm_7_6_3 ⟨by first | exact Nat.le_of_ble_eq_true rfl | exact Nat.zero_le _, by first | exact Nat.le_of_ble_eq_true rfl | exact Nat.zero_le _⟩ gX10_factHere_0.2.2.2.2.2.2.2.2.1 (Kors (Keqr ?_) (Keqr ?_))
    · refine lv_if_eq (tgt := 22) hx hb gX10_factHere_0.2.2.2.2.2.2.2.2.2 (by decide) (fun c9 => absurd c9 (by decide)) (fun _ => ?_)
      refine lv_iconst (v := 1) hx hb gX10_factHere_1.1 (by decide) ?_
      refine toQ hQ0 ?_
      exact RP (v := 1) hC (trivial) rfl gX10_factHere_1.2.1
    · refine lv_if_eq (tgt := 22) hx hb gX10_factHere_0.2.2.2.2.2.2.2.2.2 (by decide) (fun _ => ?_) (fun c9 => absurd (by decide) c9)
      refine lv_aload_n hx hb gX10_factHere_1.2.2.1 rfl (lv_at0 hl) ?_
      refine va_ldcS (index := 175) (tx := "had") hx hb hown (hO.2.1 13 (by decide)) gX10_factHere_1.2.2.2.1 ?_
      refine pVo hO hS hC hK hl hP hD (t_isName l G K 13 h0 tby kt tln tsp tkd ks kn tf9 fby (hkt) (hks) (hkn) ((by decide))) si_X10_102 [0, 1] sm_0_1 fm_0_1 nd_0_1 rfl rfl rfl rfl rfl (Nat.le_of_ble_eq_true rfl) rm_7_6_3 ⟨by first | exact Nat.le_of_ble_eq_true rfl | exact Nat.zero_le _, by first | exact Nat.le_of_ble_eq_true rfl | exact Nat.zero_le _⟩ gX10_factHere_1.2.2.2.2.1 (Kors (Keqr ?_) (Keqr ?_))
      · refine lv_if_eq (tgt := 33) hx hb gX10_factHere_1.2.2.2.2.2.1 (by decide) (fun c9 => absurd c9 (by decide)) (fun _ => ?_)
        refine lv_iconst (v := 2) hx hb gX10_factHere_1.2.2.2.2.2.2.1 (by decide) ?_
        refine toQ hQ0 ?_
        exact RP (v := 2) hC (trivial) rfl gX10_factHere_1.2.2.2.2.2.2.2.1
      · refine lv_if_eq (tgt := 33) hx hb gX10_factHere_1.2.2.2.2.2.1 (by decide) (fun _ => ?_) (fun c9 => absurd (by decide) c9)
        refine lv_aload_n hx hb gX10_factHere_1.2.2.2.2.2.2.2.2.1 rfl (lv_at0 hl) ?_
        refine va_ldcS (index := 177) (tx := "made") hx hb hown (hO.2.1 14 (by decide)) gX10_factHere_1.2.2.2.2.2.2.2.2.2 ?_
        refine pVo hO hS hC hK hl hP hD (t_isName l G K 14 h0 tby kt tln tsp tkd ks kn tf9 fby (hkt) (hks) (hkn) ((by decide))) si_X10_102 [0, 1] sm_0_1 fm_0_1 nd_0_1 rfl rfl rfl rfl rfl (Nat.le_of_ble_eq_true rfl) rm_7_6_3 ⟨by first | exact Nat.le_of_ble_eq_true rfl | exact Nat.zero_le _, by first | exact Nat.le_of_ble_eq_true rfl | exact Nat.zero_le _⟩ gX10_factHere_2.1 (Kors (Keqr ?_) (Keqr ?_))
        · refine lv_if_eq (tgt := 44) hx hb gX10_factHere_2.2.1 (by decide) (fun c9 => absurd c9 (by decide)) (fun _ => ?_)
          refine lv_iconst (v := 3) hx hb gX10_factHere_2.2.2.1 (by decide) ?_
          refine toQ hQ0 ?_
          exact RP (v := 3) hC (trivial) rfl gX10_factHere_2.2.2.2.1
        · refine lv_if_eq (tgt := 44) hx hb gX10_factHere_2.2.1 (by decide) (fun _ => ?_) (fun c9 => absurd (by decide) c9)
          refine lv_aload_n hx hb gX10_factHere_2.2.2.2.2.1 rfl (lv_at0 hl) ?_
          refine va_ldcS (index := 179) (tx := "slow") hx hb hown (hO.2.1 15 (by decide)) gX10_factHere_2.2.2.2.2.2.1 ?_
          refine pVo hO hS hC hK hl hP hD (t_isName l G K 15 h0 tby kt tln tsp tkd ks kn tf9 fby (hkt) (hks) (hkn) ((by decide))) si_X10_102 [0, 1] sm_0_1 fm_0_1 nd_0_1 rfl rfl rfl rfl rfl (Nat.le_of_ble_eq_true rfl) rm_7_6_3 ⟨by first | exact Nat.le_of_ble_eq_true rfl | exact Nat.zero_le _, by first | exact Nat.le_of_ble_eq_true rfl | exact Nat.zero_le _⟩ gX10_factHere_2.2.2.2.2.2.2.1 (Kors (Keqr ?_) (Keqr ?_))
          · refine lv_if_eq (tgt := 57) hx hb gX10_factHere_2.2.2.2.2.2.2.2.1 (by decide) (fun c9 => absurd c9 (by decide)) (fun _ => ?_)
            refine lv_iconst (v := 4) hx hb gX10_factHere_2.2.2.2.2.2.2.2.2.1 (by decide) ?_
            refine lv_goto (tgt := 58) hx hb gX10_factHere_2.2.2.2.2.2.2.2.2.2 (by decide) ?_
            refine toQ hQ0 ?_
            exact RP (v := 4) hC (trivial) rfl gX10_factHere_3.2
          · refine lv_if_eq (tgt := 57) hx hb gX10_factHere_2.2.2.2.2.2.2.2.1 (by decide) (fun _ => ?_) (fun c9 => absurd (by decide) c9)
            refine lv_iconst (v := (-1)) hx hb gX10_factHere_3.1 (by decide) ?_
            refine toQ hQ0 ?_
            exact RP (v := (-1)) hC (trivial) rfl gX10_factHere_3.2
def K_t_signHere (l : Launch) (G : GG) (h0 : Nat) (tby : Nat) (kt : Nat) (tln : Nat) (tsp : Nat) (tkd : Int32) (ts9 : Int32) (tn9 : Int32) (tf9 : Int32) : Prop := MP l G yX10_signHere cX10_signHere 1 (some .int) 1 [.ref h0] [(h0, oX10 tby (nI kt) tln tsp tkd ts9 tn9 tf9)] (fun r : Int32 => True)
set_option maxHeartbeats 4000000 in
set_option maxRecDepth 100000 in
theorem t_signHere (l : Launch) (G : GG) (h0 : Nat) (tby : Nat) (kt : Nat) (tln : Nat) (tsp : Nat) (tkd : Int32) (ts9 : Int32) (tn9 : Int32) (tf9 : Int32) : K_t_signHere l G h0 tby kt tln tsp tkd ts9 tn9 tf9 := by
  refine MP.start (by decide +kernel) (Nat.le_of_ble_eq_true rfl) ?_
  intro p e s m below meth c ls hC hK hP hD hl
  refine absQ (fun Q0 hQ0 => ?_)
  have hl : lv_has ls 1 [(0, .ref h0)] := hl
  refine Kan8 hC (fun hx hb hr hml hB hown hlocks hnm => ?_)
  refine lv_aload_n hx hb gX10_signHere_0.1 rfl (lv_at0 hl) ?_
  refine gf_X10_31 hC rfl hK hP 0 rfl rfl gX10_signHere_0.2.1 ?_
  refine lv_bipush (v := 60) hx hb gX10_signHere_0.2.2.1 (by decide) ?_
  refine lv_icmp_ne (tgt := 11) hx hb gX10_signHere_0.2.2.2.1 (by decide) (fun c_6_3962 => ?_) (fun c_6_3962 => ?_)
  · refine lv_aload_n hx hb gX10_signHere_0.2.2.2.2.2.2.1 rfl (lv_at0 hl) ?_
    refine gf_X10_31 hC rfl hK hP 0 rfl rfl gX10_signHere_0.2.2.2.2.2.2.2.1 ?_
    refine lv_bipush (v := 61) hx hb gX10_signHere_0.2.2.2.2.2.2.2.2.1 (by decide) ?_
    refine lv_icmp_ne (tgt := 22) hx hb gX10_signHere_0.2.2.2.2.2.2.2.2.2 (by decide) (fun c_17_3963 => ?_) (fun c_17_3963 => ?_)
    · refine lv_aload_n hx hb gX10_signHere_1.2.2.1 rfl (lv_at0 hl) ?_
      refine gf_X10_31 hC rfl hK hP 0 rfl rfl gX10_signHere_1.2.2.2.1 ?_
      refine lv_bipush (v := 62) hx hb gX10_signHere_1.2.2.2.2.1 (by decide) ?_
      refine lv_icmp_ne (tgt := 35) hx hb gX10_signHere_1.2.2.2.2.2.1 (by decide) (fun c_28_3964 => ?_) (fun c_28_3964 => ?_)
      · refine lv_iconst (v := (-1)) hx hb gX10_signHere_1.2.2.2.2.2.2.2.2.1 (by decide) ?_
        refine toQ hQ0 ?_
        exact RP (v := (-1)) hC (trivial) rfl gX10_signHere_1.2.2.2.2.2.2.2.2.2
      · refine lv_iconst (v := 2) hx hb gX10_signHere_1.2.2.2.2.2.2.1 (by decide) ?_
        refine lv_goto (tgt := 36) hx hb gX10_signHere_1.2.2.2.2.2.2.2.1 (by decide) ?_
        refine toQ hQ0 ?_
        exact RP (v := 2) hC (trivial) rfl gX10_signHere_1.2.2.2.2.2.2.2.2.2
    · refine lv_iconst (v := 1) hx hb gX10_signHere_1.1 (by decide) ?_
      refine toQ hQ0 ?_
      exact RP (v := 1) hC (trivial) rfl gX10_signHere_1.2.1
  · refine lv_iconst (v := 0) hx hb gX10_signHere_0.2.2.2.2.1 (by decide) ?_
    refine toQ hQ0 ?_
    exact RP (v := 0) hC (trivial) rfl gX10_signHere_0.2.2.2.2.2.1
def K_t_sortHere (l : Launch) (G : GG) (K : OO) (h0 : Nat) (tby : Nat) (kt : Nat) (tln : Nat) (tsp : Nat) (tkd : Int32) (ks : Nat) (kn : Nat) (tf9 : Int32) (fby : Nat → Int32) : Prop := MPo l G K yX10_sortHere cX10_sortHere 1 (some .int) 7 [.ref h0] [(h0, oX10 tby (nI kt) tln tsp tkd (nI ks) (nI kn) tf9), (tby, iA G 240 fby)] (fun r : Int32 => True)
set_option maxHeartbeats 4000000 in
set_option maxRecDepth 100000 in
theorem t_sortHere (l : Launch) (G : GG) (K : OO) (h0 : Nat) (tby : Nat) (kt : Nat) (tln : Nat) (tsp : Nat) (tkd : Int32) (ks : Nat) (kn : Nat) (tf9 : Int32) (fby : Nat → Int32) (hkt : kt ≤ 240) (hks : ks ≤ 240) (hkn : kn ≤ 240) : K_t_sortHere l G K h0 tby kt tln tsp tkd ks kn tf9 fby := by
  refine MPo.start (by decide +kernel) (Nat.le_of_ble_eq_true rfl) ?_
  intro p e s m below meth c ls hC hK hP hD hl hO hS
  refine absQ (fun Q0 hQ0 => ?_)
  have hl : lv_has ls 1 [(0, .ref h0)] := hl
  refine Kan8 hC (fun hx hb hr hml hB hown hlocks hnm => ?_)
  refine lv_aload_n hx hb gX10_sortHere_0.1 rfl (lv_at0 hl) ?_
  refine va_ldcS (index := 127) (tx := "taken") hx hb hown (hO.2.1 1 (by decide)) gX10_sortHere_0.2.1 ?_
  refine pVo hO hS hC hK hl hP hD (t_isName l G K 1 h0 tby kt tln tsp tkd ks kn tf9 fby (hkt) (hks) (hkn) ((by decide))) si_X10_102 [0, 1] sm_0_1 fm_0_1 nd_0_1 rfl rfl rfl rfl rfl (Nat.le_of_ble_eq_true rfl) rm_7_6_3 ⟨by first | exact Nat.le_of_ble_eq_true rfl | exact Nat.zero_le _, by first | exact Nat.le_of_ble_eq_true rfl | exact Nat.zero_le _⟩ gX10_sortHere_0.2.2.1 (Kors (Keqr ?_) (Keqr ?_))
  · refine lv_if_eq (tgt := 11) hx hb gX10_sortHere_0.2.2.2.1 (by decide) (fun c9 => absurd c9 (by decide)) (fun _ => ?_)
    refine lv_iconst (v := 0) hx hb gX10_sortHere_0.2.2.2.2.1 (by decide) ?_
    refine toQ hQ0 ?_
    exact RP (v := 0) hC (trivial) rfl gX10_sortHere_0.2.2.2.2.2.1
  · refine lv_if_eq (tgt := 11) hx hb gX10_sortHere_0.2.2.2.1 (by decide) (fun _ => ?_) (fun c9 => absurd (by decide) c9)
    refine lv_aload_n hx hb gX10_sortHere_0.2.2.2.2.2.2.1 rfl (lv_at0 hl) ?_
    refine va_ldcS (index := 129) (tx := "warn") hx hb hown (hO.2.1 2 (by decide)) gX10_sortHere_0.2.2.2.2.2.2.2.1 ?_
    refine pVo hO hS hC hK hl hP hD (t_isName l G K 2 h0 tby kt tln tsp tkd ks kn tf9 fby (hkt) (hks) (hkn) ((by decide))) si_X10_102 [0, 1] sm_0_1 fm_0_1 nd_0_1 rfl rfl rfl rfl rfl (Nat.le_of_ble_eq_true rfl) rm_7_6_3 ⟨by first | exact Nat.le_of_ble_eq_true rfl | exact Nat.zero_le _, by first | exact Nat.le_of_ble_eq_true rfl | exact Nat.zero_le _⟩ gX10_sortHere_0.2.2.2.2.2.2.2.2.1 (Kors (Keqr ?_) (Keqr ?_))
    · refine lv_if_eq (tgt := 22) hx hb gX10_sortHere_0.2.2.2.2.2.2.2.2.2 (by decide) (fun c9 => absurd c9 (by decide)) (fun _ => ?_)
      refine lv_iconst (v := 1) hx hb gX10_sortHere_1.1 (by decide) ?_
      refine toQ hQ0 ?_
      exact RP (v := 1) hC (trivial) rfl gX10_sortHere_1.2.1
    · refine lv_if_eq (tgt := 22) hx hb gX10_sortHere_0.2.2.2.2.2.2.2.2.2 (by decide) (fun _ => ?_) (fun c9 => absurd (by decide) c9)
      refine lv_aload_n hx hb gX10_sortHere_1.2.2.1 rfl (lv_at0 hl) ?_
      refine va_ldcS (index := 131) (tx := "ask") hx hb hown (hO.2.1 3 (by decide)) gX10_sortHere_1.2.2.2.1 ?_
      refine pVo hO hS hC hK hl hP hD (t_isName l G K 3 h0 tby kt tln tsp tkd ks kn tf9 fby (hkt) (hks) (hkn) ((by decide))) si_X10_102 [0, 1] sm_0_1 fm_0_1 nd_0_1 rfl rfl rfl rfl rfl (Nat.le_of_ble_eq_true rfl) rm_7_6_3 ⟨by first | exact Nat.le_of_ble_eq_true rfl | exact Nat.zero_le _, by first | exact Nat.le_of_ble_eq_true rfl | exact Nat.zero_le _⟩ gX10_sortHere_1.2.2.2.2.1 (Kors (Keqr ?_) (Keqr ?_))
      · refine lv_if_eq (tgt := 33) hx hb gX10_sortHere_1.2.2.2.2.2.1 (by decide) (fun c9 => absurd c9 (by decide)) (fun _ => ?_)
        refine lv_iconst (v := 2) hx hb gX10_sortHere_1.2.2.2.2.2.2.1 (by decide) ?_
        refine toQ hQ0 ?_
        exact RP (v := 2) hC (trivial) rfl gX10_sortHere_1.2.2.2.2.2.2.2.1
      · refine lv_if_eq (tgt := 33) hx hb gX10_sortHere_1.2.2.2.2.2.1 (by decide) (fun _ => ?_) (fun c9 => absurd (by decide) c9)
        refine lv_aload_n hx hb gX10_sortHere_1.2.2.2.2.2.2.2.2.1 rfl (lv_at0 hl) ?_
        refine va_ldcS (index := 133) (tx := "heard") hx hb hown (hO.2.1 4 (by decide)) gX10_sortHere_1.2.2.2.2.2.2.2.2.2 ?_
        refine pVo hO hS hC hK hl hP hD (t_isName l G K 4 h0 tby kt tln tsp tkd ks kn tf9 fby (hkt) (hks) (hkn) ((by decide))) si_X10_102 [0, 1] sm_0_1 fm_0_1 nd_0_1 rfl rfl rfl rfl rfl (Nat.le_of_ble_eq_true rfl) rm_7_6_3 ⟨by first | exact Nat.le_of_ble_eq_true rfl | exact Nat.zero_le _, by first | exact Nat.le_of_ble_eq_true rfl | exact Nat.zero_le _⟩ gX10_sortHere_2.1 (Kors (Keqr ?_) (Keqr ?_))
        · refine lv_if_eq (tgt := 46) hx hb gX10_sortHere_2.2.1 (by decide) (fun c9 => absurd c9 (by decide)) (fun _ => ?_)
          refine lv_iconst (v := 3) hx hb gX10_sortHere_2.2.2.1 (by decide) ?_
          refine lv_goto (tgt := 47) hx hb gX10_sortHere_2.2.2.2.1 (by decide) ?_
          refine toQ hQ0 ?_
          exact RP (v := 3) hC (trivial) rfl gX10_sortHere_2.2.2.2.2.2
        · refine lv_if_eq (tgt := 46) hx hb gX10_sortHere_2.2.1 (by decide) (fun _ => ?_) (fun c9 => absurd (by decide) c9)
          refine lv_iconst (v := (-1)) hx hb gX10_sortHere_2.2.2.2.2.1 (by decide) ?_
          refine toQ hQ0 ?_
          exact RP (v := (-1)) hC (trivial) rfl gX10_sortHere_2.2.2.2.2.2
def K_t_takesComparison (l : Launch) (G : GG) (K : OO) (h0 : Nat) (tby : Nat) (kt : Nat) (tln : Nat) (tsp : Nat) (tkd : Int32) (ks : Nat) (kn : Nat) (tf9 : Int32) (fby : Nat → Int32) (tspc : Nat) (ksp : Nat) (ftsp : Nat → Int32) : Prop := MIo l G K yX10_takesComparison cX10_takesComparison 4 (some .boolean) 8 0 0 [.ref h0] [(h0, oX10 tby (nI kt) tln tsp tkd (nI ks) (nI kn) tf9), (tby, iA G 240 fby), (tsp, oX8 120 1 tspc (nI ksp)), (tspc, iA G 120 ftsp)] (fun (r : Int32) (u : Int32 × Nat × Nat × Int32 × Nat × (Nat → Int32)) => (r = 1 ∨ r = 0) ∧ (u.2.1 ≤ 240 ∧ u.2.2.1 ≤ 240 ∧ u.2.2.2.2.1 ≤ 120)) (fun u : Int32 × Nat × Nat × Int32 × Nat × (Nat → Int32) => [(h0, oX10 tby (nI kt) tln tsp u.1 (nI u.2.1) (nI u.2.2.1) u.2.2.2.1), (tby, iA G 240 fby), (tsp, oX8 120 1 tspc (nI u.2.2.2.2.1)), (tspc, iA G 120 u.2.2.2.2.2)])
set_option maxHeartbeats 4000000 in
set_option maxRecDepth 100000 in
theorem t_takesComparison (l : Launch) (G : GG) (K : OO) (h0 : Nat) (tby : Nat) (kt : Nat) (tln : Nat) (tsp : Nat) (tkd : Int32) (ks : Nat) (kn : Nat) (tf9 : Int32) (fby : Nat → Int32) (tspc : Nat) (ksp : Nat) (ftsp : Nat → Int32) (hkt : kt ≤ 240) (hks : ks ≤ 240) (hkn : kn ≤ 240) (hksp : ksp ≤ 120) : K_t_takesComparison l G K h0 tby kt tln tsp tkd ks kn tf9 fby tspc ksp ftsp := by
  refine MIo.start (by decide +kernel) (Nat.le_of_ble_eq_true rfl) ?_
  intro p e s m below meth c A ls hC hK hP hD hS hA hl hO
  refine absQ (fun Q0 hQ0 => ?_)
  have hl : lv_has ls 4 [(0, .ref h0)] := hl
  refine Kan8 hC (fun hx hb hr hml hB hown hlocks hnm => ?_)
  refine lv_aload_n hx hb gX10_takesComparison_0.1 rfl (lv_at0 hl) ?_
  refine pVo hO hS hC hK hl hP hD (t_factHere l G K h0 tby kt tln tsp tkd ks kn tf9 fby (hkt) (hks) (hkn)) si_X10_165 [0, 1] sm_0_1 fm_0_1 nd_0_1 rfl rfl rfl rfl rfl (Nat.le_of_ble_eq_true rfl) rm_8_7_1 ⟨by first | exact Nat.le_of_ble_eq_true rfl | exact Nat.zero_le _, by first | exact Nat.le_of_ble_eq_true rfl | exact Nat.zero_le _⟩ gX10_takesComparison_0.2.1 (fun r3973 hr3973 => ?_)
  refine lv_istore_n (lv' := [(1, .int r3973), (0, .ref h0)]) hx hb gX10_takesComparison_0.2.2.1 rfl hl (by decide) rfl (fun ls hl => ?_)
  refine lv_iload_n hx hb gX10_takesComparison_0.2.2.2.1 rfl (lv_at0 hl) ?_
  refine lv_if_ge (tgt := 14) hx hb gX10_takesComparison_0.2.2.2.2.1 (by decide) (fun c_6_3974 => ?_) (fun c_6_3974 => ?_)
  · refine lv_aload_n hx hb gX10_takesComparison_0.2.2.2.2.2.2.2.2.1 rfl (lv_at1 hl) ?_
    refine vV (wr := [(tsp, oX8 120 1 tspc (nI ksp)), (tspc, iA G 120 ftsp)]) hC hK hl hP hD hS hA (t_advance l G h0 tby kt tln tsp tkd ks kn tf9 fby (hkt) (hks) (hkn)) si_X10_47 [0, 1] [2, 3] sm_0_1 fm_0_1 nd_0_1 sm_2_3 nd_2_3 dj_0_1__2_3 rfl rfl rfl rfl rfl (Nat.le_of_ble_eq_true rfl) rm_8_3_1 ⟨Nat.le_of_ble_eq_true rfl, Nat.le_of_ble_eq_true rfl⟩ gX10_takesComparison_0.2.2.2.2.2.2.2.2.2 (Ktu3 fun kd13977 ks13978 kn13979 => ?_)
    intro H locs hr3975 hP hD hS
    try dsimp only at hr3975
    refine Kpdr (ws := [(tsp, oX8 120 1 tspc (nI ksp)), (tspc, iA G 120 ftsp), (h0, oX10 tby (nI kt) tln tsp kd13977 (nI ks13978) (nI kn13979) tf9), (tby, iA G 240 fby)]) hP hD (fun hP hD => ?_)
    have w3980 := hr3975
    refine lv_aload_n hx hb gX10_takesComparison_1.1 rfl (lv_at1 hl) ?_
    refine pV hC hK hl hP hD (t_signHere l G h0 tby kt tln tsp kd13977 (nI ks13978) (nI kn13979) tf9) si_X10_168 [2] sm_2 fm_2 nd_2 rfl rfl rfl rfl rfl (Nat.le_of_ble_eq_true rfl) rm_8_1_1 ⟨by first | exact Nat.le_of_ble_eq_true rfl | exact Nat.zero_le _, by first | exact Nat.le_of_ble_eq_true rfl | exact Nat.zero_le _⟩ gX10_takesComparison_1.2.1 (fun r3981 hr3981 => ?_)
    refine lv_istore_n (lv' := [(2, .int r3981), (1, .int r3973), (0, .ref h0)]) hx hb gX10_takesComparison_1.2.2.1 rfl hl (by decide) rfl (fun ls hl => ?_)
    refine lv_iload_n hx hb gX10_takesComparison_1.2.2.2.1 rfl (lv_at0 hl) ?_
    refine lv_if_ge (tgt := 32) hx hb gX10_takesComparison_1.2.2.2.2.1 (by decide) (fun c_24_3982 => ?_) (fun c_24_3982 => ?_)
    · refine lv_aload_n hx hb gX10_takesComparison_1.2.2.2.2.2.2.2.2.1 rfl (lv_at2 hl) ?_
      refine vV (wr := [(tsp, oX8 120 1 tspc (nI ksp)), (tspc, iA G 120 ftsp)]) hC hK hl hP hD hS hA (t_advance l G h0 tby kt tln tsp kd13977 ks13978 kn13979 tf9 fby (hkt) (by omega) (by omega)) si_X10_47 [2, 3] [0, 1] sm_2_3 fm_2_3 nd_2_3 sm_0_1 nd_0_1 dj_2_3__0_1 rfl rfl rfl rfl rfl (Nat.le_of_ble_eq_true rfl) rm_8_3_1 ⟨Nat.le_of_ble_eq_true rfl, Nat.le_of_ble_eq_true rfl⟩ gX10_takesComparison_1.2.2.2.2.2.2.2.2.2 (Ktu3 fun kd13985 ks13986 kn13987 => ?_)
      intro H locs hr3983 hP hD hS
      try dsimp only at hr3983
      refine Kpdr (ws := [(tsp, oX8 120 1 tspc (nI ksp)), (tspc, iA G 120 ftsp), (h0, oX10 tby (nI kt) tln tsp kd13985 (nI ks13986) (nI kn13987) tf9), (tby, iA G 240 fby)]) hP hD (fun hP hD => ?_)
      have w3988 := hr3983
      refine lv_aload_n hx hb gX10_takesComparison_2.1 rfl (lv_at2 hl) ?_
      refine pV hC hK hl hP hD (t_numberHere l G h0 tby kt tln tsp kd13985 ks13986 kn13987 tf9 fby (hkt) (by omega) (by omega)) si_X10_109 [2, 3] sm_2_3 fm_2_3 nd_2_3 rfl rfl rfl rfl rfl (Nat.le_of_ble_eq_true rfl) rm_8_3_3 ⟨by first | exact Nat.le_of_ble_eq_true rfl | exact Nat.zero_le _, by first | exact Nat.le_of_ble_eq_true rfl | exact Nat.zero_le _⟩ gX10_takesComparison_2.2.1 (fun r3989 hr3989 => ?_)
      refine lv_istore_n (lv' := [(3, .int r3989), (2, .int r3981), (1, .int r3973), (0, .ref h0)]) hx hb gX10_takesComparison_2.2.2.1 rfl hl (by decide) rfl (fun ls hl => ?_)
      refine lv_iload_n hx hb gX10_takesComparison_2.2.2.2.1 rfl (lv_at0 hl) ?_
      refine lv_if_ge (tgt := 50) hx hb gX10_takesComparison_2.2.2.2.2.1 (by decide) (fun c_42_3990 => ?_) (fun c_42_3990 => ?_)
      · refine lv_aload_n hx hb gX10_takesComparison_2.2.2.2.2.2.2.2.2.1 rfl (lv_at3 hl) ?_
        refine vV (wr := [(tsp, oX8 120 1 tspc (nI ksp)), (tspc, iA G 120 ftsp)]) hC hK hl hP hD hS hA (t_advance l G h0 tby kt tln tsp kd13985 ks13986 kn13987 tf9 fby (hkt) (by omega) (by omega)) si_X10_47 [2, 3] [0, 1] sm_2_3 fm_2_3 nd_2_3 sm_0_1 nd_0_1 dj_2_3__0_1 rfl rfl rfl rfl rfl (Nat.le_of_ble_eq_true rfl) rm_8_3_1 ⟨Nat.le_of_ble_eq_true rfl, Nat.le_of_ble_eq_true rfl⟩ gX10_takesComparison_2.2.2.2.2.2.2.2.2.2 (Ktu3 fun kd13993 ks13994 kn13995 => ?_)
        intro H locs hr3991 hP hD hS
        try dsimp only at hr3991
        refine Kpdr (ws := [(tsp, oX8 120 1 tspc (nI ksp)), (tspc, iA G 120 ftsp), (h0, oX10 tby (nI kt) tln tsp kd13993 (nI ks13994) (nI kn13995) tf9), (tby, iA G 240 fby)]) hP hD (fun hP hD => ?_)
        have w3996 := hr3991
        refine lv_aload_n hx hb gX10_takesComparison_3.1 rfl (lv_at3 hl) ?_
        refine lv_iload_n hx hb gX10_takesComparison_3.2.1 rfl (lv_at2 hl) ?_
        refine lv_iconst (v := 3) hx hb gX10_takesComparison_3.2.2.1 (by decide) ?_
        refine lv_imul hx hb gX10_takesComparison_3.2.2.2.1 ?_
        refine lv_iload_n hx hb gX10_takesComparison_3.2.2.2.2.1 rfl (lv_at1 hl) ?_
        refine lv_iadd hx hb gX10_takesComparison_3.2.2.2.2.2.1 ?_
        refine lv_sipush (v := 1000) hx hb gX10_takesComparison_3.2.2.2.2.2.2.1 (by decide) ?_
        refine lv_imul hx hb gX10_takesComparison_3.2.2.2.2.2.2.2.1 ?_
        refine lv_iload_n hx hb gX10_takesComparison_3.2.2.2.2.2.2.2.2.1 rfl (lv_at0 hl) ?_
        refine lv_iadd hx hb gX10_takesComparison_3.2.2.2.2.2.2.2.2.2 ?_
        refine vV (wr := [(tby, iA G 240 fby)]) hC hK hl hP hD hS hA (t_addStep l G h0 ((((r3973 * 3) + r3981) * 1000) + r3989) tby kt tln tsp kd13993 ks13994 kn13995 tf9 tspc ksp ftsp (hksp)) si_X10_152 [2, 0, 1] [3] sm_2_0_1 fm_2_0_1 nd_2_0_1 sm_3 nd_3 dj_2_0_1__3 rfl rfl rfl rfl rfl (Nat.le_of_ble_eq_true rfl) rm_8_2_2 ⟨Nat.le_of_ble_eq_true rfl, Nat.le_of_ble_eq_true rfl⟩ gX10_takesComparison_4.1 (Ktu2 fun ksp13999 gtsp4000 => ?_)
        intro H locs hr3997 hP hD hS
        try dsimp only at hr3997
        refine Kpdr (ws := [(tby, iA G 240 fby), (h0, oX10 tby (nI kt) tln tsp kd13993 (nI ks13994) (nI kn13995) tf9), (tsp, oX8 120 1 tspc (nI ksp13999)), (tspc, iA G 120 gtsp4000)]) hP hD (fun hP hD => ?_)
        have w4001 := hr3997
        refine lv_iconst (v := 1) hx hb gX10_takesComparison_4.2.1 (by decide) ?_
        refine toQ hQ0 ?_
        exact RI (v := 1) hC hP hD hS [1, 0, 2, 3] (kd13993, ks13994, kn13995, tf9, ksp13999, gtsp4000) rfl rfl (by decide) (⟨Or.inl (rfl), by dsimp only; omega⟩) (by decide +kernel) gX10_takesComparison_4.2.2
      · refine lv_aload_n hx hb gX10_takesComparison_2.2.2.2.2.2.1 rfl (lv_at3 hl) ?_
        refine iV (wr := [(tsp, oX8 120 1 tspc (nI ksp)), (tspc, iA G 120 ftsp), (tby, iA G 240 fby)]) hC hK hl hP hD hS hA (t_refuse l G h0 tby kt tln tsp kd13985 ks13986 kn13987 tf9) si_X10_106 [2] [0, 1, 3] sm_2 fm_2 nd_2 sm_0_1_3 nd_0_1_3 dj_2__0_1_3 rfl rfl rfl rfl rfl (Nat.le_of_ble_eq_true rfl) rm_8_1_1 ⟨Nat.le_of_ble_eq_true rfl, Nat.le_of_ble_eq_true rfl⟩ gX10_takesComparison_2.2.2.2.2.2.2.1 (fun r4002 tf14004 H locs hr4002 hP hD hS => ?_)
        try dsimp only at hr4002
        refine Kpdr (ws := [(tsp, oX8 120 1 tspc (nI ksp)), (tspc, iA G 120 ftsp), (tby, iA G 240 fby), (h0, oX10 tby (nI kt) tln tsp kd13985 (nI ks13986) (nI kn13987) tf14004)]) hP hD (fun hP hD => ?_)
        obtain rfl := hr4002
        refine toQ hQ0 ?_
        exact RI (v := 0) hC hP hD hS [3, 2, 0, 1] (kd13985, ks13986, kn13987, tf14004, ksp, ftsp) rfl rfl (by decide) (⟨Or.inr (rfl), by dsimp only; omega⟩) (by decide +kernel) gX10_takesComparison_2.2.2.2.2.2.2.2.1
    · refine lv_aload_n hx hb gX10_takesComparison_1.2.2.2.2.2.1 rfl (lv_at2 hl) ?_
      refine iV (wr := [(tsp, oX8 120 1 tspc (nI ksp)), (tspc, iA G 120 ftsp), (tby, iA G 240 fby)]) hC hK hl hP hD hS hA (t_refuse l G h0 tby kt tln tsp kd13977 ks13978 kn13979 tf9) si_X10_106 [2] [0, 1, 3] sm_2 fm_2 nd_2 sm_0_1_3 nd_0_1_3 dj_2__0_1_3 rfl rfl rfl rfl rfl (Nat.le_of_ble_eq_true rfl) rm_8_1_1 ⟨Nat.le_of_ble_eq_true rfl, Nat.le_of_ble_eq_true rfl⟩ gX10_takesComparison_1.2.2.2.2.2.2.1 (fun r4006 tf14008 H locs hr4006 hP hD hS => ?_)
      try dsimp only at hr4006
      refine Kpdr (ws := [(tsp, oX8 120 1 tspc (nI ksp)), (tspc, iA G 120 ftsp), (tby, iA G 240 fby), (h0, oX10 tby (nI kt) tln tsp kd13977 (nI ks13978) (nI kn13979) tf14008)]) hP hD (fun hP hD => ?_)
      obtain rfl := hr4006
      refine toQ hQ0 ?_
      exact RI (v := 0) hC hP hD hS [3, 2, 0, 1] (kd13977, ks13978, kn13979, tf14008, ksp, ftsp) rfl rfl (by decide) (⟨Or.inr (rfl), by dsimp only; omega⟩) (by decide +kernel) gX10_takesComparison_1.2.2.2.2.2.2.2.1
  · refine lv_aload_n hx hb gX10_takesComparison_0.2.2.2.2.2.1 rfl (lv_at1 hl) ?_
    refine iV (wr := [(tby, iA G 240 fby), (tsp, oX8 120 1 tspc (nI ksp)), (tspc, iA G 120 ftsp)]) hC hK hl hP hD hS hA (t_refuse l G h0 tby kt tln tsp tkd ks kn tf9) si_X10_106 [0] [1, 2, 3] sm_0 fm_0 nd_0 sm_1_2_3 nd_1_2_3 dj_0__1_2_3 rfl rfl rfl rfl rfl (Nat.le_of_ble_eq_true rfl) rm_8_1_1 ⟨Nat.le_of_ble_eq_true rfl, Nat.le_of_ble_eq_true rfl⟩ gX10_takesComparison_0.2.2.2.2.2.2.1 (fun r4010 tf14012 H locs hr4010 hP hD hS => ?_)
    try dsimp only at hr4010
    refine Kpdr (ws := [(tby, iA G 240 fby), (tsp, oX8 120 1 tspc (nI ksp)), (tspc, iA G 120 ftsp), (h0, oX10 tby (nI kt) tln tsp tkd (nI ks) (nI kn) tf14012)]) hP hD (fun hP hD => ?_)
    obtain rfl := hr4010
    refine toQ hQ0 ?_
    exact RI (v := 0) hC hP hD hS [3, 0, 1, 2] (tkd, ks, kn, tf14012, ksp, ftsp) rfl rfl (by decide) (⟨Or.inr (rfl), by dsimp only; omega⟩) (by decide +kernel) gX10_takesComparison_0.2.2.2.2.2.2.2.1
def K_t_one (l : Launch) (G : GG) (K : OO) (mn : Nat) (h0 : Nat) (jo : Nat) (tby : Nat) (kt : Nat) (tln : Nat) (tsp : Nat) (tkd : Int32) (ks : Nat) (kn : Nat) (tf9 : Int32) (fby : Nat → Int32) (tspc : Nat) (ksp : Nat) (ftsp : Nat → Int32) : Prop := MIo l G K yX10_takesOne cX10_takesOne 4 (some .boolean) (9 + 4 * mn) 0 0 [.ref h0, .int (nI jo)] [(h0, oX10 tby (nI kt) tln tsp tkd (nI ks) (nI kn) tf9), (tby, iA G 240 fby), (tsp, oX8 120 1 tspc (nI ksp)), (tspc, iA G 120 ftsp)] (fun (r : Int32) (u : Int32 × Nat × Nat × Int32 × Nat × (Nat → Int32)) => (r = 1 ∨ r = 0) ∧ (u.2.1 ≤ 240 ∧ u.2.2.1 ≤ 240 ∧ u.2.2.2.2.1 ≤ 120)) (fun u : Int32 × Nat × Nat × Int32 × Nat × (Nat → Int32) => [(h0, oX10 tby (nI kt) tln tsp u.1 (nI u.2.1) (nI u.2.2.1) u.2.2.2.1), (tby, iA G 240 fby), (tsp, oX8 120 1 tspc (nI u.2.2.2.2.1)), (tspc, iA G 120 u.2.2.2.2.2)])
set_option maxHeartbeats 4000000 in
set_option maxRecDepth 100000 in
theorem t_one (l : Launch) (G : GG) (K : OO) (mn : Nat) (h0 : Nat) (jo : Nat) (tby : Nat) (kt : Nat) (tln : Nat) (tsp : Nat) (tkd : Int32) (ks : Nat) (kn : Nat) (tf9 : Int32) (fby : Nat → Int32) (tspc : Nat) (ksp : Nat) (ftsp : Nat → Int32) (hkt : kt ≤ 240) (hks : ks ≤ 240) (hkn : kn ≤ 240) (hksp : ksp ≤ 120) (hjm : jo + mn = 4) (ihC : ∀ m9, m9 < mn → ∀ (h0 : Nat) (jo : Nat) (tby : Nat) (kt : Nat) (tln : Nat) (tsp : Nat) (tkd : Int32) (ks : Nat) (kn : Nat) (tf9 : Int32) (fby : Nat → Int32) (tspc : Nat) (ksp : Nat) (ftsp : Nat → Int32) (hkt : kt ≤ 240) (hks : ks ≤ 240) (hkn : kn ≤ 240) (hksp : ksp ≤ 120) (hjm : jo + m9 = 4), MIo l G K yX10_takesCond cX10_takesCond 3 (some .boolean) (11 + 4 * m9) 0 0 [.ref h0, .int (nI jo)] [(h0, oX10 tby (nI kt) tln tsp tkd (nI ks) (nI kn) tf9), (tby, iA G 240 fby), (tsp, oX8 120 1 tspc (nI ksp)), (tspc, iA G 120 ftsp)] (fun (r : Int32) (u : Int32 × Nat × Nat × Int32 × Nat × (Nat → Int32)) => (r = 1 ∨ r = 0) ∧ (u.2.1 ≤ 240 ∧ u.2.2.1 ≤ 240 ∧ u.2.2.2.2.1 ≤ 120)) (fun u : Int32 × Nat × Nat × Int32 × Nat × (Nat → Int32) => [(h0, oX10 tby (nI kt) tln tsp u.1 (nI u.2.1) (nI u.2.2.1) u.2.2.2.1), (tby, iA G 240 fby), (tsp, oX8 120 1 tspc (nI u.2.2.2.2.1)), (tspc, iA G 120 u.2.2.2.2.2)])) : K_t_one l G K mn h0 jo tby kt tln tsp tkd ks kn tf9 fby tspc ksp ftsp := by
  refine MIo.start (by decide +kernel) (Nat.le_of_ble_eq_true rfl) ?_
  intro p e s m below meth c A ls hC hK hP hD hS hA hl hO
  refine absQ (fun Q0 hQ0 => ?_)
  have hl : lv_has ls 4 [(0, .ref h0), (1, .int (nI jo))] := hl
  refine Kan8 hC (fun hx hb hr hml hB hown hlocks hnm => ?_)
  refine lv_iconst (v := 0) hx hb gX10_takesOne_0.1 (by decide) ?_
  refine lv_istore_n (lv' := [(2, .int 0), (0, .ref h0), (1, .int (nI jo))]) hx hb gX10_takesOne_0.2.1 rfl hl (by decide) rfl (fun ls hl => ?_)
  refine lv_iconst (v := 0) hx hb gX10_takesOne_0.2.2.1 (by decide) ?_
  refine lv_istore_n (lv' := [(3, .int 0), (2, .int 0), (0, .ref h0), (1, .int (nI jo))]) hx hb gX10_takesOne_0.2.2.2.1 rfl hl (by decide) rfl (fun ls hl => ?_)
  have keyP : ∀ (nP kP : Nat) (tu : Int32) (vkd : Int32) (vtf : Int32) (vks : Nat) (vkn : Nat) (H : Heap) (locs : List Loc) (ls : Array Slot), kP + nP = 240 → (vks ≤ 240) → (vkn ≤ 240) → va_PD G A [(h0, oX10 tby (nI kt) tln tsp vkd (nI vks) (nI vkn) vtf), (tby, iA G 240 fby), (tsp, oX8 120 1 tspc (nI ksp)), (tspc, iA G 120 ftsp)] H → va_S A s.heap H locs → lv_has ls 4 [(3, .int (nI kP)), (2, .int tu), (0, .ref h0), (1, .int (nI jo))] → W p l e (RM (9 + 4 * mn) 0 0) s m ([.ref h0, .int (nI jo)] : List Value).toArray below meth c H locs 0 0 Q0 (F0 m 4 ls []) := by
    intro nP
    induction nP with
    | zero =>
      intro kP tu vkd vtf vks vkn H locs ls hkP hvks hvkn hPD hS hl
      refine Kan2 hPD (fun hP hD => ?_)
      obtain rfl : 240 = kP := by omega
      have hl : lv_has ls 4 [(3, .int 240), (2, .int tu), (0, .ref h0), (1, .int (nI jo))] := hl
      refine lv_iload_n hx hb gX10_takesOne_0.2.2.2.2.1 rfl (lv_at0 hl) ?_
      refine lv_sipush (v := 240) hx hb gX10_takesOne_0.2.2.2.2.2.1 (by decide) ?_
      refine lv_icmp_ge (tgt := 40) hx hb gX10_takesOne_0.2.2.2.2.2.2.1 (by decide) (fun _ => ?_) (fun c9 => absurd (by decide) c9)
      refine lv_aload_n hx hb gX10_takesOne_2.2.1 rfl (lv_at2 hl) ?_
      refine gf_X10_31 hC rfl hK hP 0 rfl rfl gX10_takesOne_2.2.2.1 ?_
      refine lv_bipush (v := 40) hx hb gX10_takesOne_2.2.2.2.1 (by decide) ?_
      refine lv_icmp_eq (tgt := 58) hx hb gX10_takesOne_2.2.2.2.2.1 (by decide) (fun c_46_4014 => ?_) (fun c_46_4014 => ?_)
      · refine lv_iload_n hx hb gX10_takesOne_3.1 rfl (lv_at3 hl) ?_
        refine lv_iconst (v := 4) hx hb gX10_takesOne_3.2.1 (by decide) ?_
        refine lv_icmp_lt (tgt := 68) hx hb gX10_takesOne_3.2.2.1 (by decide) (fun c_60_4015 => ?_) (fun c_60_4015 => ?_)
        · refine lv_aload_n hx hb gX10_takesOne_3.2.2.2.2.2.2.1 rfl (lv_at2 hl) ?_
          refine vV (wr := [(tsp, oX8 120 1 tspc (nI ksp)), (tspc, iA G 120 ftsp)]) hC hK hl hP hD hS hA (t_advance l G h0 tby kt tln tsp vkd vks vkn vtf fby (hkt) (hvks) (hvkn)) si_X10_47 [0, 1] [2, 3] sm_0_1 fm_0_1 nd_0_1 sm_2_3 nd_2_3 dj_0_1__2_3 rfl rfl rfl rfl rfl (Nat.le_of_ble_eq_true rfl) (rmT (Nat.le_of_ble_eq_true rfl) (Nat.le_of_ble_eq_true rfl)) ⟨Nat.le_of_ble_eq_true rfl, Nat.le_of_ble_eq_true rfl⟩ gX10_takesOne_3.2.2.2.2.2.2.2.1 (Ktu3 fun kd14018 ks14019 kn14020 => ?_)
          intro H locs hr4016 hP hD hS
          try dsimp only at hr4016
          refine Kpdr (ws := [(tsp, oX8 120 1 tspc (nI ksp)), (tspc, iA G 120 ftsp), (h0, oX10 tby (nI kt) tln tsp kd14018 (nI ks14019) (nI kn14020) vtf), (tby, iA G 240 fby)]) hP hD (fun hP hD => ?_)
          have w4021 := hr4016
          refine lv_aload_n hx hb gX10_takesOne_3.2.2.2.2.2.2.2.2.1 rfl (lv_at2 hl) ?_
          refine lv_iload_n hx hb gX10_takesOne_3.2.2.2.2.2.2.2.2.2 rfl (lv_at3 hl) ?_
          refine lv_iconst (v := 1) hx hb gX10_takesOne_4.1 (by decide) ?_
          refine lv_iadd hx hb gX10_takesOne_4.2.1 ?_
          refine eqi (x1 := nI (jo + 1)) (nI_1 jo) ?_
          have hjo4 : jo < 4 := (nI_ltI (a := jo) (b := 4) (by omega) (by decide)).mp c_60_4015
          refine iVo (wr := []) hO hC hK hl hP hD hS hA (ihC (mn - 1) (by omega) h0 (jo + 1) tby kt tln tsp kd14018 ks14019 kn14020 vtf fby tspc ksp ftsp (by omega) (by omega) (by omega) (by omega) (by omega)) si_X10_121 [2, 3, 0, 1] [] sm_2_3_0_1 fm_2_3_0_1 nd_2_3_0_1 rfl rfl (by decide) rfl rfl rfl rfl rfl (Nat.le_of_ble_eq_true rfl) ⟨by simp only [RM]; omega, by simp only [RM]; omega⟩ ⟨Nat.le_of_ble_eq_true rfl, Nat.le_of_ble_eq_true rfl⟩ gX10_takesOne_4.2.2.1 (fun r4022 => Ktu6 fun kd14024 ks14025 kn14026 tf14027 ksp14028 gtsp4029 => ?_)
          intro H locs hr4022 hP hD hS
          try dsimp only at hr4022
          refine Kpdr (ws := [(h0, oX10 tby (nI kt) tln tsp kd14024 (nI ks14025) (nI kn14026) tf14027), (tby, iA G 240 fby), (tsp, oX8 120 1 tspc (nI ksp14028)), (tspc, iA G 120 gtsp4029)]) hP hD (fun hP hD => ?_)
          obtain ⟨hr4022, w4030⟩ := hr4022
          rcases hr4022 with rfl | rfl
          · refine lv_if_eq (tgt := 91) hx hb gX10_takesOne_4.2.2.2.1 (by decide) (fun c9 => absurd c9 (by decide)) (fun _ => ?_)
            refine lv_aload_n hx hb gX10_takesOne_4.2.2.2.2.1 rfl (lv_at2 hl) ?_
            refine lv_bipush (v := 41) hx hb gX10_takesOne_4.2.2.2.2.2.1 (by decide) ?_
            refine iV (wr := [(tsp, oX8 120 1 tspc (nI ksp14028)), (tspc, iA G 120 gtsp4029)]) hC hK hl hP hD hS hA (t_takesByte l G h0 41 tby kt tln tsp kd14024 ks14025 kn14026 tf14027 fby (hkt) (by omega) (by omega)) si_X10_124 [0, 1] [2, 3] sm_0_1 fm_0_1 nd_0_1 sm_2_3 nd_2_3 dj_0_1__2_3 rfl rfl rfl rfl rfl (Nat.le_of_ble_eq_true rfl) (rmT (Nat.le_of_ble_eq_true rfl) (Nat.le_of_ble_eq_true rfl)) ⟨Nat.le_of_ble_eq_true rfl, Nat.le_of_ble_eq_true rfl⟩ gX10_takesOne_4.2.2.2.2.2.2.1 (fun r4032 => Ktu4 fun kd14034 ks14035 kn14036 tf14037 => ?_)
            intro H locs hr4032 hP hD hS
            try dsimp only at hr4032
            refine Kpdr (ws := [(tsp, oX8 120 1 tspc (nI ksp14028)), (tspc, iA G 120 gtsp4029), (h0, oX10 tby (nI kt) tln tsp kd14034 (nI ks14035) (nI kn14036) tf14037), (tby, iA G 240 fby)]) hP hD (fun hP hD => ?_)
            obtain ⟨hr4032, w4038⟩ := hr4032
            rcases hr4032 with rfl | rfl
            · refine lv_if_ne (tgt := 93) hx hb gX10_takesOne_4.2.2.2.2.2.2.2.1 (by decide) (fun _ => ?_) (fun c9 => absurd c9 (by decide))
              refine lv_iload_n hx hb gX10_takesOne_5.1 rfl (lv_at1 hl) ?_
              refine lv_if_eq (tgt := 102) hx hb gX10_takesOne_5.2.1 (by decide) (fun c_94_4040 => ?_) (fun c_94_4040 => ?_)
              · refine lv_iconst (v := 1) hx hb gX10_takesOne_5.2.2.2.2.2.1 (by decide) ?_
                refine toQ hQ0 ?_
                exact RI (v := 1) hC hP hD hS [2, 3, 0, 1] (kd14034, ks14035, kn14036, tf14037, ksp14028, gtsp4029) rfl rfl (by decide) (⟨Or.inl (rfl), by dsimp only; omega⟩) (by decide +kernel) gX10_takesOne_5.2.2.2.2.2.2
              · refine lv_aload_n hx hb gX10_takesOne_5.2.2.1 rfl (lv_at2 hl) ?_
                refine lv_iconst (v := (-1)) hx hb gX10_takesOne_5.2.2.2.1 (by decide) ?_
                refine vV (wr := [(tby, iA G 240 fby)]) hC hK hl hP hD hS hA (t_addStep l G h0 (-1) tby kt tln tsp kd14034 ks14035 kn14036 tf14037 tspc ksp14028 gtsp4029 (by omega)) si_X10_152 [2, 0, 1] [3] sm_2_0_1 fm_2_0_1 nd_2_0_1 sm_3 nd_3 dj_2_0_1__3 rfl rfl rfl rfl rfl (Nat.le_of_ble_eq_true rfl) (rmT (Nat.le_of_ble_eq_true rfl) (Nat.le_of_ble_eq_true rfl)) ⟨Nat.le_of_ble_eq_true rfl, Nat.le_of_ble_eq_true rfl⟩ gX10_takesOne_5.2.2.2.2.1 (Ktu2 fun ksp14043 gtsp4044 => ?_)
                intro H locs hr4041 hP hD hS
                try dsimp only at hr4041
                refine Kpdr (ws := [(tby, iA G 240 fby), (h0, oX10 tby (nI kt) tln tsp kd14034 (nI ks14035) (nI kn14036) tf14037), (tsp, oX8 120 1 tspc (nI ksp14043)), (tspc, iA G 120 gtsp4044)]) hP hD (fun hP hD => ?_)
                have w4045 := hr4041
                refine lv_iconst (v := 1) hx hb gX10_takesOne_5.2.2.2.2.2.1 (by decide) ?_
                refine toQ hQ0 ?_
                exact RI (v := 1) hC hP hD hS [1, 0, 2, 3] (kd14034, ks14035, kn14036, tf14037, ksp14043, gtsp4044) rfl rfl (by decide) (⟨Or.inl (rfl), by dsimp only; omega⟩) (by decide +kernel) gX10_takesOne_5.2.2.2.2.2.2
            · refine lv_if_ne (tgt := 93) hx hb gX10_takesOne_4.2.2.2.2.2.2.2.1 (by decide) (fun c9 => absurd (by decide) c9) (fun _ => ?_)
              refine lv_iconst (v := 0) hx hb gX10_takesOne_4.2.2.2.2.2.2.2.2.1 (by decide) ?_
              refine toQ hQ0 ?_
              exact RI (v := 0) hC hP hD hS [2, 3, 0, 1] (kd14034, ks14035, kn14036, tf14037, ksp14028, gtsp4029) rfl rfl (by decide) (⟨Or.inr (rfl), by dsimp only; omega⟩) (by decide +kernel) gX10_takesOne_4.2.2.2.2.2.2.2.2.2
          · refine lv_if_eq (tgt := 91) hx hb gX10_takesOne_4.2.2.2.1 (by decide) (fun _ => ?_) (fun c9 => absurd (by decide) c9)
            refine lv_iconst (v := 0) hx hb gX10_takesOne_4.2.2.2.2.2.2.2.2.1 (by decide) ?_
            refine toQ hQ0 ?_
            exact RI (v := 0) hC hP hD hS [0, 1, 2, 3] (kd14024, ks14025, kn14026, tf14027, ksp14028, gtsp4029) rfl rfl (by decide) (⟨Or.inr (rfl), by dsimp only; omega⟩) (by decide +kernel) gX10_takesOne_4.2.2.2.2.2.2.2.2.2
        · refine lv_aload_n hx hb gX10_takesOne_3.2.2.2.1 rfl (lv_at2 hl) ?_
          refine iV (wr := [(tby, iA G 240 fby), (tsp, oX8 120 1 tspc (nI ksp)), (tspc, iA G 120 ftsp)]) hC hK hl hP hD hS hA (t_refuse l G h0 tby kt tln tsp vkd vks vkn vtf) si_X10_106 [0] [1, 2, 3] sm_0 fm_0 nd_0 sm_1_2_3 nd_1_2_3 dj_0__1_2_3 rfl rfl rfl rfl rfl (Nat.le_of_ble_eq_true rfl) (rmT (Nat.le_of_ble_eq_true rfl) (Nat.le_of_ble_eq_true rfl)) ⟨Nat.le_of_ble_eq_true rfl, Nat.le_of_ble_eq_true rfl⟩ gX10_takesOne_3.2.2.2.2.1 (fun r4046 tf14048 H locs hr4046 hP hD hS => ?_)
          try dsimp only at hr4046
          refine Kpdr (ws := [(tby, iA G 240 fby), (tsp, oX8 120 1 tspc (nI ksp)), (tspc, iA G 120 ftsp), (h0, oX10 tby (nI kt) tln tsp vkd (nI vks) (nI vkn) tf14048)]) hP hD (fun hP hD => ?_)
          obtain rfl := hr4046
          refine toQ hQ0 ?_
          exact RI (v := 0) hC hP hD hS [3, 0, 1, 2] (vkd, vks, vkn, tf14048, ksp, ftsp) rfl rfl (by decide) (⟨Or.inr (rfl), by dsimp only; omega⟩) (by decide +kernel) gX10_takesOne_3.2.2.2.2.2.1
      · refine lv_aload_n hx hb gX10_takesOne_2.2.2.2.2.2.1 rfl (lv_at2 hl) ?_
        refine iVo (wr := []) hO hC hK hl hP hD hS hA (t_takesComparison l G K h0 tby kt tln tsp vkd vks vkn vtf fby tspc ksp ftsp (hkt) (hvks) (hvkn) (hksp)) si_X10_162 [0, 1, 2, 3] [] sm_0_1_2_3 fm_0_1_2_3 nd_0_1_2_3 rfl rfl (by decide) rfl rfl rfl rfl rfl (Nat.le_of_ble_eq_true rfl) (rmT (Nat.le_of_ble_eq_true rfl) (Nat.le_of_ble_eq_true rfl)) ⟨Nat.le_of_ble_eq_true rfl, Nat.le_of_ble_eq_true rfl⟩ gX10_takesOne_2.2.2.2.2.2.2.1 (fun r4050 => Ktu6 fun kd14052 ks14053 kn14054 tf14055 ksp14056 gtsp4057 => ?_)
        intro H locs hr4050 hP hD hS
        try dsimp only at hr4050
        refine Kpdr (ws := [(h0, oX10 tby (nI kt) tln tsp kd14052 (nI ks14053) (nI kn14054) tf14055), (tby, iA G 240 fby), (tsp, oX8 120 1 tspc (nI ksp14056)), (tspc, iA G 120 gtsp4057)]) hP hD (fun hP hD => ?_)
        obtain ⟨hr4050, w4058⟩ := hr4050
        rcases hr4050 with rfl | rfl
        · refine lv_if_ne (tgt := 93) hx hb gX10_takesOne_2.2.2.2.2.2.2.2.1 (by decide) (fun _ => ?_) (fun c9 => absurd c9 (by decide))
          refine lv_iload_n hx hb gX10_takesOne_5.1 rfl (lv_at1 hl) ?_
          refine lv_if_eq (tgt := 102) hx hb gX10_takesOne_5.2.1 (by decide) (fun c_94_4060 => ?_) (fun c_94_4060 => ?_)
          · refine lv_iconst (v := 1) hx hb gX10_takesOne_5.2.2.2.2.2.1 (by decide) ?_
            refine toQ hQ0 ?_
            exact RI (v := 1) hC hP hD hS [0, 1, 2, 3] (kd14052, ks14053, kn14054, tf14055, ksp14056, gtsp4057) rfl rfl (by decide) (⟨Or.inl (rfl), by dsimp only; omega⟩) (by decide +kernel) gX10_takesOne_5.2.2.2.2.2.2
          · refine lv_aload_n hx hb gX10_takesOne_5.2.2.1 rfl (lv_at2 hl) ?_
            refine lv_iconst (v := (-1)) hx hb gX10_takesOne_5.2.2.2.1 (by decide) ?_
            refine vV (wr := [(tby, iA G 240 fby)]) hC hK hl hP hD hS hA (t_addStep l G h0 (-1) tby kt tln tsp kd14052 ks14053 kn14054 tf14055 tspc ksp14056 gtsp4057 (by omega)) si_X10_152 [0, 2, 3] [1] sm_0_2_3 fm_0_2_3 nd_0_2_3 sm_1 nd_1 dj_0_2_3__1 rfl rfl rfl rfl rfl (Nat.le_of_ble_eq_true rfl) (rmT (Nat.le_of_ble_eq_true rfl) (Nat.le_of_ble_eq_true rfl)) ⟨Nat.le_of_ble_eq_true rfl, Nat.le_of_ble_eq_true rfl⟩ gX10_takesOne_5.2.2.2.2.1 (Ktu2 fun ksp14063 gtsp4064 => ?_)
            intro H locs hr4061 hP hD hS
            try dsimp only at hr4061
            refine Kpdr (ws := [(tby, iA G 240 fby), (h0, oX10 tby (nI kt) tln tsp kd14052 (nI ks14053) (nI kn14054) tf14055), (tsp, oX8 120 1 tspc (nI ksp14063)), (tspc, iA G 120 gtsp4064)]) hP hD (fun hP hD => ?_)
            have w4065 := hr4061
            refine lv_iconst (v := 1) hx hb gX10_takesOne_5.2.2.2.2.2.1 (by decide) ?_
            refine toQ hQ0 ?_
            exact RI (v := 1) hC hP hD hS [1, 0, 2, 3] (kd14052, ks14053, kn14054, tf14055, ksp14063, gtsp4064) rfl rfl (by decide) (⟨Or.inl (rfl), by dsimp only; omega⟩) (by decide +kernel) gX10_takesOne_5.2.2.2.2.2.2
        · refine lv_if_ne (tgt := 93) hx hb gX10_takesOne_2.2.2.2.2.2.2.2.1 (by decide) (fun c9 => absurd (by decide) c9) (fun _ => ?_)
          refine lv_iconst (v := 0) hx hb gX10_takesOne_2.2.2.2.2.2.2.2.2.1 (by decide) ?_
          refine toQ hQ0 ?_
          exact RI (v := 0) hC hP hD hS [0, 1, 2, 3] (kd14052, ks14053, kn14054, tf14055, ksp14056, gtsp4057) rfl rfl (by decide) (⟨Or.inr (rfl), by dsimp only; omega⟩) (by decide +kernel) gX10_takesOne_2.2.2.2.2.2.2.2.2.2
    | succ nP ihP =>
      intro kP tu vkd vtf vks vkn H locs ls hkP hvks hvkn hPD hS hl
      refine Kan2 hPD (fun hP hD => ?_)
      refine lv_iload_n hx hb gX10_takesOne_0.2.2.2.2.1 rfl (lv_at0 hl) ?_
      refine lv_sipush (v := 240) hx hb gX10_takesOne_0.2.2.2.2.2.1 (by decide) ?_
      refine lv_icmp_ge (tgt := 40) hx hb gX10_takesOne_0.2.2.2.2.2.2.1 (by decide) (fun c9 => absurd c9 (nI_ge (a := kP) (b := 240) (by omega) (by omega))) (fun _ => ?_)
      refine lv_aload_n hx hb gX10_takesOne_0.2.2.2.2.2.2.2.1 rfl (lv_at2 hl) ?_
      refine va_ldcS (index := 160) (tx := "not") hx hb hown (hO.2.1 10 (by decide)) gX10_takesOne_0.2.2.2.2.2.2.2.2.1 ?_
      refine pVo hO hS hC hK hl hP hD (t_isName l G K 10 h0 tby kt tln tsp vkd vks vkn vtf fby (hkt) (hvks) (hvkn) ((by decide))) si_X10_102 [0, 1] sm_0_1 fm_0_1 nd_0_1 rfl rfl rfl rfl rfl (Nat.le_of_ble_eq_true rfl) (rmT (Nat.le_of_ble_eq_true rfl) (Nat.le_of_ble_eq_true rfl)) ⟨by first | exact Nat.le_of_ble_eq_true rfl | exact Nat.zero_le _, by first | exact Nat.le_of_ble_eq_true rfl | exact Nat.zero_le _⟩ gX10_takesOne_0.2.2.2.2.2.2.2.2.2 (Kors (Keqr ?_) (Keqr ?_))
      · refine lv_if_eq (tgt := 40) hx hb gX10_takesOne_1.1 (by decide) (fun c9 => absurd c9 (by decide)) (fun _ => ?_)
        refine lv_aload_n hx hb gX10_takesOne_1.2.1 rfl (lv_at2 hl) ?_
        refine vV (wr := [(tsp, oX8 120 1 tspc (nI ksp)), (tspc, iA G 120 ftsp)]) hC hK hl hP hD hS hA (t_advance l G h0 tby kt tln tsp vkd vks vkn vtf fby (hkt) (hvks) (hvkn)) si_X10_47 [0, 1] [2, 3] sm_0_1 fm_0_1 nd_0_1 sm_2_3 nd_2_3 dj_0_1__2_3 rfl rfl rfl rfl rfl (Nat.le_of_ble_eq_true rfl) (rmT (Nat.le_of_ble_eq_true rfl) (Nat.le_of_ble_eq_true rfl)) ⟨Nat.le_of_ble_eq_true rfl, Nat.le_of_ble_eq_true rfl⟩ gX10_takesOne_1.2.2.1 (Ktu3 fun kd14070 ks14071 kn14072 => ?_)
        intro H locs hr4068 hP hD hS
        try dsimp only at hr4068
        refine Kpdr (ws := [(tsp, oX8 120 1 tspc (nI ksp)), (tspc, iA G 120 ftsp), (h0, oX10 tby (nI kt) tln tsp kd14070 (nI ks14071) (nI kn14072) vtf), (tby, iA G 240 fby)]) hP hD (fun hP hD => ?_)
        have w4073 := hr4068
        refine lv_iload_n hx hb gX10_takesOne_1.2.2.2.1 rfl (lv_at1 hl) ?_
        refine lv_if_ne (tgt := 32) hx hb gX10_takesOne_1.2.2.2.2.1 (by decide) (fun c_25_4074 => ?_) (fun c_25_4074 => ?_)
        · refine lv_iconst (v := 0) hx hb gX10_takesOne_1.2.2.2.2.2.2.2.1 (by decide) ?_
          refine lv_istore_n (lv' := [(2, .int 0), (3, .int (nI kP)), (0, .ref h0), (1, .int (nI jo))]) hx hb gX10_takesOne_1.2.2.2.2.2.2.2.2.1 rfl hl (by decide) rfl (fun ls hl => ?_)
          refine lv_iinc (v := nI (kP + 1)) (lv' := [(3, .int (nI (kP + 1))), (2, .int 0), (0, .ref h0), (1, .int (nI jo))]) hx hb gX10_takesOne_1.2.2.2.2.2.2.2.2.2 hl (k := 1) rfl (nI_1 _) (by decide) rfl (fun ls hl => ?_)
          refine lv_goto (tgt := 4) hx hb gX10_takesOne_2.1 (by decide) ?_
          refine Kpds (ws' := [(h0, oX10 tby (nI kt) tln tsp kd14070 (nI ks14071) (nI kn14072) vtf), (tby, iA G 240 fby), (tsp, oX8 120 1 tspc (nI ksp)), (tspc, iA G 120 ftsp)]) hP hD [2, 3, 0, 1] fm_2_3_0_1 nd_2_3_0_1 sm_2_3_0_1 (fun hP hD => ?_)
          exact ihP (kP + 1) 0 kd14070 vtf ks14071 kn14072 _ _ _ (by omega) (by first | assumption | exact Or.inl rfl | exact Or.inr rfl | omega) (by first | assumption | exact Or.inl rfl | exact Or.inr rfl | omega) (And.intro hP hD) hS (lv_sub hl [0, 1, 2, 3] rfl)
        · refine lv_iconst (v := 1) hx hb gX10_takesOne_1.2.2.2.2.2.1 (by decide) ?_
          refine lv_goto (tgt := 33) hx hb gX10_takesOne_1.2.2.2.2.2.2.1 (by decide) ?_
          refine lv_istore_n (lv' := [(2, .int 1), (3, .int (nI kP)), (0, .ref h0), (1, .int (nI jo))]) hx hb gX10_takesOne_1.2.2.2.2.2.2.2.2.1 rfl hl (by decide) rfl (fun ls hl => ?_)
          refine lv_iinc (v := nI (kP + 1)) (lv' := [(3, .int (nI (kP + 1))), (2, .int 1), (0, .ref h0), (1, .int (nI jo))]) hx hb gX10_takesOne_1.2.2.2.2.2.2.2.2.2 hl (k := 1) rfl (nI_1 _) (by decide) rfl (fun ls hl => ?_)
          refine lv_goto (tgt := 4) hx hb gX10_takesOne_2.1 (by decide) ?_
          refine Kpds (ws' := [(h0, oX10 tby (nI kt) tln tsp kd14070 (nI ks14071) (nI kn14072) vtf), (tby, iA G 240 fby), (tsp, oX8 120 1 tspc (nI ksp)), (tspc, iA G 120 ftsp)]) hP hD [2, 3, 0, 1] fm_2_3_0_1 nd_2_3_0_1 sm_2_3_0_1 (fun hP hD => ?_)
          exact ihP (kP + 1) 1 kd14070 vtf ks14071 kn14072 _ _ _ (by omega) (by first | assumption | exact Or.inl rfl | exact Or.inr rfl | omega) (by first | assumption | exact Or.inl rfl | exact Or.inr rfl | omega) (And.intro hP hD) hS (lv_sub hl [0, 1, 2, 3] rfl)
      · refine lv_if_eq (tgt := 40) hx hb gX10_takesOne_1.1 (by decide) (fun _ => ?_) (fun c9 => absurd (by decide) c9)
        refine lv_aload_n hx hb gX10_takesOne_2.2.1 rfl (lv_at2 hl) ?_
        refine gf_X10_31 hC rfl hK hP 0 rfl rfl gX10_takesOne_2.2.2.1 ?_
        refine lv_bipush (v := 40) hx hb gX10_takesOne_2.2.2.2.1 (by decide) ?_
        refine lv_icmp_eq (tgt := 58) hx hb gX10_takesOne_2.2.2.2.2.1 (by decide) (fun c_46_4075 => ?_) (fun c_46_4075 => ?_)
        · refine lv_iload_n hx hb gX10_takesOne_3.1 rfl (lv_at3 hl) ?_
          refine lv_iconst (v := 4) hx hb gX10_takesOne_3.2.1 (by decide) ?_
          refine lv_icmp_lt (tgt := 68) hx hb gX10_takesOne_3.2.2.1 (by decide) (fun c_60_4076 => ?_) (fun c_60_4076 => ?_)
          · refine lv_aload_n hx hb gX10_takesOne_3.2.2.2.2.2.2.1 rfl (lv_at2 hl) ?_
            refine vV (wr := [(tsp, oX8 120 1 tspc (nI ksp)), (tspc, iA G 120 ftsp)]) hC hK hl hP hD hS hA (t_advance l G h0 tby kt tln tsp vkd vks vkn vtf fby (hkt) (hvks) (hvkn)) si_X10_47 [0, 1] [2, 3] sm_0_1 fm_0_1 nd_0_1 sm_2_3 nd_2_3 dj_0_1__2_3 rfl rfl rfl rfl rfl (Nat.le_of_ble_eq_true rfl) (rmT (Nat.le_of_ble_eq_true rfl) (Nat.le_of_ble_eq_true rfl)) ⟨Nat.le_of_ble_eq_true rfl, Nat.le_of_ble_eq_true rfl⟩ gX10_takesOne_3.2.2.2.2.2.2.2.1 (Ktu3 fun kd14079 ks14080 kn14081 => ?_)
            intro H locs hr4077 hP hD hS
            try dsimp only at hr4077
            refine Kpdr (ws := [(tsp, oX8 120 1 tspc (nI ksp)), (tspc, iA G 120 ftsp), (h0, oX10 tby (nI kt) tln tsp kd14079 (nI ks14080) (nI kn14081) vtf), (tby, iA G 240 fby)]) hP hD (fun hP hD => ?_)
            have w4082 := hr4077
            refine lv_aload_n hx hb gX10_takesOne_3.2.2.2.2.2.2.2.2.1 rfl (lv_at2 hl) ?_
            refine lv_iload_n hx hb gX10_takesOne_3.2.2.2.2.2.2.2.2.2 rfl (lv_at3 hl) ?_
            refine lv_iconst (v := 1) hx hb gX10_takesOne_4.1 (by decide) ?_
            refine lv_iadd hx hb gX10_takesOne_4.2.1 ?_
            refine eqi (x1 := nI (jo + 1)) (nI_1 jo) ?_
            have hjo4 : jo < 4 := (nI_ltI (a := jo) (b := 4) (by omega) (by decide)).mp c_60_4076
            refine iVo (wr := []) hO hC hK hl hP hD hS hA (ihC (mn - 1) (by omega) h0 (jo + 1) tby kt tln tsp kd14079 ks14080 kn14081 vtf fby tspc ksp ftsp (by omega) (by omega) (by omega) (by omega) (by omega)) si_X10_121 [2, 3, 0, 1] [] sm_2_3_0_1 fm_2_3_0_1 nd_2_3_0_1 rfl rfl (by decide) rfl rfl rfl rfl rfl (Nat.le_of_ble_eq_true rfl) ⟨by simp only [RM]; omega, by simp only [RM]; omega⟩ ⟨Nat.le_of_ble_eq_true rfl, Nat.le_of_ble_eq_true rfl⟩ gX10_takesOne_4.2.2.1 (fun r4083 => Ktu6 fun kd14085 ks14086 kn14087 tf14088 ksp14089 gtsp4090 => ?_)
            intro H locs hr4083 hP hD hS
            try dsimp only at hr4083
            refine Kpdr (ws := [(h0, oX10 tby (nI kt) tln tsp kd14085 (nI ks14086) (nI kn14087) tf14088), (tby, iA G 240 fby), (tsp, oX8 120 1 tspc (nI ksp14089)), (tspc, iA G 120 gtsp4090)]) hP hD (fun hP hD => ?_)
            obtain ⟨hr4083, w4091⟩ := hr4083
            rcases hr4083 with rfl | rfl
            · refine lv_if_eq (tgt := 91) hx hb gX10_takesOne_4.2.2.2.1 (by decide) (fun c9 => absurd c9 (by decide)) (fun _ => ?_)
              refine lv_aload_n hx hb gX10_takesOne_4.2.2.2.2.1 rfl (lv_at2 hl) ?_
              refine lv_bipush (v := 41) hx hb gX10_takesOne_4.2.2.2.2.2.1 (by decide) ?_
              refine iV (wr := [(tsp, oX8 120 1 tspc (nI ksp14089)), (tspc, iA G 120 gtsp4090)]) hC hK hl hP hD hS hA (t_takesByte l G h0 41 tby kt tln tsp kd14085 ks14086 kn14087 tf14088 fby (hkt) (by omega) (by omega)) si_X10_124 [0, 1] [2, 3] sm_0_1 fm_0_1 nd_0_1 sm_2_3 nd_2_3 dj_0_1__2_3 rfl rfl rfl rfl rfl (Nat.le_of_ble_eq_true rfl) (rmT (Nat.le_of_ble_eq_true rfl) (Nat.le_of_ble_eq_true rfl)) ⟨Nat.le_of_ble_eq_true rfl, Nat.le_of_ble_eq_true rfl⟩ gX10_takesOne_4.2.2.2.2.2.2.1 (fun r4093 => Ktu4 fun kd14095 ks14096 kn14097 tf14098 => ?_)
              intro H locs hr4093 hP hD hS
              try dsimp only at hr4093
              refine Kpdr (ws := [(tsp, oX8 120 1 tspc (nI ksp14089)), (tspc, iA G 120 gtsp4090), (h0, oX10 tby (nI kt) tln tsp kd14095 (nI ks14096) (nI kn14097) tf14098), (tby, iA G 240 fby)]) hP hD (fun hP hD => ?_)
              obtain ⟨hr4093, w4099⟩ := hr4093
              rcases hr4093 with rfl | rfl
              · refine lv_if_ne (tgt := 93) hx hb gX10_takesOne_4.2.2.2.2.2.2.2.1 (by decide) (fun _ => ?_) (fun c9 => absurd c9 (by decide))
                refine lv_iload_n hx hb gX10_takesOne_5.1 rfl (lv_at1 hl) ?_
                refine lv_if_eq (tgt := 102) hx hb gX10_takesOne_5.2.1 (by decide) (fun c_94_4101 => ?_) (fun c_94_4101 => ?_)
                · refine lv_iconst (v := 1) hx hb gX10_takesOne_5.2.2.2.2.2.1 (by decide) ?_
                  refine toQ hQ0 ?_
                  exact RI (v := 1) hC hP hD hS [2, 3, 0, 1] (kd14095, ks14096, kn14097, tf14098, ksp14089, gtsp4090) rfl rfl (by decide) (⟨Or.inl (rfl), by dsimp only; omega⟩) (by decide +kernel) gX10_takesOne_5.2.2.2.2.2.2
                · refine lv_aload_n hx hb gX10_takesOne_5.2.2.1 rfl (lv_at2 hl) ?_
                  refine lv_iconst (v := (-1)) hx hb gX10_takesOne_5.2.2.2.1 (by decide) ?_
                  refine vV (wr := [(tby, iA G 240 fby)]) hC hK hl hP hD hS hA (t_addStep l G h0 (-1) tby kt tln tsp kd14095 ks14096 kn14097 tf14098 tspc ksp14089 gtsp4090 (by omega)) si_X10_152 [2, 0, 1] [3] sm_2_0_1 fm_2_0_1 nd_2_0_1 sm_3 nd_3 dj_2_0_1__3 rfl rfl rfl rfl rfl (Nat.le_of_ble_eq_true rfl) (rmT (Nat.le_of_ble_eq_true rfl) (Nat.le_of_ble_eq_true rfl)) ⟨Nat.le_of_ble_eq_true rfl, Nat.le_of_ble_eq_true rfl⟩ gX10_takesOne_5.2.2.2.2.1 (Ktu2 fun ksp14104 gtsp4105 => ?_)
                  intro H locs hr4102 hP hD hS
                  try dsimp only at hr4102
                  refine Kpdr (ws := [(tby, iA G 240 fby), (h0, oX10 tby (nI kt) tln tsp kd14095 (nI ks14096) (nI kn14097) tf14098), (tsp, oX8 120 1 tspc (nI ksp14104)), (tspc, iA G 120 gtsp4105)]) hP hD (fun hP hD => ?_)
                  have w4106 := hr4102
                  refine lv_iconst (v := 1) hx hb gX10_takesOne_5.2.2.2.2.2.1 (by decide) ?_
                  refine toQ hQ0 ?_
                  exact RI (v := 1) hC hP hD hS [1, 0, 2, 3] (kd14095, ks14096, kn14097, tf14098, ksp14104, gtsp4105) rfl rfl (by decide) (⟨Or.inl (rfl), by dsimp only; omega⟩) (by decide +kernel) gX10_takesOne_5.2.2.2.2.2.2
              · refine lv_if_ne (tgt := 93) hx hb gX10_takesOne_4.2.2.2.2.2.2.2.1 (by decide) (fun c9 => absurd (by decide) c9) (fun _ => ?_)
                refine lv_iconst (v := 0) hx hb gX10_takesOne_4.2.2.2.2.2.2.2.2.1 (by decide) ?_
                refine toQ hQ0 ?_
                exact RI (v := 0) hC hP hD hS [2, 3, 0, 1] (kd14095, ks14096, kn14097, tf14098, ksp14089, gtsp4090) rfl rfl (by decide) (⟨Or.inr (rfl), by dsimp only; omega⟩) (by decide +kernel) gX10_takesOne_4.2.2.2.2.2.2.2.2.2
            · refine lv_if_eq (tgt := 91) hx hb gX10_takesOne_4.2.2.2.1 (by decide) (fun _ => ?_) (fun c9 => absurd (by decide) c9)
              refine lv_iconst (v := 0) hx hb gX10_takesOne_4.2.2.2.2.2.2.2.2.1 (by decide) ?_
              refine toQ hQ0 ?_
              exact RI (v := 0) hC hP hD hS [0, 1, 2, 3] (kd14085, ks14086, kn14087, tf14088, ksp14089, gtsp4090) rfl rfl (by decide) (⟨Or.inr (rfl), by dsimp only; omega⟩) (by decide +kernel) gX10_takesOne_4.2.2.2.2.2.2.2.2.2
          · refine lv_aload_n hx hb gX10_takesOne_3.2.2.2.1 rfl (lv_at2 hl) ?_
            refine iV (wr := [(tby, iA G 240 fby), (tsp, oX8 120 1 tspc (nI ksp)), (tspc, iA G 120 ftsp)]) hC hK hl hP hD hS hA (t_refuse l G h0 tby kt tln tsp vkd vks vkn vtf) si_X10_106 [0] [1, 2, 3] sm_0 fm_0 nd_0 sm_1_2_3 nd_1_2_3 dj_0__1_2_3 rfl rfl rfl rfl rfl (Nat.le_of_ble_eq_true rfl) (rmT (Nat.le_of_ble_eq_true rfl) (Nat.le_of_ble_eq_true rfl)) ⟨Nat.le_of_ble_eq_true rfl, Nat.le_of_ble_eq_true rfl⟩ gX10_takesOne_3.2.2.2.2.1 (fun r4107 tf14109 H locs hr4107 hP hD hS => ?_)
            try dsimp only at hr4107
            refine Kpdr (ws := [(tby, iA G 240 fby), (tsp, oX8 120 1 tspc (nI ksp)), (tspc, iA G 120 ftsp), (h0, oX10 tby (nI kt) tln tsp vkd (nI vks) (nI vkn) tf14109)]) hP hD (fun hP hD => ?_)
            obtain rfl := hr4107
            refine toQ hQ0 ?_
            exact RI (v := 0) hC hP hD hS [3, 0, 1, 2] (vkd, vks, vkn, tf14109, ksp, ftsp) rfl rfl (by decide) (⟨Or.inr (rfl), by dsimp only; omega⟩) (by decide +kernel) gX10_takesOne_3.2.2.2.2.2.1
        · refine lv_aload_n hx hb gX10_takesOne_2.2.2.2.2.2.1 rfl (lv_at2 hl) ?_
          refine iVo (wr := []) hO hC hK hl hP hD hS hA (t_takesComparison l G K h0 tby kt tln tsp vkd vks vkn vtf fby tspc ksp ftsp (hkt) (hvks) (hvkn) (hksp)) si_X10_162 [0, 1, 2, 3] [] sm_0_1_2_3 fm_0_1_2_3 nd_0_1_2_3 rfl rfl (by decide) rfl rfl rfl rfl rfl (Nat.le_of_ble_eq_true rfl) (rmT (Nat.le_of_ble_eq_true rfl) (Nat.le_of_ble_eq_true rfl)) ⟨Nat.le_of_ble_eq_true rfl, Nat.le_of_ble_eq_true rfl⟩ gX10_takesOne_2.2.2.2.2.2.2.1 (fun r4111 => Ktu6 fun kd14113 ks14114 kn14115 tf14116 ksp14117 gtsp4118 => ?_)
          intro H locs hr4111 hP hD hS
          try dsimp only at hr4111
          refine Kpdr (ws := [(h0, oX10 tby (nI kt) tln tsp kd14113 (nI ks14114) (nI kn14115) tf14116), (tby, iA G 240 fby), (tsp, oX8 120 1 tspc (nI ksp14117)), (tspc, iA G 120 gtsp4118)]) hP hD (fun hP hD => ?_)
          obtain ⟨hr4111, w4119⟩ := hr4111
          rcases hr4111 with rfl | rfl
          · refine lv_if_ne (tgt := 93) hx hb gX10_takesOne_2.2.2.2.2.2.2.2.1 (by decide) (fun _ => ?_) (fun c9 => absurd c9 (by decide))
            refine lv_iload_n hx hb gX10_takesOne_5.1 rfl (lv_at1 hl) ?_
            refine lv_if_eq (tgt := 102) hx hb gX10_takesOne_5.2.1 (by decide) (fun c_94_4121 => ?_) (fun c_94_4121 => ?_)
            · refine lv_iconst (v := 1) hx hb gX10_takesOne_5.2.2.2.2.2.1 (by decide) ?_
              refine toQ hQ0 ?_
              exact RI (v := 1) hC hP hD hS [0, 1, 2, 3] (kd14113, ks14114, kn14115, tf14116, ksp14117, gtsp4118) rfl rfl (by decide) (⟨Or.inl (rfl), by dsimp only; omega⟩) (by decide +kernel) gX10_takesOne_5.2.2.2.2.2.2
            · refine lv_aload_n hx hb gX10_takesOne_5.2.2.1 rfl (lv_at2 hl) ?_
              refine lv_iconst (v := (-1)) hx hb gX10_takesOne_5.2.2.2.1 (by decide) ?_
              refine vV (wr := [(tby, iA G 240 fby)]) hC hK hl hP hD hS hA (t_addStep l G h0 (-1) tby kt tln tsp kd14113 ks14114 kn14115 tf14116 tspc ksp14117 gtsp4118 (by omega)) si_X10_152 [0, 2, 3] [1] sm_0_2_3 fm_0_2_3 nd_0_2_3 sm_1 nd_1 dj_0_2_3__1 rfl rfl rfl rfl rfl (Nat.le_of_ble_eq_true rfl) (rmT (Nat.le_of_ble_eq_true rfl) (Nat.le_of_ble_eq_true rfl)) ⟨Nat.le_of_ble_eq_true rfl, Nat.le_of_ble_eq_true rfl⟩ gX10_takesOne_5.2.2.2.2.1 (Ktu2 fun ksp14124 gtsp4125 => ?_)
              intro H locs hr4122 hP hD hS
              try dsimp only at hr4122
              refine Kpdr (ws := [(tby, iA G 240 fby), (h0, oX10 tby (nI kt) tln tsp kd14113 (nI ks14114) (nI kn14115) tf14116), (tsp, oX8 120 1 tspc (nI ksp14124)), (tspc, iA G 120 gtsp4125)]) hP hD (fun hP hD => ?_)
              have w4126 := hr4122
              refine lv_iconst (v := 1) hx hb gX10_takesOne_5.2.2.2.2.2.1 (by decide) ?_
              refine toQ hQ0 ?_
              exact RI (v := 1) hC hP hD hS [1, 0, 2, 3] (kd14113, ks14114, kn14115, tf14116, ksp14124, gtsp4125) rfl rfl (by decide) (⟨Or.inl (rfl), by dsimp only; omega⟩) (by decide +kernel) gX10_takesOne_5.2.2.2.2.2.2
          · refine lv_if_ne (tgt := 93) hx hb gX10_takesOne_2.2.2.2.2.2.2.2.1 (by decide) (fun c9 => absurd (by decide) c9) (fun _ => ?_)
            refine lv_iconst (v := 0) hx hb gX10_takesOne_2.2.2.2.2.2.2.2.2.1 (by decide) ?_
            refine toQ hQ0 ?_
            exact RI (v := 0) hC hP hD hS [0, 1, 2, 3] (kd14113, ks14114, kn14115, tf14116, ksp14117, gtsp4118) rfl rfl (by decide) (⟨Or.inr (rfl), by dsimp only; omega⟩) (by decide +kernel) gX10_takesOne_2.2.2.2.2.2.2.2.2.2
  exact keyP 240 0 0 tkd tf9 ks kn _ _ _ (by omega) (by first | assumption | exact Or.inl rfl | exact Or.inr rfl | omega) (by first | assumption | exact Or.inl rfl | exact Or.inr rfl | omega) (And.intro hP hD) hS (lv_sub hl [0, 1, 2, 3] rfl)
def K_t_all (l : Launch) (G : GG) (K : OO) (mn : Nat) (h0 : Nat) (jo : Nat) (tby : Nat) (kt : Nat) (tln : Nat) (tsp : Nat) (tkd : Int32) (ks : Nat) (kn : Nat) (tf9 : Int32) (fby : Nat → Int32) (tspc : Nat) (ksp : Nat) (ftsp : Nat → Int32) : Prop := MIo l G K yX10_takesAll cX10_takesAll 3 (some .boolean) (10 + 4 * mn) 0 0 [.ref h0, .int (nI jo)] [(h0, oX10 tby (nI kt) tln tsp tkd (nI ks) (nI kn) tf9), (tby, iA G 240 fby), (tsp, oX8 120 1 tspc (nI ksp)), (tspc, iA G 120 ftsp)] (fun (r : Int32) (u : Int32 × Nat × Nat × Int32 × Nat × (Nat → Int32)) => (r = 1 ∨ r = 0) ∧ (u.2.1 ≤ 240 ∧ u.2.2.1 ≤ 240 ∧ u.2.2.2.2.1 ≤ 120)) (fun u : Int32 × Nat × Nat × Int32 × Nat × (Nat → Int32) => [(h0, oX10 tby (nI kt) tln tsp u.1 (nI u.2.1) (nI u.2.2.1) u.2.2.2.1), (tby, iA G 240 fby), (tsp, oX8 120 1 tspc (nI u.2.2.2.2.1)), (tspc, iA G 120 u.2.2.2.2.2)])
set_option maxHeartbeats 4000000 in
set_option maxRecDepth 100000 in
theorem t_all (l : Launch) (G : GG) (K : OO) (mn : Nat) (h0 : Nat) (jo : Nat) (tby : Nat) (kt : Nat) (tln : Nat) (tsp : Nat) (tkd : Int32) (ks : Nat) (kn : Nat) (tf9 : Int32) (fby : Nat → Int32) (tspc : Nat) (ksp : Nat) (ftsp : Nat → Int32) (hkt : kt ≤ 240) (hks : ks ≤ 240) (hkn : kn ≤ 240) (hksp : ksp ≤ 120) (hjm : jo + mn = 4) (ihC : ∀ m9, m9 < mn → ∀ (h0 : Nat) (jo : Nat) (tby : Nat) (kt : Nat) (tln : Nat) (tsp : Nat) (tkd : Int32) (ks : Nat) (kn : Nat) (tf9 : Int32) (fby : Nat → Int32) (tspc : Nat) (ksp : Nat) (ftsp : Nat → Int32) (hkt : kt ≤ 240) (hks : ks ≤ 240) (hkn : kn ≤ 240) (hksp : ksp ≤ 120) (hjm : jo + m9 = 4), MIo l G K yX10_takesCond cX10_takesCond 3 (some .boolean) (11 + 4 * m9) 0 0 [.ref h0, .int (nI jo)] [(h0, oX10 tby (nI kt) tln tsp tkd (nI ks) (nI kn) tf9), (tby, iA G 240 fby), (tsp, oX8 120 1 tspc (nI ksp)), (tspc, iA G 120 ftsp)] (fun (r : Int32) (u : Int32 × Nat × Nat × Int32 × Nat × (Nat → Int32)) => (r = 1 ∨ r = 0) ∧ (u.2.1 ≤ 240 ∧ u.2.2.1 ≤ 240 ∧ u.2.2.2.2.1 ≤ 120)) (fun u : Int32 × Nat × Nat × Int32 × Nat × (Nat → Int32) => [(h0, oX10 tby (nI kt) tln tsp u.1 (nI u.2.1) (nI u.2.2.1) u.2.2.2.1), (tby, iA G 240 fby), (tsp, oX8 120 1 tspc (nI u.2.2.2.2.1)), (tspc, iA G 120 u.2.2.2.2.2)])) : K_t_all l G K mn h0 jo tby kt tln tsp tkd ks kn tf9 fby tspc ksp ftsp := by
  refine MIo.start (by decide +kernel) (Nat.le_of_ble_eq_true rfl) ?_
  intro p e s m below meth c A ls hC hK hP hD hS hA hl hO
  refine absQ (fun Q0 hQ0 => ?_)
  have hl : lv_has ls 3 [(0, .ref h0), (1, .int (nI jo))] := hl
  refine Kan8 hC (fun hx hb hr hml hB hown hlocks hnm => ?_)
  refine lv_aload_n hx hb gX10_takesAll_0.1 rfl (lv_at0 hl) ?_
  refine lv_iload_n hx hb gX10_takesAll_0.2.1 rfl (lv_at1 hl) ?_
  refine iVo (wr := []) hO hC hK hl hP hD hS hA (t_one l G K mn h0 jo tby kt tln tsp tkd ks kn tf9 fby tspc ksp ftsp (by omega) (by omega) (by omega) (by omega) (by omega) ihC) si_X10_155 [0, 1, 2, 3] [] sm_0_1_2_3 fm_0_1_2_3 nd_0_1_2_3 rfl rfl (by decide) rfl rfl rfl rfl rfl (Nat.le_of_ble_eq_true rfl) ⟨by simp only [RM]; omega, by simp only [RM]; omega⟩ ⟨Nat.le_of_ble_eq_true rfl, Nat.le_of_ble_eq_true rfl⟩ gX10_takesAll_0.2.2.1 (fun r4127 => Ktu6 fun kd14129 ks14130 kn14131 tf14132 ksp14133 gtsp4134 => ?_)
  intro H locs hr4127 hP hD hS
  try dsimp only at hr4127
  refine Kpdr (ws := [(h0, oX10 tby (nI kt) tln tsp kd14129 (nI ks14130) (nI kn14131) tf14132), (tby, iA G 240 fby), (tsp, oX8 120 1 tspc (nI ksp14133)), (tspc, iA G 120 gtsp4134)]) hP hD (fun hP hD => ?_)
  obtain ⟨hr4127, w4135⟩ := hr4127
  rcases hr4127 with rfl | rfl
  · refine lv_if_ne (tgt := 10) hx hb gX10_takesAll_0.2.2.2.1 (by decide) (fun _ => ?_) (fun c9 => absurd c9 (by decide))
    refine lv_iconst (v := 0) hx hb gX10_takesAll_0.2.2.2.2.2.2.1 (by decide) ?_
    refine lv_istore_n (lv' := [(2, .int 0), (0, .ref h0), (1, .int (nI jo))]) hx hb gX10_takesAll_0.2.2.2.2.2.2.2.1 rfl hl (by decide) rfl (fun ls hl => ?_)
    have keyP : ∀ (nP kP : Nat) (vkd : Int32) (vtf : Int32) (vtsp : Nat → Int32) (vks : Nat) (vkn : Nat) (vksp : Nat) (H : Heap) (locs : List Loc) (ls : Array Slot), kP + nP = 240 → (vks ≤ 240) → (vkn ≤ 240) → (vksp ≤ 120) → va_PD G A [(h0, oX10 tby (nI kt) tln tsp vkd (nI vks) (nI vkn) vtf), (tby, iA G 240 fby), (tsp, oX8 120 1 tspc (nI vksp)), (tspc, iA G 120 vtsp)] H → va_S A s.heap H locs → lv_has ls 3 [(2, .int (nI kP)), (0, .ref h0), (1, .int (nI jo))] → W p l e (RM (10 + 4 * mn) 0 0) s m ([.ref h0, .int (nI jo)] : List Value).toArray below meth c H locs 0 0 Q0 (F0 m 12 ls []) := by
      intro nP
      induction nP with
      | zero =>
        intro kP vkd vtf vtsp vks vkn vksp H locs ls hkP hvks hvkn hvksp hPD hS hl
        refine Kan2 hPD (fun hP hD => ?_)
        obtain rfl : 240 = kP := by omega
        have hl : lv_has ls 3 [(2, .int 240), (0, .ref h0), (1, .int (nI jo))] := hl
        refine lv_iload_n hx hb gX10_takesAll_0.2.2.2.2.2.2.2.2.1 rfl (lv_at0 hl) ?_
        refine lv_sipush (v := 240) hx hb gX10_takesAll_0.2.2.2.2.2.2.2.2.2 (by decide) ?_
        refine lv_icmp_ge (tgt := 54) hx hb gX10_takesAll_1.1 (by decide) (fun _ => ?_) (fun c9 => absurd (by decide) c9)
        refine lv_iconst (v := 1) hx hb gX10_takesAll_2.2.2.2.2.2.2.2.2.1 (by decide) ?_
        refine toQ hQ0 ?_
        exact RI (v := 1) hC hP hD hS [0, 1, 2, 3] (vkd, vks, vkn, vtf, vksp, vtsp) rfl rfl (by decide) (⟨Or.inl (rfl), by dsimp only; omega⟩) (by decide +kernel) gX10_takesAll_2.2.2.2.2.2.2.2.2.2
      | succ nP ihP =>
        intro kP vkd vtf vtsp vks vkn vksp H locs ls hkP hvks hvkn hvksp hPD hS hl
        refine Kan2 hPD (fun hP hD => ?_)
        refine lv_iload_n hx hb gX10_takesAll_0.2.2.2.2.2.2.2.2.1 rfl (lv_at0 hl) ?_
        refine lv_sipush (v := 240) hx hb gX10_takesAll_0.2.2.2.2.2.2.2.2.2 (by decide) ?_
        refine lv_icmp_ge (tgt := 54) hx hb gX10_takesAll_1.1 (by decide) (fun c9 => absurd c9 (nI_ge (a := kP) (b := 240) (by omega) (by omega))) (fun _ => ?_)
        refine lv_aload_n hx hb gX10_takesAll_1.2.1 rfl (lv_at1 hl) ?_
        refine va_ldcS (index := 158) (tx := "and") hx hb hown (hO.2.1 9 (by decide)) gX10_takesAll_1.2.2.1 ?_
        refine pVo hO hS hC hK hl hP hD (t_isName l G K 9 h0 tby kt tln tsp vkd vks vkn vtf fby (hkt) (hvks) (hvkn) ((by decide))) si_X10_102 [0, 1] sm_0_1 fm_0_1 nd_0_1 rfl rfl rfl rfl rfl (Nat.le_of_ble_eq_true rfl) (rmT (Nat.le_of_ble_eq_true rfl) (Nat.le_of_ble_eq_true rfl)) ⟨by first | exact Nat.le_of_ble_eq_true rfl | exact Nat.zero_le _, by first | exact Nat.le_of_ble_eq_true rfl | exact Nat.zero_le _⟩ gX10_takesAll_1.2.2.2.1 (Kors (Keqr ?_) (Keqr ?_))
        · refine lv_if_eq (tgt := 54) hx hb gX10_takesAll_1.2.2.2.2.1 (by decide) (fun c9 => absurd c9 (by decide)) (fun _ => ?_)
          refine lv_aload_n hx hb gX10_takesAll_1.2.2.2.2.2.1 rfl (lv_at1 hl) ?_
          refine vV (wr := [(tsp, oX8 120 1 tspc (nI vksp)), (tspc, iA G 120 vtsp)]) hC hK hl hP hD hS hA (t_advance l G h0 tby kt tln tsp vkd vks vkn vtf fby (hkt) (hvks) (hvkn)) si_X10_47 [0, 1] [2, 3] sm_0_1 fm_0_1 nd_0_1 sm_2_3 nd_2_3 dj_0_1__2_3 rfl rfl rfl rfl rfl (Nat.le_of_ble_eq_true rfl) (rmT (Nat.le_of_ble_eq_true rfl) (Nat.le_of_ble_eq_true rfl)) ⟨Nat.le_of_ble_eq_true rfl, Nat.le_of_ble_eq_true rfl⟩ gX10_takesAll_1.2.2.2.2.2.2.1 (Ktu3 fun kd14141 ks14142 kn14143 => ?_)
          intro H locs hr4139 hP hD hS
          try dsimp only at hr4139
          refine Kpdr (ws := [(tsp, oX8 120 1 tspc (nI vksp)), (tspc, iA G 120 vtsp), (h0, oX10 tby (nI kt) tln tsp kd14141 (nI ks14142) (nI kn14143) vtf), (tby, iA G 240 fby)]) hP hD (fun hP hD => ?_)
          have w4144 := hr4139
          refine lv_aload_n hx hb gX10_takesAll_1.2.2.2.2.2.2.2.1 rfl (lv_at1 hl) ?_
          refine lv_iload_n hx hb gX10_takesAll_1.2.2.2.2.2.2.2.2.1 rfl (lv_at2 hl) ?_
          refine iVo (wr := []) hO hC hK hl hP hD hS hA (t_one l G K mn h0 jo tby kt tln tsp kd14141 ks14142 kn14143 vtf fby tspc vksp vtsp (by omega) (by omega) (by omega) (by omega) (by omega) ihC) si_X10_155 [2, 3, 0, 1] [] sm_2_3_0_1 fm_2_3_0_1 nd_2_3_0_1 rfl rfl (by decide) rfl rfl rfl rfl rfl (Nat.le_of_ble_eq_true rfl) ⟨by simp only [RM]; omega, by simp only [RM]; omega⟩ ⟨Nat.le_of_ble_eq_true rfl, Nat.le_of_ble_eq_true rfl⟩ gX10_takesAll_1.2.2.2.2.2.2.2.2.2 (fun r4145 => Ktu6 fun kd14147 ks14148 kn14149 tf14150 ksp14151 gtsp4152 => ?_)
          intro H locs hr4145 hP hD hS
          try dsimp only at hr4145
          refine Kpdr (ws := [(h0, oX10 tby (nI kt) tln tsp kd14147 (nI ks14148) (nI kn14149) tf14150), (tby, iA G 240 fby), (tsp, oX8 120 1 tspc (nI ksp14151)), (tspc, iA G 120 gtsp4152)]) hP hD (fun hP hD => ?_)
          obtain ⟨hr4145, w4153⟩ := hr4145
          rcases hr4145 with rfl | rfl
          · refine lv_if_ne (tgt := 42) hx hb gX10_takesAll_2.1 (by decide) (fun _ => ?_) (fun c9 => absurd c9 (by decide))
            refine lv_aload_n hx hb gX10_takesAll_2.2.2.2.1 rfl (lv_at1 hl) ?_
            refine lv_bipush (v := (-2)) hx hb gX10_takesAll_2.2.2.2.2.1 (by decide) ?_
            refine vV (wr := [(tby, iA G 240 fby)]) hC hK hl hP hD hS hA (t_addStep l G h0 (-2) tby kt tln tsp kd14147 ks14148 kn14149 tf14150 tspc ksp14151 gtsp4152 (by omega)) si_X10_152 [0, 2, 3] [1] sm_0_2_3 fm_0_2_3 nd_0_2_3 sm_1 nd_1 dj_0_2_3__1 rfl rfl rfl rfl rfl (Nat.le_of_ble_eq_true rfl) (rmT (Nat.le_of_ble_eq_true rfl) (Nat.le_of_ble_eq_true rfl)) ⟨Nat.le_of_ble_eq_true rfl, Nat.le_of_ble_eq_true rfl⟩ gX10_takesAll_2.2.2.2.2.2.1 (Ktu2 fun ksp14157 gtsp4158 => ?_)
            intro H locs hr4155 hP hD hS
            try dsimp only at hr4155
            refine Kpdr (ws := [(tby, iA G 240 fby), (h0, oX10 tby (nI kt) tln tsp kd14147 (nI ks14148) (nI kn14149) tf14150), (tsp, oX8 120 1 tspc (nI ksp14157)), (tspc, iA G 120 gtsp4158)]) hP hD (fun hP hD => ?_)
            have w4159 := hr4155
            refine lv_iinc (v := nI (kP + 1)) (lv' := [(2, .int (nI (kP + 1))), (0, .ref h0), (1, .int (nI jo))]) hx hb gX10_takesAll_2.2.2.2.2.2.2.1 hl (k := 0) rfl (nI_1 _) (by decide) rfl (fun ls hl => ?_)
            refine lv_goto (tgt := 12) hx hb gX10_takesAll_2.2.2.2.2.2.2.2.1 (by decide) ?_
            refine Kpds (ws' := [(h0, oX10 tby (nI kt) tln tsp kd14147 (nI ks14148) (nI kn14149) tf14150), (tby, iA G 240 fby), (tsp, oX8 120 1 tspc (nI ksp14157)), (tspc, iA G 120 gtsp4158)]) hP hD [1, 0, 2, 3] fm_1_0_2_3 nd_1_0_2_3 sm_1_0_2_3 (fun hP hD => ?_)
            exact ihP (kP + 1) kd14147 tf14150 gtsp4158 ks14148 kn14149 ksp14157 _ _ _ (by omega) (by first | assumption | exact Or.inl rfl | exact Or.inr rfl | omega) (by first | assumption | exact Or.inl rfl | exact Or.inr rfl | omega) (by first | assumption | exact Or.inl rfl | exact Or.inr rfl | omega) (And.intro hP hD) hS (lv_sub hl [0, 1, 2] rfl)
          · refine lv_if_ne (tgt := 42) hx hb gX10_takesAll_2.1 (by decide) (fun c9 => absurd (by decide) c9) (fun _ => ?_)
            refine lv_iconst (v := 0) hx hb gX10_takesAll_2.2.1 (by decide) ?_
            refine toQ hQ0 ?_
            exact RI (v := 0) hC hP hD hS [0, 1, 2, 3] (kd14147, ks14148, kn14149, tf14150, ksp14151, gtsp4152) rfl rfl (by decide) (⟨Or.inr (rfl), by dsimp only; omega⟩) (by decide +kernel) gX10_takesAll_2.2.2.1
        · refine lv_if_eq (tgt := 54) hx hb gX10_takesAll_1.2.2.2.2.1 (by decide) (fun _ => ?_) (fun c9 => absurd (by decide) c9)
          refine lv_iconst (v := 1) hx hb gX10_takesAll_2.2.2.2.2.2.2.2.2.1 (by decide) ?_
          refine toQ hQ0 ?_
          exact RI (v := 1) hC hP hD hS [0, 1, 2, 3] (vkd, vks, vkn, vtf, vksp, vtsp) rfl rfl (by decide) (⟨Or.inl (rfl), by dsimp only; omega⟩) (by decide +kernel) gX10_takesAll_2.2.2.2.2.2.2.2.2.2
    exact keyP 240 0 kd14129 tf14132 gtsp4134 ks14130 kn14131 ksp14133 _ _ _ (by omega) (by first | assumption | exact Or.inl rfl | exact Or.inr rfl | omega) (by first | assumption | exact Or.inl rfl | exact Or.inr rfl | omega) (by first | assumption | exact Or.inl rfl | exact Or.inr rfl | omega) (And.intro hP hD) hS (lv_sub hl [0, 1, 2] rfl)
  · refine lv_if_ne (tgt := 10) hx hb gX10_takesAll_0.2.2.2.1 (by decide) (fun c9 => absurd (by decide) c9) (fun _ => ?_)
    refine lv_iconst (v := 0) hx hb gX10_takesAll_0.2.2.2.2.1 (by decide) ?_
    refine toQ hQ0 ?_
    exact RI (v := 0) hC hP hD hS [0, 1, 2, 3] (kd14129, ks14130, kn14131, tf14132, ksp14133, gtsp4134) rfl rfl (by decide) (⟨Or.inr (rfl), by dsimp only; omega⟩) (by decide +kernel) gX10_takesAll_0.2.2.2.2.2.1
def K_t_cond_step (l : Launch) (G : GG) (K : OO) (mn : Nat) (h0 : Nat) (jo : Nat) (tby : Nat) (kt : Nat) (tln : Nat) (tsp : Nat) (tkd : Int32) (ks : Nat) (kn : Nat) (tf9 : Int32) (fby : Nat → Int32) (tspc : Nat) (ksp : Nat) (ftsp : Nat → Int32) : Prop := MIo l G K yX10_takesCond cX10_takesCond 3 (some .boolean) (11 + 4 * mn) 0 0 [.ref h0, .int (nI jo)] [(h0, oX10 tby (nI kt) tln tsp tkd (nI ks) (nI kn) tf9), (tby, iA G 240 fby), (tsp, oX8 120 1 tspc (nI ksp)), (tspc, iA G 120 ftsp)] (fun (r : Int32) (u : Int32 × Nat × Nat × Int32 × Nat × (Nat → Int32)) => (r = 1 ∨ r = 0) ∧ (u.2.1 ≤ 240 ∧ u.2.2.1 ≤ 240 ∧ u.2.2.2.2.1 ≤ 120)) (fun u : Int32 × Nat × Nat × Int32 × Nat × (Nat → Int32) => [(h0, oX10 tby (nI kt) tln tsp u.1 (nI u.2.1) (nI u.2.2.1) u.2.2.2.1), (tby, iA G 240 fby), (tsp, oX8 120 1 tspc (nI u.2.2.2.2.1)), (tspc, iA G 120 u.2.2.2.2.2)])
set_option maxHeartbeats 4000000 in
set_option maxRecDepth 100000 in
theorem t_cond_step (l : Launch) (G : GG) (K : OO) (mn : Nat) (h0 : Nat) (jo : Nat) (tby : Nat) (kt : Nat) (tln : Nat) (tsp : Nat) (tkd : Int32) (ks : Nat) (kn : Nat) (tf9 : Int32) (fby : Nat → Int32) (tspc : Nat) (ksp : Nat) (ftsp : Nat → Int32) (hkt : kt ≤ 240) (hks : ks ≤ 240) (hkn : kn ≤ 240) (hksp : ksp ≤ 120) (hjm : jo + mn = 4) (ihC : ∀ m9, m9 < mn → ∀ (h0 : Nat) (jo : Nat) (tby : Nat) (kt : Nat) (tln : Nat) (tsp : Nat) (tkd : Int32) (ks : Nat) (kn : Nat) (tf9 : Int32) (fby : Nat → Int32) (tspc : Nat) (ksp : Nat) (ftsp : Nat → Int32) (hkt : kt ≤ 240) (hks : ks ≤ 240) (hkn : kn ≤ 240) (hksp : ksp ≤ 120) (hjm : jo + m9 = 4), MIo l G K yX10_takesCond cX10_takesCond 3 (some .boolean) (11 + 4 * m9) 0 0 [.ref h0, .int (nI jo)] [(h0, oX10 tby (nI kt) tln tsp tkd (nI ks) (nI kn) tf9), (tby, iA G 240 fby), (tsp, oX8 120 1 tspc (nI ksp)), (tspc, iA G 120 ftsp)] (fun (r : Int32) (u : Int32 × Nat × Nat × Int32 × Nat × (Nat → Int32)) => (r = 1 ∨ r = 0) ∧ (u.2.1 ≤ 240 ∧ u.2.2.1 ≤ 240 ∧ u.2.2.2.2.1 ≤ 120)) (fun u : Int32 × Nat × Nat × Int32 × Nat × (Nat → Int32) => [(h0, oX10 tby (nI kt) tln tsp u.1 (nI u.2.1) (nI u.2.2.1) u.2.2.2.1), (tby, iA G 240 fby), (tsp, oX8 120 1 tspc (nI u.2.2.2.2.1)), (tspc, iA G 120 u.2.2.2.2.2)])) : K_t_cond_step l G K mn h0 jo tby kt tln tsp tkd ks kn tf9 fby tspc ksp ftsp := by
  refine MIo.start (by decide +kernel) (Nat.le_of_ble_eq_true rfl) ?_
  intro p e s m below meth c A ls hC hK hP hD hS hA hl hO
  refine absQ (fun Q0 hQ0 => ?_)
  have hl : lv_has ls 3 [(0, .ref h0), (1, .int (nI jo))] := hl
  refine Kan8 hC (fun hx hb hr hml hB hown hlocks hnm => ?_)
  refine lv_aload_n hx hb gX10_takesCond_0.1 rfl (lv_at0 hl) ?_
  refine lv_iload_n hx hb gX10_takesCond_0.2.1 rfl (lv_at1 hl) ?_
  refine iVo (wr := []) hO hC hK hl hP hD hS hA (t_all l G K mn h0 jo tby kt tln tsp tkd ks kn tf9 fby tspc ksp ftsp (by omega) (by omega) (by omega) (by omega) (by omega) ihC) si_X10_147 [0, 1, 2, 3] [] sm_0_1_2_3 fm_0_1_2_3 nd_0_1_2_3 rfl rfl (by decide) rfl rfl rfl rfl rfl (Nat.le_of_ble_eq_true rfl) ⟨by simp only [RM]; omega, by simp only [RM]; omega⟩ ⟨Nat.le_of_ble_eq_true rfl, Nat.le_of_ble_eq_true rfl⟩ gX10_takesCond_0.2.2.1 (fun r4160 => Ktu6 fun kd14162 ks14163 kn14164 tf14165 ksp14166 gtsp4167 => ?_)
  intro H locs hr4160 hP hD hS
  try dsimp only at hr4160
  refine Kpdr (ws := [(h0, oX10 tby (nI kt) tln tsp kd14162 (nI ks14163) (nI kn14164) tf14165), (tby, iA G 240 fby), (tsp, oX8 120 1 tspc (nI ksp14166)), (tspc, iA G 120 gtsp4167)]) hP hD (fun hP hD => ?_)
  obtain ⟨hr4160, w4168⟩ := hr4160
  rcases hr4160 with rfl | rfl
  · refine lv_if_ne (tgt := 10) hx hb gX10_takesCond_0.2.2.2.1 (by decide) (fun _ => ?_) (fun c9 => absurd c9 (by decide))
    refine lv_iconst (v := 0) hx hb gX10_takesCond_0.2.2.2.2.2.2.1 (by decide) ?_
    refine lv_istore_n (lv' := [(2, .int 0), (0, .ref h0), (1, .int (nI jo))]) hx hb gX10_takesCond_0.2.2.2.2.2.2.2.1 rfl hl (by decide) rfl (fun ls hl => ?_)
    have keyP : ∀ (nP kP : Nat) (vkd : Int32) (vtf : Int32) (vtsp : Nat → Int32) (vks : Nat) (vkn : Nat) (vksp : Nat) (H : Heap) (locs : List Loc) (ls : Array Slot), kP + nP = 240 → (vks ≤ 240) → (vkn ≤ 240) → (vksp ≤ 120) → va_PD G A [(h0, oX10 tby (nI kt) tln tsp vkd (nI vks) (nI vkn) vtf), (tby, iA G 240 fby), (tsp, oX8 120 1 tspc (nI vksp)), (tspc, iA G 120 vtsp)] H → va_S A s.heap H locs → lv_has ls 3 [(2, .int (nI kP)), (0, .ref h0), (1, .int (nI jo))] → W p l e (RM (11 + 4 * mn) 0 0) s m ([.ref h0, .int (nI jo)] : List Value).toArray below meth c H locs 0 0 Q0 (F0 m 12 ls []) := by
      intro nP
      induction nP with
      | zero =>
        intro kP vkd vtf vtsp vks vkn vksp H locs ls hkP hvks hvkn hvksp hPD hS hl
        refine Kan2 hPD (fun hP hD => ?_)
        obtain rfl : 240 = kP := by omega
        have hl : lv_has ls 3 [(2, .int 240), (0, .ref h0), (1, .int (nI jo))] := hl
        refine lv_iload_n hx hb gX10_takesCond_0.2.2.2.2.2.2.2.2.1 rfl (lv_at0 hl) ?_
        refine lv_sipush (v := 240) hx hb gX10_takesCond_0.2.2.2.2.2.2.2.2.2 (by decide) ?_
        refine lv_icmp_ge (tgt := 54) hx hb gX10_takesCond_1.1 (by decide) (fun _ => ?_) (fun c9 => absurd (by decide) c9)
        refine lv_iconst (v := 1) hx hb gX10_takesCond_2.2.2.2.2.2.2.2.2.1 (by decide) ?_
        refine toQ hQ0 ?_
        exact RI (v := 1) hC hP hD hS [0, 1, 2, 3] (vkd, vks, vkn, vtf, vksp, vtsp) rfl rfl (by decide) (⟨Or.inl (rfl), by dsimp only; omega⟩) (by decide +kernel) gX10_takesCond_2.2.2.2.2.2.2.2.2.2
      | succ nP ihP =>
        intro kP vkd vtf vtsp vks vkn vksp H locs ls hkP hvks hvkn hvksp hPD hS hl
        refine Kan2 hPD (fun hP hD => ?_)
        refine lv_iload_n hx hb gX10_takesCond_0.2.2.2.2.2.2.2.2.1 rfl (lv_at0 hl) ?_
        refine lv_sipush (v := 240) hx hb gX10_takesCond_0.2.2.2.2.2.2.2.2.2 (by decide) ?_
        refine lv_icmp_ge (tgt := 54) hx hb gX10_takesCond_1.1 (by decide) (fun c9 => absurd c9 (nI_ge (a := kP) (b := 240) (by omega) (by omega))) (fun _ => ?_)
        refine lv_aload_n hx hb gX10_takesCond_1.2.1 rfl (lv_at1 hl) ?_
        refine va_ldcS (index := 150) (tx := "o\x72") hx hb hown (hO.2.1 8 (by decide)) gX10_takesCond_1.2.2.1 ?_
        refine pVo hO hS hC hK hl hP hD (t_isName l G K 8 h0 tby kt tln tsp vkd vks vkn vtf fby (hkt) (hvks) (hvkn) ((by decide))) si_X10_102 [0, 1] sm_0_1 fm_0_1 nd_0_1 rfl rfl rfl rfl rfl (Nat.le_of_ble_eq_true rfl) (rmT (Nat.le_of_ble_eq_true rfl) (Nat.le_of_ble_eq_true rfl)) ⟨by first | exact Nat.le_of_ble_eq_true rfl | exact Nat.zero_le _, by first | exact Nat.le_of_ble_eq_true rfl | exact Nat.zero_le _⟩ gX10_takesCond_1.2.2.2.1 (Kors (Keqr ?_) (Keqr ?_))
        · refine lv_if_eq (tgt := 54) hx hb gX10_takesCond_1.2.2.2.2.1 (by decide) (fun c9 => absurd c9 (by decide)) (fun _ => ?_)
          refine lv_aload_n hx hb gX10_takesCond_1.2.2.2.2.2.1 rfl (lv_at1 hl) ?_
          refine vV (wr := [(tsp, oX8 120 1 tspc (nI vksp)), (tspc, iA G 120 vtsp)]) hC hK hl hP hD hS hA (t_advance l G h0 tby kt tln tsp vkd vks vkn vtf fby (hkt) (hvks) (hvkn)) si_X10_47 [0, 1] [2, 3] sm_0_1 fm_0_1 nd_0_1 sm_2_3 nd_2_3 dj_0_1__2_3 rfl rfl rfl rfl rfl (Nat.le_of_ble_eq_true rfl) (rmT (Nat.le_of_ble_eq_true rfl) (Nat.le_of_ble_eq_true rfl)) ⟨Nat.le_of_ble_eq_true rfl, Nat.le_of_ble_eq_true rfl⟩ gX10_takesCond_1.2.2.2.2.2.2.1 (Ktu3 fun kd14174 ks14175 kn14176 => ?_)
          intro H locs hr4172 hP hD hS
          try dsimp only at hr4172
          refine Kpdr (ws := [(tsp, oX8 120 1 tspc (nI vksp)), (tspc, iA G 120 vtsp), (h0, oX10 tby (nI kt) tln tsp kd14174 (nI ks14175) (nI kn14176) vtf), (tby, iA G 240 fby)]) hP hD (fun hP hD => ?_)
          have w4177 := hr4172
          refine lv_aload_n hx hb gX10_takesCond_1.2.2.2.2.2.2.2.1 rfl (lv_at1 hl) ?_
          refine lv_iload_n hx hb gX10_takesCond_1.2.2.2.2.2.2.2.2.1 rfl (lv_at2 hl) ?_
          refine iVo (wr := []) hO hC hK hl hP hD hS hA (t_all l G K mn h0 jo tby kt tln tsp kd14174 ks14175 kn14176 vtf fby tspc vksp vtsp (by omega) (by omega) (by omega) (by omega) (by omega) ihC) si_X10_147 [2, 3, 0, 1] [] sm_2_3_0_1 fm_2_3_0_1 nd_2_3_0_1 rfl rfl (by decide) rfl rfl rfl rfl rfl (Nat.le_of_ble_eq_true rfl) ⟨by simp only [RM]; omega, by simp only [RM]; omega⟩ ⟨Nat.le_of_ble_eq_true rfl, Nat.le_of_ble_eq_true rfl⟩ gX10_takesCond_1.2.2.2.2.2.2.2.2.2 (fun r4178 => Ktu6 fun kd14180 ks14181 kn14182 tf14183 ksp14184 gtsp4185 => ?_)
          intro H locs hr4178 hP hD hS
          try dsimp only at hr4178
          refine Kpdr (ws := [(h0, oX10 tby (nI kt) tln tsp kd14180 (nI ks14181) (nI kn14182) tf14183), (tby, iA G 240 fby), (tsp, oX8 120 1 tspc (nI ksp14184)), (tspc, iA G 120 gtsp4185)]) hP hD (fun hP hD => ?_)
          obtain ⟨hr4178, w4186⟩ := hr4178
          rcases hr4178 with rfl | rfl
          · refine lv_if_ne (tgt := 42) hx hb gX10_takesCond_2.1 (by decide) (fun _ => ?_) (fun c9 => absurd c9 (by decide))
            refine lv_aload_n hx hb gX10_takesCond_2.2.2.2.1 rfl (lv_at1 hl) ?_
            refine lv_bipush (v := (-3)) hx hb gX10_takesCond_2.2.2.2.2.1 (by decide) ?_
            refine vV (wr := [(tby, iA G 240 fby)]) hC hK hl hP hD hS hA (t_addStep l G h0 (-3) tby kt tln tsp kd14180 ks14181 kn14182 tf14183 tspc ksp14184 gtsp4185 (by omega)) si_X10_152 [0, 2, 3] [1] sm_0_2_3 fm_0_2_3 nd_0_2_3 sm_1 nd_1 dj_0_2_3__1 rfl rfl rfl rfl rfl (Nat.le_of_ble_eq_true rfl) (rmT (Nat.le_of_ble_eq_true rfl) (Nat.le_of_ble_eq_true rfl)) ⟨Nat.le_of_ble_eq_true rfl, Nat.le_of_ble_eq_true rfl⟩ gX10_takesCond_2.2.2.2.2.2.1 (Ktu2 fun ksp14190 gtsp4191 => ?_)
            intro H locs hr4188 hP hD hS
            try dsimp only at hr4188
            refine Kpdr (ws := [(tby, iA G 240 fby), (h0, oX10 tby (nI kt) tln tsp kd14180 (nI ks14181) (nI kn14182) tf14183), (tsp, oX8 120 1 tspc (nI ksp14190)), (tspc, iA G 120 gtsp4191)]) hP hD (fun hP hD => ?_)
            have w4192 := hr4188
            refine lv_iinc (v := nI (kP + 1)) (lv' := [(2, .int (nI (kP + 1))), (0, .ref h0), (1, .int (nI jo))]) hx hb gX10_takesCond_2.2.2.2.2.2.2.1 hl (k := 0) rfl (nI_1 _) (by decide) rfl (fun ls hl => ?_)
            refine lv_goto (tgt := 12) hx hb gX10_takesCond_2.2.2.2.2.2.2.2.1 (by decide) ?_
            refine Kpds (ws' := [(h0, oX10 tby (nI kt) tln tsp kd14180 (nI ks14181) (nI kn14182) tf14183), (tby, iA G 240 fby), (tsp, oX8 120 1 tspc (nI ksp14190)), (tspc, iA G 120 gtsp4191)]) hP hD [1, 0, 2, 3] fm_1_0_2_3 nd_1_0_2_3 sm_1_0_2_3 (fun hP hD => ?_)
            exact ihP (kP + 1) kd14180 tf14183 gtsp4191 ks14181 kn14182 ksp14190 _ _ _ (by omega) (by first | assumption | exact Or.inl rfl | exact Or.inr rfl | omega) (by first | assumption | exact Or.inl rfl | exact Or.inr rfl | omega) (by first | assumption | exact Or.inl rfl | exact Or.inr rfl | omega) (And.intro hP hD) hS (lv_sub hl [0, 1, 2] rfl)
          · refine lv_if_ne (tgt := 42) hx hb gX10_takesCond_2.1 (by decide) (fun c9 => absurd (by decide) c9) (fun _ => ?_)
            refine lv_iconst (v := 0) hx hb gX10_takesCond_2.2.1 (by decide) ?_
            refine toQ hQ0 ?_
            exact RI (v := 0) hC hP hD hS [0, 1, 2, 3] (kd14180, ks14181, kn14182, tf14183, ksp14184, gtsp4185) rfl rfl (by decide) (⟨Or.inr (rfl), by dsimp only; omega⟩) (by decide +kernel) gX10_takesCond_2.2.2.1
        · refine lv_if_eq (tgt := 54) hx hb gX10_takesCond_1.2.2.2.2.1 (by decide) (fun _ => ?_) (fun c9 => absurd (by decide) c9)
          refine lv_iconst (v := 1) hx hb gX10_takesCond_2.2.2.2.2.2.2.2.2.1 (by decide) ?_
          refine toQ hQ0 ?_
          exact RI (v := 1) hC hP hD hS [0, 1, 2, 3] (vkd, vks, vkn, vtf, vksp, vtsp) rfl rfl (by decide) (⟨Or.inl (rfl), by dsimp only; omega⟩) (by decide +kernel) gX10_takesCond_2.2.2.2.2.2.2.2.2.2
    exact keyP 240 0 kd14162 tf14165 gtsp4167 ks14163 kn14164 ksp14166 _ _ _ (by omega) (by first | assumption | exact Or.inl rfl | exact Or.inr rfl | omega) (by first | assumption | exact Or.inl rfl | exact Or.inr rfl | omega) (by first | assumption | exact Or.inl rfl | exact Or.inr rfl | omega) (And.intro hP hD) hS (lv_sub hl [0, 1, 2] rfl)
  · refine lv_if_ne (tgt := 10) hx hb gX10_takesCond_0.2.2.2.1 (by decide) (fun c9 => absurd (by decide) c9) (fun _ => ?_)
    refine lv_iconst (v := 0) hx hb gX10_takesCond_0.2.2.2.2.1 (by decide) ?_
    refine toQ hQ0 ?_
    exact RI (v := 0) hC hP hD hS [0, 1, 2, 3] (kd14162, ks14163, kn14164, tf14165, ksp14166, gtsp4167) rfl rfl (by decide) (⟨Or.inr (rfl), by dsimp only; omega⟩) (by decide +kernel) gX10_takesCond_0.2.2.2.2.2.1
theorem t_cond (l : Launch) (G : GG) (K : OO) : ∀ (mn : Nat) (h0 : Nat) (jo : Nat) (tby : Nat) (kt : Nat) (tln : Nat) (tsp : Nat) (tkd : Int32) (ks : Nat) (kn : Nat) (tf9 : Int32) (fby : Nat → Int32) (tspc : Nat) (ksp : Nat) (ftsp : Nat → Int32) (hkt : kt ≤ 240) (hks : ks ≤ 240) (hkn : kn ≤ 240) (hksp : ksp ≤ 120) (hjm : jo + mn = 4), MIo l G K yX10_takesCond cX10_takesCond 3 (some .boolean) (11 + 4 * mn) 0 0 [.ref h0, .int (nI jo)] [(h0, oX10 tby (nI kt) tln tsp tkd (nI ks) (nI kn) tf9), (tby, iA G 240 fby), (tsp, oX8 120 1 tspc (nI ksp)), (tspc, iA G 120 ftsp)] (fun (r : Int32) (u : Int32 × Nat × Nat × Int32 × Nat × (Nat → Int32)) => (r = 1 ∨ r = 0) ∧ (u.2.1 ≤ 240 ∧ u.2.2.1 ≤ 240 ∧ u.2.2.2.2.1 ≤ 120)) (fun u : Int32 × Nat × Nat × Int32 × Nat × (Nat → Int32) => [(h0, oX10 tby (nI kt) tln tsp u.1 (nI u.2.1) (nI u.2.2.1) u.2.2.2.1), (tby, iA G 240 fby), (tsp, oX8 120 1 tspc (nI u.2.2.2.2.1)), (tspc, iA G 120 u.2.2.2.2.2)]) := by
  intro mn
  induction mn using Nat.strongRecOn with
  | ind mn ih => exact fun h0 jo tby kt tln tsp tkd ks kn tf9 fby tspc ksp ftsp hkt hks hkn hksp hjm => t_cond_step l G K mn h0 jo tby kt tln tsp tkd ks kn tf9 fby tspc ksp ftsp hkt hks hkn hksp hjm ih
