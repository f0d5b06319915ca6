section WR
variable {p : Program} {l : Launch} {e : Env} {R : Room} {s : State} {m : MethodId} {args : Array Value} {below : List Frame} {meth : Method} {c : Code} {H : Heap} {locs : List Loc} {cells slots : Nat} {Q : State → Prop}
variable {pc : Nat} {ls : Array Slot} {rest : List Value} {G : GG} {ws : va_W} {A : Nat → Prop} {y0 : MethodName} {b0 : ByteArray} {mL0 : Nat} {rt0 : Option FieldType} {a : Nat} {H0 : Heap}
end WR
theorem ix40_0 : ∀ k, k < 40 → decide (¬ (0 + nI k < 0 ∨ 160 ≤ (0 + nI k).toNatClampNeg)) = true := by decide +kernel
theorem ix40_40 : ∀ k, k < 40 → decide (¬ (40 + nI k < 0 ∨ 160 ≤ (40 + nI k).toNatClampNeg)) = true := by decide +kernel
theorem ix40_80 : ∀ k, k < 40 → decide (¬ (80 + nI k < 0 ∨ 160 ≤ (80 + nI k).toNatClampNeg)) = true := by decide +kernel
theorem ix40_120 : ∀ k, k < 40 → decide (¬ (120 + nI k < 0 ∨ 160 ≤ (120 + nI k).toNatClampNeg)) = true := by decide +kernel
theorem Wi_c18 {v : Int32} (h : Wi v 1 8) : v = 1 ∨ v = 2 ∨ v = 3 ∨ v = 4 ∨ v = 5 ∨ v = 6 ∨ v = 7 ∨ v = 8 := by
  rw [Wi_iff] at h
  have h1 : (1 : Int32).toInt = 1 := by decide
  have h2 : (2 : Int32).toInt = 2 := by decide
  have h3 : (3 : Int32).toInt = 3 := by decide
  have h4 : (4 : Int32).toInt = 4 := by decide
  have h5 : (5 : Int32).toInt = 5 := by decide
  have h6 : (6 : Int32).toInt = 6 := by decide
  have h7 : (7 : Int32).toInt = 7 := by decide
  have h8 : (8 : Int32).toInt = 8 := by decide
  rw [← Int32.toInt_inj, ← Int32.toInt_inj, ← Int32.toInt_inj, ← Int32.toInt_inj, ← Int32.toInt_inj, ← Int32.toInt_inj, ← Int32.toInt_inj, ← Int32.toInt_inj]
  omega
theorem Wi_of {v a b : Int32} (h1 : a ≤ v) (h2 : v ≤ b) : Wi v a b := ⟨Int32.not_lt.mpr h1, Int32.not_lt.mpr h2⟩
theorem upd_z {k : Nat} : upd (fun _ => 0) k 0 = (fun _ => 0) := by
  funext j
  unfold upd
  split <;> rfl
section WR
variable {p : Program} {l : Launch} {e : Env} {R : Room} {s : State} {m : MethodId} {args : Array Value} {below : List Frame} {meth : Method} {c : Code} {H : Heap} {locs : List Loc} {cells slots : Nat} {Q : State → Prop}
variable {pc : Nat} {ls : Array Slot} {rest : List Value} {G : GG} {ws : va_W} {A : Nat → Prop} {y0 : MethodName} {b0 : ByteArray} {mL0 : Nat} {rt0 : Option FieldType} {a : Nat} {H0 : Heap}
theorem dX10_append_0 : decode cX10_append 0 = .ok (.aload_n 0, 1) := by decide +kernel
theorem dX10_append_1 : decode cX10_append 1 = .ok (.getfield 27, 3) := by decide +kernel
theorem dX10_append_4 : decode cX10_append 4 = .ok (.aload_n 0, 1) := by decide +kernel
theorem dX10_append_5 : decode cX10_append 5 = .ok (.getfield 9, 3) := by decide +kernel
theorem gf_X10_9 (hC : CX p s m meth c y0 b0 mL0 rt0 args) (hy0 : y0.cls = RX10) (hK : KK G s) (hP : va_P G.1 vwCl ws H) (q0 : Nat) {fs : List Value} {v : Value} (he : ws[q0]? = some (a, .inr (10, fs))) (hv : fs[0]? = some v) (hdg : decode b0 pc = .ok (.getfield 9, 3)) (kk : W p l e R s m args below meth c H locs cells slots Q (F0 m (pc + 3) ls (v :: rest))) : W p l e R s m args below meth c H locs cells slots Q (F0 m pc ls (.ref a :: rest)) := by
  obtain ⟨hx, hb, hr, hml, hB, hown, hlocks, hnm⟩ := hC
  rw [hy0] at hown
  exact va_get (ci := 10) (C := RX10) (T := TX10) (N := 8) hx hb hB in_X10 hown hK.1 hP q0 he rfl 0 (by decide) (hB _ m_139) (fun _ h => h) hv hdg kk
theorem dX10_append_8 : decode cX10_append 8 = .ok (.arraylength, 1) := by decide +kernel
theorem dX10_append_9 : decode cX10_append 9 = .ok (.if_icmp .lt 4, 3) := by decide +kernel
theorem dX10_append_13 : decode cX10_append 13 = .ok (.aload_n 0, 1) := by decide +kernel
theorem dX10_append_14 : decode cX10_append 14 = .ok (.getfield 9, 3) := by decide +kernel
theorem dX10_append_17 : decode cX10_append 17 = .ok (.aload_n 0, 1) := by decide +kernel
theorem dX10_append_18 : decode cX10_append 18 = .ok (.getfield 27, 3) := by decide +kernel
theorem dX10_append_21 : decode cX10_append 21 = .ok (.iload_n 1, 1) := by decide +kernel
theorem dX10_append_22 : decode cX10_append 22 = .ok (.iastore, 1) := by decide +kernel
theorem dX10_append_23 : decode cX10_append 23 = .ok (.aload_n 0, 1) := by decide +kernel
theorem dX10_append_24 : decode cX10_append 24 = .ok (.dup, 1) := by decide +kernel
theorem dX10_append_25 : decode cX10_append 25 = .ok (.getfield 27, 3) := by decide +kernel
theorem dX10_append_28 : decode cX10_append 28 = .ok (.iconst 1, 1) := by decide +kernel
theorem dX10_append_29 : decode cX10_append 29 = .ok (.iadd, 1) := by decide +kernel
theorem dX10_append_30 : decode cX10_append 30 = .ok (.putfield 27, 3) := by decide +kernel
theorem dX10_append_33 : decode cX10_append 33 = .ok (.return_, 1) := by decide +kernel
end WR
noncomputable def A_feed (n : Int32) : Int32 := ifc (Wi n 1 8) n (-1)
section WR
variable {p : Program} {l : Launch} {e : Env} {R : Room} {s : State} {m : MethodId} {args : Array Value} {below : List Frame} {meth : Method} {c : Code} {H : Heap} {locs : List Loc} {cells slots : Nat} {Q : State → Prop}
variable {pc : Nat} {ls : Array Slot} {rest : List Value} {G : GG} {ws : va_W} {A : Nat → Prop} {y0 : MethodName} {b0 : ByteArray} {mL0 : Nat} {rt0 : Option FieldType} {a : Nat} {H0 : Heap}
theorem dX11_feed_0 : decode cX11_feed 0 = .ok (.iload_n 3, 1) := by decide +kernel
theorem dX11_feed_1 : decode cX11_feed 1 = .ok (.iconst 1, 1) := by decide +kernel
theorem dX11_feed_2 : decode cX11_feed 2 = .ok (.bipush 8, 2) := by decide +kernel
theorem dX11_feed_4 : decode cX11_feed 4 = .ok (.invokestatic 83, 3) := by decide +kernel
theorem dX11_feed_7 : decode cX11_feed 7 = .ok (.ifCond .ne 5, 3) := by decide +kernel
theorem dX11_feed_12 : decode cX11_feed 12 = .ok (.aload_n 0, 1) := by decide +kernel
theorem dX11_feed_13 : decode cX11_feed 13 = .ok (.getfield 58, 3) := by decide +kernel
theorem dX11_feed_16 : decode cX11_feed 16 = .ok (.invokevirtual 224, 3) := by decide +kernel
theorem dX11_feed_19 : decode cX11_feed 19 = .ok (.iload_n 3, 1) := by decide +kernel
theorem dX11_feed_20 : decode cX11_feed 20 = .ok (.iadd, 1) := by decide +kernel
theorem dX11_feed_21 : decode cX11_feed 21 = .ok (.sipush 240, 3) := by decide +kernel
theorem dX11_feed_24 : decode cX11_feed 24 = .ok (.if_icmp .le 6, 3) := by decide +kernel
theorem dX11_feed_30 : decode cX11_feed 30 = .ok (.iconst 0, 1) := by decide +kernel
theorem dX11_feed_31 : decode cX11_feed 31 = .ok (.istore 4, 2) := by decide +kernel
theorem dX11_feed_33 : decode cX11_feed 33 = .ok (.iload 4, 2) := by decide +kernel
theorem dX11_feed_35 : decode cX11_feed 35 = .ok (.iload_n 3, 1) := by decide +kernel
theorem dX11_feed_36 : decode cX11_feed 36 = .ok (.if_icmp .ge 28, 3) := by decide +kernel
theorem dX11_feed_39 : decode cX11_feed 39 = .ok (.aload_n 0, 1) := by decide +kernel
theorem dX11_feed_40 : decode cX11_feed 40 = .ok (.getfield 58, 3) := by decide +kernel
theorem dX11_feed_43 : decode cX11_feed 43 = .ok (.lload_n 1, 1) := by decide +kernel
theorem dX11_feed_44 : decode cX11_feed 44 = .ok (.bipush 8, 2) := by decide +kernel
theorem dX11_feed_46 : decode cX11_feed 46 = .ok (.iload 4, 2) := by decide +kernel
theorem dX11_feed_48 : decode cX11_feed 48 = .ok (.imul, 1) := by decide +kernel
theorem dX11_feed_49 : decode cX11_feed 49 = .ok (.lushr, 1) := by decide +kernel
theorem dX11_feed_50 : decode cX11_feed 50 = .ok (.l2i, 1) := by decide +kernel
theorem dX11_feed_51 : decode cX11_feed 51 = .ok (.sipush 255, 3) := by decide +kernel
theorem dX11_feed_54 : decode cX11_feed 54 = .ok (.iand, 1) := by decide +kernel
theorem dX11_feed_55 : decode cX11_feed 55 = .ok (.invokevirtual 225, 3) := by decide +kernel
theorem m_745 : Cond.code yX10_append cX10_append 2 none ∈ BW := List.mem_of_getElem? (i := 745) (by decide +kernel)
theorem m_742 : Cond.methodLink RX11 225 yX10_append ∈ BW := List.mem_of_getElem? (i := 742) (by decide +kernel)
theorem m_743 : Cond.instanceMethod yX10_append ∈ BW := List.mem_of_getElem? (i := 743) (by decide +kernel)
theorem m_744 : Cond.selects RX10 yX10_append yX10_append ∈ BW := List.mem_of_getElem? (i := 744) (by decide +kernel)
theorem si_X11_225 : SV RX11 RX10 225 yX10_append cX10_append 2 none 1 := ⟨⟨m_742, m_743, m_744, m_37, m_745⟩, rfl, by decide +kernel, by decide +kernel, by decide +kernel⟩
theorem dX11_feed_58 : decode cX11_feed 58 = .ok (.iinc 4 1, 3) := by decide +kernel
theorem dX11_feed_61 : decode cX11_feed 61 = .ok (.goto (-28), 3) := by decide +kernel
theorem dX11_feed_64 : decode cX11_feed 64 = .ok (.aload_n 0, 1) := by decide +kernel
theorem dX11_feed_65 : decode cX11_feed 65 = .ok (.getfield 58, 3) := by decide +kernel
theorem dX11_feed_68 : decode cX11_feed 68 = .ok (.invokevirtual 224, 3) := by decide +kernel
theorem dX11_feed_71 : decode cX11_feed 71 = .ok (.ireturn, 1) := by decide +kernel
theorem dX11_feed_10 : decode cX11_feed 10 = .ok (.iconst (-1), 1) := by decide +kernel
theorem dX11_feed_11 : decode cX11_feed 11 = .ok (.ireturn, 1) := by decide +kernel
theorem dX10_byteAt_0 : decode cX10_byteAt 0 = .ok (.iload_n 1, 1) := by decide +kernel
theorem dX10_byteAt_1 : decode cX10_byteAt 1 = .ok (.ifCond .lt 29, 3) := by decide +kernel
theorem dX10_byteAt_4 : decode cX10_byteAt 4 = .ok (.iload_n 1, 1) := by decide +kernel
theorem dX10_byteAt_5 : decode cX10_byteAt 5 = .ok (.aload_n 0, 1) := by decide +kernel
theorem dX10_byteAt_6 : decode cX10_byteAt 6 = .ok (.getfield 27, 3) := by decide +kernel
theorem dX10_byteAt_9 : decode cX10_byteAt 9 = .ok (.if_icmp .ge 21, 3) := by decide +kernel
theorem dX10_byteAt_30 : decode cX10_byteAt 30 = .ok (.iconst (-1), 1) := by decide +kernel
theorem dX10_byteAt_31 : decode cX10_byteAt 31 = .ok (.ireturn, 1) := by decide +kernel
theorem dX10_isLetter_0 : decode cX10_isLetter 0 = .ok (.iload_n 0, 1) := by decide +kernel
theorem dX10_isLetter_1 : decode cX10_isLetter 1 = .ok (.bipush 97, 2) := by decide +kernel
theorem dX10_isLetter_3 : decode cX10_isLetter 3 = .ok (.bipush 122, 2) := by decide +kernel
theorem dX10_isLetter_5 : decode cX10_isLetter 5 = .ok (.invokestatic 89, 3) := by decide +kernel
theorem nm_50 : Cond.methodLinkNest RX10 89 yX11_within RX11 ∈ NestW := List.mem_of_getElem? (i := 50) (by decide +kernel)
theorem si_X10_89 : SSN RX10 RX11 89 yX11_within cX11_within 3 (some .boolean) 3 := ⟨⟨nm_50, m_213, m_2, m_214⟩, ⟨by decide +kernel, by decide +kernel, by decide +kernel⟩⟩
theorem dX10_isLetter_8 : decode cX10_isLetter 8 = .ok (.ireturn, 1) := by decide +kernel
theorem dX10_isDigit_0 : decode cX10_isDigit 0 = .ok (.iload_n 0, 1) := by decide +kernel
theorem dX10_isDigit_1 : decode cX10_isDigit 1 = .ok (.bipush 48, 2) := by decide +kernel
theorem dX10_isDigit_3 : decode cX10_isDigit 3 = .ok (.bipush 57, 2) := by decide +kernel
theorem dX10_isDigit_5 : decode cX10_isDigit 5 = .ok (.invokestatic 89, 3) := by decide +kernel
theorem dX10_isDigit_8 : decode cX10_isDigit 8 = .ok (.ireturn, 1) := by decide +kernel
theorem dX10_advance_0 : decode cX10_advance 0 = .ok (.aload_n 0, 1) := by decide +kernel
theorem dX10_advance_1 : decode cX10_advance 1 = .ok (.aload_n 0, 1) := by decide +kernel
theorem dX10_advance_2 : decode cX10_advance 2 = .ok (.getfield 37, 3) := by decide +kernel
theorem gf_X10_37 (hC : CX p s m meth c y0 b0 mL0 rt0 args) (hy0 : y0.cls = RX10) (hK : KK G s) (hP : va_P G.1 vwCl ws H) (q0 : Nat) {fs : List Value} {v : Value} (he : ws[q0]? = some (a, .inr (10, fs))) (hv : fs[6]? = some v) (hdg : decode b0 pc = .ok (.getfield 37, 3)) (kk : W p l e R s m args below meth c H locs cells slots Q (F0 m (pc + 3) ls (v :: rest))) : W p l e R s m args below meth c H locs cells slots Q (F0 m pc ls (.ref a :: rest)) := by
  obtain ⟨hx, hb, hr, hml, hB, hown, hlocks, hnm⟩ := hC
  rw [hy0] at hown
  exact va_get (ci := 10) (C := RX10) (T := TX10) (N := 8) hx hb hB in_X10 hown hK.1 hP q0 he rfl 6 (by decide) (hB _ m_146) (fun _ h => h) hv hdg kk
theorem dX10_advance_5 : decode cX10_advance 5 = .ok (.putfield 34, 3) := by decide +kernel
theorem dX10_advance_8 : decode cX10_advance 8 = .ok (.aload_n 0, 1) := by decide +kernel
theorem dX10_advance_9 : decode cX10_advance 9 = .ok (.getfield 34, 3) := by decide +kernel
theorem gf_X10_34 (hC : CX p s m meth c y0 b0 mL0 rt0 args) (hy0 : y0.cls = RX10) (hK : KK G s) (hP : va_P G.1 vwCl ws H) (q0 : Nat) {fs : List Value} {v : Value} (he : ws[q0]? = some (a, .inr (10, fs))) (hv : fs[5]? = some v) (hdg : decode b0 pc = .ok (.getfield 34, 3)) (kk : W p l e R s m args below meth c H locs cells slots Q (F0 m (pc + 3) ls (v :: rest))) : W p l e R s m args below meth c H locs cells slots Q (F0 m pc ls (.ref a :: rest)) := by
  obtain ⟨hx, hb, hr, hml, hB, hown, hlocks, hnm⟩ := hC
  rw [hy0] at hown
  exact va_get (ci := 10) (C := RX10) (T := TX10) (N := 8) hx hb hB in_X10 hown hK.1 hP q0 he rfl 5 (by decide) (hB _ m_145) (fun _ h => h) hv hdg kk
theorem dX10_advance_12 : decode cX10_advance 12 = .ok (.aload_n 0, 1) := by decide +kernel
theorem dX10_advance_13 : decode cX10_advance 13 = .ok (.getfield 27, 3) := by decide +kernel
theorem dX10_advance_16 : decode cX10_advance 16 = .ok (.if_icmp .ge 29, 3) := by decide +kernel
theorem dX10_advance_45 : decode cX10_advance 45 = .ok (.aload_n 0, 1) := by decide +kernel
theorem dX10_advance_46 : decode cX10_advance 46 = .ok (.aload_n 0, 1) := by decide +kernel
theorem dX10_advance_47 : decode cX10_advance 47 = .ok (.getfield 34, 3) := by decide +kernel
theorem dX10_advance_50 : decode cX10_advance 50 = .ok (.putfield 37, 3) := by decide +kernel
theorem dX10_advance_53 : decode cX10_advance 53 = .ok (.aload_n 0, 1) := by decide +kernel
theorem dX10_advance_54 : decode cX10_advance 54 = .ok (.aload_n 0, 1) := by decide +kernel
theorem dX10_advance_55 : decode cX10_advance 55 = .ok (.getfield 34, 3) := by decide +kernel
theorem dX10_advance_58 : decode cX10_advance 58 = .ok (.invokevirtual 78, 3) := by decide +kernel
theorem m_771 : Cond.code yX10_byteAt cX10_byteAt 2 (some .int) ∈ BW := List.mem_of_getElem? (i := 771) (by decide +kernel)
theorem m_768 : Cond.methodLink RX10 78 yX10_byteAt ∈ BW := List.mem_of_getElem? (i := 768) (by decide +kernel)
theorem m_769 : Cond.instanceMethod yX10_byteAt ∈ BW := List.mem_of_getElem? (i := 769) (by decide +kernel)
theorem m_770 : Cond.selects RX10 yX10_byteAt yX10_byteAt ∈ BW := List.mem_of_getElem? (i := 770) (by decide +kernel)
theorem si_X10_78 : SV RX10 RX10 78 yX10_byteAt cX10_byteAt 2 (some .int) 1 := ⟨⟨m_768, m_769, m_770, m_37, m_771⟩, rfl, by decide +kernel, by decide +kernel, by decide +kernel⟩
theorem dX10_advance_61 : decode cX10_advance 61 = .ok (.invokestatic 82, 3) := by decide +kernel
theorem m_774 : Cond.code yX10_isLetter cX10_isLetter 1 (some .boolean) ∈ BW := List.mem_of_getElem? (i := 774) (by decide +kernel)
theorem m_772 : Cond.methodLink RX10 82 yX10_isLetter ∈ BW := List.mem_of_getElem? (i := 772) (by decide +kernel)
theorem m_773 : Cond.static yX10_isLetter ∈ BW := List.mem_of_getElem? (i := 773) (by decide +kernel)
theorem si_X10_82 : SS RX10 82 yX10_isLetter cX10_isLetter 1 (some .boolean) 1 := ⟨⟨m_772, m_773, m_37, m_774⟩, ⟨by decide +kernel, by decide +kernel, by decide +kernel⟩⟩
theorem dX10_advance_64 : decode cX10_advance 64 = .ok (.ifCond .eq 47, 3) := by decide +kernel
theorem dX10_advance_111 : decode cX10_advance 111 = .ok (.aload_n 0, 1) := by decide +kernel
theorem dX10_advance_112 : decode cX10_advance 112 = .ok (.aload_n 0, 1) := by decide +kernel
theorem dX10_advance_113 : decode cX10_advance 113 = .ok (.getfield 34, 3) := by decide +kernel
theorem dX10_advance_116 : decode cX10_advance 116 = .ok (.invokevirtual 78, 3) := by decide +kernel
theorem dX10_advance_119 : decode cX10_advance 119 = .ok (.invokestatic 86, 3) := by decide +kernel
theorem m_777 : Cond.code yX10_isDigit cX10_isDigit 1 (some .boolean) ∈ BW := List.mem_of_getElem? (i := 777) (by decide +kernel)
theorem m_775 : Cond.methodLink RX10 86 yX10_isDigit ∈ BW := List.mem_of_getElem? (i := 775) (by decide +kernel)
theorem m_776 : Cond.static yX10_isDigit ∈ BW := List.mem_of_getElem? (i := 776) (by decide +kernel)
theorem si_X10_86 : SS RX10 86 yX10_isDigit cX10_isDigit 1 (some .boolean) 1 := ⟨⟨m_775, m_776, m_37, m_777⟩, ⟨by decide +kernel, by decide +kernel, by decide +kernel⟩⟩
theorem dX10_advance_122 : decode cX10_advance 122 = .ok (.ifCond .eq 47, 3) := by decide +kernel
theorem dX10_advance_169 : decode cX10_advance 169 = .ok (.aload_n 0, 1) := by decide +kernel
theorem dX10_advance_170 : decode cX10_advance 170 = .ok (.aload_n 0, 1) := by decide +kernel
theorem dX10_advance_171 : decode cX10_advance 171 = .ok (.aload_n 0, 1) := by decide +kernel
theorem dX10_advance_172 : decode cX10_advance 172 = .ok (.getfield 34, 3) := by decide +kernel
theorem dX10_advance_175 : decode cX10_advance 175 = .ok (.invokevirtual 78, 3) := by decide +kernel
theorem dX10_advance_178 : decode cX10_advance 178 = .ok (.putfield 31, 3) := by decide +kernel
theorem dX10_advance_181 : decode cX10_advance 181 = .ok (.aload_n 0, 1) := by decide +kernel
theorem dX10_advance_182 : decode cX10_advance 182 = .ok (.getfield 31, 3) := by decide +kernel
theorem gf_X10_31 (hC : CX p s m meth c y0 b0 mL0 rt0 args) (hy0 : y0.cls = RX10) (hK : KK G s) (hP : va_P G.1 vwCl ws H) (q0 : Nat) {fs : List Value} {v : Value} (he : ws[q0]? = some (a, .inr (10, fs))) (hv : fs[4]? = some v) (hdg : decode b0 pc = .ok (.getfield 31, 3)) (kk : W p l e R s m args below meth c H locs cells slots Q (F0 m (pc + 3) ls (v :: rest))) : W p l e R s m args below meth c H locs cells slots Q (F0 m pc ls (.ref a :: rest)) := by
  obtain ⟨hx, hb, hr, hml, hB, hown, hlocks, hnm⟩ := hC
  rw [hy0] at hown
  exact va_get (ci := 10) (C := RX10) (T := TX10) (N := 8) hx hb hB in_X10 hown hK.1 hP q0 he rfl 4 (by decide) (hB _ m_144) (fun _ h => h) hv hdg kk
theorem dX10_advance_185 : decode cX10_advance 185 = .ok (.iconst (-1), 1) := by decide +kernel
theorem dX10_advance_186 : decode cX10_advance 186 = .ok (.if_icmp .eq 13, 3) := by decide +kernel
theorem dX10_advance_199 : decode cX10_advance 199 = .ok (.return_, 1) := by decide +kernel
theorem dX10_scan_0 : decode cX10_scan 0 = .ok (.aload_n 0, 1) := by decide +kernel
theorem dX10_scan_1 : decode cX10_scan 1 = .ok (.getfield 20, 3) := by decide +kernel
theorem gf_X10_20 (hC : CX p s m meth c y0 b0 mL0 rt0 args) (hy0 : y0.cls = RX10) (hK : KK G s) (hP : va_P G.1 vwCl ws H) (q0 : Nat) {fs : List Value} {v : Value} (he : ws[q0]? = some (a, .inr (10, fs))) (hv : fs[2]? = some v) (hdg : decode b0 pc = .ok (.getfield 20, 3)) (kk : W p l e R s m args below meth c H locs cells slots Q (F0 m (pc + 3) ls (v :: rest))) : W p l e R s m args below meth c H locs cells slots Q (F0 m pc ls (.ref a :: rest)) := by
  obtain ⟨hx, hb, hr, hml, hB, hown, hlocks, hnm⟩ := hC
  rw [hy0] at hown
  exact va_get (ci := 10) (C := RX10) (T := TX10) (N := 8) hx hb hB in_X10 hown hK.1 hP q0 he rfl 2 (by decide) (hB _ m_141) (fun _ h => h) hv hdg kk
theorem dX10_scan_4 : decode cX10_scan 4 = .ok (.iconst 0, 1) := by decide +kernel
theorem dX10_scan_5 : decode cX10_scan 5 = .ok (.invokevirtual 43, 3) := by decide +kernel
theorem m_763 : Cond.code yX8_cut cX8_cut 2 none ∈ BW := List.mem_of_getElem? (i := 763) (by decide +kernel)
theorem m_760 : Cond.methodLink RX10 43 yX8_cut ∈ BW := List.mem_of_getElem? (i := 760) (by decide +kernel)
theorem m_761 : Cond.instanceMethod yX8_cut ∈ BW := List.mem_of_getElem? (i := 761) (by decide +kernel)
theorem m_762 : Cond.selects RX8 yX8_cut yX8_cut ∈ BW := List.mem_of_getElem? (i := 762) (by decide +kernel)
theorem si_X10_43 : SV RX10 RX8 43 yX8_cut cX8_cut 2 none 1 := ⟨⟨m_760, m_761, m_762, m_56, m_763⟩, rfl, by decide +kernel, by decide +kernel, by decide +kernel⟩
theorem dX10_scan_8 : decode cX10_scan 8 = .ok (.aload_n 0, 1) := by decide +kernel
theorem dX10_scan_9 : decode cX10_scan 9 = .ok (.getfield 24, 3) := by decide +kernel
theorem gf_X10_24 (hC : CX p s m meth c y0 b0 mL0 rt0 args) (hy0 : y0.cls = RX10) (hK : KK G s) (hP : va_P G.1 vwCl ws H) (q0 : Nat) {fs : List Value} {v : Value} (he : ws[q0]? = some (a, .inr (10, fs))) (hv : fs[3]? = some v) (hdg : decode b0 pc = .ok (.getfield 24, 3)) (kk : W p l e R s m args below meth c H locs cells slots Q (F0 m (pc + 3) ls (v :: rest))) : W p l e R s m args below meth c H locs cells slots Q (F0 m pc ls (.ref a :: rest)) := by
  obtain ⟨hx, hb, hr, hml, hB, hown, hlocks, hnm⟩ := hC
  rw [hy0] at hown
  exact va_get (ci := 10) (C := RX10) (T := TX10) (N := 8) hx hb hB in_X10 hown hK.1 hP q0 he rfl 3 (by decide) (hB _ m_142) (fun _ h => h) hv hdg kk
theorem dX10_scan_12 : decode cX10_scan 12 = .ok (.iconst 0, 1) := by decide +kernel
theorem dX10_scan_13 : decode cX10_scan 13 = .ok (.invokevirtual 43, 3) := by decide +kernel
theorem dX10_scan_16 : decode cX10_scan 16 = .ok (.aload_n 0, 1) := by decide +kernel
theorem dX10_scan_17 : decode cX10_scan 17 = .ok (.iconst (-1), 1) := by decide +kernel
theorem dX10_scan_18 : decode cX10_scan 18 = .ok (.putfield 40, 3) := by decide +kernel
theorem dX10_scan_21 : decode cX10_scan 21 = .ok (.aload_n 0, 1) := by decide +kernel
theorem dX10_scan_22 : decode cX10_scan 22 = .ok (.iconst 0, 1) := by decide +kernel
theorem dX10_scan_23 : decode cX10_scan 23 = .ok (.putfield 37, 3) := by decide +kernel
theorem dX10_scan_26 : decode cX10_scan 26 = .ok (.aload_n 0, 1) := by decide +kernel
theorem dX10_scan_27 : decode cX10_scan 27 = .ok (.invokevirtual 47, 3) := by decide +kernel
theorem m_767 : Cond.code yX10_advance cX10_advance 1 none ∈ BW := List.mem_of_getElem? (i := 767) (by decide +kernel)
theorem m_764 : Cond.methodLink RX10 47 yX10_advance ∈ BW := List.mem_of_getElem? (i := 764) (by decide +kernel)
theorem m_765 : Cond.instanceMethod yX10_advance ∈ BW := List.mem_of_getElem? (i := 765) (by decide +kernel)
theorem m_766 : Cond.selects RX10 yX10_advance yX10_advance ∈ BW := List.mem_of_getElem? (i := 766) (by decide +kernel)
theorem si_X10_47 : SV RX10 RX10 47 yX10_advance cX10_advance 1 none 0 := ⟨⟨m_764, m_765, m_766, m_37, m_767⟩, rfl, by decide +kernel, by decide +kernel, by decide +kernel⟩
theorem dX10_scan_30 : decode cX10_scan 30 = .ok (.iconst 0, 1) := by decide +kernel
theorem dX10_scan_31 : decode cX10_scan 31 = .ok (.istore_n 1, 1) := by decide +kernel
theorem dX10_scan_32 : decode cX10_scan 32 = .ok (.iload_n 1, 1) := by decide +kernel
theorem dX10_scan_33 : decode cX10_scan 33 = .ok (.bipush 9, 2) := by decide +kernel
theorem dX10_scan_35 : decode cX10_scan 35 = .ok (.if_icmp .gt 29, 3) := by decide +kernel
theorem dX10_scan_38 : decode cX10_scan 38 = .ok (.aload_n 0, 1) := by decide +kernel
theorem dX10_scan_39 : decode cX10_scan 39 = .ok (.getfield 31, 3) := by decide +kernel
theorem dX10_scan_42 : decode cX10_scan 42 = .ok (.iconst (-1), 1) := by decide +kernel
theorem dX10_scan_43 : decode cX10_scan 43 = .ok (.if_icmp .eq 21, 3) := by decide +kernel
theorem dX10_scan_64 : decode cX10_scan 64 = .ok (.aload_n 0, 1) := by decide +kernel
theorem dX10_scan_65 : decode cX10_scan 65 = .ok (.getfield 40, 3) := by decide +kernel
theorem gf_X10_40 (hC : CX p s m meth c y0 b0 mL0 rt0 args) (hy0 : y0.cls = RX10) (hK : KK G s) (hP : va_P G.1 vwCl ws H) (q0 : Nat) {fs : List Value} {v : Value} (he : ws[q0]? = some (a, .inr (10, fs))) (hv : fs[7]? = some v) (hdg : decode b0 pc = .ok (.getfield 40, 3)) (kk : W p l e R s m args below meth c H locs cells slots Q (F0 m (pc + 3) ls (v :: rest))) : W p l e R s m args below meth c H locs cells slots Q (F0 m pc ls (.ref a :: rest)) := by
  obtain ⟨hx, hb, hr, hml, hB, hown, hlocks, hnm⟩ := hC
  rw [hy0] at hown
  exact va_get (ci := 10) (C := RX10) (T := TX10) (N := 8) hx hb hB in_X10 hown hK.1 hP q0 he rfl 7 (by decide) (hB _ m_147) (fun _ h => h) hv hdg kk
theorem dX10_scan_68 : decode cX10_scan 68 = .ok (.ireturn, 1) := by decide +kernel
theorem dX10_clear_0 : decode cX10_clear 0 = .ok (.aload_n 0, 1) := by decide +kernel
theorem dX10_clear_1 : decode cX10_clear 1 = .ok (.iconst 0, 1) := by decide +kernel
theorem dX10_clear_2 : decode cX10_clear 2 = .ok (.putfield 27, 3) := by decide +kernel
theorem dX10_clear_5 : decode cX10_clear 5 = .ok (.return_, 1) := by decide +kernel
theorem dX10_store_0 : decode cX10_store 0 = .ok (.aload_n 1, 1) := by decide +kernel
theorem dX10_store_1 : decode cX10_store 1 = .ok (.getfield 54, 3) := by decide +kernel
theorem nm_13 : Cond.fieldLinkNest RX10 54 RX0 "versions" "LInquiryBench$Table;" RX11 ∈ NestW := List.mem_of_getElem? (i := 13) (by decide +kernel)
theorem gf_X10_54 (hC : CX p s m meth c y0 b0 mL0 rt0 args) (hy0 : y0.cls = RX10) (hK : KK G s) (hP : va_P G.1 vwCl ws H) (q0 : Nat) {fs : List Value} {v : Value} (he : ws[q0]? = some (a, .inr (0, fs))) (hv : fs[3]? = some v) (hdg : decode b0 pc = .ok (.getfield 54, 3)) (kk : W p l e R s m args below meth c H locs cells slots Q (F0 m (pc + 3) ls (v :: rest))) : W p l e R s m args below meth c H locs cells slots Q (F0 m pc ls (.ref a :: rest)) := by
  obtain ⟨hx, hb, hr, hml, hB, hown, hlocks, hnm⟩ := hC
  rw [hy0] at hown
  exact va_getN (ci := 0) (C := RX0) (T := TX0) (N := 14) hx hb hB in_X0 hown hK.1 hP q0 he rfl 3 (by decide) (va_Nw.use rfl (hK.2.1 _ nm_13)) (fun _ h => h) hv hdg kk
theorem dX10_store_4 : decode cX10_store 4 = .ok (.invokevirtual 59, 3) := by decide +kernel
theorem m_782 : Cond.methodLink RX10 59 yX8_append ∈ BW := List.mem_of_getElem? (i := 782) (by decide +kernel)
theorem si_X10_59 : SV RX10 RX8 59 yX8_append cX8_append 1 (some .int) 0 := ⟨⟨m_782, m_285, m_286, m_56, m_287⟩, rfl, by decide +kernel, by decide +kernel, by decide +kernel⟩
theorem dX10_store_7 : decode cX10_store 7 = .ok (.istore_n 2, 1) := by decide +kernel
theorem dX10_store_8 : decode cX10_store 8 = .ok (.aload_n 1, 1) := by decide +kernel
theorem dX10_store_9 : decode cX10_store 9 = .ok (.getfield 54, 3) := by decide +kernel
theorem dX10_store_12 : decode cX10_store 12 = .ok (.iload_n 2, 1) := by decide +kernel
theorem dX10_store_13 : decode cX10_store 13 = .ok (.iconst 0, 1) := by decide +kernel
theorem dX10_store_14 : decode cX10_store 14 = .ok (.aload_n 1, 1) := by decide +kernel
theorem dX10_store_15 : decode cX10_store 15 = .ok (.getfield 63, 3) := by decide +kernel
theorem nm_32 : Cond.fieldLinkNest RX10 63 RX0 "today" "I" RX11 ∈ NestW := List.mem_of_getElem? (i := 32) (by decide +kernel)
theorem gf_X10_63 (hC : CX p s m meth c y0 b0 mL0 rt0 args) (hy0 : y0.cls = RX10) (hK : KK G s) (hP : va_P G.1 vwCl ws H) (q0 : Nat) {fs : List Value} {v : Value} (he : ws[q0]? = some (a, .inr (0, fs))) (hv : fs[10]? = some v) (hdg : decode b0 pc = .ok (.getfield 63, 3)) (kk : W p l e R s m args below meth c H locs cells slots Q (F0 m (pc + 3) ls (v :: rest))) : W p l e R s m args below meth c H locs cells slots Q (F0 m pc ls (.ref a :: rest)) := by
  obtain ⟨hx, hb, hr, hml, hB, hown, hlocks, hnm⟩ := hC
  rw [hy0] at hown
  exact va_getN (ci := 0) (C := RX0) (T := TX0) (N := 14) hx hb hB in_X0 hown hK.1 hP q0 he rfl 10 (by decide) (va_Nw.use rfl (hK.2.1 _ nm_32)) (fun _ h => h) hv hdg kk
theorem dX10_store_18 : decode cX10_store 18 = .ok (.invokevirtual 66, 3) := by decide +kernel
theorem m_787 : Cond.methodLink RX10 66 yX8_set ∈ BW := List.mem_of_getElem? (i := 787) (by decide +kernel)
theorem si_X10_66 : SV RX10 RX8 66 yX8_set cX8_set 4 none 3 := ⟨⟨m_787, m_289, m_290, m_56, m_291⟩, rfl, by decide +kernel, by decide +kernel, by decide +kernel⟩
theorem dX10_store_21 : decode cX10_store 21 = .ok (.aload_n 1, 1) := by decide +kernel
theorem dX10_store_22 : decode cX10_store 22 = .ok (.getfield 54, 3) := by decide +kernel
theorem dX10_store_25 : decode cX10_store 25 = .ok (.iload_n 2, 1) := by decide +kernel
theorem dX10_store_26 : decode cX10_store 26 = .ok (.iconst 1, 1) := by decide +kernel
theorem dX10_store_27 : decode cX10_store 27 = .ok (.aload_n 1, 1) := by decide +kernel
theorem dX10_store_28 : decode cX10_store 28 = .ok (.getfield 70, 3) := by decide +kernel
theorem nm_16 : Cond.fieldLinkNest RX10 70 RX0 "lines" "LInquiryBench$Table;" RX11 ∈ NestW := List.mem_of_getElem? (i := 16) (by decide +kernel)
theorem gf_X10_70 (hC : CX p s m meth c y0 b0 mL0 rt0 args) (hy0 : y0.cls = RX10) (hK : KK G s) (hP : va_P G.1 vwCl ws H) (q0 : Nat) {fs : List Value} {v : Value} (he : ws[q0]? = some (a, .inr (0, fs))) (hv : fs[4]? = some v) (hdg : decode b0 pc = .ok (.getfield 70, 3)) (kk : W p l e R s m args below meth c H locs cells slots Q (F0 m (pc + 3) ls (v :: rest))) : W p l e R s m args below meth c H locs cells slots Q (F0 m pc ls (.ref a :: rest)) := by
  obtain ⟨hx, hb, hr, hml, hB, hown, hlocks, hnm⟩ := hC
  rw [hy0] at hown
  exact va_getN (ci := 0) (C := RX0) (T := TX0) (N := 14) hx hb hB in_X0 hown hK.1 hP q0 he rfl 4 (by decide) (va_Nw.use rfl (hK.2.1 _ nm_16)) (fun _ h => h) hv hdg kk
theorem dX10_store_31 : decode cX10_store 31 = .ok (.invokevirtual 71, 3) := by decide +kernel
theorem m_788 : Cond.methodLink RX10 71 yX8_count ∈ BW := List.mem_of_getElem? (i := 788) (by decide +kernel)
theorem si_X10_71 : SV RX10 RX8 71 yX8_count cX8_count 1 (some .int) 0 := ⟨⟨m_788, m_235, m_236, m_56, m_237⟩, rfl, by decide +kernel, by decide +kernel, by decide +kernel⟩
theorem dX10_store_34 : decode cX10_store 34 = .ok (.invokevirtual 66, 3) := by decide +kernel
theorem dX10_store_37 : decode cX10_store 37 = .ok (.aload_n 1, 1) := by decide +kernel
theorem dX10_store_38 : decode cX10_store 38 = .ok (.getfield 54, 3) := by decide +kernel
theorem dX10_store_41 : decode cX10_store 41 = .ok (.iload_n 2, 1) := by decide +kernel
theorem dX10_store_42 : decode cX10_store 42 = .ok (.iconst 2, 1) := by decide +kernel
theorem dX10_store_43 : decode cX10_store 43 = .ok (.aload_n 0, 1) := by decide +kernel
theorem dX10_store_44 : decode cX10_store 44 = .ok (.getfield 20, 3) := by decide +kernel
theorem dX10_store_47 : decode cX10_store 47 = .ok (.invokevirtual 71, 3) := by decide +kernel
theorem dX10_store_50 : decode cX10_store 50 = .ok (.invokevirtual 66, 3) := by decide +kernel
theorem dX10_store_53 : decode cX10_store 53 = .ok (.aload_n 1, 1) := by decide +kernel
theorem dX10_store_54 : decode cX10_store 54 = .ok (.getfield 73, 3) := by decide +kernel
theorem nm_19 : Cond.fieldLinkNest RX10 73 RX0 "steps" "LInquiryBench$Table;" RX11 ∈ NestW := List.mem_of_getElem? (i := 19) (by decide +kernel)
theorem gf_X10_73 (hC : CX p s m meth c y0 b0 mL0 rt0 args) (hy0 : y0.cls = RX10) (hK : KK G s) (hP : va_P G.1 vwCl ws H) (q0 : Nat) {fs : List Value} {v : Value} (he : ws[q0]? = some (a, .inr (0, fs))) (hv : fs[5]? = some v) (hdg : decode b0 pc = .ok (.getfield 73, 3)) (kk : W p l e R s m args below meth c H locs cells slots Q (F0 m (pc + 3) ls (v :: rest))) : W p l e R s m args below meth c H locs cells slots Q (F0 m pc ls (.ref a :: rest)) := by
  obtain ⟨hx, hb, hr, hml, hB, hown, hlocks, hnm⟩ := hC
  rw [hy0] at hown
  exact va_getN (ci := 0) (C := RX0) (T := TX0) (N := 14) hx hb hB in_X0 hown hK.1 hP q0 he rfl 5 (by decide) (va_Nw.use rfl (hK.2.1 _ nm_19)) (fun _ h => h) hv hdg kk
theorem dX10_store_57 : decode cX10_store 57 = .ok (.invokevirtual 71, 3) := by decide +kernel
theorem dX10_store_60 : decode cX10_store 60 = .ok (.istore_n 3, 1) := by decide +kernel
theorem dX10_store_61 : decode cX10_store 61 = .ok (.iconst 0, 1) := by decide +kernel
theorem dX10_store_62 : decode cX10_store 62 = .ok (.istore 4, 2) := by decide +kernel
theorem dX10_store_64 : decode cX10_store 64 = .ok (.iload 4, 2) := by decide +kernel
theorem dX10_store_66 : decode cX10_store 66 = .ok (.aload_n 0, 1) := by decide +kernel
theorem dX10_store_67 : decode cX10_store 67 = .ok (.getfield 20, 3) := by decide +kernel
theorem dX10_store_70 : decode cX10_store 70 = .ok (.invokevirtual 71, 3) := by decide +kernel
theorem dX10_store_73 : decode cX10_store 73 = .ok (.if_icmp .ge 78, 3) := by decide +kernel
theorem dX10_store_151 : decode cX10_store 151 = .ok (.iconst 0, 1) := by decide +kernel
theorem dX10_store_152 : decode cX10_store 152 = .ok (.istore 4, 2) := by decide +kernel
theorem dX10_store_154 : decode cX10_store 154 = .ok (.iload 4, 2) := by decide +kernel
theorem dX10_store_156 : decode cX10_store 156 = .ok (.aload_n 0, 1) := by decide +kernel
theorem dX10_store_157 : decode cX10_store 157 = .ok (.getfield 24, 3) := by decide +kernel
theorem dX10_store_160 : decode cX10_store 160 = .ok (.invokevirtual 71, 3) := by decide +kernel
theorem dX10_store_163 : decode cX10_store 163 = .ok (.if_icmp .ge 34, 3) := by decide +kernel
theorem dX10_store_197 : decode cX10_store 197 = .ok (.iload_n 2, 1) := by decide +kernel
theorem dX10_store_198 : decode cX10_store 198 = .ok (.ireturn, 1) := by decide +kernel
theorem dX11_read_0 : decode cX11_read 0 = .ok (.aload_n 0, 1) := by decide +kernel
theorem dX11_read_1 : decode cX11_read 1 = .ok (.getfield 58, 3) := by decide +kernel
theorem dX11_read_4 : decode cX11_read 4 = .ok (.invokevirtual 227, 3) := by decide +kernel
theorem m_759 : Cond.code yX10_scan cX10_scan 2 (some .int) ∈ BW := List.mem_of_getElem? (i := 759) (by decide +kernel)
theorem m_756 : Cond.methodLink RX11 227 yX10_scan ∈ BW := List.mem_of_getElem? (i := 756) (by decide +kernel)
theorem m_757 : Cond.instanceMethod yX10_scan ∈ BW := List.mem_of_getElem? (i := 757) (by decide +kernel)
theorem m_758 : Cond.selects RX10 yX10_scan yX10_scan ∈ BW := List.mem_of_getElem? (i := 758) (by decide +kernel)
theorem si_X11_227 : SV RX11 RX10 227 yX10_scan cX10_scan 2 (some .int) 0 := ⟨⟨m_756, m_757, m_758, m_37, m_759⟩, rfl, by decide +kernel, by decide +kernel, by decide +kernel⟩
theorem dX11_read_7 : decode cX11_read 7 = .ok (.istore_n 1, 1) := by decide +kernel
theorem dX11_read_8 : decode cX11_read 8 = .ok (.aload_n 0, 1) := by decide +kernel
theorem dX11_read_9 : decode cX11_read 9 = .ok (.getfield 58, 3) := by decide +kernel
theorem dX11_read_12 : decode cX11_read 12 = .ok (.invokevirtual 230, 3) := by decide +kernel
theorem m_898 : Cond.code yX10_clear cX10_clear 1 none ∈ BW := List.mem_of_getElem? (i := 898) (by decide +kernel)
theorem m_895 : Cond.methodLink RX11 230 yX10_clear ∈ BW := List.mem_of_getElem? (i := 895) (by decide +kernel)
theorem m_896 : Cond.instanceMethod yX10_clear ∈ BW := List.mem_of_getElem? (i := 896) (by decide +kernel)
theorem m_897 : Cond.selects RX10 yX10_clear yX10_clear ∈ BW := List.mem_of_getElem? (i := 897) (by decide +kernel)
theorem si_X11_230 : SV RX11 RX10 230 yX10_clear cX10_clear 1 none 0 := ⟨⟨m_895, m_896, m_897, m_37, m_898⟩, rfl, by decide +kernel, by decide +kernel, by decide +kernel⟩
theorem dX11_read_15 : decode cX11_read 15 = .ok (.iload_n 1, 1) := by decide +kernel
theorem dX11_read_16 : decode cX11_read 16 = .ok (.ifCond .lt 8, 3) := by decide +kernel
theorem dX11_read_24 : decode cX11_read 24 = .ok (.aload_n 0, 1) := by decide +kernel
theorem dX11_read_25 : decode cX11_read 25 = .ok (.getfield 15, 3) := by decide +kernel
theorem dX11_read_28 : decode cX11_read 28 = .ok (.getfield 233, 3) := by decide +kernel
theorem dX11_read_31 : decode cX11_read 31 = .ok (.invokevirtual 111, 3) := by decide +kernel
theorem dX11_read_34 : decode cX11_read 34 = .ok (.ifCond .eq 6, 3) := by decide +kernel
theorem dX11_read_40 : decode cX11_read 40 = .ok (.aload_n 0, 1) := by decide +kernel
theorem dX11_read_41 : decode cX11_read 41 = .ok (.getfield 58, 3) := by decide +kernel
theorem dX11_read_44 : decode cX11_read 44 = .ok (.aload_n 0, 1) := by decide +kernel
theorem dX11_read_45 : decode cX11_read 45 = .ok (.getfield 15, 3) := by decide +kernel
theorem dX11_read_48 : decode cX11_read 48 = .ok (.invokevirtual 236, 3) := by decide +kernel
theorem m_902 : Cond.code yX10_store cX10_store 7 (some .int) ∈ BW := List.mem_of_getElem? (i := 902) (by decide +kernel)
theorem m_899 : Cond.methodLink RX11 236 yX10_store ∈ BW := List.mem_of_getElem? (i := 899) (by decide +kernel)
theorem m_900 : Cond.instanceMethod yX10_store ∈ BW := List.mem_of_getElem? (i := 900) (by decide +kernel)
theorem m_901 : Cond.selects RX10 yX10_store yX10_store ∈ BW := List.mem_of_getElem? (i := 901) (by decide +kernel)
theorem si_X11_236 : SV RX11 RX10 236 yX10_store cX10_store 7 (some .int) 1 := ⟨⟨m_899, m_900, m_901, m_37, m_902⟩, rfl, by decide +kernel, by decide +kernel, by decide +kernel⟩
theorem dX11_read_51 : decode cX11_read 51 = .ok (.ireturn, 1) := by decide +kernel
theorem dX4_sort_0 : decode cX4_sort 0 = .ok (.iload_n 1, 1) := by decide +kernel
theorem dX4_sort_1 : decode cX4_sort 1 = .ok (.invokestatic 30, 3) := by decide +kernel
theorem m_414 : Cond.code yX11_isSheet cX11_isSheet 1 (some .boolean) ∈ BW := List.mem_of_getElem? (i := 414) (by decide +kernel)
theorem nm_42 : Cond.methodLinkNest RX4 30 yX11_isSheet RX11 ∈ NestW := List.mem_of_getElem? (i := 42) (by decide +kernel)
theorem m_413 : Cond.static yX11_isSheet ∈ BW := List.mem_of_getElem? (i := 413) (by decide +kernel)
theorem si_X4_30 : SSN RX4 RX11 30 yX11_isSheet cX11_isSheet 1 (some .boolean) 1 := ⟨⟨nm_42, m_413, m_2, m_414⟩, ⟨by decide +kernel, by decide +kernel, by decide +kernel⟩⟩
theorem dX4_sort_4 : decode cX4_sort 4 = .ok (.ifCond .eq 12, 3) := by decide +kernel
theorem dX4_sort_7 : decode cX4_sort 7 = .ok (.aload_n 0, 1) := by decide +kernel
theorem dX4_sort_8 : decode cX4_sort 8 = .ok (.getfield 11, 3) := by decide +kernel
theorem dX4_sort_11 : decode cX4_sort 11 = .ok (.iload_n 1, 1) := by decide +kernel
theorem dX4_sort_12 : decode cX4_sort 12 = .ok (.iaload, 1) := by decide +kernel
theorem dX4_sort_13 : decode cX4_sort 13 = .ok (.goto 4, 3) := by decide +kernel
theorem dX4_sort_17 : decode cX4_sort 17 = .ok (.ireturn, 1) := by decide +kernel
theorem dX4_size_0 : decode cX4_size 0 = .ok (.iload_n 1, 1) := by decide +kernel
theorem dX4_size_1 : decode cX4_size 1 = .ok (.invokestatic 30, 3) := by decide +kernel
theorem dX4_size_4 : decode cX4_size 4 = .ok (.ifCond .eq 12, 3) := by decide +kernel
theorem dX4_size_7 : decode cX4_size 7 = .ok (.aload_n 0, 1) := by decide +kernel
theorem dX4_size_8 : decode cX4_size 8 = .ok (.getfield 15, 3) := by decide +kernel
theorem gf_X4_15 (hC : CX p s m meth c y0 b0 mL0 rt0 args) (hy0 : y0.cls = RX4) (hK : KK G s) (hP : va_P G.1 vwCl ws H) (q0 : Nat) {fs : List Value} {v : Value} (he : ws[q0]? = some (a, .inr (4, fs))) (hv : fs[1]? = some v) (hdg : decode b0 pc = .ok (.getfield 15, 3)) (kk : W p l e R s m args below meth c H locs cells slots Q (F0 m (pc + 3) ls (v :: rest))) : W p l e R s m args below meth c H locs cells slots Q (F0 m pc ls (.ref a :: rest)) := by
  obtain ⟨hx, hb, hr, hml, hB, hown, hlocks, hnm⟩ := hC
  rw [hy0] at hown
  exact va_get (ci := 4) (C := RX4) (T := TX4) (N := 6) hx hb hB in_X4 hown hK.1 hP q0 he rfl 1 (by decide) (hB _ m_166) (fun _ h => h) hv hdg kk
theorem dX4_size_11 : decode cX4_size 11 = .ok (.iload_n 1, 1) := by decide +kernel
theorem dX4_size_12 : decode cX4_size 12 = .ok (.iaload, 1) := by decide +kernel
theorem dX4_size_13 : decode cX4_size 13 = .ok (.goto 4, 3) := by decide +kernel
theorem dX4_size_17 : decode cX4_size 17 = .ok (.ireturn, 1) := by decide +kernel
theorem dX4_refusal_0 : decode cX4_refusal 0 = .ok (.aload_n 0, 1) := by decide +kernel
theorem dX4_refusal_1 : decode cX4_refusal 1 = .ok (.iload_n 1, 1) := by decide +kernel
theorem dX4_refusal_2 : decode cX4_refusal 2 = .ok (.invokevirtual 38, 3) := by decide +kernel
theorem m_422 : Cond.code yX4_sort cX4_sort 2 (some .int) ∈ BW := List.mem_of_getElem? (i := 422) (by decide +kernel)
theorem m_419 : Cond.methodLink RX4 38 yX4_sort ∈ BW := List.mem_of_getElem? (i := 419) (by decide +kernel)
theorem m_420 : Cond.instanceMethod yX4_sort ∈ BW := List.mem_of_getElem? (i := 420) (by decide +kernel)
theorem m_421 : Cond.selects RX4 yX4_sort yX4_sort ∈ BW := List.mem_of_getElem? (i := 421) (by decide +kernel)
theorem si_X4_38 : SV RX4 RX4 38 yX4_sort cX4_sort 2 (some .int) 1 := ⟨⟨m_419, m_420, m_421, m_45, m_422⟩, rfl, by decide +kernel, by decide +kernel, by decide +kernel⟩
theorem dX4_refusal_5 : decode cX4_refusal 5 = .ok (.istore_n 3, 1) := by decide +kernel
theorem dX4_refusal_6 : decode cX4_refusal 6 = .ok (.iload_n 3, 1) := by decide +kernel
theorem dX4_refusal_7 : decode cX4_refusal 7 = .ok (.iconst (-1), 1) := by decide +kernel
theorem dX4_refusal_8 : decode cX4_refusal 8 = .ok (.if_icmp .ne 6, 3) := by decide +kernel
theorem dX4_refusal_11 : decode cX4_refusal 11 = .ok (.bipush (-11), 2) := by decide +kernel
theorem dX4_refusal_13 : decode cX4_refusal 13 = .ok (.ireturn, 1) := by decide +kernel
theorem dX4_held_0 : decode cX4_held 0 = .ok (.iload_n 1, 1) := by decide +kernel
theorem dX4_held_1 : decode cX4_held 1 = .ok (.invokestatic 41, 3) := by decide +kernel
theorem m_1257 : Cond.code yX11_isShelf cX11_isShelf 1 (some .boolean) ∈ BW := List.mem_of_getElem? (i := 1257) (by decide +kernel)
theorem nm_54 : Cond.methodLinkNest RX4 41 yX11_isShelf RX11 ∈ NestW := List.mem_of_getElem? (i := 54) (by decide +kernel)
theorem m_1256 : Cond.static yX11_isShelf ∈ BW := List.mem_of_getElem? (i := 1256) (by decide +kernel)
theorem si_X4_41 : SSN RX4 RX11 41 yX11_isShelf cX11_isShelf 1 (some .boolean) 1 := ⟨⟨nm_54, m_1256, m_2, m_1257⟩, ⟨by decide +kernel, by decide +kernel, by decide +kernel⟩⟩
theorem dX4_held_4 : decode cX4_held 4 = .ok (.ifCond .ne 5, 3) := by decide +kernel
theorem dX4_held_9 : decode cX4_held 9 = .ok (.iconst 1, 1) := by decide +kernel
theorem dX4_held_10 : decode cX4_held 10 = .ok (.istore_n 3, 1) := by decide +kernel
theorem dX4_held_11 : decode cX4_held 11 = .ok (.aload_n 0, 1) := by decide +kernel
theorem dX4_held_12 : decode cX4_held 12 = .ok (.getfield 21, 3) := by decide +kernel
theorem dX4_held_15 : decode cX4_held 15 = .ok (.iload_n 1, 1) := by decide +kernel
theorem dX4_held_16 : decode cX4_held 16 = .ok (.iaload, 1) := by decide +kernel
theorem dX4_held_17 : decode cX4_held 17 = .ok (.ifCond .ne 17, 3) := by decide +kernel
theorem dX4_held_34 : decode cX4_held 34 = .ok (.aload_n 0, 1) := by decide +kernel
theorem dX4_held_35 : decode cX4_held 35 = .ok (.getfield 21, 3) := by decide +kernel
theorem dX4_held_38 : decode cX4_held 38 = .ok (.iload_n 1, 1) := by decide +kernel
theorem dX4_held_39 : decode cX4_held 39 = .ok (.iaload, 1) := by decide +kernel
theorem dX4_held_40 : decode cX4_held 40 = .ok (.iconst 1, 1) := by decide +kernel
theorem dX4_held_41 : decode cX4_held 41 = .ok (.if_icmp .ne 17, 3) := by decide +kernel
theorem dX4_held_58 : decode cX4_held 58 = .ok (.aload_n 0, 1) := by decide +kernel
theorem dX4_held_59 : decode cX4_held 59 = .ok (.getfield 21, 3) := by decide +kernel
theorem dX4_held_62 : decode cX4_held 62 = .ok (.iload_n 1, 1) := by decide +kernel
theorem dX4_held_63 : decode cX4_held 63 = .ok (.iaload, 1) := by decide +kernel
theorem dX4_held_64 : decode cX4_held 64 = .ok (.iconst 2, 1) := by decide +kernel
theorem dX4_held_65 : decode cX4_held 65 = .ok (.if_icmp .ne 17, 3) := by decide +kernel
theorem dX4_held_82 : decode cX4_held 82 = .ok (.iload_n 3, 1) := by decide +kernel
theorem dX4_held_83 : decode cX4_held 83 = .ok (.ifCond .eq 12, 3) := by decide +kernel
theorem dX4_held_86 : decode cX4_held 86 = .ok (.aload_n 0, 1) := by decide +kernel
theorem dX4_held_87 : decode cX4_held 87 = .ok (.getfield 21, 3) := by decide +kernel
theorem dX4_held_90 : decode cX4_held 90 = .ok (.iload_n 1, 1) := by decide +kernel
theorem dX4_held_91 : decode cX4_held 91 = .ok (.iaload, 1) := by decide +kernel
theorem dX4_held_92 : decode cX4_held 92 = .ok (.goto 4, 3) := by decide +kernel
theorem dX4_held_96 : decode cX4_held 96 = .ok (.ireturn, 1) := by decide +kernel
end WR
noncomputable def A_put (s9 : Int32) : Int32 := ifc (Wi s9 0 3) (-11) (-1)
section WR
variable {p : Program} {l : Launch} {e : Env} {R : Room} {s : State} {m : MethodId} {args : Array Value} {below : List Frame} {meth : Method} {c : Code} {H : Heap} {locs : List Loc} {cells slots : Nat} {Q : State → Prop}
variable {pc : Nat} {ls : Array Slot} {rest : List Value} {G : GG} {ws : va_W} {A : Nat → Prop} {y0 : MethodName} {b0 : ByteArray} {mL0 : Nat} {rt0 : Option FieldType} {a : Nat} {H0 : Heap}
theorem dX11_put_0 : decode cX11_put 0 = .ok (.iload_n 1, 1) := by decide +kernel
theorem dX11_put_1 : decode cX11_put 1 = .ok (.invokestatic 164, 3) := by decide +kernel
theorem m_412 : Cond.methodLink RX11 164 yX11_isSheet ∈ BW := List.mem_of_getElem? (i := 412) (by decide +kernel)
theorem si_X11_164 : SS RX11 164 yX11_isSheet cX11_isSheet 1 (some .boolean) 1 := ⟨⟨m_412, m_413, m_2, m_414⟩, ⟨by decide +kernel, by decide +kernel, by decide +kernel⟩⟩
theorem dX11_put_4 : decode cX11_put 4 = .ok (.ifCond .ne 5, 3) := by decide +kernel
theorem dX11_put_9 : decode cX11_put 9 = .ok (.aload_n 0, 1) := by decide +kernel
theorem dX11_put_10 : decode cX11_put 10 = .ok (.getfield 72, 3) := by decide +kernel
theorem gf_X11_72 (hC : CX p s m meth c y0 b0 mL0 rt0 args) (hy0 : y0.cls = RX11) (hK : KK G s) (hP : va_P G.1 vwCl ws H) (q0 : Nat) {fs : List Value} {v : Value} (he : ws[q0]? = some (a, .inr (11, fs))) (hv : fs[9]? = some v) (hdg : decode b0 pc = .ok (.getfield 72, 3)) (kk : W p l e R s m args below meth c H locs cells slots Q (F0 m (pc + 3) ls (v :: rest))) : W p l e R s m args below meth c H locs cells slots Q (F0 m pc ls (.ref a :: rest)) := by
  obtain ⟨hx, hb, hr, hml, hB, hown, hlocks, hnm⟩ := hC
  rw [hy0] at hown
  exact va_get (ci := 11) (C := RX11) (T := TX11) (N := 11) hx hb hB in_X11 hown hK.1 hP q0 he rfl 9 (by decide) (hB _ m_46) (fun _ h => h) hv hdg kk
theorem dX11_put_13 : decode cX11_put 13 = .ok (.iload_n 1, 1) := by decide +kernel
theorem dX11_put_14 : decode cX11_put 14 = .ok (.invokevirtual 309, 3) := by decide +kernel
theorem m_1227 : Cond.methodLink RX11 309 yX4_sort ∈ BW := List.mem_of_getElem? (i := 1227) (by decide +kernel)
theorem si_X11_309 : SV RX11 RX4 309 yX4_sort cX4_sort 2 (some .int) 1 := ⟨⟨m_1227, m_420, m_421, m_45, m_422⟩, rfl, by decide +kernel, by decide +kernel, by decide +kernel⟩
theorem dX11_put_17 : decode cX11_put 17 = .ok (.iconst (-1), 1) := by decide +kernel
theorem dX11_put_18 : decode cX11_put 18 = .ok (.if_icmp .ne 6, 3) := by decide +kernel
theorem dX11_put_21 : decode cX11_put 21 = .ok (.bipush (-11), 2) := by decide +kernel
theorem dX11_put_23 : decode cX11_put 23 = .ok (.ireturn, 1) := by decide +kernel
theorem dX11_put_7 : decode cX11_put 7 = .ok (.iconst (-1), 1) := by decide +kernel
theorem dX11_put_8 : decode cX11_put 8 = .ok (.ireturn, 1) := by decide +kernel
end WR
noncomputable def A_item (s9 so : Int32) : Int32 := ifc (Wi s9 0 3) (ifc (Wi so 0 4) (-11) (-1)) (-1)
section WR
variable {p : Program} {l : Launch} {e : Env} {R : Room} {s : State} {m : MethodId} {args : Array Value} {below : List Frame} {meth : Method} {c : Code} {H : Heap} {locs : List Loc} {cells slots : Nat} {Q : State → Prop}
variable {pc : Nat} {ls : Array Slot} {rest : List Value} {G : GG} {ws : va_W} {A : Nat → Prop} {y0 : MethodName} {b0 : ByteArray} {mL0 : Nat} {rt0 : Option FieldType} {a : Nat} {H0 : Heap}
theorem dX11_item_0 : decode cX11_item 0 = .ok (.iload_n 1, 1) := by decide +kernel
theorem dX11_item_1 : decode cX11_item 1 = .ok (.invokestatic 164, 3) := by decide +kernel
theorem dX11_item_4 : decode cX11_item 4 = .ok (.ifCond .eq 10, 3) := by decide +kernel
theorem dX11_item_7 : decode cX11_item 7 = .ok (.iload_n 2, 1) := by decide +kernel
theorem dX11_item_8 : decode cX11_item 8 = .ok (.invokestatic 315, 3) := by decide +kernel
theorem m_1242 : Cond.code yX11_isSort cX11_isSort 1 (some .boolean) ∈ BW := List.mem_of_getElem? (i := 1242) (by decide +kernel)
theorem m_1240 : Cond.methodLink RX11 315 yX11_isSort ∈ BW := List.mem_of_getElem? (i := 1240) (by decide +kernel)
theorem m_1241 : Cond.static yX11_isSort ∈ BW := List.mem_of_getElem? (i := 1241) (by decide +kernel)
theorem si_X11_315 : SS RX11 315 yX11_isSort cX11_isSort 1 (some .boolean) 1 := ⟨⟨m_1240, m_1241, m_2, m_1242⟩, ⟨by decide +kernel, by decide +kernel, by decide +kernel⟩⟩
theorem dX11_item_11 : decode cX11_item 11 = .ok (.ifCond .ne 5, 3) := by decide +kernel
theorem dX11_item_16 : decode cX11_item 16 = .ok (.aload_n 0, 1) := by decide +kernel
theorem dX11_item_17 : decode cX11_item 17 = .ok (.getfield 72, 3) := by decide +kernel
theorem dX11_item_20 : decode cX11_item 20 = .ok (.iload_n 1, 1) := by decide +kernel
theorem dX11_item_21 : decode cX11_item 21 = .ok (.iload_n 2, 1) := by decide +kernel
theorem dX11_item_22 : decode cX11_item 22 = .ok (.invokevirtual 167, 3) := by decide +kernel
theorem m_418 : Cond.code yX4_refusal cX4_refusal 4 (some .int) ∈ BW := List.mem_of_getElem? (i := 418) (by decide +kernel)
theorem m_415 : Cond.methodLink RX11 167 yX4_refusal ∈ BW := List.mem_of_getElem? (i := 415) (by decide +kernel)
theorem m_416 : Cond.instanceMethod yX4_refusal ∈ BW := List.mem_of_getElem? (i := 416) (by decide +kernel)
theorem m_417 : Cond.selects RX4 yX4_refusal yX4_refusal ∈ BW := List.mem_of_getElem? (i := 417) (by decide +kernel)
theorem si_X11_167 : SV RX11 RX4 167 yX4_refusal cX4_refusal 4 (some .int) 2 := ⟨⟨m_415, m_416, m_417, m_45, m_418⟩, rfl, by decide +kernel, by decide +kernel, by decide +kernel⟩
theorem dX11_item_25 : decode cX11_item 25 = .ok (.istore 4, 2) := by decide +kernel
theorem dX11_item_27 : decode cX11_item 27 = .ok (.iload 4, 2) := by decide +kernel
theorem dX11_item_29 : decode cX11_item 29 = .ok (.ifCond .eq 6, 3) := by decide +kernel
theorem dX11_item_32 : decode cX11_item 32 = .ok (.iload 4, 2) := by decide +kernel
theorem dX11_item_34 : decode cX11_item 34 = .ok (.ireturn, 1) := by decide +kernel
theorem dX11_item_14 : decode cX11_item 14 = .ok (.iconst (-1), 1) := by decide +kernel
theorem dX11_item_15 : decode cX11_item 15 = .ok (.ireturn, 1) := by decide +kernel
theorem dX4_clear_0 : decode cX4_clear 0 = .ok (.iload_n 1, 1) := by decide +kernel
theorem dX4_clear_1 : decode cX4_clear 1 = .ok (.invokestatic 30, 3) := by decide +kernel
theorem dX4_clear_4 : decode cX4_clear 4 = .ok (.ifCond .ne 4, 3) := by decide +kernel
theorem dX4_clear_8 : decode cX4_clear 8 = .ok (.aload_n 0, 1) := by decide +kernel
theorem dX4_clear_9 : decode cX4_clear 9 = .ok (.getfield 11, 3) := by decide +kernel
theorem dX4_clear_12 : decode cX4_clear 12 = .ok (.iload_n 1, 1) := by decide +kernel
theorem dX4_clear_13 : decode cX4_clear 13 = .ok (.iconst (-1), 1) := by decide +kernel
theorem dX4_clear_14 : decode cX4_clear 14 = .ok (.iastore, 1) := by decide +kernel
theorem dX4_clear_15 : decode cX4_clear 15 = .ok (.aload_n 0, 1) := by decide +kernel
theorem dX4_clear_16 : decode cX4_clear 16 = .ok (.getfield 15, 3) := by decide +kernel
theorem dX4_clear_19 : decode cX4_clear 19 = .ok (.iload_n 1, 1) := by decide +kernel
theorem dX4_clear_20 : decode cX4_clear 20 = .ok (.iconst 0, 1) := by decide +kernel
theorem dX4_clear_21 : decode cX4_clear 21 = .ok (.iastore, 1) := by decide +kernel
theorem dX4_clear_22 : decode cX4_clear 22 = .ok (.return_, 1) := by decide +kernel
theorem dX4_lay_0 : decode cX4_lay 0 = .ok (.iload_n 1, 1) := by decide +kernel
theorem dX4_lay_1 : decode cX4_lay 1 = .ok (.invokestatic 30, 3) := by decide +kernel
theorem dX4_lay_4 : decode cX4_lay 4 = .ok (.ifCond .eq 13, 3) := by decide +kernel
theorem dX4_lay_7 : decode cX4_lay 7 = .ok (.iload_n 3, 1) := by decide +kernel
theorem dX4_lay_8 : decode cX4_lay 8 = .ok (.iconst 0, 1) := by decide +kernel
theorem dX4_lay_9 : decode cX4_lay 9 = .ok (.bipush 40, 2) := by decide +kernel
theorem dX4_lay_11 : decode cX4_lay 11 = .ok (.invokestatic 34, 3) := by decide +kernel
theorem nm_43 : Cond.methodLinkNest RX4 34 yX11_within RX11 ∈ NestW := List.mem_of_getElem? (i := 43) (by decide +kernel)
theorem si_X4_34 : SSN RX4 RX11 34 yX11_within cX11_within 3 (some .boolean) 3 := ⟨⟨nm_43, m_213, m_2, m_214⟩, ⟨by decide +kernel, by decide +kernel, by decide +kernel⟩⟩
theorem dX4_lay_14 : decode cX4_lay 14 = .ok (.ifCond .ne 4, 3) := by decide +kernel
theorem dX4_lay_18 : decode cX4_lay 18 = .ok (.aload_n 0, 1) := by decide +kernel
theorem dX4_lay_19 : decode cX4_lay 19 = .ok (.getfield 11, 3) := by decide +kernel
theorem dX4_lay_22 : decode cX4_lay 22 = .ok (.iload_n 1, 1) := by decide +kernel
theorem dX4_lay_23 : decode cX4_lay 23 = .ok (.iload_n 2, 1) := by decide +kernel
theorem dX4_lay_24 : decode cX4_lay 24 = .ok (.iastore, 1) := by decide +kernel
theorem dX4_lay_25 : decode cX4_lay 25 = .ok (.aload_n 0, 1) := by decide +kernel
theorem dX4_lay_26 : decode cX4_lay 26 = .ok (.getfield 15, 3) := by decide +kernel
theorem dX4_lay_29 : decode cX4_lay 29 = .ok (.iload_n 1, 1) := by decide +kernel
theorem dX4_lay_30 : decode cX4_lay 30 = .ok (.iload_n 3, 1) := by decide +kernel
theorem dX4_lay_31 : decode cX4_lay 31 = .ok (.iastore, 1) := by decide +kernel
theorem dX4_lay_32 : decode cX4_lay 32 = .ok (.iconst 0, 1) := by decide +kernel
theorem dX4_lay_33 : decode cX4_lay 33 = .ok (.istore 4, 2) := by decide +kernel
theorem dX4_lay_35 : decode cX4_lay 35 = .ok (.iload 4, 2) := by decide +kernel
theorem dX4_lay_37 : decode cX4_lay 37 = .ok (.bipush 40, 2) := by decide +kernel
theorem dX4_lay_39 : decode cX4_lay 39 = .ok (.if_icmp .ge 22, 3) := by decide +kernel
theorem dX4_lay_61 : decode cX4_lay 61 = .ok (.return_, 1) := by decide +kernel
theorem dX4_lay_42 : decode cX4_lay 42 = .ok (.aload_n 0, 1) := by decide +kernel
theorem dX4_lay_43 : decode cX4_lay 43 = .ok (.getfield 18, 3) := by decide +kernel
theorem gf_X4_18 (hC : CX p s m meth c y0 b0 mL0 rt0 args) (hy0 : y0.cls = RX4) (hK : KK G s) (hP : va_P G.1 vwCl ws H) (q0 : Nat) {fs : List Value} {v : Value} (he : ws[q0]? = some (a, .inr (4, fs))) (hv : fs[2]? = some v) (hdg : decode b0 pc = .ok (.getfield 18, 3)) (kk : W p l e R s m args below meth c H locs cells slots Q (F0 m (pc + 3) ls (v :: rest))) : W p l e R s m args below meth c H locs cells slots Q (F0 m pc ls (.ref a :: rest)) := by
  obtain ⟨hx, hb, hr, hml, hB, hown, hlocks, hnm⟩ := hC
  rw [hy0] at hown
  exact va_get (ci := 4) (C := RX4) (T := TX4) (N := 6) hx hb hB in_X4 hown hK.1 hP q0 he rfl 2 (by decide) (hB _ m_167) (fun _ h => h) hv hdg kk
theorem dX4_lay_46 : decode cX4_lay 46 = .ok (.iload_n 1, 1) := by decide +kernel
theorem dX4_lay_47 : decode cX4_lay 47 = .ok (.bipush 40, 2) := by decide +kernel
theorem dX4_lay_49 : decode cX4_lay 49 = .ok (.imul, 1) := by decide +kernel
theorem dX4_lay_50 : decode cX4_lay 50 = .ok (.iload 4, 2) := by decide +kernel
theorem dX4_lay_52 : decode cX4_lay 52 = .ok (.iadd, 1) := by decide +kernel
theorem dX4_lay_53 : decode cX4_lay 53 = .ok (.iconst 0, 1) := by decide +kernel
theorem dX4_lay_54 : decode cX4_lay 54 = .ok (.iastore, 1) := by decide +kernel
theorem dX4_lay_55 : decode cX4_lay 55 = .ok (.iinc 4 1, 3) := by decide +kernel
theorem dX4_lay_58 : decode cX4_lay 58 = .ok (.goto (-23), 3) := by decide +kernel
end WR
noncomputable def A_sheet (s9 so n : Int32) : Int32 := ifc (Wi s9 0 3) (ifc (Wi so (-1) 4) (ifc (so = -1) 1 (ifc (n ≤ 40) (ifc (0 ≤ n) 1 (-14)) (-1))) (-1)) (-1)
section WR
variable {p : Program} {l : Launch} {e : Env} {R : Room} {s : State} {m : MethodId} {args : Array Value} {below : List Frame} {meth : Method} {c : Code} {H : Heap} {locs : List Loc} {cells slots : Nat} {Q : State → Prop}
variable {pc : Nat} {ls : Array Slot} {rest : List Value} {G : GG} {ws : va_W} {A : Nat → Prop} {y0 : MethodName} {b0 : ByteArray} {mL0 : Nat} {rt0 : Option FieldType} {a : Nat} {H0 : Heap}
theorem dX11_sheet_0 : decode cX11_sheet 0 = .ok (.iload_n 1, 1) := by decide +kernel
theorem dX11_sheet_1 : decode cX11_sheet 1 = .ok (.invokestatic 164, 3) := by decide +kernel
theorem dX11_sheet_4 : decode cX11_sheet 4 = .ok (.ifCond .eq 12, 3) := by decide +kernel
theorem dX11_sheet_7 : decode cX11_sheet 7 = .ok (.iload_n 2, 1) := by decide +kernel
theorem dX11_sheet_8 : decode cX11_sheet 8 = .ok (.iconst (-1), 1) := by decide +kernel
theorem dX11_sheet_9 : decode cX11_sheet 9 = .ok (.iconst 4, 1) := by decide +kernel
theorem dX11_sheet_10 : decode cX11_sheet 10 = .ok (.invokestatic 83, 3) := by decide +kernel
theorem dX11_sheet_13 : decode cX11_sheet 13 = .ok (.ifCond .ne 5, 3) := by decide +kernel
theorem dX11_sheet_18 : decode cX11_sheet 18 = .ok (.iload_n 2, 1) := by decide +kernel
theorem dX11_sheet_19 : decode cX11_sheet 19 = .ok (.iconst (-1), 1) := by decide +kernel
theorem dX11_sheet_20 : decode cX11_sheet 20 = .ok (.if_icmp .ne 13, 3) := by decide +kernel
theorem dX11_sheet_33 : decode cX11_sheet 33 = .ok (.iload_n 3, 1) := by decide +kernel
theorem dX11_sheet_34 : decode cX11_sheet 34 = .ok (.bipush 40, 2) := by decide +kernel
theorem dX11_sheet_36 : decode cX11_sheet 36 = .ok (.if_icmp .le 5, 3) := by decide +kernel
theorem dX11_sheet_41 : decode cX11_sheet 41 = .ok (.iload_n 3, 1) := by decide +kernel
theorem dX11_sheet_42 : decode cX11_sheet 42 = .ok (.ifCond .ge 6, 3) := by decide +kernel
theorem dX11_sheet_48 : decode cX11_sheet 48 = .ok (.aload_n 0, 1) := by decide +kernel
theorem dX11_sheet_49 : decode cX11_sheet 49 = .ok (.getfield 72, 3) := by decide +kernel
theorem dX11_sheet_52 : decode cX11_sheet 52 = .ok (.iload_n 1, 1) := by decide +kernel
theorem dX11_sheet_53 : decode cX11_sheet 53 = .ok (.iload_n 2, 1) := by decide +kernel
theorem dX11_sheet_54 : decode cX11_sheet 54 = .ok (.iload_n 3, 1) := by decide +kernel
theorem dX11_sheet_55 : decode cX11_sheet 55 = .ok (.invokevirtual 306, 3) := by decide +kernel
theorem m_1218 : Cond.code yX4_lay cX4_lay 5 none ∈ BW := List.mem_of_getElem? (i := 1218) (by decide +kernel)
theorem m_1215 : Cond.methodLink RX11 306 yX4_lay ∈ BW := List.mem_of_getElem? (i := 1215) (by decide +kernel)
theorem m_1216 : Cond.instanceMethod yX4_lay ∈ BW := List.mem_of_getElem? (i := 1216) (by decide +kernel)
theorem m_1217 : Cond.selects RX4 yX4_lay yX4_lay ∈ BW := List.mem_of_getElem? (i := 1217) (by decide +kernel)
theorem si_X11_306 : SV RX11 RX4 306 yX4_lay cX4_lay 5 none 3 := ⟨⟨m_1215, m_1216, m_1217, m_45, m_1218⟩, rfl, by decide +kernel, by decide +kernel, by decide +kernel⟩
theorem dX11_sheet_58 : decode cX11_sheet 58 = .ok (.iconst 1, 1) := by decide +kernel
theorem dX11_sheet_59 : decode cX11_sheet 59 = .ok (.ireturn, 1) := by decide +kernel
theorem dX11_sheet_45 : decode cX11_sheet 45 = .ok (.bipush (-14), 2) := by decide +kernel
theorem dX11_sheet_47 : decode cX11_sheet 47 = .ok (.ireturn, 1) := by decide +kernel
theorem dX11_sheet_39 : decode cX11_sheet 39 = .ok (.iconst (-1), 1) := by decide +kernel
theorem dX11_sheet_40 : decode cX11_sheet 40 = .ok (.ireturn, 1) := by decide +kernel
theorem dX11_sheet_23 : decode cX11_sheet 23 = .ok (.aload_n 0, 1) := by decide +kernel
theorem dX11_sheet_24 : decode cX11_sheet 24 = .ok (.getfield 72, 3) := by decide +kernel
theorem dX11_sheet_27 : decode cX11_sheet 27 = .ok (.iload_n 1, 1) := by decide +kernel
theorem dX11_sheet_28 : decode cX11_sheet 28 = .ok (.invokevirtual 304, 3) := by decide +kernel
theorem m_1214 : Cond.code yX4_clear cX4_clear 2 none ∈ BW := List.mem_of_getElem? (i := 1214) (by decide +kernel)
theorem m_1211 : Cond.methodLink RX11 304 yX4_clear ∈ BW := List.mem_of_getElem? (i := 1211) (by decide +kernel)
theorem m_1212 : Cond.instanceMethod yX4_clear ∈ BW := List.mem_of_getElem? (i := 1212) (by decide +kernel)
theorem m_1213 : Cond.selects RX4 yX4_clear yX4_clear ∈ BW := List.mem_of_getElem? (i := 1213) (by decide +kernel)
theorem si_X11_304 : SV RX11 RX4 304 yX4_clear cX4_clear 2 none 1 := ⟨⟨m_1211, m_1212, m_1213, m_45, m_1214⟩, rfl, by decide +kernel, by decide +kernel, by decide +kernel⟩
theorem dX11_sheet_31 : decode cX11_sheet 31 = .ok (.iconst 1, 1) := by decide +kernel
theorem dX11_sheet_32 : decode cX11_sheet 32 = .ok (.ireturn, 1) := by decide +kernel
theorem dX11_sheet_16 : decode cX11_sheet 16 = .ok (.iconst (-1), 1) := by decide +kernel
theorem dX11_sheet_17 : decode cX11_sheet 17 = .ok (.ireturn, 1) := by decide +kernel
theorem dX4_hold_0 : decode cX4_hold 0 = .ok (.iload_n 1, 1) := by decide +kernel
theorem dX4_hold_1 : decode cX4_hold 1 = .ok (.invokestatic 41, 3) := by decide +kernel
theorem dX4_hold_4 : decode cX4_hold 4 = .ok (.ifCond .ne 4, 3) := by decide +kernel
theorem dX4_hold_8 : decode cX4_hold 8 = .ok (.aload_n 0, 1) := by decide +kernel
theorem dX4_hold_9 : decode cX4_hold 9 = .ok (.getfield 21, 3) := by decide +kernel
theorem dX4_hold_12 : decode cX4_hold 12 = .ok (.iload_n 1, 1) := by decide +kernel
theorem dX4_hold_13 : decode cX4_hold 13 = .ok (.iload_n 2, 1) := by decide +kernel
theorem dX4_hold_14 : decode cX4_hold 14 = .ok (.iastore, 1) := by decide +kernel
theorem dX4_hold_15 : decode cX4_hold 15 = .ok (.aload_n 0, 1) := by decide +kernel
theorem dX4_hold_16 : decode cX4_hold 16 = .ok (.getfield 24, 3) := by decide +kernel
theorem gf_X4_24 (hC : CX p s m meth c y0 b0 mL0 rt0 args) (hy0 : y0.cls = RX4) (hK : KK G s) (hP : va_P G.1 vwCl ws H) (q0 : Nat) {fs : List Value} {v : Value} (he : ws[q0]? = some (a, .inr (4, fs))) (hv : fs[4]? = some v) (hdg : decode b0 pc = .ok (.getfield 24, 3)) (kk : W p l e R s m args below meth c H locs cells slots Q (F0 m (pc + 3) ls (v :: rest))) : W p l e R s m args below meth c H locs cells slots Q (F0 m pc ls (.ref a :: rest)) := by
  obtain ⟨hx, hb, hr, hml, hB, hown, hlocks, hnm⟩ := hC
  rw [hy0] at hown
  exact va_get (ci := 4) (C := RX4) (T := TX4) (N := 6) hx hb hB in_X4 hown hK.1 hP q0 he rfl 4 (by decide) (hB _ m_169) (fun _ h => h) hv hdg kk
theorem dX4_hold_19 : decode cX4_hold 19 = .ok (.iload_n 1, 1) := by decide +kernel
theorem dX4_hold_20 : decode cX4_hold 20 = .ok (.iload_n 3, 1) := by decide +kernel
theorem dX4_hold_21 : decode cX4_hold 21 = .ok (.iastore, 1) := by decide +kernel
theorem dX4_hold_22 : decode cX4_hold 22 = .ok (.return_, 1) := by decide +kernel
theorem dX4_holdRow_0 : decode cX4_holdRow 0 = .ok (.iload_n 1, 1) := by decide +kernel
theorem dX4_holdRow_1 : decode cX4_holdRow 1 = .ok (.invokestatic 41, 3) := by decide +kernel
theorem dX4_holdRow_4 : decode cX4_holdRow 4 = .ok (.ifCond .ne 4, 3) := by decide +kernel
theorem dX4_holdRow_8 : decode cX4_holdRow 8 = .ok (.aload_n 0, 1) := by decide +kernel
theorem dX4_holdRow_9 : decode cX4_holdRow 9 = .ok (.getfield 21, 3) := by decide +kernel
theorem dX4_holdRow_12 : decode cX4_holdRow 12 = .ok (.iload_n 1, 1) := by decide +kernel
theorem dX4_holdRow_13 : decode cX4_holdRow 13 = .ok (.aload_n 0, 1) := by decide +kernel
theorem dX4_holdRow_14 : decode cX4_holdRow 14 = .ok (.iload_n 2, 1) := by decide +kernel
theorem dX4_holdRow_15 : decode cX4_holdRow 15 = .ok (.invokevirtual 38, 3) := by decide +kernel
theorem dX4_holdRow_18 : decode cX4_holdRow 18 = .ok (.iconst (-1), 1) := by decide +kernel
theorem dX4_holdRow_19 : decode cX4_holdRow 19 = .ok (.if_icmp .ne 7, 3) := by decide +kernel
theorem dX4_holdRow_22 : decode cX4_holdRow 22 = .ok (.iconst 4, 1) := by decide +kernel
theorem dX4_holdRow_23 : decode cX4_holdRow 23 = .ok (.goto 4, 3) := by decide +kernel
theorem dX4_holdRow_27 : decode cX4_holdRow 27 = .ok (.iastore, 1) := by decide +kernel
theorem dX4_holdRow_28 : decode cX4_holdRow 28 = .ok (.aload_n 0, 1) := by decide +kernel
theorem dX4_holdRow_29 : decode cX4_holdRow 29 = .ok (.getfield 24, 3) := by decide +kernel
theorem dX4_holdRow_32 : decode cX4_holdRow 32 = .ok (.iload_n 1, 1) := by decide +kernel
theorem dX4_holdRow_33 : decode cX4_holdRow 33 = .ok (.aload_n 0, 1) := by decide +kernel
theorem dX4_holdRow_34 : decode cX4_holdRow 34 = .ok (.iload_n 2, 1) := by decide +kernel
theorem dX4_holdRow_35 : decode cX4_holdRow 35 = .ok (.invokevirtual 44, 3) := by decide +kernel
theorem m_426 : Cond.code yX4_size cX4_size 2 (some .int) ∈ BW := List.mem_of_getElem? (i := 426) (by decide +kernel)
theorem m_1262 : Cond.methodLink RX4 44 yX4_size ∈ BW := List.mem_of_getElem? (i := 1262) (by decide +kernel)
theorem m_424 : Cond.instanceMethod yX4_size ∈ BW := List.mem_of_getElem? (i := 424) (by decide +kernel)
theorem m_425 : Cond.selects RX4 yX4_size yX4_size ∈ BW := List.mem_of_getElem? (i := 425) (by decide +kernel)
theorem si_X4_44 : SV RX4 RX4 44 yX4_size cX4_size 2 (some .int) 1 := ⟨⟨m_1262, m_424, m_425, m_45, m_426⟩, rfl, by decide +kernel, by decide +kernel, by decide +kernel⟩
theorem dX4_holdRow_38 : decode cX4_holdRow 38 = .ok (.iastore, 1) := by decide +kernel
theorem dX4_holdRow_39 : decode cX4_holdRow 39 = .ok (.aload_n 0, 1) := by decide +kernel
theorem dX4_holdRow_40 : decode cX4_holdRow 40 = .ok (.getfield 27, 3) := by decide +kernel
theorem gf_X4_27 (hC : CX p s m meth c y0 b0 mL0 rt0 args) (hy0 : y0.cls = RX4) (hK : KK G s) (hP : va_P G.1 vwCl ws H) (q0 : Nat) {fs : List Value} {v : Value} (he : ws[q0]? = some (a, .inr (4, fs))) (hv : fs[5]? = some v) (hdg : decode b0 pc = .ok (.getfield 27, 3)) (kk : W p l e R s m args below meth c H locs cells slots Q (F0 m (pc + 3) ls (v :: rest))) : W p l e R s m args below meth c H locs cells slots Q (F0 m pc ls (.ref a :: rest)) := by
  obtain ⟨hx, hb, hr, hml, hB, hown, hlocks, hnm⟩ := hC
  rw [hy0] at hown
  exact va_get (ci := 4) (C := RX4) (T := TX4) (N := 6) hx hb hB in_X4 hown hK.1 hP q0 he rfl 5 (by decide) (hB _ m_170) (fun _ h => h) hv hdg kk
theorem dX4_holdRow_43 : decode cX4_holdRow 43 = .ok (.iload_n 1, 1) := by decide +kernel
theorem dX4_holdRow_44 : decode cX4_holdRow 44 = .ok (.aload_n 0, 1) := by decide +kernel
theorem dX4_holdRow_45 : decode cX4_holdRow 45 = .ok (.iload_n 2, 1) := by decide +kernel
theorem dX4_holdRow_46 : decode cX4_holdRow 46 = .ok (.invokevirtual 38, 3) := by decide +kernel
theorem dX4_holdRow_49 : decode cX4_holdRow 49 = .ok (.iastore, 1) := by decide +kernel
theorem dX4_holdRow_50 : decode cX4_holdRow 50 = .ok (.return_, 1) := by decide +kernel
end WR
noncomputable def A_shelf (s9 w n : Int32) : Int32 := ifc (Wi s9 0 3) (ifc (w = 3) (ifc (Wi n 0 3) 1 (-1)) (ifc (w = 4) 1 (-1))) (-1)
section WR
variable {p : Program} {l : Launch} {e : Env} {R : Room} {s : State} {m : MethodId} {args : Array Value} {below : List Frame} {meth : Method} {c : Code} {H : Heap} {locs : List Loc} {cells slots : Nat} {Q : State → Prop}
variable {pc : Nat} {ls : Array Slot} {rest : List Value} {G : GG} {ws : va_W} {A : Nat → Prop} {y0 : MethodName} {b0 : ByteArray} {mL0 : Nat} {rt0 : Option FieldType} {a : Nat} {H0 : Heap}
theorem dX11_shelf_0 : decode cX11_shelf 0 = .ok (.iload_n 1, 1) := by decide +kernel
theorem dX11_shelf_1 : decode cX11_shelf 1 = .ok (.invokestatic 318, 3) := by decide +kernel
theorem m_1255 : Cond.methodLink RX11 318 yX11_isShelf ∈ BW := List.mem_of_getElem? (i := 1255) (by decide +kernel)
theorem si_X11_318 : SS RX11 318 yX11_isShelf cX11_isShelf 1 (some .boolean) 1 := ⟨⟨m_1255, m_1256, m_2, m_1257⟩, ⟨by decide +kernel, by decide +kernel, by decide +kernel⟩⟩
theorem dX11_shelf_4 : decode cX11_shelf 4 = .ok (.ifCond .ne 5, 3) := by decide +kernel
theorem dX11_shelf_9 : decode cX11_shelf 9 = .ok (.iload_n 2, 1) := by decide +kernel
theorem dX11_shelf_10 : decode cX11_shelf 10 = .ok (.tableswitch 94 0 4 #[34, 50, 66, 82, 91], 34) := by decide +kernel
theorem dX11_shelf_44 : decode cX11_shelf 44 = .ok (.aload_n 0, 1) := by decide +kernel
theorem dX11_shelf_45 : decode cX11_shelf 45 = .ok (.getfield 15, 3) := by decide +kernel
theorem dX11_shelf_48 : decode cX11_shelf 48 = .ok (.getfield 144, 3) := by decide +kernel
theorem dX11_shelf_51 : decode cX11_shelf 51 = .ok (.iload_n 3, 1) := by decide +kernel
theorem dX11_shelf_52 : decode cX11_shelf 52 = .ok (.invokevirtual 124, 3) := by decide +kernel
theorem dX11_shelf_55 : decode cX11_shelf 55 = .ok (.ifCond .ne 51, 3) := by decide +kernel
theorem dX11_shelf_58 : decode cX11_shelf 58 = .ok (.iconst (-1), 1) := by decide +kernel
theorem dX11_shelf_59 : decode cX11_shelf 59 = .ok (.ireturn, 1) := by decide +kernel
theorem dX11_shelf_60 : decode cX11_shelf 60 = .ok (.aload_n 0, 1) := by decide +kernel
theorem dX11_shelf_61 : decode cX11_shelf 61 = .ok (.getfield 15, 3) := by decide +kernel
theorem dX11_shelf_64 : decode cX11_shelf 64 = .ok (.getfield 256, 3) := by decide +kernel
theorem dX11_shelf_67 : decode cX11_shelf 67 = .ok (.iload_n 3, 1) := by decide +kernel
theorem dX11_shelf_68 : decode cX11_shelf 68 = .ok (.invokevirtual 124, 3) := by decide +kernel
theorem dX11_shelf_71 : decode cX11_shelf 71 = .ok (.ifCond .ne 35, 3) := by decide +kernel
theorem dX11_shelf_74 : decode cX11_shelf 74 = .ok (.iconst (-1), 1) := by decide +kernel
theorem dX11_shelf_75 : decode cX11_shelf 75 = .ok (.ireturn, 1) := by decide +kernel
theorem dX11_shelf_76 : decode cX11_shelf 76 = .ok (.aload_n 0, 1) := by decide +kernel
theorem dX11_shelf_77 : decode cX11_shelf 77 = .ok (.getfield 15, 3) := by decide +kernel
theorem dX11_shelf_80 : decode cX11_shelf 80 = .ok (.getfield 271, 3) := by decide +kernel
theorem dX11_shelf_83 : decode cX11_shelf 83 = .ok (.iload_n 3, 1) := by decide +kernel
theorem dX11_shelf_84 : decode cX11_shelf 84 = .ok (.invokevirtual 124, 3) := by decide +kernel
theorem dX11_shelf_87 : decode cX11_shelf 87 = .ok (.ifCond .ne 19, 3) := by decide +kernel
theorem dX11_shelf_90 : decode cX11_shelf 90 = .ok (.iconst (-1), 1) := by decide +kernel
theorem dX11_shelf_91 : decode cX11_shelf 91 = .ok (.ireturn, 1) := by decide +kernel
theorem dX11_shelf_92 : decode cX11_shelf 92 = .ok (.iload_n 3, 1) := by decide +kernel
theorem dX11_shelf_93 : decode cX11_shelf 93 = .ok (.invokestatic 164, 3) := by decide +kernel
theorem dX11_shelf_96 : decode cX11_shelf 96 = .ok (.ifCond .ne 10, 3) := by decide +kernel
theorem dX11_shelf_106 : decode cX11_shelf 106 = .ok (.iload_n 2, 1) := by decide +kernel
theorem dX11_shelf_107 : decode cX11_shelf 107 = .ok (.iconst 3, 1) := by decide +kernel
theorem dX11_shelf_108 : decode cX11_shelf 108 = .ok (.if_icmp .ne 15, 3) := by decide +kernel
theorem dX11_shelf_111 : decode cX11_shelf 111 = .ok (.aload_n 0, 1) := by decide +kernel
theorem dX11_shelf_112 : decode cX11_shelf 112 = .ok (.getfield 72, 3) := by decide +kernel
theorem dX11_shelf_115 : decode cX11_shelf 115 = .ok (.iload_n 1, 1) := by decide +kernel
theorem dX11_shelf_116 : decode cX11_shelf 116 = .ok (.iload_n 3, 1) := by decide +kernel
theorem dX11_shelf_117 : decode cX11_shelf 117 = .ok (.invokevirtual 321, 3) := by decide +kernel
theorem m_1261 : Cond.code yX4_holdRow cX4_holdRow 3 none ∈ BW := List.mem_of_getElem? (i := 1261) (by decide +kernel)
theorem m_1258 : Cond.methodLink RX11 321 yX4_holdRow ∈ BW := List.mem_of_getElem? (i := 1258) (by decide +kernel)
theorem m_1259 : Cond.instanceMethod yX4_holdRow ∈ BW := List.mem_of_getElem? (i := 1259) (by decide +kernel)
theorem m_1260 : Cond.selects RX4 yX4_holdRow yX4_holdRow ∈ BW := List.mem_of_getElem? (i := 1260) (by decide +kernel)
theorem si_X11_321 : SV RX11 RX4 321 yX4_holdRow cX4_holdRow 3 none 2 := ⟨⟨m_1258, m_1259, m_1260, m_45, m_1261⟩, rfl, by decide +kernel, by decide +kernel, by decide +kernel⟩
theorem dX11_shelf_120 : decode cX11_shelf 120 = .ok (.goto 13, 3) := by decide +kernel
theorem dX11_shelf_133 : decode cX11_shelf 133 = .ok (.iconst 1, 1) := by decide +kernel
theorem dX11_shelf_134 : decode cX11_shelf 134 = .ok (.ireturn, 1) := by decide +kernel
theorem dX11_shelf_99 : decode cX11_shelf 99 = .ok (.iconst (-1), 1) := by decide +kernel
theorem dX11_shelf_100 : decode cX11_shelf 100 = .ok (.ireturn, 1) := by decide +kernel
theorem dX11_shelf_101 : decode cX11_shelf 101 = .ok (.goto 5, 3) := by decide +kernel
theorem dX11_shelf_123 : decode cX11_shelf 123 = .ok (.aload_n 0, 1) := by decide +kernel
theorem dX11_shelf_124 : decode cX11_shelf 124 = .ok (.getfield 72, 3) := by decide +kernel
theorem dX11_shelf_127 : decode cX11_shelf 127 = .ok (.iload_n 1, 1) := by decide +kernel
theorem dX11_shelf_128 : decode cX11_shelf 128 = .ok (.iload_n 2, 1) := by decide +kernel
theorem dX11_shelf_129 : decode cX11_shelf 129 = .ok (.iload_n 3, 1) := by decide +kernel
theorem dX11_shelf_130 : decode cX11_shelf 130 = .ok (.invokevirtual 324, 3) := by decide +kernel
theorem m_1266 : Cond.code yX4_hold cX4_hold 4 none ∈ BW := List.mem_of_getElem? (i := 1266) (by decide +kernel)
theorem m_1263 : Cond.methodLink RX11 324 yX4_hold ∈ BW := List.mem_of_getElem? (i := 1263) (by decide +kernel)
theorem m_1264 : Cond.instanceMethod yX4_hold ∈ BW := List.mem_of_getElem? (i := 1264) (by decide +kernel)
theorem m_1265 : Cond.selects RX4 yX4_hold yX4_hold ∈ BW := List.mem_of_getElem? (i := 1265) (by decide +kernel)
theorem si_X11_324 : SV RX11 RX4 324 yX4_hold cX4_hold 4 none 3 := ⟨⟨m_1263, m_1264, m_1265, m_45, m_1266⟩, rfl, by decide +kernel, by decide +kernel, by decide +kernel⟩
theorem sw_0_4 {x : Int32} : ¬ x = 0 → ¬ x = 1 → ¬ x = 2 → ¬ x = 3 → ¬ x = 4 →  (x.toInt < 0 ∨ 4 < x.toInt) := by
  intros
  simp only [← Int32.toInt_inj] at *
  have hk : ∀ k : Int, x.toInt = k → x.toInt = k := fun _ h => h
  have k0 : (0 : Int32).toInt = 0 := by decide
  have k1 : (1 : Int32).toInt = 1 := by decide
  have k2 : (2 : Int32).toInt = 2 := by decide
  have k3 : (3 : Int32).toInt = 3 := by decide
  have k4 : (4 : Int32).toInt = 4 := by decide
  omega
theorem dX11_shelf_104 : decode cX11_shelf 104 = .ok (.iconst (-1), 1) := by decide +kernel
theorem dX11_shelf_105 : decode cX11_shelf 105 = .ok (.ireturn, 1) := by decide +kernel
theorem dX11_shelf_7 : decode cX11_shelf 7 = .ok (.iconst (-1), 1) := by decide +kernel
theorem dX11_shelf_8 : decode cX11_shelf 8 = .ok (.ireturn, 1) := by decide +kernel
end WR
noncomputable def A_taken (s9 a9 : Int32) : Int32 := ifc (Wi s9 0 3) (ifc (Wi a9 0 6) (-11) (ifc (Wi (a9 - 10) 0 4) (-11) (-1))) (-1)
section WR
variable {p : Program} {l : Launch} {e : Env} {R : Room} {s : State} {m : MethodId} {args : Array Value} {below : List Frame} {meth : Method} {c : Code} {H : Heap} {locs : List Loc} {cells slots : Nat} {Q : State → Prop}
variable {pc : Nat} {ls : Array Slot} {rest : List Value} {G : GG} {ws : va_W} {A : Nat → Prop} {y0 : MethodName} {b0 : ByteArray} {mL0 : Nat} {rt0 : Option FieldType} {a : Nat} {H0 : Heap}
theorem dX11_taken_0 : decode cX11_taken 0 = .ok (.iload_n 1, 1) := by decide +kernel
theorem dX11_taken_1 : decode cX11_taken 1 = .ok (.invokestatic 318, 3) := by decide +kernel
theorem dX11_taken_4 : decode cX11_taken 4 = .ok (.ifCond .eq 23, 3) := by decide +kernel
theorem dX11_taken_7 : decode cX11_taken 7 = .ok (.iload_n 2, 1) := by decide +kernel
theorem dX11_taken_8 : decode cX11_taken 8 = .ok (.iconst 0, 1) := by decide +kernel
theorem dX11_taken_9 : decode cX11_taken 9 = .ok (.bipush 6, 2) := by decide +kernel
theorem dX11_taken_11 : decode cX11_taken 11 = .ok (.invokestatic 83, 3) := by decide +kernel
theorem dX11_taken_14 : decode cX11_taken 14 = .ok (.ifCond .ne 15, 3) := by decide +kernel
theorem dX11_taken_29 : decode cX11_taken 29 = .ok (.aload_n 0, 1) := by decide +kernel
theorem dX11_taken_30 : decode cX11_taken 30 = .ok (.getfield 72, 3) := by decide +kernel
theorem dX11_taken_33 : decode cX11_taken 33 = .ok (.iload_n 1, 1) := by decide +kernel
theorem dX11_taken_34 : decode cX11_taken 34 = .ok (.aload_n 0, 1) := by decide +kernel
theorem dX11_taken_35 : decode cX11_taken 35 = .ok (.getfield 15, 3) := by decide +kernel
theorem dX11_taken_38 : decode cX11_taken 38 = .ok (.invokevirtual 327, 3) := by decide +kernel
theorem m_1278 : Cond.code yX4_held cX4_held 4 (some .int) ∈ BW := List.mem_of_getElem? (i := 1278) (by decide +kernel)
theorem m_1275 : Cond.methodLink RX11 327 yX4_held ∈ BW := List.mem_of_getElem? (i := 1275) (by decide +kernel)
theorem m_1276 : Cond.instanceMethod yX4_held ∈ BW := List.mem_of_getElem? (i := 1276) (by decide +kernel)
theorem m_1277 : Cond.selects RX4 yX4_held yX4_held ∈ BW := List.mem_of_getElem? (i := 1277) (by decide +kernel)
theorem si_X11_327 : SV RX11 RX4 327 yX4_held cX4_held 4 (some .int) 2 := ⟨⟨m_1275, m_1276, m_1277, m_45, m_1278⟩, rfl, by decide +kernel, by decide +kernel, by decide +kernel⟩
theorem dX11_taken_41 : decode cX11_taken 41 = .ok (.istore_n 3, 1) := by decide +kernel
theorem dX11_taken_42 : decode cX11_taken 42 = .ok (.iload_n 3, 1) := by decide +kernel
theorem dX11_taken_43 : decode cX11_taken 43 = .ok (.iconst 4, 1) := by decide +kernel
theorem dX11_taken_44 : decode cX11_taken 44 = .ok (.if_icmp .ne 6, 3) := by decide +kernel
theorem dX11_taken_47 : decode cX11_taken 47 = .ok (.bipush (-11), 2) := by decide +kernel
theorem dX11_taken_49 : decode cX11_taken 49 = .ok (.ireturn, 1) := by decide +kernel
theorem dX11_taken_17 : decode cX11_taken 17 = .ok (.iload_n 2, 1) := by decide +kernel
theorem dX11_taken_18 : decode cX11_taken 18 = .ok (.bipush 10, 2) := by decide +kernel
theorem dX11_taken_20 : decode cX11_taken 20 = .ok (.isub, 1) := by decide +kernel
theorem dX11_taken_21 : decode cX11_taken 21 = .ok (.invokestatic 315, 3) := by decide +kernel
theorem dX11_taken_24 : decode cX11_taken 24 = .ok (.ifCond .ne 5, 3) := by decide +kernel
theorem dX11_taken_27 : decode cX11_taken 27 = .ok (.iconst (-1), 1) := by decide +kernel
theorem dX11_taken_28 : decode cX11_taken 28 = .ok (.ireturn, 1) := by decide +kernel
theorem dX2_clearTrace_0 : decode cX2_clearTrace 0 = .ok (.aload_n 0, 1) := by decide +kernel
theorem dX2_clearTrace_1 : decode cX2_clearTrace 1 = .ok (.iconst 0, 1) := by decide +kernel
theorem dX2_clearTrace_2 : decode cX2_clearTrace 2 = .ok (.putfield 19, 3) := by decide +kernel
theorem dX2_clearTrace_5 : decode cX2_clearTrace 5 = .ok (.return_, 1) := by decide +kernel
theorem dX11_deal_0 : decode cX11_deal 0 = .ok (.aload_n 0, 1) := by decide +kernel
theorem dX11_deal_1 : decode cX11_deal 1 = .ok (.getfield 79, 3) := by decide +kernel
theorem dX11_deal_4 : decode cX11_deal 4 = .ok (.invokevirtual 343, 3) := by decide +kernel
theorem m_1320 : Cond.code yX2_clearTrace cX2_clearTrace 1 none ∈ BW := List.mem_of_getElem? (i := 1320) (by decide +kernel)
theorem m_1317 : Cond.methodLink RX11 343 yX2_clearTrace ∈ BW := List.mem_of_getElem? (i := 1317) (by decide +kernel)
theorem m_1318 : Cond.instanceMethod yX2_clearTrace ∈ BW := List.mem_of_getElem? (i := 1318) (by decide +kernel)
theorem m_1319 : Cond.selects RX2 yX2_clearTrace yX2_clearTrace ∈ BW := List.mem_of_getElem? (i := 1319) (by decide +kernel)
theorem si_X11_343 : SV RX11 RX2 343 yX2_clearTrace cX2_clearTrace 1 none 0 := ⟨⟨m_1317, m_1318, m_1319, m_49, m_1320⟩, rfl, by decide +kernel, by decide +kernel, by decide +kernel⟩
theorem dX11_deal_7 : decode cX11_deal 7 = .ok (.iload_n 1, 1) := by decide +kernel
theorem dX11_deal_8 : decode cX11_deal 8 = .ok (.invokestatic 318, 3) := by decide +kernel
theorem dX11_deal_11 : decode cX11_deal 11 = .ok (.ifCond .eq 12, 3) := by decide +kernel
theorem dX11_deal_14 : decode cX11_deal 14 = .ok (.iload_n 2, 1) := by decide +kernel
theorem dX11_deal_15 : decode cX11_deal 15 = .ok (.iconst 0, 1) := by decide +kernel
theorem dX11_deal_16 : decode cX11_deal 16 = .ok (.iconst 3, 1) := by decide +kernel
theorem dX11_deal_17 : decode cX11_deal 17 = .ok (.invokestatic 83, 3) := by decide +kernel
theorem dX11_deal_20 : decode cX11_deal 20 = .ok (.ifCond .ne 5, 3) := by decide +kernel
theorem dX11_deal_25 : decode cX11_deal 25 = .ok (.aload_n 0, 1) := by decide +kernel
theorem dX11_deal_26 : decode cX11_deal 26 = .ok (.getfield 72, 3) := by decide +kernel
theorem dX11_deal_29 : decode cX11_deal 29 = .ok (.iload_n 1, 1) := by decide +kernel
theorem dX11_deal_30 : decode cX11_deal 30 = .ok (.aload_n 0, 1) := by decide +kernel
theorem dX11_deal_31 : decode cX11_deal 31 = .ok (.getfield 15, 3) := by decide +kernel
theorem dX11_deal_34 : decode cX11_deal 34 = .ok (.invokevirtual 327, 3) := by decide +kernel
theorem dX11_deal_37 : decode cX11_deal 37 = .ok (.istore 4, 2) := by decide +kernel
theorem dX11_deal_39 : decode cX11_deal 39 = .ok (.iload 4, 2) := by decide +kernel
theorem dX11_deal_41 : decode cX11_deal 41 = .ok (.iconst 4, 1) := by decide +kernel
theorem dX11_deal_42 : decode cX11_deal 42 = .ok (.if_icmp .eq 9, 3) := by decide +kernel
theorem dX11_deal_51 : decode cX11_deal 51 = .ok (.iconst 0, 1) := by decide +kernel
theorem dX11_deal_52 : decode cX11_deal 52 = .ok (.ireturn, 1) := by decide +kernel
theorem dX11_deal_23 : decode cX11_deal 23 = .ok (.iconst 0, 1) := by decide +kernel
theorem dX11_deal_24 : decode cX11_deal 24 = .ok (.ireturn, 1) := by decide +kernel
theorem dX8_copy_0 : decode cX8_copy 0 = .ok (.aload_n 0, 1) := by decide +kernel
theorem dX8_copy_1 : decode cX8_copy 1 = .ok (.getfield 24, 3) := by decide +kernel
theorem dX8_copy_4 : decode cX8_copy 4 = .ok (.arraylength, 1) := by decide +kernel
theorem dX8_copy_5 : decode cX8_copy 5 = .ok (.aload_n 1, 1) := by decide +kernel
theorem dX8_copy_6 : decode cX8_copy 6 = .ok (.getfield 24, 3) := by decide +kernel
theorem dX8_copy_9 : decode cX8_copy 9 = .ok (.arraylength, 1) := by decide +kernel
theorem dX8_copy_10 : decode cX8_copy 10 = .ok (.invokestatic 31, 3) := by decide +kernel
theorem dX8_copy_13 : decode cX8_copy 13 = .ok (.istore_n 2, 1) := by decide +kernel
theorem dX8_copy_14 : decode cX8_copy 14 = .ok (.aload_n 1, 1) := by decide +kernel
theorem dX8_copy_15 : decode cX8_copy 15 = .ok (.getfield 24, 3) := by decide +kernel
theorem dX8_copy_18 : decode cX8_copy 18 = .ok (.iconst 0, 1) := by decide +kernel
theorem dX8_copy_19 : decode cX8_copy 19 = .ok (.aload_n 0, 1) := by decide +kernel
theorem dX8_copy_20 : decode cX8_copy 20 = .ok (.getfield 24, 3) := by decide +kernel
theorem dX8_copy_23 : decode cX8_copy 23 = .ok (.iconst 0, 1) := by decide +kernel
theorem dX8_copy_24 : decode cX8_copy 24 = .ok (.iload_n 2, 1) := by decide +kernel
theorem dX8_copy_25 : decode cX8_copy 25 = .ok (.invokestatic 34, 3) := by decide +kernel
theorem m_1415 : Cond.methodLink RX8 34 arraycopyName ∈ BW := List.mem_of_getElem? (i := 1415) (by decide +kernel)
theorem m_475 : Cond.native arraycopyName ∈ BW := List.mem_of_getElem? (i := 475) (by decide +kernel)
theorem m_476 : Cond.static arraycopyName ∈ BW := List.mem_of_getElem? (i := 476) (by decide +kernel)
theorem m_477 : Cond.initialized "java/lang/System" ∈ BW := List.mem_of_getElem? (i := 477) (by decide +kernel)
theorem dX8_copy_28 : decode cX8_copy 28 = .ok (.aload_n 0, 1) := by decide +kernel
theorem dX8_copy_29 : decode cX8_copy 29 = .ok (.aload_n 1, 1) := by decide +kernel
theorem dX8_copy_30 : decode cX8_copy 30 = .ok (.getfield 28, 3) := by decide +kernel
theorem dX8_copy_33 : decode cX8_copy 33 = .ok (.aload_n 0, 1) := by decide +kernel
theorem dX8_copy_34 : decode cX8_copy 34 = .ok (.getfield 15, 3) := by decide +kernel
theorem dX8_copy_37 : decode cX8_copy 37 = .ok (.invokestatic 31, 3) := by decide +kernel
theorem dX8_copy_40 : decode cX8_copy 40 = .ok (.putfield 28, 3) := by decide +kernel
theorem dX8_copy_43 : decode cX8_copy 43 = .ok (.return_, 1) := by decide +kernel
theorem dX0_copy_0 : decode cX0_copy 0 = .ok (.aload_n 0, 1) := by decide +kernel
theorem dX0_copy_1 : decode cX0_copy 1 = .ok (.getfield 14, 3) := by decide +kernel
theorem gf_X0_14 (hC : CX p s m meth c y0 b0 mL0 rt0 args) (hy0 : y0.cls = RX0) (hK : KK G s) (hP : va_P G.1 vwCl ws H) (q0 : Nat) {fs : List Value} {v : Value} (he : ws[q0]? = some (a, .inr (0, fs))) (hv : fs[0]? = some v) (hdg : decode b0 pc = .ok (.getfield 14, 3)) (kk : W p l e R s m args below meth c H locs cells slots Q (F0 m (pc + 3) ls (v :: rest))) : W p l e R s m args below meth c H locs cells slots Q (F0 m pc ls (.ref a :: rest)) := by
  obtain ⟨hx, hb, hr, hml, hB, hown, hlocks, hnm⟩ := hC
  rw [hy0] at hown
  exact va_get (ci := 0) (C := RX0) (T := TX0) (N := 14) hx hb hB in_X0 hown hK.1 hP q0 he rfl 0 (by decide) (hB _ m_57) (fun _ h => h) hv hdg kk
theorem dX0_copy_4 : decode cX0_copy 4 = .ok (.aload_n 1, 1) := by decide +kernel
theorem dX0_copy_5 : decode cX0_copy 5 = .ok (.getfield 14, 3) := by decide +kernel
theorem dX0_copy_8 : decode cX0_copy 8 = .ok (.invokevirtual 60, 3) := by decide +kernel
theorem m_1414 : Cond.code yX8_copy cX8_copy 3 none ∈ BW := List.mem_of_getElem? (i := 1414) (by decide +kernel)
theorem m_1411 : Cond.methodLink RX0 60 yX8_copy ∈ BW := List.mem_of_getElem? (i := 1411) (by decide +kernel)
theorem m_1412 : Cond.instanceMethod yX8_copy ∈ BW := List.mem_of_getElem? (i := 1412) (by decide +kernel)
theorem m_1413 : Cond.selects RX8 yX8_copy yX8_copy ∈ BW := List.mem_of_getElem? (i := 1413) (by decide +kernel)
theorem si_X0_60 : SV RX0 RX8 60 yX8_copy cX8_copy 3 none 1 := ⟨⟨m_1411, m_1412, m_1413, m_56, m_1414⟩, rfl, by decide +kernel, by decide +kernel, by decide +kernel⟩
theorem dX0_copy_11 : decode cX0_copy 11 = .ok (.aload_n 0, 1) := by decide +kernel
theorem dX0_copy_12 : decode cX0_copy 12 = .ok (.getfield 20, 3) := by decide +kernel
theorem dX0_copy_15 : decode cX0_copy 15 = .ok (.aload_n 1, 1) := by decide +kernel
theorem dX0_copy_16 : decode cX0_copy 16 = .ok (.getfield 20, 3) := by decide +kernel
theorem dX0_copy_19 : decode cX0_copy 19 = .ok (.invokevirtual 60, 3) := by decide +kernel
theorem dX0_copy_22 : decode cX0_copy 22 = .ok (.aload_n 0, 1) := by decide +kernel
theorem dX0_copy_23 : decode cX0_copy 23 = .ok (.getfield 23, 3) := by decide +kernel
theorem gf_X0_23 (hC : CX p s m meth c y0 b0 mL0 rt0 args) (hy0 : y0.cls = RX0) (hK : KK G s) (hP : va_P G.1 vwCl ws H) (q0 : Nat) {fs : List Value} {v : Value} (he : ws[q0]? = some (a, .inr (0, fs))) (hv : fs[2]? = some v) (hdg : decode b0 pc = .ok (.getfield 23, 3)) (kk : W p l e R s m args below meth c H locs cells slots Q (F0 m (pc + 3) ls (v :: rest))) : W p l e R s m args below meth c H locs cells slots Q (F0 m pc ls (.ref a :: rest)) := by
  obtain ⟨hx, hb, hr, hml, hB, hown, hlocks, hnm⟩ := hC
  rw [hy0] at hown
  exact va_get (ci := 0) (C := RX0) (T := TX0) (N := 14) hx hb hB in_X0 hown hK.1 hP q0 he rfl 2 (by decide) (hB _ m_59) (fun _ h => h) hv hdg kk
theorem dX0_copy_26 : decode cX0_copy 26 = .ok (.aload_n 1, 1) := by decide +kernel
theorem dX0_copy_27 : decode cX0_copy 27 = .ok (.getfield 23, 3) := by decide +kernel
theorem dX0_copy_30 : decode cX0_copy 30 = .ok (.invokevirtual 60, 3) := by decide +kernel
theorem dX0_copy_33 : decode cX0_copy 33 = .ok (.aload_n 0, 1) := by decide +kernel
theorem dX0_copy_34 : decode cX0_copy 34 = .ok (.getfield 26, 3) := by decide +kernel
theorem gf_X0_26 (hC : CX p s m meth c y0 b0 mL0 rt0 args) (hy0 : y0.cls = RX0) (hK : KK G s) (hP : va_P G.1 vwCl ws H) (q0 : Nat) {fs : List Value} {v : Value} (he : ws[q0]? = some (a, .inr (0, fs))) (hv : fs[3]? = some v) (hdg : decode b0 pc = .ok (.getfield 26, 3)) (kk : W p l e R s m args below meth c H locs cells slots Q (F0 m (pc + 3) ls (v :: rest))) : W p l e R s m args below meth c H locs cells slots Q (F0 m pc ls (.ref a :: rest)) := by
  obtain ⟨hx, hb, hr, hml, hB, hown, hlocks, hnm⟩ := hC
  rw [hy0] at hown
  exact va_get (ci := 0) (C := RX0) (T := TX0) (N := 14) hx hb hB in_X0 hown hK.1 hP q0 he rfl 3 (by decide) (hB _ m_60) (fun _ h => h) hv hdg kk
theorem dX0_copy_37 : decode cX0_copy 37 = .ok (.aload_n 1, 1) := by decide +kernel
theorem dX0_copy_38 : decode cX0_copy 38 = .ok (.getfield 26, 3) := by decide +kernel
theorem dX0_copy_41 : decode cX0_copy 41 = .ok (.invokevirtual 60, 3) := by decide +kernel
theorem dX0_copy_44 : decode cX0_copy 44 = .ok (.aload_n 0, 1) := by decide +kernel
theorem dX0_copy_45 : decode cX0_copy 45 = .ok (.getfield 29, 3) := by decide +kernel
theorem gf_X0_29 (hC : CX p s m meth c y0 b0 mL0 rt0 args) (hy0 : y0.cls = RX0) (hK : KK G s) (hP : va_P G.1 vwCl ws H) (q0 : Nat) {fs : List Value} {v : Value} (he : ws[q0]? = some (a, .inr (0, fs))) (hv : fs[4]? = some v) (hdg : decode b0 pc = .ok (.getfield 29, 3)) (kk : W p l e R s m args below meth c H locs cells slots Q (F0 m (pc + 3) ls (v :: rest))) : W p l e R s m args below meth c H locs cells slots Q (F0 m pc ls (.ref a :: rest)) := by
  obtain ⟨hx, hb, hr, hml, hB, hown, hlocks, hnm⟩ := hC
  rw [hy0] at hown
  exact va_get (ci := 0) (C := RX0) (T := TX0) (N := 14) hx hb hB in_X0 hown hK.1 hP q0 he rfl 4 (by decide) (hB _ m_61) (fun _ h => h) hv hdg kk
theorem dX0_copy_48 : decode cX0_copy 48 = .ok (.aload_n 1, 1) := by decide +kernel
theorem dX0_copy_49 : decode cX0_copy 49 = .ok (.getfield 29, 3) := by decide +kernel
theorem dX0_copy_52 : decode cX0_copy 52 = .ok (.invokevirtual 60, 3) := by decide +kernel
theorem dX0_copy_55 : decode cX0_copy 55 = .ok (.aload_n 0, 1) := by decide +kernel
theorem dX0_copy_56 : decode cX0_copy 56 = .ok (.getfield 32, 3) := by decide +kernel
theorem gf_X0_32 (hC : CX p s m meth c y0 b0 mL0 rt0 args) (hy0 : y0.cls = RX0) (hK : KK G s) (hP : va_P G.1 vwCl ws H) (q0 : Nat) {fs : List Value} {v : Value} (he : ws[q0]? = some (a, .inr (0, fs))) (hv : fs[5]? = some v) (hdg : decode b0 pc = .ok (.getfield 32, 3)) (kk : W p l e R s m args below meth c H locs cells slots Q (F0 m (pc + 3) ls (v :: rest))) : W p l e R s m args below meth c H locs cells slots Q (F0 m pc ls (.ref a :: rest)) := by
  obtain ⟨hx, hb, hr, hml, hB, hown, hlocks, hnm⟩ := hC
  rw [hy0] at hown
  exact va_get (ci := 0) (C := RX0) (T := TX0) (N := 14) hx hb hB in_X0 hown hK.1 hP q0 he rfl 5 (by decide) (hB _ m_62) (fun _ h => h) hv hdg kk
theorem dX0_copy_59 : decode cX0_copy 59 = .ok (.aload_n 1, 1) := by decide +kernel
theorem dX0_copy_60 : decode cX0_copy 60 = .ok (.getfield 32, 3) := by decide +kernel
theorem dX0_copy_63 : decode cX0_copy 63 = .ok (.invokevirtual 60, 3) := by decide +kernel
theorem dX0_copy_66 : decode cX0_copy 66 = .ok (.aload_n 0, 1) := by decide +kernel
theorem dX0_copy_67 : decode cX0_copy 67 = .ok (.getfield 35, 3) := by decide +kernel
theorem dX0_copy_70 : decode cX0_copy 70 = .ok (.aload_n 1, 1) := by decide +kernel
theorem dX0_copy_71 : decode cX0_copy 71 = .ok (.getfield 35, 3) := by decide +kernel
theorem dX0_copy_74 : decode cX0_copy 74 = .ok (.invokevirtual 60, 3) := by decide +kernel
theorem dX0_copy_77 : decode cX0_copy 77 = .ok (.aload_n 0, 1) := by decide +kernel
theorem dX0_copy_78 : decode cX0_copy 78 = .ok (.getfield 38, 3) := by decide +kernel
theorem gf_X0_38 (hC : CX p s m meth c y0 b0 mL0 rt0 args) (hy0 : y0.cls = RX0) (hK : KK G s) (hP : va_P G.1 vwCl ws H) (q0 : Nat) {fs : List Value} {v : Value} (he : ws[q0]? = some (a, .inr (0, fs))) (hv : fs[7]? = some v) (hdg : decode b0 pc = .ok (.getfield 38, 3)) (kk : W p l e R s m args below meth c H locs cells slots Q (F0 m (pc + 3) ls (v :: rest))) : W p l e R s m args below meth c H locs cells slots Q (F0 m pc ls (.ref a :: rest)) := by
  obtain ⟨hx, hb, hr, hml, hB, hown, hlocks, hnm⟩ := hC
  rw [hy0] at hown
  exact va_get (ci := 0) (C := RX0) (T := TX0) (N := 14) hx hb hB in_X0 hown hK.1 hP q0 he rfl 7 (by decide) (hB _ m_64) (fun _ h => h) hv hdg kk
theorem dX0_copy_81 : decode cX0_copy 81 = .ok (.aload_n 1, 1) := by decide +kernel
theorem dX0_copy_82 : decode cX0_copy 82 = .ok (.getfield 38, 3) := by decide +kernel
theorem dX0_copy_85 : decode cX0_copy 85 = .ok (.invokevirtual 60, 3) := by decide +kernel
theorem dX0_copy_88 : decode cX0_copy 88 = .ok (.aload_n 0, 1) := by decide +kernel
theorem dX0_copy_89 : decode cX0_copy 89 = .ok (.getfield 41, 3) := by decide +kernel
theorem gf_X0_41 (hC : CX p s m meth c y0 b0 mL0 rt0 args) (hy0 : y0.cls = RX0) (hK : KK G s) (hP : va_P G.1 vwCl ws H) (q0 : Nat) {fs : List Value} {v : Value} (he : ws[q0]? = some (a, .inr (0, fs))) (hv : fs[8]? = some v) (hdg : decode b0 pc = .ok (.getfield 41, 3)) (kk : W p l e R s m args below meth c H locs cells slots Q (F0 m (pc + 3) ls (v :: rest))) : W p l e R s m args below meth c H locs cells slots Q (F0 m pc ls (.ref a :: rest)) := by
  obtain ⟨hx, hb, hr, hml, hB, hown, hlocks, hnm⟩ := hC
  rw [hy0] at hown
  exact va_get (ci := 0) (C := RX0) (T := TX0) (N := 14) hx hb hB in_X0 hown hK.1 hP q0 he rfl 8 (by decide) (hB _ m_65) (fun _ h => h) hv hdg kk
theorem dX0_copy_92 : decode cX0_copy 92 = .ok (.aload_n 1, 1) := by decide +kernel
theorem dX0_copy_93 : decode cX0_copy 93 = .ok (.getfield 41, 3) := by decide +kernel
theorem dX0_copy_96 : decode cX0_copy 96 = .ok (.invokevirtual 60, 3) := by decide +kernel
theorem dX0_copy_99 : decode cX0_copy 99 = .ok (.aload_n 0, 1) := by decide +kernel
theorem dX0_copy_100 : decode cX0_copy 100 = .ok (.getfield 44, 3) := by decide +kernel
theorem gf_X0_44 (hC : CX p s m meth c y0 b0 mL0 rt0 args) (hy0 : y0.cls = RX0) (hK : KK G s) (hP : va_P G.1 vwCl ws H) (q0 : Nat) {fs : List Value} {v : Value} (he : ws[q0]? = some (a, .inr (0, fs))) (hv : fs[9]? = some v) (hdg : decode b0 pc = .ok (.getfield 44, 3)) (kk : W p l e R s m args below meth c H locs cells slots Q (F0 m (pc + 3) ls (v :: rest))) : W p l e R s m args below meth c H locs cells slots Q (F0 m pc ls (.ref a :: rest)) := by
  obtain ⟨hx, hb, hr, hml, hB, hown, hlocks, hnm⟩ := hC
  rw [hy0] at hown
  exact va_get (ci := 0) (C := RX0) (T := TX0) (N := 14) hx hb hB in_X0 hown hK.1 hP q0 he rfl 9 (by decide) (hB _ m_66) (fun _ h => h) hv hdg kk
theorem dX0_copy_103 : decode cX0_copy 103 = .ok (.aload_n 1, 1) := by decide +kernel
theorem dX0_copy_104 : decode cX0_copy 104 = .ok (.getfield 44, 3) := by decide +kernel
theorem dX0_copy_107 : decode cX0_copy 107 = .ok (.invokevirtual 60, 3) := by decide +kernel
theorem dX0_copy_110 : decode cX0_copy 110 = .ok (.aload_n 0, 1) := by decide +kernel
theorem dX0_copy_111 : decode cX0_copy 111 = .ok (.aload_n 1, 1) := by decide +kernel
theorem dX0_copy_112 : decode cX0_copy 112 = .ok (.getfield 47, 3) := by decide +kernel
theorem dX0_copy_115 : decode cX0_copy 115 = .ok (.putfield 47, 3) := by decide +kernel
theorem dX0_copy_118 : decode cX0_copy 118 = .ok (.aload_n 0, 1) := by decide +kernel
theorem dX0_copy_119 : decode cX0_copy 119 = .ok (.aload_n 1, 1) := by decide +kernel
theorem dX0_copy_120 : decode cX0_copy 120 = .ok (.getfield 51, 3) := by decide +kernel
theorem dX0_copy_123 : decode cX0_copy 123 = .ok (.putfield 51, 3) := by decide +kernel
theorem dX0_copy_126 : decode cX0_copy 126 = .ok (.aload_n 0, 1) := by decide +kernel
theorem dX0_copy_127 : decode cX0_copy 127 = .ok (.aload_n 1, 1) := by decide +kernel
theorem dX0_copy_128 : decode cX0_copy 128 = .ok (.getfield 54, 3) := by decide +kernel
theorem gf_X0_54 (hC : CX p s m meth c y0 b0 mL0 rt0 args) (hy0 : y0.cls = RX0) (hK : KK G s) (hP : va_P G.1 vwCl ws H) (q0 : Nat) {fs : List Value} {v : Value} (he : ws[q0]? = some (a, .inr (0, fs))) (hv : fs[12]? = some v) (hdg : decode b0 pc = .ok (.getfield 54, 3)) (kk : W p l e R s m args below meth c H locs cells slots Q (F0 m (pc + 3) ls (v :: rest))) : W p l e R s m args below meth c H locs cells slots Q (F0 m pc ls (.ref a :: rest)) := by
  obtain ⟨hx, hb, hr, hml, hB, hown, hlocks, hnm⟩ := hC
  rw [hy0] at hown
  exact va_get (ci := 0) (C := RX0) (T := TX0) (N := 14) hx hb hB in_X0 hown hK.1 hP q0 he rfl 12 (by decide) (hB _ m_69) (fun _ h => h) hv hdg kk
theorem dX0_copy_131 : decode cX0_copy 131 = .ok (.putfield 54, 3) := by decide +kernel
theorem dX0_copy_134 : decode cX0_copy 134 = .ok (.aload_n 0, 1) := by decide +kernel
theorem dX0_copy_135 : decode cX0_copy 135 = .ok (.aload_n 1, 1) := by decide +kernel
theorem dX0_copy_136 : decode cX0_copy 136 = .ok (.getfield 57, 3) := by decide +kernel
theorem gf_X0_57 (hC : CX p s m meth c y0 b0 mL0 rt0 args) (hy0 : y0.cls = RX0) (hK : KK G s) (hP : va_P G.1 vwCl ws H) (q0 : Nat) {fs : List Value} {v : Value} (he : ws[q0]? = some (a, .inr (0, fs))) (hv : fs[13]? = some v) (hdg : decode b0 pc = .ok (.getfield 57, 3)) (kk : W p l e R s m args below meth c H locs cells slots Q (F0 m (pc + 3) ls (v :: rest))) : W p l e R s m args below meth c H locs cells slots Q (F0 m pc ls (.ref a :: rest)) := by
  obtain ⟨hx, hb, hr, hml, hB, hown, hlocks, hnm⟩ := hC
  rw [hy0] at hown
  exact va_get (ci := 0) (C := RX0) (T := TX0) (N := 14) hx hb hB in_X0 hown hK.1 hP q0 he rfl 13 (by decide) (hB _ m_70) (fun _ h => h) hv hdg kk
theorem dX0_copy_139 : decode cX0_copy 139 = .ok (.putfield 57, 3) := by decide +kernel
theorem dX0_copy_142 : decode cX0_copy 142 = .ok (.return_, 1) := by decide +kernel
theorem dX11_keep_0 : decode cX11_keep 0 = .ok (.aload_n 0, 1) := by decide +kernel
theorem dX11_keep_1 : decode cX11_keep 1 = .ok (.getfield 21, 3) := by decide +kernel
theorem gf_X11_21 (hC : CX p s m meth c y0 b0 mL0 rt0 args) (hy0 : y0.cls = RX11) (hK : KK G s) (hP : va_P G.1 vwCl ws H) (q0 : Nat) {fs : List Value} {v : Value} (he : ws[q0]? = some (a, .inr (11, fs))) (hv : fs[1]? = some v) (hdg : decode b0 pc = .ok (.getfield 21, 3)) (kk : W p l e R s m args below meth c H locs cells slots Q (F0 m (pc + 3) ls (v :: rest))) : W p l e R s m args below meth c H locs cells slots Q (F0 m pc ls (.ref a :: rest)) := by
  obtain ⟨hx, hb, hr, hml, hB, hown, hlocks, hnm⟩ := hC
  rw [hy0] at hown
  exact va_get (ci := 11) (C := RX11) (T := TX11) (N := 11) hx hb hB in_X11 hown hK.1 hP q0 he rfl 1 (by decide) (hB _ m_20) (fun _ h => h) hv hdg kk
theorem dX11_keep_4 : decode cX11_keep 4 = .ok (.aload_n 0, 1) := by decide +kernel
theorem dX11_keep_5 : decode cX11_keep 5 = .ok (.getfield 15, 3) := by decide +kernel
theorem dX11_keep_8 : decode cX11_keep 8 = .ok (.invokevirtual 361, 3) := by decide +kernel
theorem m_1410 : Cond.code yX0_copy cX0_copy 2 none ∈ BW := List.mem_of_getElem? (i := 1410) (by decide +kernel)
theorem m_1407 : Cond.methodLink RX11 361 yX0_copy ∈ BW := List.mem_of_getElem? (i := 1407) (by decide +kernel)
theorem m_1408 : Cond.instanceMethod yX0_copy ∈ BW := List.mem_of_getElem? (i := 1408) (by decide +kernel)
theorem m_1409 : Cond.selects RX0 yX0_copy yX0_copy ∈ BW := List.mem_of_getElem? (i := 1409) (by decide +kernel)
theorem si_X11_361 : SV RX11 RX0 361 yX0_copy cX0_copy 2 none 1 := ⟨⟨m_1407, m_1408, m_1409, m_15, m_1410⟩, rfl, by decide +kernel, by decide +kernel, by decide +kernel⟩
theorem dX11_keep_11 : decode cX11_keep 11 = .ok (.aload_n 0, 1) := by decide +kernel
theorem dX11_keep_12 : decode cX11_keep 12 = .ok (.iconst 1, 1) := by decide +kernel
theorem dX11_keep_13 : decode cX11_keep 13 = .ok (.putfield 24, 3) := by decide +kernel
theorem dX11_keep_16 : decode cX11_keep 16 = .ok (.iconst 1, 1) := by decide +kernel
theorem dX11_keep_17 : decode cX11_keep 17 = .ok (.ireturn, 1) := by decide +kernel
end WR
set_option maxHeartbeats 4000000 in
set_option maxRecDepth 100000 in
theorem c_Tp_append0 (l : Launch) (G : GG) (Tp : Nat) (bv : Int32) (tb : Nat) (tl : Nat) (ts : Nat) (f : Nat → Int32) : MV l G yX10_append cX10_append 2 1 0 0 [.ref Tp, .int bv] [(Tp, .inr (10, [.ref tb, .int 0, .ref tl, .ref ts, .int (-1), .int 0, .int 0, .int (-1)])), (tb, .inl (G.2.1, 240, .inl f))] (fun u : Unit => True) (fun u : Unit => [(Tp, .inr (10, [.ref tb, .int 1, .ref tl, .ref ts, .int (-1), .int 0, .int 0, .int (-1)])), (tb, .inl (G.2.1, 240, .inl (upd f 0 bv)))]) := by
  refine MV.start (by decide +kernel) (Nat.le_of_ble_eq_true rfl) ?_
  intro p e s m below meth c A ls hC hK hP hD hS hA hl
  have hl : lv_has ls 2 [(0, .ref Tp), (1, .int bv)] := hl
  obtain ⟨hx, hb, hr, hml, hB, hown, hlocks, hnm⟩ := id hC
  refine lv_aload_n hx hb dX10_append_0 rfl (lv_at hl 0 rfl) ?_
  refine gf_X10_27 hC rfl hK hP 0 rfl rfl dX10_append_1 ?_
  refine lv_aload_n hx hb dX10_append_4 rfl (lv_at hl 0 rfl) ?_
  refine gf_X10_9 hC rfl hK hP 0 rfl rfl dX10_append_5 ?_
  refine va_alen (v := 240) hx hb hK.1 hP 1 0 rfl rfl (show Int32.ofNat 240 = 240 by decide) dX10_append_8 ?_
  refine lv_icmp_lt (tgt := 13) hx hb dX10_append_9 (by decide) (fun _ => ?_) (fun c9 => absurd (by decide) c9)
  refine lv_aload_n hx hb dX10_append_13 rfl (lv_at hl 0 rfl) ?_
  refine gf_X10_9 hC rfl hK hP 0 rfl rfl dX10_append_14 ?_
  refine lv_aload_n hx hb dX10_append_17 rfl (lv_at hl 0 rfl) ?_
  refine gf_X10_27 hC rfl hK hP 0 rfl rfl dX10_append_18 ?_
  refine lv_iload_n hx hb dX10_append_21 rfl (lv_at hl 1 rfl) ?_
  refine ast hC hK hP hD hS 1 (ws' := [(Tp, .inr (10, [.ref tb, .int 0, .ref tl, .ref ts, .int (-1), .int 0, .int 0, .int (-1)])), (tb, .inl (G.2.1, 240, .inl (upd f 0 bv)))]) rfl (vin (by decide +kernel)) (k := 0) (by decide +kernel) (rfl) dX10_append_22 (fun H locs hP hD hS => ?_)
  refine lv_aload_n hx hb dX10_append_23 rfl (lv_at hl 0 rfl) ?_
  refine lv_dup hx hb dX10_append_24 rfl ?_
  refine gf_X10_27 hC rfl hK hP 0 rfl rfl dX10_append_25 ?_
  refine lv_iconst (v := 1) hx hb dX10_append_28 (by decide) ?_
  refine lv_iadd hx hb dX10_append_29 ?_
  refine eqi (x1 := 1) (by decide) ?_
  refine pf_X10_27 hC rfl hK hP hD hS 0 (ws' := [(Tp, .inr (10, [.ref tb, .int 1, .ref tl, .ref ts, .int (-1), .int 0, .int 0, .int (-1)])), (tb, .inl (G.2.1, 240, .inl (upd f 0 bv)))]) rfl (Nat.le_of_ble_eq_true rfl) rfl rfl rfl dX10_append_30 (fun H locs hP hD hS => ?_)
  exact RV hC hP hD hS [0, 1] () rfl rfl (by decide) (trivial) dX10_append_33
set_option maxHeartbeats 4000000 in
set_option maxRecDepth 100000 in
theorem c_Tp_append1 (l : Launch) (G : GG) (Tp : Nat) (bv : Int32) (tb : Nat) (tl : Nat) (ts : Nat) (f : Nat → Int32) : MV l G yX10_append cX10_append 2 1 0 0 [.ref Tp, .int bv] [(Tp, .inr (10, [.ref tb, .int 1, .ref tl, .ref ts, .int (-1), .int 0, .int 0, .int (-1)])), (tb, .inl (G.2.1, 240, .inl f))] (fun u : Unit => True) (fun u : Unit => [(Tp, .inr (10, [.ref tb, .int 2, .ref tl, .ref ts, .int (-1), .int 0, .int 0, .int (-1)])), (tb, .inl (G.2.1, 240, .inl (upd f 1 bv)))]) := by
  refine MV.start (by decide +kernel) (Nat.le_of_ble_eq_true rfl) ?_
  intro p e s m below meth c A ls hC hK hP hD hS hA hl
  have hl : lv_has ls 2 [(0, .ref Tp), (1, .int bv)] := hl
  obtain ⟨hx, hb, hr, hml, hB, hown, hlocks, hnm⟩ := id hC
  refine lv_aload_n hx hb dX10_append_0 rfl (lv_at hl 0 rfl) ?_
  refine gf_X10_27 hC rfl hK hP 0 rfl rfl dX10_append_1 ?_
  refine lv_aload_n hx hb dX10_append_4 rfl (lv_at hl 0 rfl) ?_
  refine gf_X10_9 hC rfl hK hP 0 rfl rfl dX10_append_5 ?_
  refine va_alen (v := 240) hx hb hK.1 hP 1 0 rfl rfl (show Int32.ofNat 240 = 240 by decide) dX10_append_8 ?_
  refine lv_icmp_lt (tgt := 13) hx hb dX10_append_9 (by decide) (fun _ => ?_) (fun c9 => absurd (by decide) c9)
  refine lv_aload_n hx hb dX10_append_13 rfl (lv_at hl 0 rfl) ?_
  refine gf_X10_9 hC rfl hK hP 0 rfl rfl dX10_append_14 ?_
  refine lv_aload_n hx hb dX10_append_17 rfl (lv_at hl 0 rfl) ?_
  refine gf_X10_27 hC rfl hK hP 0 rfl rfl dX10_append_18 ?_
  refine lv_iload_n hx hb dX10_append_21 rfl (lv_at hl 1 rfl) ?_
  refine ast hC hK hP hD hS 1 (ws' := [(Tp, .inr (10, [.ref tb, .int 1, .ref tl, .ref ts, .int (-1), .int 0, .int 0, .int (-1)])), (tb, .inl (G.2.1, 240, .inl (upd f 1 bv)))]) rfl (vin (by decide +kernel)) (k := 1) (by decide +kernel) (rfl) dX10_append_22 (fun H locs hP hD hS => ?_)
  refine lv_aload_n hx hb dX10_append_23 rfl (lv_at hl 0 rfl) ?_
  refine lv_dup hx hb dX10_append_24 rfl ?_
  refine gf_X10_27 hC rfl hK hP 0 rfl rfl dX10_append_25 ?_
  refine lv_iconst (v := 1) hx hb dX10_append_28 (by decide) ?_
  refine lv_iadd hx hb dX10_append_29 ?_
  refine eqi (x1 := 2) (by decide) ?_
  refine pf_X10_27 hC rfl hK hP hD hS 0 (ws' := [(Tp, .inr (10, [.ref tb, .int 2, .ref tl, .ref ts, .int (-1), .int 0, .int 0, .int (-1)])), (tb, .inl (G.2.1, 240, .inl (upd f 1 bv)))]) rfl (Nat.le_of_ble_eq_true rfl) rfl rfl rfl dX10_append_30 (fun H locs hP hD hS => ?_)
  exact RV hC hP hD hS [0, 1] () rfl rfl (by decide) (trivial) dX10_append_33
set_option maxHeartbeats 4000000 in
set_option maxRecDepth 100000 in
theorem c_Tp_append2 (l : Launch) (G : GG) (Tp : Nat) (bv : Int32) (tb : Nat) (tl : Nat) (ts : Nat) (f : Nat → Int32) : MV l G yX10_append cX10_append 2 1 0 0 [.ref Tp, .int bv] [(Tp, .inr (10, [.ref tb, .int 2, .ref tl, .ref ts, .int (-1), .int 0, .int 0, .int (-1)])), (tb, .inl (G.2.1, 240, .inl f))] (fun u : Unit => True) (fun u : Unit => [(Tp, .inr (10, [.ref tb, .int 3, .ref tl, .ref ts, .int (-1), .int 0, .int 0, .int (-1)])), (tb, .inl (G.2.1, 240, .inl (upd f 2 bv)))]) := by
  refine MV.start (by decide +kernel) (Nat.le_of_ble_eq_true rfl) ?_
  intro p e s m below meth c A ls hC hK hP hD hS hA hl
  have hl : lv_has ls 2 [(0, .ref Tp), (1, .int bv)] := hl
  obtain ⟨hx, hb, hr, hml, hB, hown, hlocks, hnm⟩ := id hC
  refine lv_aload_n hx hb dX10_append_0 rfl (lv_at hl 0 rfl) ?_
  refine gf_X10_27 hC rfl hK hP 0 rfl rfl dX10_append_1 ?_
  refine lv_aload_n hx hb dX10_append_4 rfl (lv_at hl 0 rfl) ?_
  refine gf_X10_9 hC rfl hK hP 0 rfl rfl dX10_append_5 ?_
  refine va_alen (v := 240) hx hb hK.1 hP 1 0 rfl rfl (show Int32.ofNat 240 = 240 by decide) dX10_append_8 ?_
  refine lv_icmp_lt (tgt := 13) hx hb dX10_append_9 (by decide) (fun _ => ?_) (fun c9 => absurd (by decide) c9)
  refine lv_aload_n hx hb dX10_append_13 rfl (lv_at hl 0 rfl) ?_
  refine gf_X10_9 hC rfl hK hP 0 rfl rfl dX10_append_14 ?_
  refine lv_aload_n hx hb dX10_append_17 rfl (lv_at hl 0 rfl) ?_
  refine gf_X10_27 hC rfl hK hP 0 rfl rfl dX10_append_18 ?_
  refine lv_iload_n hx hb dX10_append_21 rfl (lv_at hl 1 rfl) ?_
  refine ast hC hK hP hD hS 1 (ws' := [(Tp, .inr (10, [.ref tb, .int 2, .ref tl, .ref ts, .int (-1), .int 0, .int 0, .int (-1)])), (tb, .inl (G.2.1, 240, .inl (upd f 2 bv)))]) rfl (vin (by decide +kernel)) (k := 2) (by decide +kernel) (rfl) dX10_append_22 (fun H locs hP hD hS => ?_)
  refine lv_aload_n hx hb dX10_append_23 rfl (lv_at hl 0 rfl) ?_
  refine lv_dup hx hb dX10_append_24 rfl ?_
  refine gf_X10_27 hC rfl hK hP 0 rfl rfl dX10_append_25 ?_
  refine lv_iconst (v := 1) hx hb dX10_append_28 (by decide) ?_
  refine lv_iadd hx hb dX10_append_29 ?_
  refine eqi (x1 := 3) (by decide) ?_
  refine pf_X10_27 hC rfl hK hP hD hS 0 (ws' := [(Tp, .inr (10, [.ref tb, .int 3, .ref tl, .ref ts, .int (-1), .int 0, .int 0, .int (-1)])), (tb, .inl (G.2.1, 240, .inl (upd f 2 bv)))]) rfl (Nat.le_of_ble_eq_true rfl) rfl rfl rfl dX10_append_30 (fun H locs hP hD hS => ?_)
  exact RV hC hP hD hS [0, 1] () rfl rfl (by decide) (trivial) dX10_append_33
set_option maxHeartbeats 4000000 in
set_option maxRecDepth 100000 in
theorem c_Tp_append3 (l : Launch) (G : GG) (Tp : Nat) (bv : Int32) (tb : Nat) (tl : Nat) (ts : Nat) (f : Nat → Int32) : MV l G yX10_append cX10_append 2 1 0 0 [.ref Tp, .int bv] [(Tp, .inr (10, [.ref tb, .int 3, .ref tl, .ref ts, .int (-1), .int 0, .int 0, .int (-1)])), (tb, .inl (G.2.1, 240, .inl f))] (fun u : Unit => True) (fun u : Unit => [(Tp, .inr (10, [.ref tb, .int 4, .ref tl, .ref ts, .int (-1), .int 0, .int 0, .int (-1)])), (tb, .inl (G.2.1, 240, .inl (upd f 3 bv)))]) := by
  refine MV.start (by decide +kernel) (Nat.le_of_ble_eq_true rfl) ?_
  intro p e s m below meth c A ls hC hK hP hD hS hA hl
  have hl : lv_has ls 2 [(0, .ref Tp), (1, .int bv)] := hl
  obtain ⟨hx, hb, hr, hml, hB, hown, hlocks, hnm⟩ := id hC
  refine lv_aload_n hx hb dX10_append_0 rfl (lv_at hl 0 rfl) ?_
  refine gf_X10_27 hC rfl hK hP 0 rfl rfl dX10_append_1 ?_
  refine lv_aload_n hx hb dX10_append_4 rfl (lv_at hl 0 rfl) ?_
  refine gf_X10_9 hC rfl hK hP 0 rfl rfl dX10_append_5 ?_
  refine va_alen (v := 240) hx hb hK.1 hP 1 0 rfl rfl (show Int32.ofNat 240 = 240 by decide) dX10_append_8 ?_
  refine lv_icmp_lt (tgt := 13) hx hb dX10_append_9 (by decide) (fun _ => ?_) (fun c9 => absurd (by decide) c9)
  refine lv_aload_n hx hb dX10_append_13 rfl (lv_at hl 0 rfl) ?_
  refine gf_X10_9 hC rfl hK hP 0 rfl rfl dX10_append_14 ?_
  refine lv_aload_n hx hb dX10_append_17 rfl (lv_at hl 0 rfl) ?_
  refine gf_X10_27 hC rfl hK hP 0 rfl rfl dX10_append_18 ?_
  refine lv_iload_n hx hb dX10_append_21 rfl (lv_at hl 1 rfl) ?_
  refine ast hC hK hP hD hS 1 (ws' := [(Tp, .inr (10, [.ref tb, .int 3, .ref tl, .ref ts, .int (-1), .int 0, .int 0, .int (-1)])), (tb, .inl (G.2.1, 240, .inl (upd f 3 bv)))]) rfl (vin (by decide +kernel)) (k := 3) (by decide +kernel) (rfl) dX10_append_22 (fun H locs hP hD hS => ?_)
  refine lv_aload_n hx hb dX10_append_23 rfl (lv_at hl 0 rfl) ?_
  refine lv_dup hx hb dX10_append_24 rfl ?_
  refine gf_X10_27 hC rfl hK hP 0 rfl rfl dX10_append_25 ?_
  refine lv_iconst (v := 1) hx hb dX10_append_28 (by decide) ?_
  refine lv_iadd hx hb dX10_append_29 ?_
  refine eqi (x1 := 4) (by decide) ?_
  refine pf_X10_27 hC rfl hK hP hD hS 0 (ws' := [(Tp, .inr (10, [.ref tb, .int 4, .ref tl, .ref ts, .int (-1), .int 0, .int 0, .int (-1)])), (tb, .inl (G.2.1, 240, .inl (upd f 3 bv)))]) rfl (Nat.le_of_ble_eq_true rfl) rfl rfl rfl dX10_append_30 (fun H locs hP hD hS => ?_)
  exact RV hC hP hD hS [0, 1] () rfl rfl (by decide) (trivial) dX10_append_33
set_option maxHeartbeats 4000000 in
set_option maxRecDepth 100000 in
theorem c_Tp_append4 (l : Launch) (G : GG) (Tp : Nat) (bv : Int32) (tb : Nat) (tl : Nat) (ts : Nat) (f : Nat → Int32) : MV l G yX10_append cX10_append 2 1 0 0 [.ref Tp, .int bv] [(Tp, .inr (10, [.ref tb, .int 4, .ref tl, .ref ts, .int (-1), .int 0, .int 0, .int (-1)])), (tb, .inl (G.2.1, 240, .inl f))] (fun u : Unit => True) (fun u : Unit => [(Tp, .inr (10, [.ref tb, .int 5, .ref tl, .ref ts, .int (-1), .int 0, .int 0, .int (-1)])), (tb, .inl (G.2.1, 240, .inl (upd f 4 bv)))]) := by
  refine MV.start (by decide +kernel) (Nat.le_of_ble_eq_true rfl) ?_
  intro p e s m below meth c A ls hC hK hP hD hS hA hl
  have hl : lv_has ls 2 [(0, .ref Tp), (1, .int bv)] := hl
  obtain ⟨hx, hb, hr, hml, hB, hown, hlocks, hnm⟩ := id hC
  refine lv_aload_n hx hb dX10_append_0 rfl (lv_at hl 0 rfl) ?_
  refine gf_X10_27 hC rfl hK hP 0 rfl rfl dX10_append_1 ?_
  refine lv_aload_n hx hb dX10_append_4 rfl (lv_at hl 0 rfl) ?_
  refine gf_X10_9 hC rfl hK hP 0 rfl rfl dX10_append_5 ?_
  refine va_alen (v := 240) hx hb hK.1 hP 1 0 rfl rfl (show Int32.ofNat 240 = 240 by decide) dX10_append_8 ?_
  refine lv_icmp_lt (tgt := 13) hx hb dX10_append_9 (by decide) (fun _ => ?_) (fun c9 => absurd (by decide) c9)
  refine lv_aload_n hx hb dX10_append_13 rfl (lv_at hl 0 rfl) ?_
  refine gf_X10_9 hC rfl hK hP 0 rfl rfl dX10_append_14 ?_
  refine lv_aload_n hx hb dX10_append_17 rfl (lv_at hl 0 rfl) ?_
  refine gf_X10_27 hC rfl hK hP 0 rfl rfl dX10_append_18 ?_
  refine lv_iload_n hx hb dX10_append_21 rfl (lv_at hl 1 rfl) ?_
  refine ast hC hK hP hD hS 1 (ws' := [(Tp, .inr (10, [.ref tb, .int 4, .ref tl, .ref ts, .int (-1), .int 0, .int 0, .int (-1)])), (tb, .inl (G.2.1, 240, .inl (upd f 4 bv)))]) rfl (vin (by decide +kernel)) (k := 4) (by decide +kernel) (rfl) dX10_append_22 (fun H locs hP hD hS => ?_)
  refine lv_aload_n hx hb dX10_append_23 rfl (lv_at hl 0 rfl) ?_
  refine lv_dup hx hb dX10_append_24 rfl ?_
  refine gf_X10_27 hC rfl hK hP 0 rfl rfl dX10_append_25 ?_
  refine lv_iconst (v := 1) hx hb dX10_append_28 (by decide) ?_
  refine lv_iadd hx hb dX10_append_29 ?_
  refine eqi (x1 := 5) (by decide) ?_
  refine pf_X10_27 hC rfl hK hP hD hS 0 (ws' := [(Tp, .inr (10, [.ref tb, .int 5, .ref tl, .ref ts, .int (-1), .int 0, .int 0, .int (-1)])), (tb, .inl (G.2.1, 240, .inl (upd f 4 bv)))]) rfl (Nat.le_of_ble_eq_true rfl) rfl rfl rfl dX10_append_30 (fun H locs hP hD hS => ?_)
  exact RV hC hP hD hS [0, 1] () rfl rfl (by decide) (trivial) dX10_append_33
set_option maxHeartbeats 4000000 in
set_option maxRecDepth 100000 in
theorem c_Tp_append5 (l : Launch) (G : GG) (Tp : Nat) (bv : Int32) (tb : Nat) (tl : Nat) (ts : Nat) (f : Nat → Int32) : MV l G yX10_append cX10_append 2 1 0 0 [.ref Tp, .int bv] [(Tp, .inr (10, [.ref tb, .int 5, .ref tl, .ref ts, .int (-1), .int 0, .int 0, .int (-1)])), (tb, .inl (G.2.1, 240, .inl f))] (fun u : Unit => True) (fun u : Unit => [(Tp, .inr (10, [.ref tb, .int 6, .ref tl, .ref ts, .int (-1), .int 0, .int 0, .int (-1)])), (tb, .inl (G.2.1, 240, .inl (upd f 5 bv)))]) := by
  refine MV.start (by decide +kernel) (Nat.le_of_ble_eq_true rfl) ?_
  intro p e s m below meth c A ls hC hK hP hD hS hA hl
  have hl : lv_has ls 2 [(0, .ref Tp), (1, .int bv)] := hl
  obtain ⟨hx, hb, hr, hml, hB, hown, hlocks, hnm⟩ := id hC
  refine lv_aload_n hx hb dX10_append_0 rfl (lv_at hl 0 rfl) ?_
  refine gf_X10_27 hC rfl hK hP 0 rfl rfl dX10_append_1 ?_
  refine lv_aload_n hx hb dX10_append_4 rfl (lv_at hl 0 rfl) ?_
  refine gf_X10_9 hC rfl hK hP 0 rfl rfl dX10_append_5 ?_
  refine va_alen (v := 240) hx hb hK.1 hP 1 0 rfl rfl (show Int32.ofNat 240 = 240 by decide) dX10_append_8 ?_
  refine lv_icmp_lt (tgt := 13) hx hb dX10_append_9 (by decide) (fun _ => ?_) (fun c9 => absurd (by decide) c9)
  refine lv_aload_n hx hb dX10_append_13 rfl (lv_at hl 0 rfl) ?_
  refine gf_X10_9 hC rfl hK hP 0 rfl rfl dX10_append_14 ?_
  refine lv_aload_n hx hb dX10_append_17 rfl (lv_at hl 0 rfl) ?_
  refine gf_X10_27 hC rfl hK hP 0 rfl rfl dX10_append_18 ?_
  refine lv_iload_n hx hb dX10_append_21 rfl (lv_at hl 1 rfl) ?_
  refine ast hC hK hP hD hS 1 (ws' := [(Tp, .inr (10, [.ref tb, .int 5, .ref tl, .ref ts, .int (-1), .int 0, .int 0, .int (-1)])), (tb, .inl (G.2.1, 240, .inl (upd f 5 bv)))]) rfl (vin (by decide +kernel)) (k := 5) (by decide +kernel) (rfl) dX10_append_22 (fun H locs hP hD hS => ?_)
  refine lv_aload_n hx hb dX10_append_23 rfl (lv_at hl 0 rfl) ?_
  refine lv_dup hx hb dX10_append_24 rfl ?_
  refine gf_X10_27 hC rfl hK hP 0 rfl rfl dX10_append_25 ?_
  refine lv_iconst (v := 1) hx hb dX10_append_28 (by decide) ?_
  refine lv_iadd hx hb dX10_append_29 ?_
  refine eqi (x1 := 6) (by decide) ?_
  refine pf_X10_27 hC rfl hK hP hD hS 0 (ws' := [(Tp, .inr (10, [.ref tb, .int 6, .ref tl, .ref ts, .int (-1), .int 0, .int 0, .int (-1)])), (tb, .inl (G.2.1, 240, .inl (upd f 5 bv)))]) rfl (Nat.le_of_ble_eq_true rfl) rfl rfl rfl dX10_append_30 (fun H locs hP hD hS => ?_)
  exact RV hC hP hD hS [0, 1] () rfl rfl (by decide) (trivial) dX10_append_33
set_option maxHeartbeats 4000000 in
set_option maxRecDepth 100000 in
theorem c_Tp_append6 (l : Launch) (G : GG) (Tp : Nat) (bv : Int32) (tb : Nat) (tl : Nat) (ts : Nat) (f : Nat → Int32) : MV l G yX10_append cX10_append 2 1 0 0 [.ref Tp, .int bv] [(Tp, .inr (10, [.ref tb, .int 6, .ref tl, .ref ts, .int (-1), .int 0, .int 0, .int (-1)])), (tb, .inl (G.2.1, 240, .inl f))] (fun u : Unit => True) (fun u : Unit => [(Tp, .inr (10, [.ref tb, .int 7, .ref tl, .ref ts, .int (-1), .int 0, .int 0, .int (-1)])), (tb, .inl (G.2.1, 240, .inl (upd f 6 bv)))]) := by
  refine MV.start (by decide +kernel) (Nat.le_of_ble_eq_true rfl) ?_
  intro p e s m below meth c A ls hC hK hP hD hS hA hl
  have hl : lv_has ls 2 [(0, .ref Tp), (1, .int bv)] := hl
  obtain ⟨hx, hb, hr, hml, hB, hown, hlocks, hnm⟩ := id hC
  refine lv_aload_n hx hb dX10_append_0 rfl (lv_at hl 0 rfl) ?_
  refine gf_X10_27 hC rfl hK hP 0 rfl rfl dX10_append_1 ?_
  refine lv_aload_n hx hb dX10_append_4 rfl (lv_at hl 0 rfl) ?_
  refine gf_X10_9 hC rfl hK hP 0 rfl rfl dX10_append_5 ?_
  refine va_alen (v := 240) hx hb hK.1 hP 1 0 rfl rfl (show Int32.ofNat 240 = 240 by decide) dX10_append_8 ?_
  refine lv_icmp_lt (tgt := 13) hx hb dX10_append_9 (by decide) (fun _ => ?_) (fun c9 => absurd (by decide) c9)
  refine lv_aload_n hx hb dX10_append_13 rfl (lv_at hl 0 rfl) ?_
  refine gf_X10_9 hC rfl hK hP 0 rfl rfl dX10_append_14 ?_
  refine lv_aload_n hx hb dX10_append_17 rfl (lv_at hl 0 rfl) ?_
  refine gf_X10_27 hC rfl hK hP 0 rfl rfl dX10_append_18 ?_
  refine lv_iload_n hx hb dX10_append_21 rfl (lv_at hl 1 rfl) ?_
  refine ast hC hK hP hD hS 1 (ws' := [(Tp, .inr (10, [.ref tb, .int 6, .ref tl, .ref ts, .int (-1), .int 0, .int 0, .int (-1)])), (tb, .inl (G.2.1, 240, .inl (upd f 6 bv)))]) rfl (vin (by decide +kernel)) (k := 6) (by decide +kernel) (rfl) dX10_append_22 (fun H locs hP hD hS => ?_)
  refine lv_aload_n hx hb dX10_append_23 rfl (lv_at hl 0 rfl) ?_
  refine lv_dup hx hb dX10_append_24 rfl ?_
  refine gf_X10_27 hC rfl hK hP 0 rfl rfl dX10_append_25 ?_
  refine lv_iconst (v := 1) hx hb dX10_append_28 (by decide) ?_
  refine lv_iadd hx hb dX10_append_29 ?_
  refine eqi (x1 := 7) (by decide) ?_
  refine pf_X10_27 hC rfl hK hP hD hS 0 (ws' := [(Tp, .inr (10, [.ref tb, .int 7, .ref tl, .ref ts, .int (-1), .int 0, .int 0, .int (-1)])), (tb, .inl (G.2.1, 240, .inl (upd f 6 bv)))]) rfl (Nat.le_of_ble_eq_true rfl) rfl rfl rfl dX10_append_30 (fun H locs hP hD hS => ?_)
  exact RV hC hP hD hS [0, 1] () rfl rfl (by decide) (trivial) dX10_append_33
set_option maxHeartbeats 4000000 in
set_option maxRecDepth 100000 in
theorem c_Tp_append7 (l : Launch) (G : GG) (Tp : Nat) (bv : Int32) (tb : Nat) (tl : Nat) (ts : Nat) (f : Nat → Int32) : MV l G yX10_append cX10_append 2 1 0 0 [.ref Tp, .int bv] [(Tp, .inr (10, [.ref tb, .int 7, .ref tl, .ref ts, .int (-1), .int 0, .int 0, .int (-1)])), (tb, .inl (G.2.1, 240, .inl f))] (fun u : Unit => True) (fun u : Unit => [(Tp, .inr (10, [.ref tb, .int 8, .ref tl, .ref ts, .int (-1), .int 0, .int 0, .int (-1)])), (tb, .inl (G.2.1, 240, .inl (upd f 7 bv)))]) := by
  refine MV.start (by decide +kernel) (Nat.le_of_ble_eq_true rfl) ?_
  intro p e s m below meth c A ls hC hK hP hD hS hA hl
  have hl : lv_has ls 2 [(0, .ref Tp), (1, .int bv)] := hl
  obtain ⟨hx, hb, hr, hml, hB, hown, hlocks, hnm⟩ := id hC
  refine lv_aload_n hx hb dX10_append_0 rfl (lv_at hl 0 rfl) ?_
  refine gf_X10_27 hC rfl hK hP 0 rfl rfl dX10_append_1 ?_
  refine lv_aload_n hx hb dX10_append_4 rfl (lv_at hl 0 rfl) ?_
  refine gf_X10_9 hC rfl hK hP 0 rfl rfl dX10_append_5 ?_
  refine va_alen (v := 240) hx hb hK.1 hP 1 0 rfl rfl (show Int32.ofNat 240 = 240 by decide) dX10_append_8 ?_
  refine lv_icmp_lt (tgt := 13) hx hb dX10_append_9 (by decide) (fun _ => ?_) (fun c9 => absurd (by decide) c9)
  refine lv_aload_n hx hb dX10_append_13 rfl (lv_at hl 0 rfl) ?_
  refine gf_X10_9 hC rfl hK hP 0 rfl rfl dX10_append_14 ?_
  refine lv_aload_n hx hb dX10_append_17 rfl (lv_at hl 0 rfl) ?_
  refine gf_X10_27 hC rfl hK hP 0 rfl rfl dX10_append_18 ?_
  refine lv_iload_n hx hb dX10_append_21 rfl (lv_at hl 1 rfl) ?_
  refine ast hC hK hP hD hS 1 (ws' := [(Tp, .inr (10, [.ref tb, .int 7, .ref tl, .ref ts, .int (-1), .int 0, .int 0, .int (-1)])), (tb, .inl (G.2.1, 240, .inl (upd f 7 bv)))]) rfl (vin (by decide +kernel)) (k := 7) (by decide +kernel) (rfl) dX10_append_22 (fun H locs hP hD hS => ?_)
  refine lv_aload_n hx hb dX10_append_23 rfl (lv_at hl 0 rfl) ?_
  refine lv_dup hx hb dX10_append_24 rfl ?_
  refine gf_X10_27 hC rfl hK hP 0 rfl rfl dX10_append_25 ?_
  refine lv_iconst (v := 1) hx hb dX10_append_28 (by decide) ?_
  refine lv_iadd hx hb dX10_append_29 ?_
  refine eqi (x1 := 8) (by decide) ?_
  refine pf_X10_27 hC rfl hK hP hD hS 0 (ws' := [(Tp, .inr (10, [.ref tb, .int 8, .ref tl, .ref ts, .int (-1), .int 0, .int 0, .int (-1)])), (tb, .inl (G.2.1, 240, .inl (upd f 7 bv)))]) rfl (Nat.le_of_ble_eq_true rfl) rfl rfl rfl dX10_append_30 (fun H locs hP hD hS => ?_)
  exact RV hC hP hD hS [0, 1] () rfl rfl (by decide) (trivial) dX10_append_33
set_option maxHeartbeats 4000000 in
set_option maxRecDepth 100000 in
theorem c_feed (l : Launch) (G : GG) (h0 : Nat) (ei : Int64) (n : Int32) (B : Nat) (K : Nat) (S : Nat) (D : Nat) (R : Nat) (Ta : Nat) (Tp : Nat) (Ro : Nat) (Ho : Nat) (De : Nat) (tb : Nat) (tl : Nat) (ts : Nat) : MI l G yX11_feed cX11_feed 5 (some .int) 3 0 0 [.ref h0, .long ei, .int n] [(h0, .inr (11, [.ref B, .ref K, .int 0, .ref S, .ref D, .ref R, .ref Ta, .ref Tp, .ref Ro, .ref Ho, .ref De])), (Tp, .inr (10, [.ref tb, .int 0, .ref tl, .ref ts, .int (-1), .int 0, .int 0, .int (-1)])), (tb, .inl (G.2.1, 240, .inl (fun _ => 0)))] (fun (r : Int32) (u : Unit) => (r = A_feed n)) (fun u : Unit => []) := by
  refine MI.start (by decide +kernel) (Nat.le_of_ble_eq_true rfl) ?_
  intro p e s m below meth c A ls hC hK hP hD hS hA hl
  have hl : lv_has ls 5 [(0, .ref h0), (1, .long ei), (3, .int n)] := hl
  obtain ⟨hx, hb, hr, hml, hB, hown, hlocks, hnm⟩ := id hC
  refine lv_iload_n hx hb dX11_feed_0 rfl (lv_at hl 2 rfl) ?_
  refine lv_iconst (v := 1) hx hb dX11_feed_1 (by decide) ?_
  refine lv_bipush (v := 8) hx hb dX11_feed_2 (by decide) ?_
  refine pS hC hK hl (c_within l G n 1 8) si_X11_83 rfl rfl (Nat.le_of_ble_eq_true rfl) ⟨Nat.le_of_ble_eq_true rfl, Nat.le_of_ble_eq_true rfl⟩ ⟨by first | exact Nat.le_of_ble_eq_true rfl | exact Nat.zero_le _, by first | exact Nat.le_of_ble_eq_true rfl | exact Nat.zero_le _⟩ dX11_feed_4 (fun r538 hr538 => ?_)
  rcases hr538 with ⟨rfl, a539⟩ | ⟨rfl, a539⟩
  · rcases Wi_c18 a539 with rfl | rfl | rfl | rfl | rfl | rfl | rfl | rfl
    · refine lv_if_ne (tgt := 12) hx hb dX11_feed_7 (by decide) (fun _ => ?_) (fun c9 => absurd c9 (by decide))
      refine lv_aload_n hx hb dX11_feed_12 rfl (lv_at hl 0 rfl) ?_
      refine gf_X11_58 hC rfl hK hP 0 rfl rfl dX11_feed_13 ?_
      refine pV hC hK hl hP hD (c_Tp_count l G Tp tb 0 tl ts (-1) 0 0 (-1)) si_X11_224 [1] rfl rfl (by decide) rfl rfl rfl rfl rfl (Nat.le_of_ble_eq_true rfl) ⟨Nat.le_of_ble_eq_true rfl, Nat.le_of_ble_eq_true rfl⟩ ⟨by first | exact Nat.le_of_ble_eq_true rfl | exact Nat.zero_le _, by first | exact Nat.le_of_ble_eq_true rfl | exact Nat.zero_le _⟩ dX11_feed_16 (fun r540 hr540 => ?_)
      obtain rfl := hr540
      refine lv_iload_n hx hb dX11_feed_19 rfl (lv_at hl 2 rfl) ?_
      refine lv_iadd hx hb dX11_feed_20 ?_
      refine eqi (x1 := 1) (by decide) ?_
      refine lv_sipush (v := 240) hx hb dX11_feed_21 (by decide) ?_
      refine lv_icmp_le (tgt := 30) hx hb dX11_feed_24 (by decide) (fun _ => ?_) (fun c9 => absurd (by decide) c9)
      refine lv_iconst (v := 0) hx hb dX11_feed_30 (by decide) ?_
      refine lv_istore (lv' := [(4, .int 0), (0, .ref h0), (1, .long ei), (3, .int 1)]) hx hb dX11_feed_31 hl (by decide) rfl (fun ls hl => ?_)
      refine lv_iload hx hb dX11_feed_33 (lv_at hl 0 rfl) ?_
      refine lv_iload_n hx hb dX11_feed_35 rfl (lv_at hl 3 rfl) ?_
      refine lv_icmp_ge (tgt := 64) hx hb dX11_feed_36 (by decide) (fun c9 => absurd c9 (by decide)) (fun _ => ?_)
      refine lv_aload_n hx hb dX11_feed_39 rfl (lv_at hl 1 rfl) ?_
      refine gf_X11_58 hC rfl hK hP 0 rfl rfl dX11_feed_40 ?_
      refine lv_lload_n hx hb dX11_feed_43 rfl (lv_at hl 2 rfl) ?_
      refine lv_bipush (v := 8) hx hb dX11_feed_44 (by decide) ?_
      refine lv_iload hx hb dX11_feed_46 (lv_at hl 0 rfl) ?_
      refine lv_imul hx hb dX11_feed_48 ?_
      refine eqi (x1 := 0) (by decide) ?_
      refine lv_lushr hx hb dX11_feed_49 rfl ?_
      refine lv_topl (fun x542 _ => ?_)
      refine lv_l2i hx hb dX11_feed_50 rfl ?_
      refine lv_topi (fun x543 _ => ?_)
      refine lv_sipush (v := 255) hx hb dX11_feed_51 (by decide) ?_
      refine lv_iand hx hb dX11_feed_54 ?_
      refine vV (wr := [(h0, .inr (11, [.ref B, .ref K, .int 0, .ref S, .ref D, .ref R, .ref Ta, .ref Tp, .ref Ro, .ref Ho, .ref De]))]) hC hK hl hP hD hS hA (c_Tp_append0 l G Tp (x543 &&& 255) tb tl ts (fun _ => 0)) si_X11_225 [1, 2] [0] rfl rfl (by decide) rfl (by decide) (by decide) rfl rfl rfl rfl rfl (Nat.le_of_ble_eq_true rfl) ⟨Nat.le_of_ble_eq_true rfl, Nat.le_of_ble_eq_true rfl⟩ ⟨Nat.le_of_ble_eq_true rfl, Nat.le_of_ble_eq_true rfl⟩ dX11_feed_55 (fun u545 H locs hr544 hP hD hS => ?_)
      have hP : va_P G.1 vwCl [(h0, .inr (11, [.ref B, .ref K, .int 0, .ref S, .ref D, .ref R, .ref Ta, .ref Tp, .ref Ro, .ref Ho, .ref De])), (Tp, .inr (10, [.ref tb, .int 1, .ref tl, .ref ts, .int (-1), .int 0, .int 0, .int (-1)])), (tb, .inl (G.2.1, 240, .inl (upd (fun _ => 0) 0 (x543 &&& 255))))] H := hP
      have hD : va_D A [(h0, .inr (11, [.ref B, .ref K, .int 0, .ref S, .ref D, .ref R, .ref Ta, .ref Tp, .ref Ro, .ref Ho, .ref De])), (Tp, .inr (10, [.ref tb, .int 1, .ref tl, .ref ts, .int (-1), .int 0, .int 0, .int (-1)])), (tb, .inl (G.2.1, 240, .inl (upd (fun _ => 0) 0 (x543 &&& 255))))] := hD
      refine lv_iinc (v := 1) (lv' := [(4, .int 1), (0, .ref h0), (1, .long ei), (3, .int 1)]) hx hb dX11_feed_58 hl (k := 0) rfl (by decide) (by decide) rfl (fun ls hl => ?_)
      refine lv_goto (tgt := 33) hx hb dX11_feed_61 (by decide) ?_
      refine lv_iload hx hb dX11_feed_33 (lv_at hl 0 rfl) ?_
      refine lv_iload_n hx hb dX11_feed_35 rfl (lv_at hl 3 rfl) ?_
      refine lv_icmp_ge (tgt := 64) hx hb dX11_feed_36 (by decide) (fun _ => ?_) (fun c9 => absurd (by decide) c9)
      refine lv_aload_n hx hb dX11_feed_64 rfl (lv_at hl 1 rfl) ?_
      refine gf_X11_58 hC rfl hK hP 0 rfl rfl dX11_feed_65 ?_
      refine pV hC hK hl hP hD (c_Tp_count l G Tp tb 1 tl ts (-1) 0 0 (-1)) si_X11_224 [1] rfl rfl (by decide) rfl rfl rfl rfl rfl (Nat.le_of_ble_eq_true rfl) ⟨Nat.le_of_ble_eq_true rfl, Nat.le_of_ble_eq_true rfl⟩ ⟨by first | exact Nat.le_of_ble_eq_true rfl | exact Nat.zero_le _, by first | exact Nat.le_of_ble_eq_true rfl | exact Nat.zero_le _⟩ dX11_feed_68 (fun r546 hr546 => ?_)
      obtain rfl := hr546
      exact RI (v := 1) hC hP hD hS [] () rfl rfl (by decide) ((by unfold A_feed; first | rfl | (simp only [ifc_t a539]; done) | (simp only [ifc_t a539]; rfl))) rfl dX11_feed_71
    · refine lv_if_ne (tgt := 12) hx hb dX11_feed_7 (by decide) (fun _ => ?_) (fun c9 => absurd c9 (by decide))
      refine lv_aload_n hx hb dX11_feed_12 rfl (lv_at hl 0 rfl) ?_
      refine gf_X11_58 hC rfl hK hP 0 rfl rfl dX11_feed_13 ?_
      refine pV hC hK hl hP hD (c_Tp_count l G Tp tb 0 tl ts (-1) 0 0 (-1)) si_X11_224 [1] rfl rfl (by decide) rfl rfl rfl rfl rfl (Nat.le_of_ble_eq_true rfl) ⟨Nat.le_of_ble_eq_true rfl, Nat.le_of_ble_eq_true rfl⟩ ⟨by first | exact Nat.le_of_ble_eq_true rfl | exact Nat.zero_le _, by first | exact Nat.le_of_ble_eq_true rfl | exact Nat.zero_le _⟩ dX11_feed_16 (fun r548 hr548 => ?_)
      obtain rfl := hr548
      refine lv_iload_n hx hb dX11_feed_19 rfl (lv_at hl 2 rfl) ?_
      refine lv_iadd hx hb dX11_feed_20 ?_
      refine eqi (x1 := 2) (by decide) ?_
      refine lv_sipush (v := 240) hx hb dX11_feed_21 (by decide) ?_
      refine lv_icmp_le (tgt := 30) hx hb dX11_feed_24 (by decide) (fun _ => ?_) (fun c9 => absurd (by decide) c9)
      refine lv_iconst (v := 0) hx hb dX11_feed_30 (by decide) ?_
      refine lv_istore (lv' := [(4, .int 0), (0, .ref h0), (1, .long ei), (3, .int 2)]) hx hb dX11_feed_31 hl (by decide) rfl (fun ls hl => ?_)
      refine lv_iload hx hb dX11_feed_33 (lv_at hl 0 rfl) ?_
      refine lv_iload_n hx hb dX11_feed_35 rfl (lv_at hl 3 rfl) ?_
      refine lv_icmp_ge (tgt := 64) hx hb dX11_feed_36 (by decide) (fun c9 => absurd c9 (by decide)) (fun _ => ?_)
      refine lv_aload_n hx hb dX11_feed_39 rfl (lv_at hl 1 rfl) ?_
      refine gf_X11_58 hC rfl hK hP 0 rfl rfl dX11_feed_40 ?_
      refine lv_lload_n hx hb dX11_feed_43 rfl (lv_at hl 2 rfl) ?_
      refine lv_bipush (v := 8) hx hb dX11_feed_44 (by decide) ?_
      refine lv_iload hx hb dX11_feed_46 (lv_at hl 0 rfl) ?_
      refine lv_imul hx hb dX11_feed_48 ?_
      refine eqi (x1 := 0) (by decide) ?_
      refine lv_lushr hx hb dX11_feed_49 rfl ?_
      refine lv_topl (fun x550 _ => ?_)
      refine lv_l2i hx hb dX11_feed_50 rfl ?_
      refine lv_topi (fun x551 _ => ?_)
      refine lv_sipush (v := 255) hx hb dX11_feed_51 (by decide) ?_
      refine lv_iand hx hb dX11_feed_54 ?_
      refine vV (wr := [(h0, .inr (11, [.ref B, .ref K, .int 0, .ref S, .ref D, .ref R, .ref Ta, .ref Tp, .ref Ro, .ref Ho, .ref De]))]) hC hK hl hP hD hS hA (c_Tp_append0 l G Tp (x551 &&& 255) tb tl ts (fun _ => 0)) si_X11_225 [1, 2] [0] rfl rfl (by decide) rfl (by decide) (by decide) rfl rfl rfl rfl rfl (Nat.le_of_ble_eq_true rfl) ⟨Nat.le_of_ble_eq_true rfl, Nat.le_of_ble_eq_true rfl⟩ ⟨Nat.le_of_ble_eq_true rfl, Nat.le_of_ble_eq_true rfl⟩ dX11_feed_55 (fun u553 H locs hr552 hP hD hS => ?_)
      have hP : va_P G.1 vwCl [(h0, .inr (11, [.ref B, .ref K, .int 0, .ref S, .ref D, .ref R, .ref Ta, .ref Tp, .ref Ro, .ref Ho, .ref De])), (Tp, .inr (10, [.ref tb, .int 1, .ref tl, .ref ts, .int (-1), .int 0, .int 0, .int (-1)])), (tb, .inl (G.2.1, 240, .inl (upd (fun _ => 0) 0 (x551 &&& 255))))] H := hP
      have hD : va_D A [(h0, .inr (11, [.ref B, .ref K, .int 0, .ref S, .ref D, .ref R, .ref Ta, .ref Tp, .ref Ro, .ref Ho, .ref De])), (Tp, .inr (10, [.ref tb, .int 1, .ref tl, .ref ts, .int (-1), .int 0, .int 0, .int (-1)])), (tb, .inl (G.2.1, 240, .inl (upd (fun _ => 0) 0 (x551 &&& 255))))] := hD
      refine lv_iinc (v := 1) (lv' := [(4, .int 1), (0, .ref h0), (1, .long ei), (3, .int 2)]) hx hb dX11_feed_58 hl (k := 0) rfl (by decide) (by decide) rfl (fun ls hl => ?_)
      refine lv_goto (tgt := 33) hx hb dX11_feed_61 (by decide) ?_
      refine lv_iload hx hb dX11_feed_33 (lv_at hl 0 rfl) ?_
      refine lv_iload_n hx hb dX11_feed_35 rfl (lv_at hl 3 rfl) ?_
      refine lv_icmp_ge (tgt := 64) hx hb dX11_feed_36 (by decide) (fun c9 => absurd c9 (by decide)) (fun _ => ?_)
      refine lv_aload_n hx hb dX11_feed_39 rfl (lv_at hl 1 rfl) ?_
      refine gf_X11_58 hC rfl hK hP 0 rfl rfl dX11_feed_40 ?_
      refine lv_lload_n hx hb dX11_feed_43 rfl (lv_at hl 2 rfl) ?_
      refine lv_bipush (v := 8) hx hb dX11_feed_44 (by decide) ?_
      refine lv_iload hx hb dX11_feed_46 (lv_at hl 0 rfl) ?_
      refine lv_imul hx hb dX11_feed_48 ?_
      refine eqi (x1 := 8) (by decide) ?_
      refine lv_lushr hx hb dX11_feed_49 rfl ?_
      refine lv_topl (fun x554 _ => ?_)
      refine lv_l2i hx hb dX11_feed_50 rfl ?_
      refine lv_topi (fun x555 _ => ?_)
      refine lv_sipush (v := 255) hx hb dX11_feed_51 (by decide) ?_
      refine lv_iand hx hb dX11_feed_54 ?_
      refine vV (wr := [(h0, .inr (11, [.ref B, .ref K, .int 0, .ref S, .ref D, .ref R, .ref Ta, .ref Tp, .ref Ro, .ref Ho, .ref De]))]) hC hK hl hP hD hS hA (c_Tp_append1 l G Tp (x555 &&& 255) tb tl ts (upd (fun _ => 0) 0 (x551 &&& 255))) si_X11_225 [1, 2] [0] rfl rfl (by decide) rfl (by decide) (by decide) rfl rfl rfl rfl rfl (Nat.le_of_ble_eq_true rfl) ⟨Nat.le_of_ble_eq_true rfl, Nat.le_of_ble_eq_true rfl⟩ ⟨Nat.le_of_ble_eq_true rfl, Nat.le_of_ble_eq_true rfl⟩ dX11_feed_55 (fun u557 H locs hr556 hP hD hS => ?_)
      have hP : va_P G.1 vwCl [(h0, .inr (11, [.ref B, .ref K, .int 0, .ref S, .ref D, .ref R, .ref Ta, .ref Tp, .ref Ro, .ref Ho, .ref De])), (Tp, .inr (10, [.ref tb, .int 2, .ref tl, .ref ts, .int (-1), .int 0, .int 0, .int (-1)])), (tb, .inl (G.2.1, 240, .inl (upd (upd (fun _ => 0) 0 (x551 &&& 255)) 1 (x555 &&& 255))))] H := hP
      have hD : va_D A [(h0, .inr (11, [.ref B, .ref K, .int 0, .ref S, .ref D, .ref R, .ref Ta, .ref Tp, .ref Ro, .ref Ho, .ref De])), (Tp, .inr (10, [.ref tb, .int 2, .ref tl, .ref ts, .int (-1), .int 0, .int 0, .int (-1)])), (tb, .inl (G.2.1, 240, .inl (upd (upd (fun _ => 0) 0 (x551 &&& 255)) 1 (x555 &&& 255))))] := hD
      refine lv_iinc (v := 2) (lv' := [(4, .int 2), (0, .ref h0), (1, .long ei), (3, .int 2)]) hx hb dX11_feed_58 hl (k := 0) rfl (by decide) (by decide) rfl (fun ls hl => ?_)
      refine lv_goto (tgt := 33) hx hb dX11_feed_61 (by decide) ?_
      refine lv_iload hx hb dX11_feed_33 (lv_at hl 0 rfl) ?_
      refine lv_iload_n hx hb dX11_feed_35 rfl (lv_at hl 3 rfl) ?_
      refine lv_icmp_ge (tgt := 64) hx hb dX11_feed_36 (by decide) (fun _ => ?_) (fun c9 => absurd (by decide) c9)
      refine lv_aload_n hx hb dX11_feed_64 rfl (lv_at hl 1 rfl) ?_
      refine gf_X11_58 hC rfl hK hP 0 rfl rfl dX11_feed_65 ?_
      refine pV hC hK hl hP hD (c_Tp_count l G Tp tb 2 tl ts (-1) 0 0 (-1)) si_X11_224 [1] rfl rfl (by decide) rfl rfl rfl rfl rfl (Nat.le_of_ble_eq_true rfl) ⟨Nat.le_of_ble_eq_true rfl, Nat.le_of_ble_eq_true rfl⟩ ⟨by first | exact Nat.le_of_ble_eq_true rfl | exact Nat.zero_le _, by first | exact Nat.le_of_ble_eq_true rfl | exact Nat.zero_le _⟩ dX11_feed_68 (fun r558 hr558 => ?_)
      obtain rfl := hr558
      exact RI (v := 2) hC hP hD hS [] () rfl rfl (by decide) ((by unfold A_feed; first | rfl | (simp only [ifc_t a539]; done) | (simp only [ifc_t a539]; rfl))) rfl dX11_feed_71
    · refine lv_if_ne (tgt := 12) hx hb dX11_feed_7 (by decide) (fun _ => ?_) (fun c9 => absurd c9 (by decide))
      refine lv_aload_n hx hb dX11_feed_12 rfl (lv_at hl 0 rfl) ?_
      refine gf_X11_58 hC rfl hK hP 0 rfl rfl dX11_feed_13 ?_
      refine pV hC hK hl hP hD (c_Tp_count l G Tp tb 0 tl ts (-1) 0 0 (-1)) si_X11_224 [1] rfl rfl (by decide) rfl rfl rfl rfl rfl (Nat.le_of_ble_eq_true rfl) ⟨Nat.le_of_ble_eq_true rfl, Nat.le_of_ble_eq_true rfl⟩ ⟨by first | exact Nat.le_of_ble_eq_true rfl | exact Nat.zero_le _, by first | exact Nat.le_of_ble_eq_true rfl | exact Nat.zero_le _⟩ dX11_feed_16 (fun r560 hr560 => ?_)
      obtain rfl := hr560
      refine lv_iload_n hx hb dX11_feed_19 rfl (lv_at hl 2 rfl) ?_
      refine lv_iadd hx hb dX11_feed_20 ?_
      refine eqi (x1 := 3) (by decide) ?_
      refine lv_sipush (v := 240) hx hb dX11_feed_21 (by decide) ?_
      refine lv_icmp_le (tgt := 30) hx hb dX11_feed_24 (by decide) (fun _ => ?_) (fun c9 => absurd (by decide) c9)
      refine lv_iconst (v := 0) hx hb dX11_feed_30 (by decide) ?_
      refine lv_istore (lv' := [(4, .int 0), (0, .ref h0), (1, .long ei), (3, .int 3)]) hx hb dX11_feed_31 hl (by decide) rfl (fun ls hl => ?_)
      refine lv_iload hx hb dX11_feed_33 (lv_at hl 0 rfl) ?_
      refine lv_iload_n hx hb dX11_feed_35 rfl (lv_at hl 3 rfl) ?_
      refine lv_icmp_ge (tgt := 64) hx hb dX11_feed_36 (by decide) (fun c9 => absurd c9 (by decide)) (fun _ => ?_)
      refine lv_aload_n hx hb dX11_feed_39 rfl (lv_at hl 1 rfl) ?_
      refine gf_X11_58 hC rfl hK hP 0 rfl rfl dX11_feed_40 ?_
      refine lv_lload_n hx hb dX11_feed_43 rfl (lv_at hl 2 rfl) ?_
      refine lv_bipush (v := 8) hx hb dX11_feed_44 (by decide) ?_
      refine lv_iload hx hb dX11_feed_46 (lv_at hl 0 rfl) ?_
      refine lv_imul hx hb dX11_feed_48 ?_
      refine eqi (x1 := 0) (by decide) ?_
      refine lv_lushr hx hb dX11_feed_49 rfl ?_
      refine lv_topl (fun x562 _ => ?_)
      refine lv_l2i hx hb dX11_feed_50 rfl ?_
      refine lv_topi (fun x563 _ => ?_)
      refine lv_sipush (v := 255) hx hb dX11_feed_51 (by decide) ?_
      refine lv_iand hx hb dX11_feed_54 ?_
      refine vV (wr := [(h0, .inr (11, [.ref B, .ref K, .int 0, .ref S, .ref D, .ref R, .ref Ta, .ref Tp, .ref Ro, .ref Ho, .ref De]))]) hC hK hl hP hD hS hA (c_Tp_append0 l G Tp (x563 &&& 255) tb tl ts (fun _ => 0)) si_X11_225 [1, 2] [0] rfl rfl (by decide) rfl (by decide) (by decide) rfl rfl rfl rfl rfl (Nat.le_of_ble_eq_true rfl) ⟨Nat.le_of_ble_eq_true rfl, Nat.le_of_ble_eq_true rfl⟩ ⟨Nat.le_of_ble_eq_true rfl, Nat.le_of_ble_eq_true rfl⟩ dX11_feed_55 (fun u565 H locs hr564 hP hD hS => ?_)
      have hP : va_P G.1 vwCl [(h0, .inr (11, [.ref B, .ref K, .int 0, .ref S, .ref D, .ref R, .ref Ta, .ref Tp, .ref Ro, .ref Ho, .ref De])), (Tp, .inr (10, [.ref tb, .int 1, .ref tl, .ref ts, .int (-1), .int 0, .int 0, .int (-1)])), (tb, .inl (G.2.1, 240, .inl (upd (fun _ => 0) 0 (x563 &&& 255))))] H := hP
      have hD : va_D A [(h0, .inr (11, [.ref B, .ref K, .int 0, .ref S, .ref D, .ref R, .ref Ta, .ref Tp, .ref Ro, .ref Ho, .ref De])), (Tp, .inr (10, [.ref tb, .int 1, .ref tl, .ref ts, .int (-1), .int 0, .int 0, .int (-1)])), (tb, .inl (G.2.1, 240, .inl (upd (fun _ => 0) 0 (x563 &&& 255))))] := hD
      refine lv_iinc (v := 1) (lv' := [(4, .int 1), (0, .ref h0), (1, .long ei), (3, .int 3)]) hx hb dX11_feed_58 hl (k := 0) rfl (by decide) (by decide) rfl (fun ls hl => ?_)
      refine lv_goto (tgt := 33) hx hb dX11_feed_61 (by decide) ?_
      refine lv_iload hx hb dX11_feed_33 (lv_at hl 0 rfl) ?_
      refine lv_iload_n hx hb dX11_feed_35 rfl (lv_at hl 3 rfl) ?_
      refine lv_icmp_ge (tgt := 64) hx hb dX11_feed_36 (by decide) (fun c9 => absurd c9 (by decide)) (fun _ => ?_)
      refine lv_aload_n hx hb dX11_feed_39 rfl (lv_at hl 1 rfl) ?_
      refine gf_X11_58 hC rfl hK hP 0 rfl rfl dX11_feed_40 ?_
      refine lv_lload_n hx hb dX11_feed_43 rfl (lv_at hl 2 rfl) ?_
      refine lv_bipush (v := 8) hx hb dX11_feed_44 (by decide) ?_
      refine lv_iload hx hb dX11_feed_46 (lv_at hl 0 rfl) ?_
      refine lv_imul hx hb dX11_feed_48 ?_
      refine eqi (x1 := 8) (by decide) ?_
      refine lv_lushr hx hb dX11_feed_49 rfl ?_
      refine lv_topl (fun x566 _ => ?_)
      refine lv_l2i hx hb dX11_feed_50 rfl ?_
      refine lv_topi (fun x567 _ => ?_)
      refine lv_sipush (v := 255) hx hb dX11_feed_51 (by decide) ?_
      refine lv_iand hx hb dX11_feed_54 ?_
      refine vV (wr := [(h0, .inr (11, [.ref B, .ref K, .int 0, .ref S, .ref D, .ref R, .ref Ta, .ref Tp, .ref Ro, .ref Ho, .ref De]))]) hC hK hl hP hD hS hA (c_Tp_append1 l G Tp (x567 &&& 255) tb tl ts (upd (fun _ => 0) 0 (x563 &&& 255))) si_X11_225 [1, 2] [0] rfl rfl (by decide) rfl (by decide) (by decide) rfl rfl rfl rfl rfl (Nat.le_of_ble_eq_true rfl) ⟨Nat.le_of_ble_eq_true rfl, Nat.le_of_ble_eq_true rfl⟩ ⟨Nat.le_of_ble_eq_true rfl, Nat.le_of_ble_eq_true rfl⟩ dX11_feed_55 (fun u569 H locs hr568 hP hD hS => ?_)
      have hP : va_P G.1 vwCl [(h0, .inr (11, [.ref B, .ref K, .int 0, .ref S, .ref D, .ref R, .ref Ta, .ref Tp, .ref Ro, .ref Ho, .ref De])), (Tp, .inr (10, [.ref tb, .int 2, .ref tl, .ref ts, .int (-1), .int 0, .int 0, .int (-1)])), (tb, .inl (G.2.1, 240, .inl (upd (upd (fun _ => 0) 0 (x563 &&& 255)) 1 (x567 &&& 255))))] H := hP
      have hD : va_D A [(h0, .inr (11, [.ref B, .ref K, .int 0, .ref S, .ref D, .ref R, .ref Ta, .ref Tp, .ref Ro, .ref Ho, .ref De])), (Tp, .inr (10, [.ref tb, .int 2, .ref tl, .ref ts, .int (-1), .int 0, .int 0, .int (-1)])), (tb, .inl (G.2.1, 240, .inl (upd (upd (fun _ => 0) 0 (x563 &&& 255)) 1 (x567 &&& 255))))] := hD
      refine lv_iinc (v := 2) (lv' := [(4, .int 2), (0, .ref h0), (1, .long ei), (3, .int 3)]) hx hb dX11_feed_58 hl (k := 0) rfl (by decide) (by decide) rfl (fun ls hl => ?_)
      refine lv_goto (tgt := 33) hx hb dX11_feed_61 (by decide) ?_
      refine lv_iload hx hb dX11_feed_33 (lv_at hl 0 rfl) ?_
      refine lv_iload_n hx hb dX11_feed_35 rfl (lv_at hl 3 rfl) ?_
      refine lv_icmp_ge (tgt := 64) hx hb dX11_feed_36 (by decide) (fun c9 => absurd c9 (by decide)) (fun _ => ?_)
      refine lv_aload_n hx hb dX11_feed_39 rfl (lv_at hl 1 rfl) ?_
      refine gf_X11_58 hC rfl hK hP 0 rfl rfl dX11_feed_40 ?_
      refine lv_lload_n hx hb dX11_feed_43 rfl (lv_at hl 2 rfl) ?_
      refine lv_bipush (v := 8) hx hb dX11_feed_44 (by decide) ?_
      refine lv_iload hx hb dX11_feed_46 (lv_at hl 0 rfl) ?_
      refine lv_imul hx hb dX11_feed_48 ?_
      refine eqi (x1 := 16) (by decide) ?_
      refine lv_lushr hx hb dX11_feed_49 rfl ?_
      refine lv_topl (fun x570 _ => ?_)
      refine lv_l2i hx hb dX11_feed_50 rfl ?_
      refine lv_topi (fun x571 _ => ?_)
      refine lv_sipush (v := 255) hx hb dX11_feed_51 (by decide) ?_
      refine lv_iand hx hb dX11_feed_54 ?_
      refine vV (wr := [(h0, .inr (11, [.ref B, .ref K, .int 0, .ref S, .ref D, .ref R, .ref Ta, .ref Tp, .ref Ro, .ref Ho, .ref De]))]) hC hK hl hP hD hS hA (c_Tp_append2 l G Tp (x571 &&& 255) tb tl ts (upd (upd (fun _ => 0) 0 (x563 &&& 255)) 1 (x567 &&& 255))) si_X11_225 [1, 2] [0] rfl rfl (by decide) rfl (by decide) (by decide) rfl rfl rfl rfl rfl (Nat.le_of_ble_eq_true rfl) ⟨Nat.le_of_ble_eq_true rfl, Nat.le_of_ble_eq_true rfl⟩ ⟨Nat.le_of_ble_eq_true rfl, Nat.le_of_ble_eq_true rfl⟩ dX11_feed_55 (fun u573 H locs hr572 hP hD hS => ?_)
      have hP : va_P G.1 vwCl [(h0, .inr (11, [.ref B, .ref K, .int 0, .ref S, .ref D, .ref R, .ref Ta, .ref Tp, .ref Ro, .ref Ho, .ref De])), (Tp, .inr (10, [.ref tb, .int 3, .ref tl, .ref ts, .int (-1), .int 0, .int 0, .int (-1)])), (tb, .inl (G.2.1, 240, .inl (upd (upd (upd (fun _ => 0) 0 (x563 &&& 255)) 1 (x567 &&& 255)) 2 (x571 &&& 255))))] H := hP
      have hD : va_D A [(h0, .inr (11, [.ref B, .ref K, .int 0, .ref S, .ref D, .ref R, .ref Ta, .ref Tp, .ref Ro, .ref Ho, .ref De])), (Tp, .inr (10, [.ref tb, .int 3, .ref tl, .ref ts, .int (-1), .int 0, .int 0, .int (-1)])), (tb, .inl (G.2.1, 240, .inl (upd (upd (upd (fun _ => 0) 0 (x563 &&& 255)) 1 (x567 &&& 255)) 2 (x571 &&& 255))))] := hD
      refine lv_iinc (v := 3) (lv' := [(4, .int 3), (0, .ref h0), (1, .long ei), (3, .int 3)]) hx hb dX11_feed_58 hl (k := 0) rfl (by decide) (by decide) rfl (fun ls hl => ?_)
      refine lv_goto (tgt := 33) hx hb dX11_feed_61 (by decide) ?_
      refine lv_iload hx hb dX11_feed_33 (lv_at hl 0 rfl) ?_
      refine lv_iload_n hx hb dX11_feed_35 rfl (lv_at hl 3 rfl) ?_
      refine lv_icmp_ge (tgt := 64) hx hb dX11_feed_36 (by decide) (fun _ => ?_) (fun c9 => absurd (by decide) c9)
      refine lv_aload_n hx hb dX11_feed_64 rfl (lv_at hl 1 rfl) ?_
      refine gf_X11_58 hC rfl hK hP 0 rfl rfl dX11_feed_65 ?_
      refine pV hC hK hl hP hD (c_Tp_count l G Tp tb 3 tl ts (-1) 0 0 (-1)) si_X11_224 [1] rfl rfl (by decide) rfl rfl rfl rfl rfl (Nat.le_of_ble_eq_true rfl) ⟨Nat.le_of_ble_eq_true rfl, Nat.le_of_ble_eq_true rfl⟩ ⟨by first | exact Nat.le_of_ble_eq_true rfl | exact Nat.zero_le _, by first | exact Nat.le_of_ble_eq_true rfl | exact Nat.zero_le _⟩ dX11_feed_68 (fun r574 hr574 => ?_)
      obtain rfl := hr574
      exact RI (v := 3) hC hP hD hS [] () rfl rfl (by decide) ((by unfold A_feed; first | rfl | (simp only [ifc_t a539]; done) | (simp only [ifc_t a539]; rfl))) rfl dX11_feed_71
    · refine lv_if_ne (tgt := 12) hx hb dX11_feed_7 (by decide) (fun _ => ?_) (fun c9 => absurd c9 (by decide))
      refine lv_aload_n hx hb dX11_feed_12 rfl (lv_at hl 0 rfl) ?_
      refine gf_X11_58 hC rfl hK hP 0 rfl rfl dX11_feed_13 ?_
      refine pV hC hK hl hP hD (c_Tp_count l G Tp tb 0 tl ts (-1) 0 0 (-1)) si_X11_224 [1] rfl rfl (by decide) rfl rfl rfl rfl rfl (Nat.le_of_ble_eq_true rfl) ⟨Nat.le_of_ble_eq_true rfl, Nat.le_of_ble_eq_true rfl⟩ ⟨by first | exact Nat.le_of_ble_eq_true rfl | exact Nat.zero_le _, by first | exact Nat.le_of_ble_eq_true rfl | exact Nat.zero_le _⟩ dX11_feed_16 (fun r576 hr576 => ?_)
      obtain rfl := hr576
      refine lv_iload_n hx hb dX11_feed_19 rfl (lv_at hl 2 rfl) ?_
      refine lv_iadd hx hb dX11_feed_20 ?_
      refine eqi (x1 := 4) (by decide) ?_
      refine lv_sipush (v := 240) hx hb dX11_feed_21 (by decide) ?_
      refine lv_icmp_le (tgt := 30) hx hb dX11_feed_24 (by decide) (fun _ => ?_) (fun c9 => absurd (by decide) c9)
      refine lv_iconst (v := 0) hx hb dX11_feed_30 (by decide) ?_
      refine lv_istore (lv' := [(4, .int 0), (0, .ref h0), (1, .long ei), (3, .int 4)]) hx hb dX11_feed_31 hl (by decide) rfl (fun ls hl => ?_)
      refine lv_iload hx hb dX11_feed_33 (lv_at hl 0 rfl) ?_
      refine lv_iload_n hx hb dX11_feed_35 rfl (lv_at hl 3 rfl) ?_
      refine lv_icmp_ge (tgt := 64) hx hb dX11_feed_36 (by decide) (fun c9 => absurd c9 (by decide)) (fun _ => ?_)
      refine lv_aload_n hx hb dX11_feed_39 rfl (lv_at hl 1 rfl) ?_
      refine gf_X11_58 hC rfl hK hP 0 rfl rfl dX11_feed_40 ?_
      refine lv_lload_n hx hb dX11_feed_43 rfl (lv_at hl 2 rfl) ?_
      refine lv_bipush (v := 8) hx hb dX11_feed_44 (by decide) ?_
      refine lv_iload hx hb dX11_feed_46 (lv_at hl 0 rfl) ?_
      refine lv_imul hx hb dX11_feed_48 ?_
      refine eqi (x1 := 0) (by decide) ?_
      refine lv_lushr hx hb dX11_feed_49 rfl ?_
      refine lv_topl (fun x578 _ => ?_)
      refine lv_l2i hx hb dX11_feed_50 rfl ?_
      refine lv_topi (fun x579 _ => ?_)
      refine lv_sipush (v := 255) hx hb dX11_feed_51 (by decide) ?_
      refine lv_iand hx hb dX11_feed_54 ?_
      refine vV (wr := [(h0, .inr (11, [.ref B, .ref K, .int 0, .ref S, .ref D, .ref R, .ref Ta, .ref Tp, .ref Ro, .ref Ho, .ref De]))]) hC hK hl hP hD hS hA (c_Tp_append0 l G Tp (x579 &&& 255) tb tl ts (fun _ => 0)) si_X11_225 [1, 2] [0] rfl rfl (by decide) rfl (by decide) (by decide) rfl rfl rfl rfl rfl (Nat.le_of_ble_eq_true rfl) ⟨Nat.le_of_ble_eq_true rfl, Nat.le_of_ble_eq_true rfl⟩ ⟨Nat.le_of_ble_eq_true rfl, Nat.le_of_ble_eq_true rfl⟩ dX11_feed_55 (fun u581 H locs hr580 hP hD hS => ?_)
      have hP : va_P G.1 vwCl [(h0, .inr (11, [.ref B, .ref K, .int 0, .ref S, .ref D, .ref R, .ref Ta, .ref Tp, .ref Ro, .ref Ho, .ref De])), (Tp, .inr (10, [.ref tb, .int 1, .ref tl, .ref ts, .int (-1), .int 0, .int 0, .int (-1)])), (tb, .inl (G.2.1, 240, .inl (upd (fun _ => 0) 0 (x579 &&& 255))))] H := hP
      have hD : va_D A [(h0, .inr (11, [.ref B, .ref K, .int 0, .ref S, .ref D, .ref R, .ref Ta, .ref Tp, .ref Ro, .ref Ho, .ref De])), (Tp, .inr (10, [.ref tb, .int 1, .ref tl, .ref ts, .int (-1), .int 0, .int 0, .int (-1)])), (tb, .inl (G.2.1, 240, .inl (upd (fun _ => 0) 0 (x579 &&& 255))))] := hD
      refine lv_iinc (v := 1) (lv' := [(4, .int 1), (0, .ref h0), (1, .long ei), (3, .int 4)]) hx hb dX11_feed_58 hl (k := 0) rfl (by decide) (by decide) rfl (fun ls hl => ?_)
      refine lv_goto (tgt := 33) hx hb dX11_feed_61 (by decide) ?_
      refine lv_iload hx hb dX11_feed_33 (lv_at hl 0 rfl) ?_
      refine lv_iload_n hx hb dX11_feed_35 rfl (lv_at hl 3 rfl) ?_
      refine lv_icmp_ge (tgt := 64) hx hb dX11_feed_36 (by decide) (fun c9 => absurd c9 (by decide)) (fun _ => ?_)
      refine lv_aload_n hx hb dX11_feed_39 rfl (lv_at hl 1 rfl) ?_
      refine gf_X11_58 hC rfl hK hP 0 rfl rfl dX11_feed_40 ?_
      refine lv_lload_n hx hb dX11_feed_43 rfl (lv_at hl 2 rfl) ?_
      refine lv_bipush (v := 8) hx hb dX11_feed_44 (by decide) ?_
      refine lv_iload hx hb dX11_feed_46 (lv_at hl 0 rfl) ?_
      refine lv_imul hx hb dX11_feed_48 ?_
      refine eqi (x1 := 8) (by decide) ?_
      refine lv_lushr hx hb dX11_feed_49 rfl ?_
      refine lv_topl (fun x582 _ => ?_)
      refine lv_l2i hx hb dX11_feed_50 rfl ?_
      refine lv_topi (fun x583 _ => ?_)
      refine lv_sipush (v := 255) hx hb dX11_feed_51 (by decide) ?_
      refine lv_iand hx hb dX11_feed_54 ?_
      refine vV (wr := [(h0, .inr (11, [.ref B, .ref K, .int 0, .ref S, .ref D, .ref R, .ref Ta, .ref Tp, .ref Ro, .ref Ho, .ref De]))]) hC hK hl hP hD hS hA (c_Tp_append1 l G Tp (x583 &&& 255) tb tl ts (upd (fun _ => 0) 0 (x579 &&& 255))) si_X11_225 [1, 2] [0] rfl rfl (by decide) rfl (by decide) (by decide) rfl rfl rfl rfl rfl (Nat.le_of_ble_eq_true rfl) ⟨Nat.le_of_ble_eq_true rfl, Nat.le_of_ble_eq_true rfl⟩ ⟨Nat.le_of_ble_eq_true rfl, Nat.le_of_ble_eq_true rfl⟩ dX11_feed_55 (fun u585 H locs hr584 hP hD hS => ?_)
      have hP : va_P G.1 vwCl [(h0, .inr (11, [.ref B, .ref K, .int 0, .ref S, .ref D, .ref R, .ref Ta, .ref Tp, .ref Ro, .ref Ho, .ref De])), (Tp, .inr (10, [.ref tb, .int 2, .ref tl, .ref ts, .int (-1), .int 0, .int 0, .int (-1)])), (tb, .inl (G.2.1, 240, .inl (upd (upd (fun _ => 0) 0 (x579 &&& 255)) 1 (x583 &&& 255))))] H := hP
      have hD : va_D A [(h0, .inr (11, [.ref B, .ref K, .int 0, .ref S, .ref D, .ref R, .ref Ta, .ref Tp, .ref Ro, .ref Ho, .ref De])), (Tp, .inr (10, [.ref tb, .int 2, .ref tl, .ref ts, .int (-1), .int 0, .int 0, .int (-1)])), (tb, .inl (G.2.1, 240, .inl (upd (upd (fun _ => 0) 0 (x579 &&& 255)) 1 (x583 &&& 255))))] := hD
      refine lv_iinc (v := 2) (lv' := [(4, .int 2), (0, .ref h0), (1, .long ei), (3, .int 4)]) hx hb dX11_feed_58 hl (k := 0) rfl (by decide) (by decide) rfl (fun ls hl => ?_)
      refine lv_goto (tgt := 33) hx hb dX11_feed_61 (by decide) ?_
      refine lv_iload hx hb dX11_feed_33 (lv_at hl 0 rfl) ?_
      refine lv_iload_n hx hb dX11_feed_35 rfl (lv_at hl 3 rfl) ?_
      refine lv_icmp_ge (tgt := 64) hx hb dX11_feed_36 (by decide) (fun c9 => absurd c9 (by decide)) (fun _ => ?_)
      refine lv_aload_n hx hb dX11_feed_39 rfl (lv_at hl 1 rfl) ?_
      refine gf_X11_58 hC rfl hK hP 0 rfl rfl dX11_feed_40 ?_
      refine lv_lload_n hx hb dX11_feed_43 rfl (lv_at hl 2 rfl) ?_
      refine lv_bipush (v := 8) hx hb dX11_feed_44 (by decide) ?_
      refine lv_iload hx hb dX11_feed_46 (lv_at hl 0 rfl) ?_
      refine lv_imul hx hb dX11_feed_48 ?_
      refine eqi (x1 := 16) (by decide) ?_
      refine lv_lushr hx hb dX11_feed_49 rfl ?_
      refine lv_topl (fun x586 _ => ?_)
      refine lv_l2i hx hb dX11_feed_50 rfl ?_
      refine lv_topi (fun x587 _ => ?_)
      refine lv_sipush (v := 255) hx hb dX11_feed_51 (by decide) ?_
      refine lv_iand hx hb dX11_feed_54 ?_
      refine vV (wr := [(h0, .inr (11, [.ref B, .ref K, .int 0, .ref S, .ref D, .ref R, .ref Ta, .ref Tp, .ref Ro, .ref Ho, .ref De]))]) hC hK hl hP hD hS hA (c_Tp_append2 l G Tp (x587 &&& 255) tb tl ts (upd (upd (fun _ => 0) 0 (x579 &&& 255)) 1 (x583 &&& 255))) si_X11_225 [1, 2] [0] rfl rfl (by decide) rfl (by decide) (by decide) rfl rfl rfl rfl rfl (Nat.le_of_ble_eq_true rfl) ⟨Nat.le_of_ble_eq_true rfl, Nat.le_of_ble_eq_true rfl⟩ ⟨Nat.le_of_ble_eq_true rfl, Nat.le_of_ble_eq_true rfl⟩ dX11_feed_55 (fun u589 H locs hr588 hP hD hS => ?_)
      have hP : va_P G.1 vwCl [(h0, .inr (11, [.ref B, .ref K, .int 0, .ref S, .ref D, .ref R, .ref Ta, .ref Tp, .ref Ro, .ref Ho, .ref De])), (Tp, .inr (10, [.ref tb, .int 3, .ref tl, .ref ts, .int (-1), .int 0, .int 0, .int (-1)])), (tb, .inl (G.2.1, 240, .inl (upd (upd (upd (fun _ => 0) 0 (x579 &&& 255)) 1 (x583 &&& 255)) 2 (x587 &&& 255))))] H := hP
      have hD : va_D A [(h0, .inr (11, [.ref B, .ref K, .int 0, .ref S, .ref D, .ref R, .ref Ta, .ref Tp, .ref Ro, .ref Ho, .ref De])), (Tp, .inr (10, [.ref tb, .int 3, .ref tl, .ref ts, .int (-1), .int 0, .int 0, .int (-1)])), (tb, .inl (G.2.1, 240, .inl (upd (upd (upd (fun _ => 0) 0 (x579 &&& 255)) 1 (x583 &&& 255)) 2 (x587 &&& 255))))] := hD
      refine lv_iinc (v := 3) (lv' := [(4, .int 3), (0, .ref h0), (1, .long ei), (3, .int 4)]) hx hb dX11_feed_58 hl (k := 0) rfl (by decide) (by decide) rfl (fun ls hl => ?_)
      refine lv_goto (tgt := 33) hx hb dX11_feed_61 (by decide) ?_
      refine lv_iload hx hb dX11_feed_33 (lv_at hl 0 rfl) ?_
      refine lv_iload_n hx hb dX11_feed_35 rfl (lv_at hl 3 rfl) ?_
      refine lv_icmp_ge (tgt := 64) hx hb dX11_feed_36 (by decide) (fun c9 => absurd c9 (by decide)) (fun _ => ?_)
      refine lv_aload_n hx hb dX11_feed_39 rfl (lv_at hl 1 rfl) ?_
      refine gf_X11_58 hC rfl hK hP 0 rfl rfl dX11_feed_40 ?_
      refine lv_lload_n hx hb dX11_feed_43 rfl (lv_at hl 2 rfl) ?_
      refine lv_bipush (v := 8) hx hb dX11_feed_44 (by decide) ?_
      refine lv_iload hx hb dX11_feed_46 (lv_at hl 0 rfl) ?_
      refine lv_imul hx hb dX11_feed_48 ?_
      refine eqi (x1 := 24) (by decide) ?_
      refine lv_lushr hx hb dX11_feed_49 rfl ?_
      refine lv_topl (fun x590 _ => ?_)
      refine lv_l2i hx hb dX11_feed_50 rfl ?_
      refine lv_topi (fun x591 _ => ?_)
      refine lv_sipush (v := 255) hx hb dX11_feed_51 (by decide) ?_
      refine lv_iand hx hb dX11_feed_54 ?_
      refine vV (wr := [(h0, .inr (11, [.ref B, .ref K, .int 0, .ref S, .ref D, .ref R, .ref Ta, .ref Tp, .ref Ro, .ref Ho, .ref De]))]) hC hK hl hP hD hS hA (c_Tp_append3 l G Tp (x591 &&& 255) tb tl ts (upd (upd (upd (fun _ => 0) 0 (x579 &&& 255)) 1 (x583 &&& 255)) 2 (x587 &&& 255))) si_X11_225 [1, 2] [0] rfl rfl (by decide) rfl (by decide) (by decide) rfl rfl rfl rfl rfl (Nat.le_of_ble_eq_true rfl) ⟨Nat.le_of_ble_eq_true rfl, Nat.le_of_ble_eq_true rfl⟩ ⟨Nat.le_of_ble_eq_true rfl, Nat.le_of_ble_eq_true rfl⟩ dX11_feed_55 (fun u593 H locs hr592 hP hD hS => ?_)
      have hP : va_P G.1 vwCl [(h0, .inr (11, [.ref B, .ref K, .int 0, .ref S, .ref D, .ref R, .ref Ta, .ref Tp, .ref Ro, .ref Ho, .ref De])), (Tp, .inr (10, [.ref tb, .int 4, .ref tl, .ref ts, .int (-1), .int 0, .int 0, .int (-1)])), (tb, .inl (G.2.1, 240, .inl (upd (upd (upd (upd (fun _ => 0) 0 (x579 &&& 255)) 1 (x583 &&& 255)) 2 (x587 &&& 255)) 3 (x591 &&& 255))))] H := hP
      have hD : va_D A [(h0, .inr (11, [.ref B, .ref K, .int 0, .ref S, .ref D, .ref R, .ref Ta, .ref Tp, .ref Ro, .ref Ho, .ref De])), (Tp, .inr (10, [.ref tb, .int 4, .ref tl, .ref ts, .int (-1), .int 0, .int 0, .int (-1)])), (tb, .inl (G.2.1, 240, .inl (upd (upd (upd (upd (fun _ => 0) 0 (x579 &&& 255)) 1 (x583 &&& 255)) 2 (x587 &&& 255)) 3 (x591 &&& 255))))] := hD
      refine lv_iinc (v := 4) (lv' := [(4, .int 4), (0, .ref h0), (1, .long ei), (3, .int 4)]) hx hb dX11_feed_58 hl (k := 0) rfl (by decide) (by decide) rfl (fun ls hl => ?_)
      refine lv_goto (tgt := 33) hx hb dX11_feed_61 (by decide) ?_
      refine lv_iload hx hb dX11_feed_33 (lv_at hl 0 rfl) ?_
      refine lv_iload_n hx hb dX11_feed_35 rfl (lv_at hl 3 rfl) ?_
      refine lv_icmp_ge (tgt := 64) hx hb dX11_feed_36 (by decide) (fun _ => ?_) (fun c9 => absurd (by decide) c9)
      refine lv_aload_n hx hb dX11_feed_64 rfl (lv_at hl 1 rfl) ?_
      refine gf_X11_58 hC rfl hK hP 0 rfl rfl dX11_feed_65 ?_
      refine pV hC hK hl hP hD (c_Tp_count l G Tp tb 4 tl ts (-1) 0 0 (-1)) si_X11_224 [1] rfl rfl (by decide) rfl rfl rfl rfl rfl (Nat.le_of_ble_eq_true rfl) ⟨Nat.le_of_ble_eq_true rfl, Nat.le_of_ble_eq_true rfl⟩ ⟨by first | exact Nat.le_of_ble_eq_true rfl | exact Nat.zero_le _, by first | exact Nat.le_of_ble_eq_true rfl | exact Nat.zero_le _⟩ dX11_feed_68 (fun r594 hr594 => ?_)
      obtain rfl := hr594
      exact RI (v := 4) hC hP hD hS [] () rfl rfl (by decide) ((by unfold A_feed; first | rfl | (simp only [ifc_t a539]; done) | (simp only [ifc_t a539]; rfl))) rfl dX11_feed_71
    · refine lv_if_ne (tgt := 12) hx hb dX11_feed_7 (by decide) (fun _ => ?_) (fun c9 => absurd c9 (by decide))
      refine lv_aload_n hx hb dX11_feed_12 rfl (lv_at hl 0 rfl) ?_
      refine gf_X11_58 hC rfl hK hP 0 rfl rfl dX11_feed_13 ?_
      refine pV hC hK hl hP hD (c_Tp_count l G Tp tb 0 tl ts (-1) 0 0 (-1)) si_X11_224 [1] rfl rfl (by decide) rfl rfl rfl rfl rfl (Nat.le_of_ble_eq_true rfl) ⟨Nat.le_of_ble_eq_true rfl, Nat.le_of_ble_eq_true rfl⟩ ⟨by first | exact Nat.le_of_ble_eq_true rfl | exact Nat.zero_le _, by first | exact Nat.le_of_ble_eq_true rfl | exact Nat.zero_le _⟩ dX11_feed_16 (fun r596 hr596 => ?_)
      obtain rfl := hr596
      refine lv_iload_n hx hb dX11_feed_19 rfl (lv_at hl 2 rfl) ?_
      refine lv_iadd hx hb dX11_feed_20 ?_
      refine eqi (x1 := 5) (by decide) ?_
      refine lv_sipush (v := 240) hx hb dX11_feed_21 (by decide) ?_
      refine lv_icmp_le (tgt := 30) hx hb dX11_feed_24 (by decide) (fun _ => ?_) (fun c9 => absurd (by decide) c9)
      refine lv_iconst (v := 0) hx hb dX11_feed_30 (by decide) ?_
      refine lv_istore (lv' := [(4, .int 0), (0, .ref h0), (1, .long ei), (3, .int 5)]) hx hb dX11_feed_31 hl (by decide) rfl (fun ls hl => ?_)
      refine lv_iload hx hb dX11_feed_33 (lv_at hl 0 rfl) ?_
      refine lv_iload_n hx hb dX11_feed_35 rfl (lv_at hl 3 rfl) ?_
      refine lv_icmp_ge (tgt := 64) hx hb dX11_feed_36 (by decide) (fun c9 => absurd c9 (by decide)) (fun _ => ?_)
      refine lv_aload_n hx hb dX11_feed_39 rfl (lv_at hl 1 rfl) ?_
      refine gf_X11_58 hC rfl hK hP 0 rfl rfl dX11_feed_40 ?_
      refine lv_lload_n hx hb dX11_feed_43 rfl (lv_at hl 2 rfl) ?_
      refine lv_bipush (v := 8) hx hb dX11_feed_44 (by decide) ?_
      refine lv_iload hx hb dX11_feed_46 (lv_at hl 0 rfl) ?_
      refine lv_imul hx hb dX11_feed_48 ?_
      refine eqi (x1 := 0) (by decide) ?_
      refine lv_lushr hx hb dX11_feed_49 rfl ?_
      refine lv_topl (fun x598 _ => ?_)
      refine lv_l2i hx hb dX11_feed_50 rfl ?_
      refine lv_topi (fun x599 _ => ?_)
      refine lv_sipush (v := 255) hx hb dX11_feed_51 (by decide) ?_
      refine lv_iand hx hb dX11_feed_54 ?_
      refine vV (wr := [(h0, .inr (11, [.ref B, .ref K, .int 0, .ref S, .ref D, .ref R, .ref Ta, .ref Tp, .ref Ro, .ref Ho, .ref De]))]) hC hK hl hP hD hS hA (c_Tp_append0 l G Tp (x599 &&& 255) tb tl ts (fun _ => 0)) si_X11_225 [1, 2] [0] rfl rfl (by decide) rfl (by decide) (by decide) rfl rfl rfl rfl rfl (Nat.le_of_ble_eq_true rfl) ⟨Nat.le_of_ble_eq_true rfl, Nat.le_of_ble_eq_true rfl⟩ ⟨Nat.le_of_ble_eq_true rfl, Nat.le_of_ble_eq_true rfl⟩ dX11_feed_55 (fun u601 H locs hr600 hP hD hS => ?_)
      have hP : va_P G.1 vwCl [(h0, .inr (11, [.ref B, .ref K, .int 0, .ref S, .ref D, .ref R, .ref Ta, .ref Tp, .ref Ro, .ref Ho, .ref De])), (Tp, .inr (10, [.ref tb, .int 1, .ref tl, .ref ts, .int (-1), .int 0, .int 0, .int (-1)])), (tb, .inl (G.2.1, 240, .inl (upd (fun _ => 0) 0 (x599 &&& 255))))] H := hP
      have hD : va_D A [(h0, .inr (11, [.ref B, .ref K, .int 0, .ref S, .ref D, .ref R, .ref Ta, .ref Tp, .ref Ro, .ref Ho, .ref De])), (Tp, .inr (10, [.ref tb, .int 1, .ref tl, .ref ts, .int (-1), .int 0, .int 0, .int (-1)])), (tb, .inl (G.2.1, 240, .inl (upd (fun _ => 0) 0 (x599 &&& 255))))] := hD
      refine lv_iinc (v := 1) (lv' := [(4, .int 1), (0, .ref h0), (1, .long ei), (3, .int 5)]) hx hb dX11_feed_58 hl (k := 0) rfl (by decide) (by decide) rfl (fun ls hl => ?_)
      refine lv_goto (tgt := 33) hx hb dX11_feed_61 (by decide) ?_
      refine lv_iload hx hb dX11_feed_33 (lv_at hl 0 rfl) ?_
      refine lv_iload_n hx hb dX11_feed_35 rfl (lv_at hl 3 rfl) ?_
      refine lv_icmp_ge (tgt := 64) hx hb dX11_feed_36 (by decide) (fun c9 => absurd c9 (by decide)) (fun _ => ?_)
      refine lv_aload_n hx hb dX11_feed_39 rfl (lv_at hl 1 rfl) ?_
      refine gf_X11_58 hC rfl hK hP 0 rfl rfl dX11_feed_40 ?_
      refine lv_lload_n hx hb dX11_feed_43 rfl (lv_at hl 2 rfl) ?_
      refine lv_bipush (v := 8) hx hb dX11_feed_44 (by decide) ?_
      refine lv_iload hx hb dX11_feed_46 (lv_at hl 0 rfl) ?_
      refine lv_imul hx hb dX11_feed_48 ?_
      refine eqi (x1 := 8) (by decide) ?_
      refine lv_lushr hx hb dX11_feed_49 rfl ?_
      refine lv_topl (fun x602 _ => ?_)
      refine lv_l2i hx hb dX11_feed_50 rfl ?_
      refine lv_topi (fun x603 _ => ?_)
      refine lv_sipush (v := 255) hx hb dX11_feed_51 (by decide) ?_
      refine lv_iand hx hb dX11_feed_54 ?_
      refine vV (wr := [(h0, .inr (11, [.ref B, .ref K, .int 0, .ref S, .ref D, .ref R, .ref Ta, .ref Tp, .ref Ro, .ref Ho, .ref De]))]) hC hK hl hP hD hS hA (c_Tp_append1 l G Tp (x603 &&& 255) tb tl ts (upd (fun _ => 0) 0 (x599 &&& 255))) si_X11_225 [1, 2] [0] rfl rfl (by decide) rfl (by decide) (by decide) rfl rfl rfl rfl rfl (Nat.le_of_ble_eq_true rfl) ⟨Nat.le_of_ble_eq_true rfl, Nat.le_of_ble_eq_true rfl⟩ ⟨Nat.le_of_ble_eq_true rfl, Nat.le_of_ble_eq_true rfl⟩ dX11_feed_55 (fun u605 H locs hr604 hP hD hS => ?_)
      have hP : va_P G.1 vwCl [(h0, .inr (11, [.ref B, .ref K, .int 0, .ref S, .ref D, .ref R, .ref Ta, .ref Tp, .ref Ro, .ref Ho, .ref De])), (Tp, .inr (10, [.ref tb, .int 2, .ref tl, .ref ts, .int (-1), .int 0, .int 0, .int (-1)])), (tb, .inl (G.2.1, 240, .inl (upd (upd (fun _ => 0) 0 (x599 &&& 255)) 1 (x603 &&& 255))))] H := hP
      have hD : va_D A [(h0, .inr (11, [.ref B, .ref K, .int 0, .ref S, .ref D, .ref R, .ref Ta, .ref Tp, .ref Ro, .ref Ho, .ref De])), (Tp, .inr (10, [.ref tb, .int 2, .ref tl, .ref ts, .int (-1), .int 0, .int 0, .int (-1)])), (tb, .inl (G.2.1, 240, .inl (upd (upd (fun _ => 0) 0 (x599 &&& 255)) 1 (x603 &&& 255))))] := hD
      refine lv_iinc (v := 2) (lv' := [(4, .int 2), (0, .ref h0), (1, .long ei), (3, .int 5)]) hx hb dX11_feed_58 hl (k := 0) rfl (by decide) (by decide) rfl (fun ls hl => ?_)
      refine lv_goto (tgt := 33) hx hb dX11_feed_61 (by decide) ?_
      refine lv_iload hx hb dX11_feed_33 (lv_at hl 0 rfl) ?_
      refine lv_iload_n hx hb dX11_feed_35 rfl (lv_at hl 3 rfl) ?_
      refine lv_icmp_ge (tgt := 64) hx hb dX11_feed_36 (by decide) (fun c9 => absurd c9 (by decide)) (fun _ => ?_)
      refine lv_aload_n hx hb dX11_feed_39 rfl (lv_at hl 1 rfl) ?_
      refine gf_X11_58 hC rfl hK hP 0 rfl rfl dX11_feed_40 ?_
      refine lv_lload_n hx hb dX11_feed_43 rfl (lv_at hl 2 rfl) ?_
      refine lv_bipush (v := 8) hx hb dX11_feed_44 (by decide) ?_
      refine lv_iload hx hb dX11_feed_46 (lv_at hl 0 rfl) ?_
      refine lv_imul hx hb dX11_feed_48 ?_
      refine eqi (x1 := 16) (by decide) ?_
      refine lv_lushr hx hb dX11_feed_49 rfl ?_
      refine lv_topl (fun x606 _ => ?_)
      refine lv_l2i hx hb dX11_feed_50 rfl ?_
      refine lv_topi (fun x607 _ => ?_)
      refine lv_sipush (v := 255) hx hb dX11_feed_51 (by decide) ?_
      refine lv_iand hx hb dX11_feed_54 ?_
      refine vV (wr := [(h0, .inr (11, [.ref B, .ref K, .int 0, .ref S, .ref D, .ref R, .ref Ta, .ref Tp, .ref Ro, .ref Ho, .ref De]))]) hC hK hl hP hD hS hA (c_Tp_append2 l G Tp (x607 &&& 255) tb tl ts (upd (upd (fun _ => 0) 0 (x599 &&& 255)) 1 (x603 &&& 255))) si_X11_225 [1, 2] [0] rfl rfl (by decide) rfl (by decide) (by decide) rfl rfl rfl rfl rfl (Nat.le_of_ble_eq_true rfl) ⟨Nat.le_of_ble_eq_true rfl, Nat.le_of_ble_eq_true rfl⟩ ⟨Nat.le_of_ble_eq_true rfl, Nat.le_of_ble_eq_true rfl⟩ dX11_feed_55 (fun u609 H locs hr608 hP hD hS => ?_)
      have hP : va_P G.1 vwCl [(h0, .inr (11, [.ref B, .ref K, .int 0, .ref S, .ref D, .ref R, .ref Ta, .ref Tp, .ref Ro, .ref Ho, .ref De])), (Tp, .inr (10, [.ref tb, .int 3, .ref tl, .ref ts, .int (-1), .int 0, .int 0, .int (-1)])), (tb, .inl (G.2.1, 240, .inl (upd (upd (upd (fun _ => 0) 0 (x599 &&& 255)) 1 (x603 &&& 255)) 2 (x607 &&& 255))))] H := hP
      have hD : va_D A [(h0, .inr (11, [.ref B, .ref K, .int 0, .ref S, .ref D, .ref R, .ref Ta, .ref Tp, .ref Ro, .ref Ho, .ref De])), (Tp, .inr (10, [.ref tb, .int 3, .ref tl, .ref ts, .int (-1), .int 0, .int 0, .int (-1)])), (tb, .inl (G.2.1, 240, .inl (upd (upd (upd (fun _ => 0) 0 (x599 &&& 255)) 1 (x603 &&& 255)) 2 (x607 &&& 255))))] := hD
      refine lv_iinc (v := 3) (lv' := [(4, .int 3), (0, .ref h0), (1, .long ei), (3, .int 5)]) hx hb dX11_feed_58 hl (k := 0) rfl (by decide) (by decide) rfl (fun ls hl => ?_)
      refine lv_goto (tgt := 33) hx hb dX11_feed_61 (by decide) ?_
      refine lv_iload hx hb dX11_feed_33 (lv_at hl 0 rfl) ?_
      refine lv_iload_n hx hb dX11_feed_35 rfl (lv_at hl 3 rfl) ?_
      refine lv_icmp_ge (tgt := 64) hx hb dX11_feed_36 (by decide) (fun c9 => absurd c9 (by decide)) (fun _ => ?_)
      refine lv_aload_n hx hb dX11_feed_39 rfl (lv_at hl 1 rfl) ?_
      refine gf_X11_58 hC rfl hK hP 0 rfl rfl dX11_feed_40 ?_
      refine lv_lload_n hx hb dX11_feed_43 rfl (lv_at hl 2 rfl) ?_
      refine lv_bipush (v := 8) hx hb dX11_feed_44 (by decide) ?_
      refine lv_iload hx hb dX11_feed_46 (lv_at hl 0 rfl) ?_
      refine lv_imul hx hb dX11_feed_48 ?_
      refine eqi (x1 := 24) (by decide) ?_
      refine lv_lushr hx hb dX11_feed_49 rfl ?_
      refine lv_topl (fun x610 _ => ?_)
      refine lv_l2i hx hb dX11_feed_50 rfl ?_
      refine lv_topi (fun x611 _ => ?_)
      refine lv_sipush (v := 255) hx hb dX11_feed_51 (by decide) ?_
      refine lv_iand hx hb dX11_feed_54 ?_
      refine vV (wr := [(h0, .inr (11, [.ref B, .ref K, .int 0, .ref S, .ref D, .ref R, .ref Ta, .ref Tp, .ref Ro, .ref Ho, .ref De]))]) hC hK hl hP hD hS hA (c_Tp_append3 l G Tp (x611 &&& 255) tb tl ts (upd (upd (upd (fun _ => 0) 0 (x599 &&& 255)) 1 (x603 &&& 255)) 2 (x607 &&& 255))) si_X11_225 [1, 2] [0] rfl rfl (by decide) rfl (by decide) (by decide) rfl rfl rfl rfl rfl (Nat.le_of_ble_eq_true rfl) ⟨Nat.le_of_ble_eq_true rfl, Nat.le_of_ble_eq_true rfl⟩ ⟨Nat.le_of_ble_eq_true rfl, Nat.le_of_ble_eq_true rfl⟩ dX11_feed_55 (fun u613 H locs hr612 hP hD hS => ?_)
      have hP : va_P G.1 vwCl [(h0, .inr (11, [.ref B, .ref K, .int 0, .ref S, .ref D, .ref R, .ref Ta, .ref Tp, .ref Ro, .ref Ho, .ref De])), (Tp, .inr (10, [.ref tb, .int 4, .ref tl, .ref ts, .int (-1), .int 0, .int 0, .int (-1)])), (tb, .inl (G.2.1, 240, .inl (upd (upd (upd (upd (fun _ => 0) 0 (x599 &&& 255)) 1 (x603 &&& 255)) 2 (x607 &&& 255)) 3 (x611 &&& 255))))] H := hP
      have hD : va_D A [(h0, .inr (11, [.ref B, .ref K, .int 0, .ref S, .ref D, .ref R, .ref Ta, .ref Tp, .ref Ro, .ref Ho, .ref De])), (Tp, .inr (10, [.ref tb, .int 4, .ref tl, .ref ts, .int (-1), .int 0, .int 0, .int (-1)])), (tb, .inl (G.2.1, 240, .inl (upd (upd (upd (upd (fun _ => 0) 0 (x599 &&& 255)) 1 (x603 &&& 255)) 2 (x607 &&& 255)) 3 (x611 &&& 255))))] := hD
      refine lv_iinc (v := 4) (lv' := [(4, .int 4), (0, .ref h0), (1, .long ei), (3, .int 5)]) hx hb dX11_feed_58 hl (k := 0) rfl (by decide) (by decide) rfl (fun ls hl => ?_)
      refine lv_goto (tgt := 33) hx hb dX11_feed_61 (by decide) ?_
      refine lv_iload hx hb dX11_feed_33 (lv_at hl 0 rfl) ?_
      refine lv_iload_n hx hb dX11_feed_35 rfl (lv_at hl 3 rfl) ?_
      refine lv_icmp_ge (tgt := 64) hx hb dX11_feed_36 (by decide) (fun c9 => absurd c9 (by decide)) (fun _ => ?_)
      refine lv_aload_n hx hb dX11_feed_39 rfl (lv_at hl 1 rfl) ?_
      refine gf_X11_58 hC rfl hK hP 0 rfl rfl dX11_feed_40 ?_
      refine lv_lload_n hx hb dX11_feed_43 rfl (lv_at hl 2 rfl) ?_
      refine lv_bipush (v := 8) hx hb dX11_feed_44 (by decide) ?_
      refine lv_iload hx hb dX11_feed_46 (lv_at hl 0 rfl) ?_
      refine lv_imul hx hb dX11_feed_48 ?_
      refine eqi (x1 := 32) (by decide) ?_
      refine lv_lushr hx hb dX11_feed_49 rfl ?_
      refine lv_topl (fun x614 _ => ?_)
      refine lv_l2i hx hb dX11_feed_50 rfl ?_
      refine lv_topi (fun x615 _ => ?_)
      refine lv_sipush (v := 255) hx hb dX11_feed_51 (by decide) ?_
      refine lv_iand hx hb dX11_feed_54 ?_
      refine vV (wr := [(h0, .inr (11, [.ref B, .ref K, .int 0, .ref S, .ref D, .ref R, .ref Ta, .ref Tp, .ref Ro, .ref Ho, .ref De]))]) hC hK hl hP hD hS hA (c_Tp_append4 l G Tp (x615 &&& 255) tb tl ts (upd (upd (upd (upd (fun _ => 0) 0 (x599 &&& 255)) 1 (x603 &&& 255)) 2 (x607 &&& 255)) 3 (x611 &&& 255))) si_X11_225 [1, 2] [0] rfl rfl (by decide) rfl (by decide) (by decide) rfl rfl rfl rfl rfl (Nat.le_of_ble_eq_true rfl) ⟨Nat.le_of_ble_eq_true rfl, Nat.le_of_ble_eq_true rfl⟩ ⟨Nat.le_of_ble_eq_true rfl, Nat.le_of_ble_eq_true rfl⟩ dX11_feed_55 (fun u617 H locs hr616 hP hD hS => ?_)
      have hP : va_P G.1 vwCl [(h0, .inr (11, [.ref B, .ref K, .int 0, .ref S, .ref D, .ref R, .ref Ta, .ref Tp, .ref Ro, .ref Ho, .ref De])), (Tp, .inr (10, [.ref tb, .int 5, .ref tl, .ref ts, .int (-1), .int 0, .int 0, .int (-1)])), (tb, .inl (G.2.1, 240, .inl (upd (upd (upd (upd (upd (fun _ => 0) 0 (x599 &&& 255)) 1 (x603 &&& 255)) 2 (x607 &&& 255)) 3 (x611 &&& 255)) 4 (x615 &&& 255))))] H := hP
      have hD : va_D A [(h0, .inr (11, [.ref B, .ref K, .int 0, .ref S, .ref D, .ref R, .ref Ta, .ref Tp, .ref Ro, .ref Ho, .ref De])), (Tp, .inr (10, [.ref tb, .int 5, .ref tl, .ref ts, .int (-1), .int 0, .int 0, .int (-1)])), (tb, .inl (G.2.1, 240, .inl (upd (upd (upd (upd (upd (fun _ => 0) 0 (x599 &&& 255)) 1 (x603 &&& 255)) 2 (x607 &&& 255)) 3 (x611 &&& 255)) 4 (x615 &&& 255))))] := hD
      refine lv_iinc (v := 5) (lv' := [(4, .int 5), (0, .ref h0), (1, .long ei), (3, .int 5)]) hx hb dX11_feed_58 hl (k := 0) rfl (by decide) (by decide) rfl (fun ls hl => ?_)
      refine lv_goto (tgt := 33) hx hb dX11_feed_61 (by decide) ?_
      refine lv_iload hx hb dX11_feed_33 (lv_at hl 0 rfl) ?_
      refine lv_iload_n hx hb dX11_feed_35 rfl (lv_at hl 3 rfl) ?_
      refine lv_icmp_ge (tgt := 64) hx hb dX11_feed_36 (by decide) (fun _ => ?_) (fun c9 => absurd (by decide) c9)
      refine lv_aload_n hx hb dX11_feed_64 rfl (lv_at hl 1 rfl) ?_
      refine gf_X11_58 hC rfl hK hP 0 rfl rfl dX11_feed_65 ?_
      refine pV hC hK hl hP hD (c_Tp_count l G Tp tb 5 tl ts (-1) 0 0 (-1)) si_X11_224 [1] rfl rfl (by decide) rfl rfl rfl rfl rfl (Nat.le_of_ble_eq_true rfl) ⟨Nat.le_of_ble_eq_true rfl, Nat.le_of_ble_eq_true rfl⟩ ⟨by first | exact Nat.le_of_ble_eq_true rfl | exact Nat.zero_le _, by first | exact Nat.le_of_ble_eq_true rfl | exact Nat.zero_le _⟩ dX11_feed_68 (fun r618 hr618 => ?_)
      obtain rfl := hr618
      exact RI (v := 5) hC hP hD hS [] () rfl rfl (by decide) ((by unfold A_feed; first | rfl | (simp only [ifc_t a539]; done) | (simp only [ifc_t a539]; rfl))) rfl dX11_feed_71
    · refine lv_if_ne (tgt := 12) hx hb dX11_feed_7 (by decide) (fun _ => ?_) (fun c9 => absurd c9 (by decide))
      refine lv_aload_n hx hb dX11_feed_12 rfl (lv_at hl 0 rfl) ?_
      refine gf_X11_58 hC rfl hK hP 0 rfl rfl dX11_feed_13 ?_
      refine pV hC hK hl hP hD (c_Tp_count l G Tp tb 0 tl ts (-1) 0 0 (-1)) si_X11_224 [1] rfl rfl (by decide) rfl rfl rfl rfl rfl (Nat.le_of_ble_eq_true rfl) ⟨Nat.le_of_ble_eq_true rfl, Nat.le_of_ble_eq_true rfl⟩ ⟨by first | exact Nat.le_of_ble_eq_true rfl | exact Nat.zero_le _, by first | exact Nat.le_of_ble_eq_true rfl | exact Nat.zero_le _⟩ dX11_feed_16 (fun r620 hr620 => ?_)
      obtain rfl := hr620
      refine lv_iload_n hx hb dX11_feed_19 rfl (lv_at hl 2 rfl) ?_
      refine lv_iadd hx hb dX11_feed_20 ?_
      refine eqi (x1 := 6) (by decide) ?_
      refine lv_sipush (v := 240) hx hb dX11_feed_21 (by decide) ?_
      refine lv_icmp_le (tgt := 30) hx hb dX11_feed_24 (by decide) (fun _ => ?_) (fun c9 => absurd (by decide) c9)
      refine lv_iconst (v := 0) hx hb dX11_feed_30 (by decide) ?_
      refine lv_istore (lv' := [(4, .int 0), (0, .ref h0), (1, .long ei), (3, .int 6)]) hx hb dX11_feed_31 hl (by decide) rfl (fun ls hl => ?_)
      refine lv_iload hx hb dX11_feed_33 (lv_at hl 0 rfl) ?_
      refine lv_iload_n hx hb dX11_feed_35 rfl (lv_at hl 3 rfl) ?_
      refine lv_icmp_ge (tgt := 64) hx hb dX11_feed_36 (by decide) (fun c9 => absurd c9 (by decide)) (fun _ => ?_)
      refine lv_aload_n hx hb dX11_feed_39 rfl (lv_at hl 1 rfl) ?_
      refine gf_X11_58 hC rfl hK hP 0 rfl rfl dX11_feed_40 ?_
      refine lv_lload_n hx hb dX11_feed_43 rfl (lv_at hl 2 rfl) ?_
      refine lv_bipush (v := 8) hx hb dX11_feed_44 (by decide) ?_
      refine lv_iload hx hb dX11_feed_46 (lv_at hl 0 rfl) ?_
      refine lv_imul hx hb dX11_feed_48 ?_
      refine eqi (x1 := 0) (by decide) ?_
      refine lv_lushr hx hb dX11_feed_49 rfl ?_
      refine lv_topl (fun x622 _ => ?_)
      refine lv_l2i hx hb dX11_feed_50 rfl ?_
      refine lv_topi (fun x623 _ => ?_)
      refine lv_sipush (v := 255) hx hb dX11_feed_51 (by decide) ?_
      refine lv_iand hx hb dX11_feed_54 ?_
      refine vV (wr := [(h0, .inr (11, [.ref B, .ref K, .int 0, .ref S, .ref D, .ref R, .ref Ta, .ref Tp, .ref Ro, .ref Ho, .ref De]))]) hC hK hl hP hD hS hA (c_Tp_append0 l G Tp (x623 &&& 255) tb tl ts (fun _ => 0)) si_X11_225 [1, 2] [0] rfl rfl (by decide) rfl (by decide) (by decide) rfl rfl rfl rfl rfl (Nat.le_of_ble_eq_true rfl) ⟨Nat.le_of_ble_eq_true rfl, Nat.le_of_ble_eq_true rfl⟩ ⟨Nat.le_of_ble_eq_true rfl, Nat.le_of_ble_eq_true rfl⟩ dX11_feed_55 (fun u625 H locs hr624 hP hD hS => ?_)
      have hP : va_P G.1 vwCl [(h0, .inr (11, [.ref B, .ref K, .int 0, .ref S, .ref D, .ref R, .ref Ta, .ref Tp, .ref Ro, .ref Ho, .ref De])), (Tp, .inr (10, [.ref tb, .int 1, .ref tl, .ref ts, .int (-1), .int 0, .int 0, .int (-1)])), (tb, .inl (G.2.1, 240, .inl (upd (fun _ => 0) 0 (x623 &&& 255))))] H := hP
      have hD : va_D A [(h0, .inr (11, [.ref B, .ref K, .int 0, .ref S, .ref D, .ref R, .ref Ta, .ref Tp, .ref Ro, .ref Ho, .ref De])), (Tp, .inr (10, [.ref tb, .int 1, .ref tl, .ref ts, .int (-1), .int 0, .int 0, .int (-1)])), (tb, .inl (G.2.1, 240, .inl (upd (fun _ => 0) 0 (x623 &&& 255))))] := hD
      refine lv_iinc (v := 1) (lv' := [(4, .int 1), (0, .ref h0), (1, .long ei), (3, .int 6)]) hx hb dX11_feed_58 hl (k := 0) rfl (by decide) (by decide) rfl (fun ls hl => ?_)
      refine lv_goto (tgt := 33) hx hb dX11_feed_61 (by decide) ?_
      refine lv_iload hx hb dX11_feed_33 (lv_at hl 0 rfl) ?_
      refine lv_iload_n hx hb dX11_feed_35 rfl (lv_at hl 3 rfl) ?_
      refine lv_icmp_ge (tgt := 64) hx hb dX11_feed_36 (by decide) (fun c9 => absurd c9 (by decide)) (fun _ => ?_)
      refine lv_aload_n hx hb dX11_feed_39 rfl (lv_at hl 1 rfl) ?_
      refine gf_X11_58 hC rfl hK hP 0 rfl rfl dX11_feed_40 ?_
      refine lv_lload_n hx hb dX11_feed_43 rfl (lv_at hl 2 rfl) ?_
      refine lv_bipush (v := 8) hx hb dX11_feed_44 (by decide) ?_
      refine lv_iload hx hb dX11_feed_46 (lv_at hl 0 rfl) ?_
      refine lv_imul hx hb dX11_feed_48 ?_
      refine eqi (x1 := 8) (by decide) ?_
      refine lv_lushr hx hb dX11_feed_49 rfl ?_
      refine lv_topl (fun x626 _ => ?_)
      refine lv_l2i hx hb dX11_feed_50 rfl ?_
      refine lv_topi (fun x627 _ => ?_)
      refine lv_sipush (v := 255) hx hb dX11_feed_51 (by decide) ?_
      refine lv_iand hx hb dX11_feed_54 ?_
      refine vV (wr := [(h0, .inr (11, [.ref B, .ref K, .int 0, .ref S, .ref D, .ref R, .ref Ta, .ref Tp, .ref Ro, .ref Ho, .ref De]))]) hC hK hl hP hD hS hA (c_Tp_append1 l G Tp (x627 &&& 255) tb tl ts (upd (fun _ => 0) 0 (x623 &&& 255))) si_X11_225 [1, 2] [0] rfl rfl (by decide) rfl (by decide) (by decide) rfl rfl rfl rfl rfl (Nat.le_of_ble_eq_true rfl) ⟨Nat.le_of_ble_eq_true rfl, Nat.le_of_ble_eq_true rfl⟩ ⟨Nat.le_of_ble_eq_true rfl, Nat.le_of_ble_eq_true rfl⟩ dX11_feed_55 (fun u629 H locs hr628 hP hD hS => ?_)
      have hP : va_P G.1 vwCl [(h0, .inr (11, [.ref B, .ref K, .int 0, .ref S, .ref D, .ref R, .ref Ta, .ref Tp, .ref Ro, .ref Ho, .ref De])), (Tp, .inr (10, [.ref tb, .int 2, .ref tl, .ref ts, .int (-1), .int 0, .int 0, .int (-1)])), (tb, .inl (G.2.1, 240, .inl (upd (upd (fun _ => 0) 0 (x623 &&& 255)) 1 (x627 &&& 255))))] H := hP
      have hD : va_D A [(h0, .inr (11, [.ref B, .ref K, .int 0, .ref S, .ref D, .ref R, .ref Ta, .ref Tp, .ref Ro, .ref Ho, .ref De])), (Tp, .inr (10, [.ref tb, .int 2, .ref tl, .ref ts, .int (-1), .int 0, .int 0, .int (-1)])), (tb, .inl (G.2.1, 240, .inl (upd (upd (fun _ => 0) 0 (x623 &&& 255)) 1 (x627 &&& 255))))] := hD
      refine lv_iinc (v := 2) (lv' := [(4, .int 2), (0, .ref h0), (1, .long ei), (3, .int 6)]) hx hb dX11_feed_58 hl (k := 0) rfl (by decide) (by decide) rfl (fun ls hl => ?_)
      refine lv_goto (tgt := 33) hx hb dX11_feed_61 (by decide) ?_
      refine lv_iload hx hb dX11_feed_33 (lv_at hl 0 rfl) ?_
      refine lv_iload_n hx hb dX11_feed_35 rfl (lv_at hl 3 rfl) ?_
      refine lv_icmp_ge (tgt := 64) hx hb dX11_feed_36 (by decide) (fun c9 => absurd c9 (by decide)) (fun _ => ?_)
      refine lv_aload_n hx hb dX11_feed_39 rfl (lv_at hl 1 rfl) ?_
      refine gf_X11_58 hC rfl hK hP 0 rfl rfl dX11_feed_40 ?_
      refine lv_lload_n hx hb dX11_feed_43 rfl (lv_at hl 2 rfl) ?_
      refine lv_bipush (v := 8) hx hb dX11_feed_44 (by decide) ?_
      refine lv_iload hx hb dX11_feed_46 (lv_at hl 0 rfl) ?_
      refine lv_imul hx hb dX11_feed_48 ?_
      refine eqi (x1 := 16) (by decide) ?_
      refine lv_lushr hx hb dX11_feed_49 rfl ?_
      refine lv_topl (fun x630 _ => ?_)
      refine lv_l2i hx hb dX11_feed_50 rfl ?_
      refine lv_topi (fun x631 _ => ?_)
      refine lv_sipush (v := 255) hx hb dX11_feed_51 (by decide) ?_
      refine lv_iand hx hb dX11_feed_54 ?_
      refine vV (wr := [(h0, .inr (11, [.ref B, .ref K, .int 0, .ref S, .ref D, .ref R, .ref Ta, .ref Tp, .ref Ro, .ref Ho, .ref De]))]) hC hK hl hP hD hS hA (c_Tp_append2 l G Tp (x631 &&& 255) tb tl ts (upd (upd (fun _ => 0) 0 (x623 &&& 255)) 1 (x627 &&& 255))) si_X11_225 [1, 2] [0] rfl rfl (by decide) rfl (by decide) (by decide) rfl rfl rfl rfl rfl (Nat.le_of_ble_eq_true rfl) ⟨Nat.le_of_ble_eq_true rfl, Nat.le_of_ble_eq_true rfl⟩ ⟨Nat.le_of_ble_eq_true rfl, Nat.le_of_ble_eq_true rfl⟩ dX11_feed_55 (fun u633 H locs hr632 hP hD hS => ?_)
      have hP : va_P G.1 vwCl [(h0, .inr (11, [.ref B, .ref K, .int 0, .ref S, .ref D, .ref R, .ref Ta, .ref Tp, .ref Ro, .ref Ho, .ref De])), (Tp, .inr (10, [.ref tb, .int 3, .ref tl, .ref ts, .int (-1), .int 0, .int 0, .int (-1)])), (tb, .inl (G.2.1, 240, .inl (upd (upd (upd (fun _ => 0) 0 (x623 &&& 255)) 1 (x627 &&& 255)) 2 (x631 &&& 255))))] H := hP
      have hD : va_D A [(h0, .inr (11, [.ref B, .ref K, .int 0, .ref S, .ref D, .ref R, .ref Ta, .ref Tp, .ref Ro, .ref Ho, .ref De])), (Tp, .inr (10, [.ref tb, .int 3, .ref tl, .ref ts, .int (-1), .int 0, .int 0, .int (-1)])), (tb, .inl (G.2.1, 240, .inl (upd (upd (upd (fun _ => 0) 0 (x623 &&& 255)) 1 (x627 &&& 255)) 2 (x631 &&& 255))))] := hD
      refine lv_iinc (v := 3) (lv' := [(4, .int 3), (0, .ref h0), (1, .long ei), (3, .int 6)]) hx hb dX11_feed_58 hl (k := 0) rfl (by decide) (by decide) rfl (fun ls hl => ?_)
      refine lv_goto (tgt := 33) hx hb dX11_feed_61 (by decide) ?_
      refine lv_iload hx hb dX11_feed_33 (lv_at hl 0 rfl) ?_
      refine lv_iload_n hx hb dX11_feed_35 rfl (lv_at hl 3 rfl) ?_
      refine lv_icmp_ge (tgt := 64) hx hb dX11_feed_36 (by decide) (fun c9 => absurd c9 (by decide)) (fun _ => ?_)
      refine lv_aload_n hx hb dX11_feed_39 rfl (lv_at hl 1 rfl) ?_
      refine gf_X11_58 hC rfl hK hP 0 rfl rfl dX11_feed_40 ?_
      refine lv_lload_n hx hb dX11_feed_43 rfl (lv_at hl 2 rfl) ?_
      refine lv_bipush (v := 8) hx hb dX11_feed_44 (by decide) ?_
      refine lv_iload hx hb dX11_feed_46 (lv_at hl 0 rfl) ?_
      refine lv_imul hx hb dX11_feed_48 ?_
      refine eqi (x1 := 24) (by decide) ?_
      refine lv_lushr hx hb dX11_feed_49 rfl ?_
      refine lv_topl (fun x634 _ => ?_)
      refine lv_l2i hx hb dX11_feed_50 rfl ?_
      refine lv_topi (fun x635 _ => ?_)
      refine lv_sipush (v := 255) hx hb dX11_feed_51 (by decide) ?_
      refine lv_iand hx hb dX11_feed_54 ?_
      refine vV (wr := [(h0, .inr (11, [.ref B, .ref K, .int 0, .ref S, .ref D, .ref R, .ref Ta, .ref Tp, .ref Ro, .ref Ho, .ref De]))]) hC hK hl hP hD hS hA (c_Tp_append3 l G Tp (x635 &&& 255) tb tl ts (upd (upd (upd (fun _ => 0) 0 (x623 &&& 255)) 1 (x627 &&& 255)) 2 (x631 &&& 255))) si_X11_225 [1, 2] [0] rfl rfl (by decide) rfl (by decide) (by decide) rfl rfl rfl rfl rfl (Nat.le_of_ble_eq_true rfl) ⟨Nat.le_of_ble_eq_true rfl, Nat.le_of_ble_eq_true rfl⟩ ⟨Nat.le_of_ble_eq_true rfl, Nat.le_of_ble_eq_true rfl⟩ dX11_feed_55 (fun u637 H locs hr636 hP hD hS => ?_)
      have hP : va_P G.1 vwCl [(h0, .inr (11, [.ref B, .ref K, .int 0, .ref S, .ref D, .ref R, .ref Ta, .ref Tp, .ref Ro, .ref Ho, .ref De])), (Tp, .inr (10, [.ref tb, .int 4, .ref tl, .ref ts, .int (-1), .int 0, .int 0, .int (-1)])), (tb, .inl (G.2.1, 240, .inl (upd (upd (upd (upd (fun _ => 0) 0 (x623 &&& 255)) 1 (x627 &&& 255)) 2 (x631 &&& 255)) 3 (x635 &&& 255))))] H := hP
      have hD : va_D A [(h0, .inr (11, [.ref B, .ref K, .int 0, .ref S, .ref D, .ref R, .ref Ta, .ref Tp, .ref Ro, .ref Ho, .ref De])), (Tp, .inr (10, [.ref tb, .int 4, .ref tl, .ref ts, .int (-1), .int 0, .int 0, .int (-1)])), (tb, .inl (G.2.1, 240, .inl (upd (upd (upd (upd (fun _ => 0) 0 (x623 &&& 255)) 1 (x627 &&& 255)) 2 (x631 &&& 255)) 3 (x635 &&& 255))))] := hD
      refine lv_iinc (v := 4) (lv' := [(4, .int 4), (0, .ref h0), (1, .long ei), (3, .int 6)]) hx hb dX11_feed_58 hl (k := 0) rfl (by decide) (by decide) rfl (fun ls hl => ?_)
      refine lv_goto (tgt := 33) hx hb dX11_feed_61 (by decide) ?_
      refine lv_iload hx hb dX11_feed_33 (lv_at hl 0 rfl) ?_
      refine lv_iload_n hx hb dX11_feed_35 rfl (lv_at hl 3 rfl) ?_
      refine lv_icmp_ge (tgt := 64) hx hb dX11_feed_36 (by decide) (fun c9 => absurd c9 (by decide)) (fun _ => ?_)
      refine lv_aload_n hx hb dX11_feed_39 rfl (lv_at hl 1 rfl) ?_
      refine gf_X11_58 hC rfl hK hP 0 rfl rfl dX11_feed_40 ?_
      refine lv_lload_n hx hb dX11_feed_43 rfl (lv_at hl 2 rfl) ?_
      refine lv_bipush (v := 8) hx hb dX11_feed_44 (by decide) ?_
      refine lv_iload hx hb dX11_feed_46 (lv_at hl 0 rfl) ?_
      refine lv_imul hx hb dX11_feed_48 ?_
      refine eqi (x1 := 32) (by decide) ?_
      refine lv_lushr hx hb dX11_feed_49 rfl ?_
      refine lv_topl (fun x638 _ => ?_)
      refine lv_l2i hx hb dX11_feed_50 rfl ?_
      refine lv_topi (fun x639 _ => ?_)
      refine lv_sipush (v := 255) hx hb dX11_feed_51 (by decide) ?_
      refine lv_iand hx hb dX11_feed_54 ?_
      refine vV (wr := [(h0, .inr (11, [.ref B, .ref K, .int 0, .ref S, .ref D, .ref R, .ref Ta, .ref Tp, .ref Ro, .ref Ho, .ref De]))]) hC hK hl hP hD hS hA (c_Tp_append4 l G Tp (x639 &&& 255) tb tl ts (upd (upd (upd (upd (fun _ => 0) 0 (x623 &&& 255)) 1 (x627 &&& 255)) 2 (x631 &&& 255)) 3 (x635 &&& 255))) si_X11_225 [1, 2] [0] rfl rfl (by decide) rfl (by decide) (by decide) rfl rfl rfl rfl rfl (Nat.le_of_ble_eq_true rfl) ⟨Nat.le_of_ble_eq_true rfl, Nat.le_of_ble_eq_true rfl⟩ ⟨Nat.le_of_ble_eq_true rfl, Nat.le_of_ble_eq_true rfl⟩ dX11_feed_55 (fun u641 H locs hr640 hP hD hS => ?_)
      have hP : va_P G.1 vwCl [(h0, .inr (11, [.ref B, .ref K, .int 0, .ref S, .ref D, .ref R, .ref Ta, .ref Tp, .ref Ro, .ref Ho, .ref De])), (Tp, .inr (10, [.ref tb, .int 5, .ref tl, .ref ts, .int (-1), .int 0, .int 0, .int (-1)])), (tb, .inl (G.2.1, 240, .inl (upd (upd (upd (upd (upd (fun _ => 0) 0 (x623 &&& 255)) 1 (x627 &&& 255)) 2 (x631 &&& 255)) 3 (x635 &&& 255)) 4 (x639 &&& 255))))] H := hP
      have hD : va_D A [(h0, .inr (11, [.ref B, .ref K, .int 0, .ref S, .ref D, .ref R, .ref Ta, .ref Tp, .ref Ro, .ref Ho, .ref De])), (Tp, .inr (10, [.ref tb, .int 5, .ref tl, .ref ts, .int (-1), .int 0, .int 0, .int (-1)])), (tb, .inl (G.2.1, 240, .inl (upd (upd (upd (upd (upd (fun _ => 0) 0 (x623 &&& 255)) 1 (x627 &&& 255)) 2 (x631 &&& 255)) 3 (x635 &&& 255)) 4 (x639 &&& 255))))] := hD
      refine lv_iinc (v := 5) (lv' := [(4, .int 5), (0, .ref h0), (1, .long ei), (3, .int 6)]) hx hb dX11_feed_58 hl (k := 0) rfl (by decide) (by decide) rfl (fun ls hl => ?_)
      refine lv_goto (tgt := 33) hx hb dX11_feed_61 (by decide) ?_
      refine lv_iload hx hb dX11_feed_33 (lv_at hl 0 rfl) ?_
      refine lv_iload_n hx hb dX11_feed_35 rfl (lv_at hl 3 rfl) ?_
      refine lv_icmp_ge (tgt := 64) hx hb dX11_feed_36 (by decide) (fun c9 => absurd c9 (by decide)) (fun _ => ?_)
      refine lv_aload_n hx hb dX11_feed_39 rfl (lv_at hl 1 rfl) ?_
      refine gf_X11_58 hC rfl hK hP 0 rfl rfl dX11_feed_40 ?_
      refine lv_lload_n hx hb dX11_feed_43 rfl (lv_at hl 2 rfl) ?_
      refine lv_bipush (v := 8) hx hb dX11_feed_44 (by decide) ?_
      refine lv_iload hx hb dX11_feed_46 (lv_at hl 0 rfl) ?_
      refine lv_imul hx hb dX11_feed_48 ?_
      refine eqi (x1 := 40) (by decide) ?_
      refine lv_lushr hx hb dX11_feed_49 rfl ?_
      refine lv_topl (fun x642 _ => ?_)
      refine lv_l2i hx hb dX11_feed_50 rfl ?_
      refine lv_topi (fun x643 _ => ?_)
      refine lv_sipush (v := 255) hx hb dX11_feed_51 (by decide) ?_
      refine lv_iand hx hb dX11_feed_54 ?_
      refine vV (wr := [(h0, .inr (11, [.ref B, .ref K, .int 0, .ref S, .ref D, .ref R, .ref Ta, .ref Tp, .ref Ro, .ref Ho, .ref De]))]) hC hK hl hP hD hS hA (c_Tp_append5 l G Tp (x643 &&& 255) tb tl ts (upd (upd (upd (upd (upd (fun _ => 0) 0 (x623 &&& 255)) 1 (x627 &&& 255)) 2 (x631 &&& 255)) 3 (x635 &&& 255)) 4 (x639 &&& 255))) si_X11_225 [1, 2] [0] rfl rfl (by decide) rfl (by decide) (by decide) rfl rfl rfl rfl rfl (Nat.le_of_ble_eq_true rfl) ⟨Nat.le_of_ble_eq_true rfl, Nat.le_of_ble_eq_true rfl⟩ ⟨Nat.le_of_ble_eq_true rfl, Nat.le_of_ble_eq_true rfl⟩ dX11_feed_55 (fun u645 H locs hr644 hP hD hS => ?_)
      have hP : va_P G.1 vwCl [(h0, .inr (11, [.ref B, .ref K, .int 0, .ref S, .ref D, .ref R, .ref Ta, .ref Tp, .ref Ro, .ref Ho, .ref De])), (Tp, .inr (10, [.ref tb, .int 6, .ref tl, .ref ts, .int (-1), .int 0, .int 0, .int (-1)])), (tb, .inl (G.2.1, 240, .inl (upd (upd (upd (upd (upd (upd (fun _ => 0) 0 (x623 &&& 255)) 1 (x627 &&& 255)) 2 (x631 &&& 255)) 3 (x635 &&& 255)) 4 (x639 &&& 255)) 5 (x643 &&& 255))))] H := hP
      have hD : va_D A [(h0, .inr (11, [.ref B, .ref K, .int 0, .ref S, .ref D, .ref R, .ref Ta, .ref Tp, .ref Ro, .ref Ho, .ref De])), (Tp, .inr (10, [.ref tb, .int 6, .ref tl, .ref ts, .int (-1), .int 0, .int 0, .int (-1)])), (tb, .inl (G.2.1, 240, .inl (upd (upd (upd (upd (upd (upd (fun _ => 0) 0 (x623 &&& 255)) 1 (x627 &&& 255)) 2 (x631 &&& 255)) 3 (x635 &&& 255)) 4 (x639 &&& 255)) 5 (x643 &&& 255))))] := hD
      refine lv_iinc (v := 6) (lv' := [(4, .int 6), (0, .ref h0), (1, .long ei), (3, .int 6)]) hx hb dX11_feed_58 hl (k := 0) rfl (by decide) (by decide) rfl (fun ls hl => ?_)
      refine lv_goto (tgt := 33) hx hb dX11_feed_61 (by decide) ?_
      refine lv_iload hx hb dX11_feed_33 (lv_at hl 0 rfl) ?_
      refine lv_iload_n hx hb dX11_feed_35 rfl (lv_at hl 3 rfl) ?_
      refine lv_icmp_ge (tgt := 64) hx hb dX11_feed_36 (by decide) (fun _ => ?_) (fun c9 => absurd (by decide) c9)
      refine lv_aload_n hx hb dX11_feed_64 rfl (lv_at hl 1 rfl) ?_
      refine gf_X11_58 hC rfl hK hP 0 rfl rfl dX11_feed_65 ?_
      refine pV hC hK hl hP hD (c_Tp_count l G Tp tb 6 tl ts (-1) 0 0 (-1)) si_X11_224 [1] rfl rfl (by decide) rfl rfl rfl rfl rfl (Nat.le_of_ble_eq_true rfl) ⟨Nat.le_of_ble_eq_true rfl, Nat.le_of_ble_eq_true rfl⟩ ⟨by first | exact Nat.le_of_ble_eq_true rfl | exact Nat.zero_le _, by first | exact Nat.le_of_ble_eq_true rfl | exact Nat.zero_le _⟩ dX11_feed_68 (fun r646 hr646 => ?_)
      obtain rfl := hr646
      exact RI (v := 6) hC hP hD hS [] () rfl rfl (by decide) ((by unfold A_feed; first | rfl | (simp only [ifc_t a539]; done) | (simp only [ifc_t a539]; rfl))) rfl dX11_feed_71
    · refine lv_if_ne (tgt := 12) hx hb dX11_feed_7 (by decide) (fun _ => ?_) (fun c9 => absurd c9 (by decide))
      refine lv_aload_n hx hb dX11_feed_12 rfl (lv_at hl 0 rfl) ?_
      refine gf_X11_58 hC rfl hK hP 0 rfl rfl dX11_feed_13 ?_
      refine pV hC hK hl hP hD (c_Tp_count l G Tp tb 0 tl ts (-1) 0 0 (-1)) si_X11_224 [1] rfl rfl (by decide) rfl rfl rfl rfl rfl (Nat.le_of_ble_eq_true rfl) ⟨Nat.le_of_ble_eq_true rfl, Nat.le_of_ble_eq_true rfl⟩ ⟨by first | exact Nat.le_of_ble_eq_true rfl | exact Nat.zero_le _, by first | exact Nat.le_of_ble_eq_true rfl | exact Nat.zero_le _⟩ dX11_feed_16 (fun r648 hr648 => ?_)
      obtain rfl := hr648
      refine lv_iload_n hx hb dX11_feed_19 rfl (lv_at hl 2 rfl) ?_
      refine lv_iadd hx hb dX11_feed_20 ?_
      refine eqi (x1 := 7) (by decide) ?_
      refine lv_sipush (v := 240) hx hb dX11_feed_21 (by decide) ?_
      refine lv_icmp_le (tgt := 30) hx hb dX11_feed_24 (by decide) (fun _ => ?_) (fun c9 => absurd (by decide) c9)
      refine lv_iconst (v := 0) hx hb dX11_feed_30 (by decide) ?_
      refine lv_istore (lv' := [(4, .int 0), (0, .ref h0), (1, .long ei), (3, .int 7)]) hx hb dX11_feed_31 hl (by decide) rfl (fun ls hl => ?_)
      refine lv_iload hx hb dX11_feed_33 (lv_at hl 0 rfl) ?_
      refine lv_iload_n hx hb dX11_feed_35 rfl (lv_at hl 3 rfl) ?_
      refine lv_icmp_ge (tgt := 64) hx hb dX11_feed_36 (by decide) (fun c9 => absurd c9 (by decide)) (fun _ => ?_)
      refine lv_aload_n hx hb dX11_feed_39 rfl (lv_at hl 1 rfl) ?_
      refine gf_X11_58 hC rfl hK hP 0 rfl rfl dX11_feed_40 ?_
      refine lv_lload_n hx hb dX11_feed_43 rfl (lv_at hl 2 rfl) ?_
      refine lv_bipush (v := 8) hx hb dX11_feed_44 (by decide) ?_
      refine lv_iload hx hb dX11_feed_46 (lv_at hl 0 rfl) ?_
      refine lv_imul hx hb dX11_feed_48 ?_
      refine eqi (x1 := 0) (by decide) ?_
      refine lv_lushr hx hb dX11_feed_49 rfl ?_
      refine lv_topl (fun x650 _ => ?_)
      refine lv_l2i hx hb dX11_feed_50 rfl ?_
      refine lv_topi (fun x651 _ => ?_)
      refine lv_sipush (v := 255) hx hb dX11_feed_51 (by decide) ?_
      refine lv_iand hx hb dX11_feed_54 ?_
      refine vV (wr := [(h0, .inr (11, [.ref B, .ref K, .int 0, .ref S, .ref D, .ref R, .ref Ta, .ref Tp, .ref Ro, .ref Ho, .ref De]))]) hC hK hl hP hD hS hA (c_Tp_append0 l G Tp (x651 &&& 255) tb tl ts (fun _ => 0)) si_X11_225 [1, 2] [0] rfl rfl (by decide) rfl (by decide) (by decide) rfl rfl rfl rfl rfl (Nat.le_of_ble_eq_true rfl) ⟨Nat.le_of_ble_eq_true rfl, Nat.le_of_ble_eq_true rfl⟩ ⟨Nat.le_of_ble_eq_true rfl, Nat.le_of_ble_eq_true rfl⟩ dX11_feed_55 (fun u653 H locs hr652 hP hD hS => ?_)
      have hP : va_P G.1 vwCl [(h0, .inr (11, [.ref B, .ref K, .int 0, .ref S, .ref D, .ref R, .ref Ta, .ref Tp, .ref Ro, .ref Ho, .ref De])), (Tp, .inr (10, [.ref tb, .int 1, .ref tl, .ref ts, .int (-1), .int 0, .int 0, .int (-1)])), (tb, .inl (G.2.1, 240, .inl (upd (fun _ => 0) 0 (x651 &&& 255))))] H := hP
      have hD : va_D A [(h0, .inr (11, [.ref B, .ref K, .int 0, .ref S, .ref D, .ref R, .ref Ta, .ref Tp, .ref Ro, .ref Ho, .ref De])), (Tp, .inr (10, [.ref tb, .int 1, .ref tl, .ref ts, .int (-1), .int 0, .int 0, .int (-1)])), (tb, .inl (G.2.1, 240, .inl (upd (fun _ => 0) 0 (x651 &&& 255))))] := hD
      refine lv_iinc (v := 1) (lv' := [(4, .int 1), (0, .ref h0), (1, .long ei), (3, .int 7)]) hx hb dX11_feed_58 hl (k := 0) rfl (by decide) (by decide) rfl (fun ls hl => ?_)
      refine lv_goto (tgt := 33) hx hb dX11_feed_61 (by decide) ?_
      refine lv_iload hx hb dX11_feed_33 (lv_at hl 0 rfl) ?_
      refine lv_iload_n hx hb dX11_feed_35 rfl (lv_at hl 3 rfl) ?_
      refine lv_icmp_ge (tgt := 64) hx hb dX11_feed_36 (by decide) (fun c9 => absurd c9 (by decide)) (fun _ => ?_)
      refine lv_aload_n hx hb dX11_feed_39 rfl (lv_at hl 1 rfl) ?_
      refine gf_X11_58 hC rfl hK hP 0 rfl rfl dX11_feed_40 ?_
      refine lv_lload_n hx hb dX11_feed_43 rfl (lv_at hl 2 rfl) ?_
      refine lv_bipush (v := 8) hx hb dX11_feed_44 (by decide) ?_
      refine lv_iload hx hb dX11_feed_46 (lv_at hl 0 rfl) ?_
      refine lv_imul hx hb dX11_feed_48 ?_
      refine eqi (x1 := 8) (by decide) ?_
      refine lv_lushr hx hb dX11_feed_49 rfl ?_
      refine lv_topl (fun x654 _ => ?_)
      refine lv_l2i hx hb dX11_feed_50 rfl ?_
      refine lv_topi (fun x655 _ => ?_)
      refine lv_sipush (v := 255) hx hb dX11_feed_51 (by decide) ?_
      refine lv_iand hx hb dX11_feed_54 ?_
      refine vV (wr := [(h0, .inr (11, [.ref B, .ref K, .int 0, .ref S, .ref D, .ref R, .ref Ta, .ref Tp, .ref Ro, .ref Ho, .ref De]))]) hC hK hl hP hD hS hA (c_Tp_append1 l G Tp (x655 &&& 255) tb tl ts (upd (fun _ => 0) 0 (x651 &&& 255))) si_X11_225 [1, 2] [0] rfl rfl (by decide) rfl (by decide) (by decide) rfl rfl rfl rfl rfl (Nat.le_of_ble_eq_true rfl) ⟨Nat.le_of_ble_eq_true rfl, Nat.le_of_ble_eq_true rfl⟩ ⟨Nat.le_of_ble_eq_true rfl, Nat.le_of_ble_eq_true rfl⟩ dX11_feed_55 (fun u657 H locs hr656 hP hD hS => ?_)
      have hP : va_P G.1 vwCl [(h0, .inr (11, [.ref B, .ref K, .int 0, .ref S, .ref D, .ref R, .ref Ta, .ref Tp, .ref Ro, .ref Ho, .ref De])), (Tp, .inr (10, [.ref tb, .int 2, .ref tl, .ref ts, .int (-1), .int 0, .int 0, .int (-1)])), (tb, .inl (G.2.1, 240, .inl (upd (upd (fun _ => 0) 0 (x651 &&& 255)) 1 (x655 &&& 255))))] H := hP
      have hD : va_D A [(h0, .inr (11, [.ref B, .ref K, .int 0, .ref S, .ref D, .ref R, .ref Ta, .ref Tp, .ref Ro, .ref Ho, .ref De])), (Tp, .inr (10, [.ref tb, .int 2, .ref tl, .ref ts, .int (-1), .int 0, .int 0, .int (-1)])), (tb, .inl (G.2.1, 240, .inl (upd (upd (fun _ => 0) 0 (x651 &&& 255)) 1 (x655 &&& 255))))] := hD
      refine lv_iinc (v := 2) (lv' := [(4, .int 2), (0, .ref h0), (1, .long ei), (3, .int 7)]) hx hb dX11_feed_58 hl (k := 0) rfl (by decide) (by decide) rfl (fun ls hl => ?_)
      refine lv_goto (tgt := 33) hx hb dX11_feed_61 (by decide) ?_
      refine lv_iload hx hb dX11_feed_33 (lv_at hl 0 rfl) ?_
      refine lv_iload_n hx hb dX11_feed_35 rfl (lv_at hl 3 rfl) ?_
      refine lv_icmp_ge (tgt := 64) hx hb dX11_feed_36 (by decide) (fun c9 => absurd c9 (by decide)) (fun _ => ?_)
      refine lv_aload_n hx hb dX11_feed_39 rfl (lv_at hl 1 rfl) ?_
      refine gf_X11_58 hC rfl hK hP 0 rfl rfl dX11_feed_40 ?_
      refine lv_lload_n hx hb dX11_feed_43 rfl (lv_at hl 2 rfl) ?_
      refine lv_bipush (v := 8) hx hb dX11_feed_44 (by decide) ?_
      refine lv_iload hx hb dX11_feed_46 (lv_at hl 0 rfl) ?_
      refine lv_imul hx hb dX11_feed_48 ?_
      refine eqi (x1 := 16) (by decide) ?_
      refine lv_lushr hx hb dX11_feed_49 rfl ?_
      refine lv_topl (fun x658 _ => ?_)
      refine lv_l2i hx hb dX11_feed_50 rfl ?_
      refine lv_topi (fun x659 _ => ?_)
      refine lv_sipush (v := 255) hx hb dX11_feed_51 (by decide) ?_
      refine lv_iand hx hb dX11_feed_54 ?_
      refine vV (wr := [(h0, .inr (11, [.ref B, .ref K, .int 0, .ref S, .ref D, .ref R, .ref Ta, .ref Tp, .ref Ro, .ref Ho, .ref De]))]) hC hK hl hP hD hS hA (c_Tp_append2 l G Tp (x659 &&& 255) tb tl ts (upd (upd (fun _ => 0) 0 (x651 &&& 255)) 1 (x655 &&& 255))) si_X11_225 [1, 2] [0] rfl rfl (by decide) rfl (by decide) (by decide) rfl rfl rfl rfl rfl (Nat.le_of_ble_eq_true rfl) ⟨Nat.le_of_ble_eq_true rfl, Nat.le_of_ble_eq_true rfl⟩ ⟨Nat.le_of_ble_eq_true rfl, Nat.le_of_ble_eq_true rfl⟩ dX11_feed_55 (fun u661 H locs hr660 hP hD hS => ?_)
      have hP : va_P G.1 vwCl [(h0, .inr (11, [.ref B, .ref K, .int 0, .ref S, .ref D, .ref R, .ref Ta, .ref Tp, .ref Ro, .ref Ho, .ref De])), (Tp, .inr (10, [.ref tb, .int 3, .ref tl, .ref ts, .int (-1), .int 0, .int 0, .int (-1)])), (tb, .inl (G.2.1, 240, .inl (upd (upd (upd (fun _ => 0) 0 (x651 &&& 255)) 1 (x655 &&& 255)) 2 (x659 &&& 255))))] H := hP
      have hD : va_D A [(h0, .inr (11, [.ref B, .ref K, .int 0, .ref S, .ref D, .ref R, .ref Ta, .ref Tp, .ref Ro, .ref Ho, .ref De])), (Tp, .inr (10, [.ref tb, .int 3, .ref tl, .ref ts, .int (-1), .int 0, .int 0, .int (-1)])), (tb, .inl (G.2.1, 240, .inl (upd (upd (upd (fun _ => 0) 0 (x651 &&& 255)) 1 (x655 &&& 255)) 2 (x659 &&& 255))))] := hD
      refine lv_iinc (v := 3) (lv' := [(4, .int 3), (0, .ref h0), (1, .long ei), (3, .int 7)]) hx hb dX11_feed_58 hl (k := 0) rfl (by decide) (by decide) rfl (fun ls hl => ?_)
      refine lv_goto (tgt := 33) hx hb dX11_feed_61 (by decide) ?_
      refine lv_iload hx hb dX11_feed_33 (lv_at hl 0 rfl) ?_
      refine lv_iload_n hx hb dX11_feed_35 rfl (lv_at hl 3 rfl) ?_
      refine lv_icmp_ge (tgt := 64) hx hb dX11_feed_36 (by decide) (fun c9 => absurd c9 (by decide)) (fun _ => ?_)
      refine lv_aload_n hx hb dX11_feed_39 rfl (lv_at hl 1 rfl) ?_
      refine gf_X11_58 hC rfl hK hP 0 rfl rfl dX11_feed_40 ?_
      refine lv_lload_n hx hb dX11_feed_43 rfl (lv_at hl 2 rfl) ?_
      refine lv_bipush (v := 8) hx hb dX11_feed_44 (by decide) ?_
      refine lv_iload hx hb dX11_feed_46 (lv_at hl 0 rfl) ?_
      refine lv_imul hx hb dX11_feed_48 ?_
      refine eqi (x1 := 24) (by decide) ?_
      refine lv_lushr hx hb dX11_feed_49 rfl ?_
      refine lv_topl (fun x662 _ => ?_)
      refine lv_l2i hx hb dX11_feed_50 rfl ?_
      refine lv_topi (fun x663 _ => ?_)
      refine lv_sipush (v := 255) hx hb dX11_feed_51 (by decide) ?_
      refine lv_iand hx hb dX11_feed_54 ?_
      refine vV (wr := [(h0, .inr (11, [.ref B, .ref K, .int 0, .ref S, .ref D, .ref R, .ref Ta, .ref Tp, .ref Ro, .ref Ho, .ref De]))]) hC hK hl hP hD hS hA (c_Tp_append3 l G Tp (x663 &&& 255) tb tl ts (upd (upd (upd (fun _ => 0) 0 (x651 &&& 255)) 1 (x655 &&& 255)) 2 (x659 &&& 255))) si_X11_225 [1, 2] [0] rfl rfl (by decide) rfl (by decide) (by decide) rfl rfl rfl rfl rfl (Nat.le_of_ble_eq_true rfl) ⟨Nat.le_of_ble_eq_true rfl, Nat.le_of_ble_eq_true rfl⟩ ⟨Nat.le_of_ble_eq_true rfl, Nat.le_of_ble_eq_true rfl⟩ dX11_feed_55 (fun u665 H locs hr664 hP hD hS => ?_)
      have hP : va_P G.1 vwCl [(h0, .inr (11, [.ref B, .ref K, .int 0, .ref S, .ref D, .ref R, .ref Ta, .ref Tp, .ref Ro, .ref Ho, .ref De])), (Tp, .inr (10, [.ref tb, .int 4, .ref tl, .ref ts, .int (-1), .int 0, .int 0, .int (-1)])), (tb, .inl (G.2.1, 240, .inl (upd (upd (upd (upd (fun _ => 0) 0 (x651 &&& 255)) 1 (x655 &&& 255)) 2 (x659 &&& 255)) 3 (x663 &&& 255))))] H := hP
      have hD : va_D A [(h0, .inr (11, [.ref B, .ref K, .int 0, .ref S, .ref D, .ref R, .ref Ta, .ref Tp, .ref Ro, .ref Ho, .ref De])), (Tp, .inr (10, [.ref tb, .int 4, .ref tl, .ref ts, .int (-1), .int 0, .int 0, .int (-1)])), (tb, .inl (G.2.1, 240, .inl (upd (upd (upd (upd (fun _ => 0) 0 (x651 &&& 255)) 1 (x655 &&& 255)) 2 (x659 &&& 255)) 3 (x663 &&& 255))))] := hD
      refine lv_iinc (v := 4) (lv' := [(4, .int 4), (0, .ref h0), (1, .long ei), (3, .int 7)]) hx hb dX11_feed_58 hl (k := 0) rfl (by decide) (by decide) rfl (fun ls hl => ?_)
      refine lv_goto (tgt := 33) hx hb dX11_feed_61 (by decide) ?_
      refine lv_iload hx hb dX11_feed_33 (lv_at hl 0 rfl) ?_
      refine lv_iload_n hx hb dX11_feed_35 rfl (lv_at hl 3 rfl) ?_
      refine lv_icmp_ge (tgt := 64) hx hb dX11_feed_36 (by decide) (fun c9 => absurd c9 (by decide)) (fun _ => ?_)
      refine lv_aload_n hx hb dX11_feed_39 rfl (lv_at hl 1 rfl) ?_
      refine gf_X11_58 hC rfl hK hP 0 rfl rfl dX11_feed_40 ?_
      refine lv_lload_n hx hb dX11_feed_43 rfl (lv_at hl 2 rfl) ?_
      refine lv_bipush (v := 8) hx hb dX11_feed_44 (by decide) ?_
      refine lv_iload hx hb dX11_feed_46 (lv_at hl 0 rfl) ?_
      refine lv_imul hx hb dX11_feed_48 ?_
      refine eqi (x1 := 32) (by decide) ?_
      refine lv_lushr hx hb dX11_feed_49 rfl ?_
      refine lv_topl (fun x666 _ => ?_)
      refine lv_l2i hx hb dX11_feed_50 rfl ?_
      refine lv_topi (fun x667 _ => ?_)
      refine lv_sipush (v := 255) hx hb dX11_feed_51 (by decide) ?_
      refine lv_iand hx hb dX11_feed_54 ?_
      refine vV (wr := [(h0, .inr (11, [.ref B, .ref K, .int 0, .ref S, .ref D, .ref R, .ref Ta, .ref Tp, .ref Ro, .ref Ho, .ref De]))]) hC hK hl hP hD hS hA (c_Tp_append4 l G Tp (x667 &&& 255) tb tl ts (upd (upd (upd (upd (fun _ => 0) 0 (x651 &&& 255)) 1 (x655 &&& 255)) 2 (x659 &&& 255)) 3 (x663 &&& 255))) si_X11_225 [1, 2] [0] rfl rfl (by decide) rfl (by decide) (by decide) rfl rfl rfl rfl rfl (Nat.le_of_ble_eq_true rfl) ⟨Nat.le_of_ble_eq_true rfl, Nat.le_of_ble_eq_true rfl⟩ ⟨Nat.le_of_ble_eq_true rfl, Nat.le_of_ble_eq_true rfl⟩ dX11_feed_55 (fun u669 H locs hr668 hP hD hS => ?_)
      have hP : va_P G.1 vwCl [(h0, .inr (11, [.ref B, .ref K, .int 0, .ref S, .ref D, .ref R, .ref Ta, .ref Tp, .ref Ro, .ref Ho, .ref De])), (Tp, .inr (10, [.ref tb, .int 5, .ref tl, .ref ts, .int (-1), .int 0, .int 0, .int (-1)])), (tb, .inl (G.2.1, 240, .inl (upd (upd (upd (upd (upd (fun _ => 0) 0 (x651 &&& 255)) 1 (x655 &&& 255)) 2 (x659 &&& 255)) 3 (x663 &&& 255)) 4 (x667 &&& 255))))] H := hP
      have hD : va_D A [(h0, .inr (11, [.ref B, .ref K, .int 0, .ref S, .ref D, .ref R, .ref Ta, .ref Tp, .ref Ro, .ref Ho, .ref De])), (Tp, .inr (10, [.ref tb, .int 5, .ref tl, .ref ts, .int (-1), .int 0, .int 0, .int (-1)])), (tb, .inl (G.2.1, 240, .inl (upd (upd (upd (upd (upd (fun _ => 0) 0 (x651 &&& 255)) 1 (x655 &&& 255)) 2 (x659 &&& 255)) 3 (x663 &&& 255)) 4 (x667 &&& 255))))] := hD
      refine lv_iinc (v := 5) (lv' := [(4, .int 5), (0, .ref h0), (1, .long ei), (3, .int 7)]) hx hb dX11_feed_58 hl (k := 0) rfl (by decide) (by decide) rfl (fun ls hl => ?_)
      refine lv_goto (tgt := 33) hx hb dX11_feed_61 (by decide) ?_
      refine lv_iload hx hb dX11_feed_33 (lv_at hl 0 rfl) ?_
      refine lv_iload_n hx hb dX11_feed_35 rfl (lv_at hl 3 rfl) ?_
      refine lv_icmp_ge (tgt := 64) hx hb dX11_feed_36 (by decide) (fun c9 => absurd c9 (by decide)) (fun _ => ?_)
      refine lv_aload_n hx hb dX11_feed_39 rfl (lv_at hl 1 rfl) ?_
      refine gf_X11_58 hC rfl hK hP 0 rfl rfl dX11_feed_40 ?_
      refine lv_lload_n hx hb dX11_feed_43 rfl (lv_at hl 2 rfl) ?_
      refine lv_bipush (v := 8) hx hb dX11_feed_44 (by decide) ?_
      refine lv_iload hx hb dX11_feed_46 (lv_at hl 0 rfl) ?_
      refine lv_imul hx hb dX11_feed_48 ?_
      refine eqi (x1 := 40) (by decide) ?_
      refine lv_lushr hx hb dX11_feed_49 rfl ?_
      refine lv_topl (fun x670 _ => ?_)
      refine lv_l2i hx hb dX11_feed_50 rfl ?_
      refine lv_topi (fun x671 _ => ?_)
      refine lv_sipush (v := 255) hx hb dX11_feed_51 (by decide) ?_
      refine lv_iand hx hb dX11_feed_54 ?_
      refine vV (wr := [(h0, .inr (11, [.ref B, .ref K, .int 0, .ref S, .ref D, .ref R, .ref Ta, .ref Tp, .ref Ro, .ref Ho, .ref De]))]) hC hK hl hP hD hS hA (c_Tp_append5 l G Tp (x671 &&& 255) tb tl ts (upd (upd (upd (upd (upd (fun _ => 0) 0 (x651 &&& 255)) 1 (x655 &&& 255)) 2 (x659 &&& 255)) 3 (x663 &&& 255)) 4 (x667 &&& 255))) si_X11_225 [1, 2] [0] rfl rfl (by decide) rfl (by decide) (by decide) rfl rfl rfl rfl rfl (Nat.le_of_ble_eq_true rfl) ⟨Nat.le_of_ble_eq_true rfl, Nat.le_of_ble_eq_true rfl⟩ ⟨Nat.le_of_ble_eq_true rfl, Nat.le_of_ble_eq_true rfl⟩ dX11_feed_55 (fun u673 H locs hr672 hP hD hS => ?_)
      have hP : va_P G.1 vwCl [(h0, .inr (11, [.ref B, .ref K, .int 0, .ref S, .ref D, .ref R, .ref Ta, .ref Tp, .ref Ro, .ref Ho, .ref De])), (Tp, .inr (10, [.ref tb, .int 6, .ref tl, .ref ts, .int (-1), .int 0, .int 0, .int (-1)])), (tb, .inl (G.2.1, 240, .inl (upd (upd (upd (upd (upd (upd (fun _ => 0) 0 (x651 &&& 255)) 1 (x655 &&& 255)) 2 (x659 &&& 255)) 3 (x663 &&& 255)) 4 (x667 &&& 255)) 5 (x671 &&& 255))))] H := hP
      have hD : va_D A [(h0, .inr (11, [.ref B, .ref K, .int 0, .ref S, .ref D, .ref R, .ref Ta, .ref Tp, .ref Ro, .ref Ho, .ref De])), (Tp, .inr (10, [.ref tb, .int 6, .ref tl, .ref ts, .int (-1), .int 0, .int 0, .int (-1)])), (tb, .inl (G.2.1, 240, .inl (upd (upd (upd (upd (upd (upd (fun _ => 0) 0 (x651 &&& 255)) 1 (x655 &&& 255)) 2 (x659 &&& 255)) 3 (x663 &&& 255)) 4 (x667 &&& 255)) 5 (x671 &&& 255))))] := hD
      refine lv_iinc (v := 6) (lv' := [(4, .int 6), (0, .ref h0), (1, .long ei), (3, .int 7)]) hx hb dX11_feed_58 hl (k := 0) rfl (by decide) (by decide) rfl (fun ls hl => ?_)
      refine lv_goto (tgt := 33) hx hb dX11_feed_61 (by decide) ?_
      refine lv_iload hx hb dX11_feed_33 (lv_at hl 0 rfl) ?_
      refine lv_iload_n hx hb dX11_feed_35 rfl (lv_at hl 3 rfl) ?_
      refine lv_icmp_ge (tgt := 64) hx hb dX11_feed_36 (by decide) (fun c9 => absurd c9 (by decide)) (fun _ => ?_)
      refine lv_aload_n hx hb dX11_feed_39 rfl (lv_at hl 1 rfl) ?_
      refine gf_X11_58 hC rfl hK hP 0 rfl rfl dX11_feed_40 ?_
      refine lv_lload_n hx hb dX11_feed_43 rfl (lv_at hl 2 rfl) ?_
      refine lv_bipush (v := 8) hx hb dX11_feed_44 (by decide) ?_
      refine lv_iload hx hb dX11_feed_46 (lv_at hl 0 rfl) ?_
      refine lv_imul hx hb dX11_feed_48 ?_
      refine eqi (x1 := 48) (by decide) ?_
      refine lv_lushr hx hb dX11_feed_49 rfl ?_
      refine lv_topl (fun x674 _ => ?_)
      refine lv_l2i hx hb dX11_feed_50 rfl ?_
      refine lv_topi (fun x675 _ => ?_)
      refine lv_sipush (v := 255) hx hb dX11_feed_51 (by decide) ?_
      refine lv_iand hx hb dX11_feed_54 ?_
      refine vV (wr := [(h0, .inr (11, [.ref B, .ref K, .int 0, .ref S, .ref D, .ref R, .ref Ta, .ref Tp, .ref Ro, .ref Ho, .ref De]))]) hC hK hl hP hD hS hA (c_Tp_append6 l G Tp (x675 &&& 255) tb tl ts (upd (upd (upd (upd (upd (upd (fun _ => 0) 0 (x651 &&& 255)) 1 (x655 &&& 255)) 2 (x659 &&& 255)) 3 (x663 &&& 255)) 4 (x667 &&& 255)) 5 (x671 &&& 255))) si_X11_225 [1, 2] [0] rfl rfl (by decide) rfl (by decide) (by decide) rfl rfl rfl rfl rfl (Nat.le_of_ble_eq_true rfl) ⟨Nat.le_of_ble_eq_true rfl, Nat.le_of_ble_eq_true rfl⟩ ⟨Nat.le_of_ble_eq_true rfl, Nat.le_of_ble_eq_true rfl⟩ dX11_feed_55 (fun u677 H locs hr676 hP hD hS => ?_)
      have hP : va_P G.1 vwCl [(h0, .inr (11, [.ref B, .ref K, .int 0, .ref S, .ref D, .ref R, .ref Ta, .ref Tp, .ref Ro, .ref Ho, .ref De])), (Tp, .inr (10, [.ref tb, .int 7, .ref tl, .ref ts, .int (-1), .int 0, .int 0, .int (-1)])), (tb, .inl (G.2.1, 240, .inl (upd (upd (upd (upd (upd (upd (upd (fun _ => 0) 0 (x651 &&& 255)) 1 (x655 &&& 255)) 2 (x659 &&& 255)) 3 (x663 &&& 255)) 4 (x667 &&& 255)) 5 (x671 &&& 255)) 6 (x675 &&& 255))))] H := hP
      have hD : va_D A [(h0, .inr (11, [.ref B, .ref K, .int 0, .ref S, .ref D, .ref R, .ref Ta, .ref Tp, .ref Ro, .ref Ho, .ref De])), (Tp, .inr (10, [.ref tb, .int 7, .ref tl, .ref ts, .int (-1), .int 0, .int 0, .int (-1)])), (tb, .inl (G.2.1, 240, .inl (upd (upd (upd (upd (upd (upd (upd (fun _ => 0) 0 (x651 &&& 255)) 1 (x655 &&& 255)) 2 (x659 &&& 255)) 3 (x663 &&& 255)) 4 (x667 &&& 255)) 5 (x671 &&& 255)) 6 (x675 &&& 255))))] := hD
      refine lv_iinc (v := 7) (lv' := [(4, .int 7), (0, .ref h0), (1, .long ei), (3, .int 7)]) hx hb dX11_feed_58 hl (k := 0) rfl (by decide) (by decide) rfl (fun ls hl => ?_)
      refine lv_goto (tgt := 33) hx hb dX11_feed_61 (by decide) ?_
      refine lv_iload hx hb dX11_feed_33 (lv_at hl 0 rfl) ?_
      refine lv_iload_n hx hb dX11_feed_35 rfl (lv_at hl 3 rfl) ?_
      refine lv_icmp_ge (tgt := 64) hx hb dX11_feed_36 (by decide) (fun _ => ?_) (fun c9 => absurd (by decide) c9)
      refine lv_aload_n hx hb dX11_feed_64 rfl (lv_at hl 1 rfl) ?_
      refine gf_X11_58 hC rfl hK hP 0 rfl rfl dX11_feed_65 ?_
      refine pV hC hK hl hP hD (c_Tp_count l G Tp tb 7 tl ts (-1) 0 0 (-1)) si_X11_224 [1] rfl rfl (by decide) rfl rfl rfl rfl rfl (Nat.le_of_ble_eq_true rfl) ⟨Nat.le_of_ble_eq_true rfl, Nat.le_of_ble_eq_true rfl⟩ ⟨by first | exact Nat.le_of_ble_eq_true rfl | exact Nat.zero_le _, by first | exact Nat.le_of_ble_eq_true rfl | exact Nat.zero_le _⟩ dX11_feed_68 (fun r678 hr678 => ?_)
      obtain rfl := hr678
      exact RI (v := 7) hC hP hD hS [] () rfl rfl (by decide) ((by unfold A_feed; first | rfl | (simp only [ifc_t a539]; done) | (simp only [ifc_t a539]; rfl))) rfl dX11_feed_71
    · refine lv_if_ne (tgt := 12) hx hb dX11_feed_7 (by decide) (fun _ => ?_) (fun c9 => absurd c9 (by decide))
      refine lv_aload_n hx hb dX11_feed_12 rfl (lv_at hl 0 rfl) ?_
      refine gf_X11_58 hC rfl hK hP 0 rfl rfl dX11_feed_13 ?_
      refine pV hC hK hl hP hD (c_Tp_count l G Tp tb 0 tl ts (-1) 0 0 (-1)) si_X11_224 [1] rfl rfl (by decide) rfl rfl rfl rfl rfl (Nat.le_of_ble_eq_true rfl) ⟨Nat.le_of_ble_eq_true rfl, Nat.le_of_ble_eq_true rfl⟩ ⟨by first | exact Nat.le_of_ble_eq_true rfl | exact Nat.zero_le _, by first | exact Nat.le_of_ble_eq_true rfl | exact Nat.zero_le _⟩ dX11_feed_16 (fun r680 hr680 => ?_)
      obtain rfl := hr680
      refine lv_iload_n hx hb dX11_feed_19 rfl (lv_at hl 2 rfl) ?_
      refine lv_iadd hx hb dX11_feed_20 ?_
      refine eqi (x1 := 8) (by decide) ?_
      refine lv_sipush (v := 240) hx hb dX11_feed_21 (by decide) ?_
      refine lv_icmp_le (tgt := 30) hx hb dX11_feed_24 (by decide) (fun _ => ?_) (fun c9 => absurd (by decide) c9)
      refine lv_iconst (v := 0) hx hb dX11_feed_30 (by decide) ?_
      refine lv_istore (lv' := [(4, .int 0), (0, .ref h0), (1, .long ei), (3, .int 8)]) hx hb dX11_feed_31 hl (by decide) rfl (fun ls hl => ?_)
      refine lv_iload hx hb dX11_feed_33 (lv_at hl 0 rfl) ?_
      refine lv_iload_n hx hb dX11_feed_35 rfl (lv_at hl 3 rfl) ?_
      refine lv_icmp_ge (tgt := 64) hx hb dX11_feed_36 (by decide) (fun c9 => absurd c9 (by decide)) (fun _ => ?_)
      refine lv_aload_n hx hb dX11_feed_39 rfl (lv_at hl 1 rfl) ?_
      refine gf_X11_58 hC rfl hK hP 0 rfl rfl dX11_feed_40 ?_
      refine lv_lload_n hx hb dX11_feed_43 rfl (lv_at hl 2 rfl) ?_
      refine lv_bipush (v := 8) hx hb dX11_feed_44 (by decide) ?_
      refine lv_iload hx hb dX11_feed_46 (lv_at hl 0 rfl) ?_
      refine lv_imul hx hb dX11_feed_48 ?_
      refine eqi (x1 := 0) (by decide) ?_
      refine lv_lushr hx hb dX11_feed_49 rfl ?_
      refine lv_topl (fun x682 _ => ?_)
      refine lv_l2i hx hb dX11_feed_50 rfl ?_
      refine lv_topi (fun x683 _ => ?_)
      refine lv_sipush (v := 255) hx hb dX11_feed_51 (by decide) ?_
      refine lv_iand hx hb dX11_feed_54 ?_
      refine vV (wr := [(h0, .inr (11, [.ref B, .ref K, .int 0, .ref S, .ref D, .ref R, .ref Ta, .ref Tp, .ref Ro, .ref Ho, .ref De]))]) hC hK hl hP hD hS hA (c_Tp_append0 l G Tp (x683 &&& 255) tb tl ts (fun _ => 0)) si_X11_225 [1, 2] [0] rfl rfl (by decide) rfl (by decide) (by decide) rfl rfl rfl rfl rfl (Nat.le_of_ble_eq_true rfl) ⟨Nat.le_of_ble_eq_true rfl, Nat.le_of_ble_eq_true rfl⟩ ⟨Nat.le_of_ble_eq_true rfl, Nat.le_of_ble_eq_true rfl⟩ dX11_feed_55 (fun u685 H locs hr684 hP hD hS => ?_)
      have hP : va_P G.1 vwCl [(h0, .inr (11, [.ref B, .ref K, .int 0, .ref S, .ref D, .ref R, .ref Ta, .ref Tp, .ref Ro, .ref Ho, .ref De])), (Tp, .inr (10, [.ref tb, .int 1, .ref tl, .ref ts, .int (-1), .int 0, .int 0, .int (-1)])), (tb, .inl (G.2.1, 240, .inl (upd (fun _ => 0) 0 (x683 &&& 255))))] H := hP
      have hD : va_D A [(h0, .inr (11, [.ref B, .ref K, .int 0, .ref S, .ref D, .ref R, .ref Ta, .ref Tp, .ref Ro, .ref Ho, .ref De])), (Tp, .inr (10, [.ref tb, .int 1, .ref tl, .ref ts, .int (-1), .int 0, .int 0, .int (-1)])), (tb, .inl (G.2.1, 240, .inl (upd (fun _ => 0) 0 (x683 &&& 255))))] := hD
      refine lv_iinc (v := 1) (lv' := [(4, .int 1), (0, .ref h0), (1, .long ei), (3, .int 8)]) hx hb dX11_feed_58 hl (k := 0) rfl (by decide) (by decide) rfl (fun ls hl => ?_)
      refine lv_goto (tgt := 33) hx hb dX11_feed_61 (by decide) ?_
      refine lv_iload hx hb dX11_feed_33 (lv_at hl 0 rfl) ?_
      refine lv_iload_n hx hb dX11_feed_35 rfl (lv_at hl 3 rfl) ?_
      refine lv_icmp_ge (tgt := 64) hx hb dX11_feed_36 (by decide) (fun c9 => absurd c9 (by decide)) (fun _ => ?_)
      refine lv_aload_n hx hb dX11_feed_39 rfl (lv_at hl 1 rfl) ?_
      refine gf_X11_58 hC rfl hK hP 0 rfl rfl dX11_feed_40 ?_
      refine lv_lload_n hx hb dX11_feed_43 rfl (lv_at hl 2 rfl) ?_
      refine lv_bipush (v := 8) hx hb dX11_feed_44 (by decide) ?_
      refine lv_iload hx hb dX11_feed_46 (lv_at hl 0 rfl) ?_
      refine lv_imul hx hb dX11_feed_48 ?_
      refine eqi (x1 := 8) (by decide) ?_
      refine lv_lushr hx hb dX11_feed_49 rfl ?_
      refine lv_topl (fun x686 _ => ?_)
      refine lv_l2i hx hb dX11_feed_50 rfl ?_
      refine lv_topi (fun x687 _ => ?_)
      refine lv_sipush (v := 255) hx hb dX11_feed_51 (by decide) ?_
      refine lv_iand hx hb dX11_feed_54 ?_
      refine vV (wr := [(h0, .inr (11, [.ref B, .ref K, .int 0, .ref S, .ref D, .ref R, .ref Ta, .ref Tp, .ref Ro, .ref Ho, .ref De]))]) hC hK hl hP hD hS hA (c_Tp_append1 l G Tp (x687 &&& 255) tb tl ts (upd (fun _ => 0) 0 (x683 &&& 255))) si_X11_225 [1, 2] [0] rfl rfl (by decide) rfl (by decide) (by decide) rfl rfl rfl rfl rfl (Nat.le_of_ble_eq_true rfl) ⟨Nat.le_of_ble_eq_true rfl, Nat.le_of_ble_eq_true rfl⟩ ⟨Nat.le_of_ble_eq_true rfl, Nat.le_of_ble_eq_true rfl⟩ dX11_feed_55 (fun u689 H locs hr688 hP hD hS => ?_)
      have hP : va_P G.1 vwCl [(h0, .inr (11, [.ref B, .ref K, .int 0, .ref S, .ref D, .ref R, .ref Ta, .ref Tp, .ref Ro, .ref Ho, .ref De])), (Tp, .inr (10, [.ref tb, .int 2, .ref tl, .ref ts, .int (-1), .int 0, .int 0, .int (-1)])), (tb, .inl (G.2.1, 240, .inl (upd (upd (fun _ => 0) 0 (x683 &&& 255)) 1 (x687 &&& 255))))] H := hP
      have hD : va_D A [(h0, .inr (11, [.ref B, .ref K, .int 0, .ref S, .ref D, .ref R, .ref Ta, .ref Tp, .ref Ro, .ref Ho, .ref De])), (Tp, .inr (10, [.ref tb, .int 2, .ref tl, .ref ts, .int (-1), .int 0, .int 0, .int (-1)])), (tb, .inl (G.2.1, 240, .inl (upd (upd (fun _ => 0) 0 (x683 &&& 255)) 1 (x687 &&& 255))))] := hD
      refine lv_iinc (v := 2) (lv' := [(4, .int 2), (0, .ref h0), (1, .long ei), (3, .int 8)]) hx hb dX11_feed_58 hl (k := 0) rfl (by decide) (by decide) rfl (fun ls hl => ?_)
      refine lv_goto (tgt := 33) hx hb dX11_feed_61 (by decide) ?_
      refine lv_iload hx hb dX11_feed_33 (lv_at hl 0 rfl) ?_
      refine lv_iload_n hx hb dX11_feed_35 rfl (lv_at hl 3 rfl) ?_
      refine lv_icmp_ge (tgt := 64) hx hb dX11_feed_36 (by decide) (fun c9 => absurd c9 (by decide)) (fun _ => ?_)
      refine lv_aload_n hx hb dX11_feed_39 rfl (lv_at hl 1 rfl) ?_
      refine gf_X11_58 hC rfl hK hP 0 rfl rfl dX11_feed_40 ?_
      refine lv_lload_n hx hb dX11_feed_43 rfl (lv_at hl 2 rfl) ?_
      refine lv_bipush (v := 8) hx hb dX11_feed_44 (by decide) ?_
      refine lv_iload hx hb dX11_feed_46 (lv_at hl 0 rfl) ?_
      refine lv_imul hx hb dX11_feed_48 ?_
      refine eqi (x1 := 16) (by decide) ?_
      refine lv_lushr hx hb dX11_feed_49 rfl ?_
      refine lv_topl (fun x690 _ => ?_)
      refine lv_l2i hx hb dX11_feed_50 rfl ?_
      refine lv_topi (fun x691 _ => ?_)
      refine lv_sipush (v := 255) hx hb dX11_feed_51 (by decide) ?_
      refine lv_iand hx hb dX11_feed_54 ?_
      refine vV (wr := [(h0, .inr (11, [.ref B, .ref K, .int 0, .ref S, .ref D, .ref R, .ref Ta, .ref Tp, .ref Ro, .ref Ho, .ref De]))]) hC hK hl hP hD hS hA (c_Tp_append2 l G Tp (x691 &&& 255) tb tl ts (upd (upd (fun _ => 0) 0 (x683 &&& 255)) 1 (x687 &&& 255))) si_X11_225 [1, 2] [0] rfl rfl (by decide) rfl (by decide) (by decide) rfl rfl rfl rfl rfl (Nat.le_of_ble_eq_true rfl) ⟨Nat.le_of_ble_eq_true rfl, Nat.le_of_ble_eq_true rfl⟩ ⟨Nat.le_of_ble_eq_true rfl, Nat.le_of_ble_eq_true rfl⟩ dX11_feed_55 (fun u693 H locs hr692 hP hD hS => ?_)
      have hP : va_P G.1 vwCl [(h0, .inr (11, [.ref B, .ref K, .int 0, .ref S, .ref D, .ref R, .ref Ta, .ref Tp, .ref Ro, .ref Ho, .ref De])), (Tp, .inr (10, [.ref tb, .int 3, .ref tl, .ref ts, .int (-1), .int 0, .int 0, .int (-1)])), (tb, .inl (G.2.1, 240, .inl (upd (upd (upd (fun _ => 0) 0 (x683 &&& 255)) 1 (x687 &&& 255)) 2 (x691 &&& 255))))] H := hP
      have hD : va_D A [(h0, .inr (11, [.ref B, .ref K, .int 0, .ref S, .ref D, .ref R, .ref Ta, .ref Tp, .ref Ro, .ref Ho, .ref De])), (Tp, .inr (10, [.ref tb, .int 3, .ref tl, .ref ts, .int (-1), .int 0, .int 0, .int (-1)])), (tb, .inl (G.2.1, 240, .inl (upd (upd (upd (fun _ => 0) 0 (x683 &&& 255)) 1 (x687 &&& 255)) 2 (x691 &&& 255))))] := hD
      refine lv_iinc (v := 3) (lv' := [(4, .int 3), (0, .ref h0), (1, .long ei), (3, .int 8)]) hx hb dX11_feed_58 hl (k := 0) rfl (by decide) (by decide) rfl (fun ls hl => ?_)
      refine lv_goto (tgt := 33) hx hb dX11_feed_61 (by decide) ?_
      refine lv_iload hx hb dX11_feed_33 (lv_at hl 0 rfl) ?_
      refine lv_iload_n hx hb dX11_feed_35 rfl (lv_at hl 3 rfl) ?_
      refine lv_icmp_ge (tgt := 64) hx hb dX11_feed_36 (by decide) (fun c9 => absurd c9 (by decide)) (fun _ => ?_)
      refine lv_aload_n hx hb dX11_feed_39 rfl (lv_at hl 1 rfl) ?_
      refine gf_X11_58 hC rfl hK hP 0 rfl rfl dX11_feed_40 ?_
      refine lv_lload_n hx hb dX11_feed_43 rfl (lv_at hl 2 rfl) ?_
      refine lv_bipush (v := 8) hx hb dX11_feed_44 (by decide) ?_
      refine lv_iload hx hb dX11_feed_46 (lv_at hl 0 rfl) ?_
      refine lv_imul hx hb dX11_feed_48 ?_
      refine eqi (x1 := 24) (by decide) ?_
      refine lv_lushr hx hb dX11_feed_49 rfl ?_
      refine lv_topl (fun x694 _ => ?_)
      refine lv_l2i hx hb dX11_feed_50 rfl ?_
      refine lv_topi (fun x695 _ => ?_)
      refine lv_sipush (v := 255) hx hb dX11_feed_51 (by decide) ?_
      refine lv_iand hx hb dX11_feed_54 ?_
      refine vV (wr := [(h0, .inr (11, [.ref B, .ref K, .int 0, .ref S, .ref D, .ref R, .ref Ta, .ref Tp, .ref Ro, .ref Ho, .ref De]))]) hC hK hl hP hD hS hA (c_Tp_append3 l G Tp (x695 &&& 255) tb tl ts (upd (upd (upd (fun _ => 0) 0 (x683 &&& 255)) 1 (x687 &&& 255)) 2 (x691 &&& 255))) si_X11_225 [1, 2] [0] rfl rfl (by decide) rfl (by decide) (by decide) rfl rfl rfl rfl rfl (Nat.le_of_ble_eq_true rfl) ⟨Nat.le_of_ble_eq_true rfl, Nat.le_of_ble_eq_true rfl⟩ ⟨Nat.le_of_ble_eq_true rfl, Nat.le_of_ble_eq_true rfl⟩ dX11_feed_55 (fun u697 H locs hr696 hP hD hS => ?_)
      have hP : va_P G.1 vwCl [(h0, .inr (11, [.ref B, .ref K, .int 0, .ref S, .ref D, .ref R, .ref Ta, .ref Tp, .ref Ro, .ref Ho, .ref De])), (Tp, .inr (10, [.ref tb, .int 4, .ref tl, .ref ts, .int (-1), .int 0, .int 0, .int (-1)])), (tb, .inl (G.2.1, 240, .inl (upd (upd (upd (upd (fun _ => 0) 0 (x683 &&& 255)) 1 (x687 &&& 255)) 2 (x691 &&& 255)) 3 (x695 &&& 255))))] H := hP
      have hD : va_D A [(h0, .inr (11, [.ref B, .ref K, .int 0, .ref S, .ref D, .ref R, .ref Ta, .ref Tp, .ref Ro, .ref Ho, .ref De])), (Tp, .inr (10, [.ref tb, .int 4, .ref tl, .ref ts, .int (-1), .int 0, .int 0, .int (-1)])), (tb, .inl (G.2.1, 240, .inl (upd (upd (upd (upd (fun _ => 0) 0 (x683 &&& 255)) 1 (x687 &&& 255)) 2 (x691 &&& 255)) 3 (x695 &&& 255))))] := hD
      refine lv_iinc (v := 4) (lv' := [(4, .int 4), (0, .ref h0), (1, .long ei), (3, .int 8)]) hx hb dX11_feed_58 hl (k := 0) rfl (by decide) (by decide) rfl (fun ls hl => ?_)
      refine lv_goto (tgt := 33) hx hb dX11_feed_61 (by decide) ?_
      refine lv_iload hx hb dX11_feed_33 (lv_at hl 0 rfl) ?_
      refine lv_iload_n hx hb dX11_feed_35 rfl (lv_at hl 3 rfl) ?_
      refine lv_icmp_ge (tgt := 64) hx hb dX11_feed_36 (by decide) (fun c9 => absurd c9 (by decide)) (fun _ => ?_)
      refine lv_aload_n hx hb dX11_feed_39 rfl (lv_at hl 1 rfl) ?_
      refine gf_X11_58 hC rfl hK hP 0 rfl rfl dX11_feed_40 ?_
      refine lv_lload_n hx hb dX11_feed_43 rfl (lv_at hl 2 rfl) ?_
      refine lv_bipush (v := 8) hx hb dX11_feed_44 (by decide) ?_
      refine lv_iload hx hb dX11_feed_46 (lv_at hl 0 rfl) ?_
      refine lv_imul hx hb dX11_feed_48 ?_
      refine eqi (x1 := 32) (by decide) ?_
      refine lv_lushr hx hb dX11_feed_49 rfl ?_
      refine lv_topl (fun x698 _ => ?_)
      refine lv_l2i hx hb dX11_feed_50 rfl ?_
      refine lv_topi (fun x699 _ => ?_)
      refine lv_sipush (v := 255) hx hb dX11_feed_51 (by decide) ?_
      refine lv_iand hx hb dX11_feed_54 ?_
      refine vV (wr := [(h0, .inr (11, [.ref B, .ref K, .int 0, .ref S, .ref D, .ref R, .ref Ta, .ref Tp, .ref Ro, .ref Ho, .ref De]))]) hC hK hl hP hD hS hA (c_Tp_append4 l G Tp (x699 &&& 255) tb tl ts (upd (upd (upd (upd (fun _ => 0) 0 (x683 &&& 255)) 1 (x687 &&& 255)) 2 (x691 &&& 255)) 3 (x695 &&& 255))) si_X11_225 [1, 2] [0] rfl rfl (by decide) rfl (by decide) (by decide) rfl rfl rfl rfl rfl (Nat.le_of_ble_eq_true rfl) ⟨Nat.le_of_ble_eq_true rfl, Nat.le_of_ble_eq_true rfl⟩ ⟨Nat.le_of_ble_eq_true rfl, Nat.le_of_ble_eq_true rfl⟩ dX11_feed_55 (fun u701 H locs hr700 hP hD hS => ?_)
      have hP : va_P G.1 vwCl [(h0, .inr (11, [.ref B, .ref K, .int 0, .ref S, .ref D, .ref R, .ref Ta, .ref Tp, .ref Ro, .ref Ho, .ref De])), (Tp, .inr (10, [.ref tb, .int 5, .ref tl, .ref ts, .int (-1), .int 0, .int 0, .int (-1)])), (tb, .inl (G.2.1, 240, .inl (upd (upd (upd (upd (upd (fun _ => 0) 0 (x683 &&& 255)) 1 (x687 &&& 255)) 2 (x691 &&& 255)) 3 (x695 &&& 255)) 4 (x699 &&& 255))))] H := hP
      have hD : va_D A [(h0, .inr (11, [.ref B, .ref K, .int 0, .ref S, .ref D, .ref R, .ref Ta, .ref Tp, .ref Ro, .ref Ho, .ref De])), (Tp, .inr (10, [.ref tb, .int 5, .ref tl, .ref ts, .int (-1), .int 0, .int 0, .int (-1)])), (tb, .inl (G.2.1, 240, .inl (upd (upd (upd (upd (upd (fun _ => 0) 0 (x683 &&& 255)) 1 (x687 &&& 255)) 2 (x691 &&& 255)) 3 (x695 &&& 255)) 4 (x699 &&& 255))))] := hD
      refine lv_iinc (v := 5) (lv' := [(4, .int 5), (0, .ref h0), (1, .long ei), (3, .int 8)]) hx hb dX11_feed_58 hl (k := 0) rfl (by decide) (by decide) rfl (fun ls hl => ?_)
      refine lv_goto (tgt := 33) hx hb dX11_feed_61 (by decide) ?_
      refine lv_iload hx hb dX11_feed_33 (lv_at hl 0 rfl) ?_
      refine lv_iload_n hx hb dX11_feed_35 rfl (lv_at hl 3 rfl) ?_
      refine lv_icmp_ge (tgt := 64) hx hb dX11_feed_36 (by decide) (fun c9 => absurd c9 (by decide)) (fun _ => ?_)
      refine lv_aload_n hx hb dX11_feed_39 rfl (lv_at hl 1 rfl) ?_
      refine gf_X11_58 hC rfl hK hP 0 rfl rfl dX11_feed_40 ?_
      refine lv_lload_n hx hb dX11_feed_43 rfl (lv_at hl 2 rfl) ?_
      refine lv_bipush (v := 8) hx hb dX11_feed_44 (by decide) ?_
      refine lv_iload hx hb dX11_feed_46 (lv_at hl 0 rfl) ?_
      refine lv_imul hx hb dX11_feed_48 ?_
      refine eqi (x1 := 40) (by decide) ?_
      refine lv_lushr hx hb dX11_feed_49 rfl ?_
      refine lv_topl (fun x702 _ => ?_)
      refine lv_l2i hx hb dX11_feed_50 rfl ?_
      refine lv_topi (fun x703 _ => ?_)
      refine lv_sipush (v := 255) hx hb dX11_feed_51 (by decide) ?_
      refine lv_iand hx hb dX11_feed_54 ?_
      refine vV (wr := [(h0, .inr (11, [.ref B, .ref K, .int 0, .ref S, .ref D, .ref R, .ref Ta, .ref Tp, .ref Ro, .ref Ho, .ref De]))]) hC hK hl hP hD hS hA (c_Tp_append5 l G Tp (x703 &&& 255) tb tl ts (upd (upd (upd (upd (upd (fun _ => 0) 0 (x683 &&& 255)) 1 (x687 &&& 255)) 2 (x691 &&& 255)) 3 (x695 &&& 255)) 4 (x699 &&& 255))) si_X11_225 [1, 2] [0] rfl rfl (by decide) rfl (by decide) (by decide) rfl rfl rfl rfl rfl (Nat.le_of_ble_eq_true rfl) ⟨Nat.le_of_ble_eq_true rfl, Nat.le_of_ble_eq_true rfl⟩ ⟨Nat.le_of_ble_eq_true rfl, Nat.le_of_ble_eq_true rfl⟩ dX11_feed_55 (fun u705 H locs hr704 hP hD hS => ?_)
      have hP : va_P G.1 vwCl [(h0, .inr (11, [.ref B, .ref K, .int 0, .ref S, .ref D, .ref R, .ref Ta, .ref Tp, .ref Ro, .ref Ho, .ref De])), (Tp, .inr (10, [.ref tb, .int 6, .ref tl, .ref ts, .int (-1), .int 0, .int 0, .int (-1)])), (tb, .inl (G.2.1, 240, .inl (upd (upd (upd (upd (upd (upd (fun _ => 0) 0 (x683 &&& 255)) 1 (x687 &&& 255)) 2 (x691 &&& 255)) 3 (x695 &&& 255)) 4 (x699 &&& 255)) 5 (x703 &&& 255))))] H := hP
      have hD : va_D A [(h0, .inr (11, [.ref B, .ref K, .int 0, .ref S, .ref D, .ref R, .ref Ta, .ref Tp, .ref Ro, .ref Ho, .ref De])), (Tp, .inr (10, [.ref tb, .int 6, .ref tl, .ref ts, .int (-1), .int 0, .int 0, .int (-1)])), (tb, .inl (G.2.1, 240, .inl (upd (upd (upd (upd (upd (upd (fun _ => 0) 0 (x683 &&& 255)) 1 (x687 &&& 255)) 2 (x691 &&& 255)) 3 (x695 &&& 255)) 4 (x699 &&& 255)) 5 (x703 &&& 255))))] := hD
      refine lv_iinc (v := 6) (lv' := [(4, .int 6), (0, .ref h0), (1, .long ei), (3, .int 8)]) hx hb dX11_feed_58 hl (k := 0) rfl (by decide) (by decide) rfl (fun ls hl => ?_)
      refine lv_goto (tgt := 33) hx hb dX11_feed_61 (by decide) ?_
      refine lv_iload hx hb dX11_feed_33 (lv_at hl 0 rfl) ?_
      refine lv_iload_n hx hb dX11_feed_35 rfl (lv_at hl 3 rfl) ?_
      refine lv_icmp_ge (tgt := 64) hx hb dX11_feed_36 (by decide) (fun c9 => absurd c9 (by decide)) (fun _ => ?_)
      refine lv_aload_n hx hb dX11_feed_39 rfl (lv_at hl 1 rfl) ?_
      refine gf_X11_58 hC rfl hK hP 0 rfl rfl dX11_feed_40 ?_
      refine lv_lload_n hx hb dX11_feed_43 rfl (lv_at hl 2 rfl) ?_
      refine lv_bipush (v := 8) hx hb dX11_feed_44 (by decide) ?_
      refine lv_iload hx hb dX11_feed_46 (lv_at hl 0 rfl) ?_
      refine lv_imul hx hb dX11_feed_48 ?_
      refine eqi (x1 := 48) (by decide) ?_
      refine lv_lushr hx hb dX11_feed_49 rfl ?_
      refine lv_topl (fun x706 _ => ?_)
      refine lv_l2i hx hb dX11_feed_50 rfl ?_
      refine lv_topi (fun x707 _ => ?_)
      refine lv_sipush (v := 255) hx hb dX11_feed_51 (by decide) ?_
      refine lv_iand hx hb dX11_feed_54 ?_
      refine vV (wr := [(h0, .inr (11, [.ref B, .ref K, .int 0, .ref S, .ref D, .ref R, .ref Ta, .ref Tp, .ref Ro, .ref Ho, .ref De]))]) hC hK hl hP hD hS hA (c_Tp_append6 l G Tp (x707 &&& 255) tb tl ts (upd (upd (upd (upd (upd (upd (fun _ => 0) 0 (x683 &&& 255)) 1 (x687 &&& 255)) 2 (x691 &&& 255)) 3 (x695 &&& 255)) 4 (x699 &&& 255)) 5 (x703 &&& 255))) si_X11_225 [1, 2] [0] rfl rfl (by decide) rfl (by decide) (by decide) rfl rfl rfl rfl rfl (Nat.le_of_ble_eq_true rfl) ⟨Nat.le_of_ble_eq_true rfl, Nat.le_of_ble_eq_true rfl⟩ ⟨Nat.le_of_ble_eq_true rfl, Nat.le_of_ble_eq_true rfl⟩ dX11_feed_55 (fun u709 H locs hr708 hP hD hS => ?_)
      have hP : va_P G.1 vwCl [(h0, .inr (11, [.ref B, .ref K, .int 0, .ref S, .ref D, .ref R, .ref Ta, .ref Tp, .ref Ro, .ref Ho, .ref De])), (Tp, .inr (10, [.ref tb, .int 7, .ref tl, .ref ts, .int (-1), .int 0, .int 0, .int (-1)])), (tb, .inl (G.2.1, 240, .inl (upd (upd (upd (upd (upd (upd (upd (fun _ => 0) 0 (x683 &&& 255)) 1 (x687 &&& 255)) 2 (x691 &&& 255)) 3 (x695 &&& 255)) 4 (x699 &&& 255)) 5 (x703 &&& 255)) 6 (x707 &&& 255))))] H := hP
      have hD : va_D A [(h0, .inr (11, [.ref B, .ref K, .int 0, .ref S, .ref D, .ref R, .ref Ta, .ref Tp, .ref Ro, .ref Ho, .ref De])), (Tp, .inr (10, [.ref tb, .int 7, .ref tl, .ref ts, .int (-1), .int 0, .int 0, .int (-1)])), (tb, .inl (G.2.1, 240, .inl (upd (upd (upd (upd (upd (upd (upd (fun _ => 0) 0 (x683 &&& 255)) 1 (x687 &&& 255)) 2 (x691 &&& 255)) 3 (x695 &&& 255)) 4 (x699 &&& 255)) 5 (x703 &&& 255)) 6 (x707 &&& 255))))] := hD
      refine lv_iinc (v := 7) (lv' := [(4, .int 7), (0, .ref h0), (1, .long ei), (3, .int 8)]) hx hb dX11_feed_58 hl (k := 0) rfl (by decide) (by decide) rfl (fun ls hl => ?_)
      refine lv_goto (tgt := 33) hx hb dX11_feed_61 (by decide) ?_
      refine lv_iload hx hb dX11_feed_33 (lv_at hl 0 rfl) ?_
      refine lv_iload_n hx hb dX11_feed_35 rfl (lv_at hl 3 rfl) ?_
      refine lv_icmp_ge (tgt := 64) hx hb dX11_feed_36 (by decide) (fun c9 => absurd c9 (by decide)) (fun _ => ?_)
      refine lv_aload_n hx hb dX11_feed_39 rfl (lv_at hl 1 rfl) ?_
      refine gf_X11_58 hC rfl hK hP 0 rfl rfl dX11_feed_40 ?_
      refine lv_lload_n hx hb dX11_feed_43 rfl (lv_at hl 2 rfl) ?_
      refine lv_bipush (v := 8) hx hb dX11_feed_44 (by decide) ?_
      refine lv_iload hx hb dX11_feed_46 (lv_at hl 0 rfl) ?_
      refine lv_imul hx hb dX11_feed_48 ?_
      refine eqi (x1 := 56) (by decide) ?_
      refine lv_lushr hx hb dX11_feed_49 rfl ?_
      refine lv_topl (fun x710 _ => ?_)
      refine lv_l2i hx hb dX11_feed_50 rfl ?_
      refine lv_topi (fun x711 _ => ?_)
      refine lv_sipush (v := 255) hx hb dX11_feed_51 (by decide) ?_
      refine lv_iand hx hb dX11_feed_54 ?_
      refine vV (wr := [(h0, .inr (11, [.ref B, .ref K, .int 0, .ref S, .ref D, .ref R, .ref Ta, .ref Tp, .ref Ro, .ref Ho, .ref De]))]) hC hK hl hP hD hS hA (c_Tp_append7 l G Tp (x711 &&& 255) tb tl ts (upd (upd (upd (upd (upd (upd (upd (fun _ => 0) 0 (x683 &&& 255)) 1 (x687 &&& 255)) 2 (x691 &&& 255)) 3 (x695 &&& 255)) 4 (x699 &&& 255)) 5 (x703 &&& 255)) 6 (x707 &&& 255))) si_X11_225 [1, 2] [0] rfl rfl (by decide) rfl (by decide) (by decide) rfl rfl rfl rfl rfl (Nat.le_of_ble_eq_true rfl) ⟨Nat.le_of_ble_eq_true rfl, Nat.le_of_ble_eq_true rfl⟩ ⟨Nat.le_of_ble_eq_true rfl, Nat.le_of_ble_eq_true rfl⟩ dX11_feed_55 (fun u713 H locs hr712 hP hD hS => ?_)
      have hP : va_P G.1 vwCl [(h0, .inr (11, [.ref B, .ref K, .int 0, .ref S, .ref D, .ref R, .ref Ta, .ref Tp, .ref Ro, .ref Ho, .ref De])), (Tp, .inr (10, [.ref tb, .int 8, .ref tl, .ref ts, .int (-1), .int 0, .int 0, .int (-1)])), (tb, .inl (G.2.1, 240, .inl (upd (upd (upd (upd (upd (upd (upd (upd (fun _ => 0) 0 (x683 &&& 255)) 1 (x687 &&& 255)) 2 (x691 &&& 255)) 3 (x695 &&& 255)) 4 (x699 &&& 255)) 5 (x703 &&& 255)) 6 (x707 &&& 255)) 7 (x711 &&& 255))))] H := hP
      have hD : va_D A [(h0, .inr (11, [.ref B, .ref K, .int 0, .ref S, .ref D, .ref R, .ref Ta, .ref Tp, .ref Ro, .ref Ho, .ref De])), (Tp, .inr (10, [.ref tb, .int 8, .ref tl, .ref ts, .int (-1), .int 0, .int 0, .int (-1)])), (tb, .inl (G.2.1, 240, .inl (upd (upd (upd (upd (upd (upd (upd (upd (fun _ => 0) 0 (x683 &&& 255)) 1 (x687 &&& 255)) 2 (x691 &&& 255)) 3 (x695 &&& 255)) 4 (x699 &&& 255)) 5 (x703 &&& 255)) 6 (x707 &&& 255)) 7 (x711 &&& 255))))] := hD
      refine lv_iinc (v := 8) (lv' := [(4, .int 8), (0, .ref h0), (1, .long ei), (3, .int 8)]) hx hb dX11_feed_58 hl (k := 0) rfl (by decide) (by decide) rfl (fun ls hl => ?_)
      refine lv_goto (tgt := 33) hx hb dX11_feed_61 (by decide) ?_
      refine lv_iload hx hb dX11_feed_33 (lv_at hl 0 rfl) ?_
      refine lv_iload_n hx hb dX11_feed_35 rfl (lv_at hl 3 rfl) ?_
      refine lv_icmp_ge (tgt := 64) hx hb dX11_feed_36 (by decide) (fun _ => ?_) (fun c9 => absurd (by decide) c9)
      refine lv_aload_n hx hb dX11_feed_64 rfl (lv_at hl 1 rfl) ?_
      refine gf_X11_58 hC rfl hK hP 0 rfl rfl dX11_feed_65 ?_
      refine pV hC hK hl hP hD (c_Tp_count l G Tp tb 8 tl ts (-1) 0 0 (-1)) si_X11_224 [1] rfl rfl (by decide) rfl rfl rfl rfl rfl (Nat.le_of_ble_eq_true rfl) ⟨Nat.le_of_ble_eq_true rfl, Nat.le_of_ble_eq_true rfl⟩ ⟨by first | exact Nat.le_of_ble_eq_true rfl | exact Nat.zero_le _, by first | exact Nat.le_of_ble_eq_true rfl | exact Nat.zero_le _⟩ dX11_feed_68 (fun r714 hr714 => ?_)
      obtain rfl := hr714
      exact RI (v := 8) hC hP hD hS [] () rfl rfl (by decide) ((by unfold A_feed; first | rfl | (simp only [ifc_t a539]; done) | (simp only [ifc_t a539]; rfl))) rfl dX11_feed_71
  · refine lv_if_ne (tgt := 12) hx hb dX11_feed_7 (by decide) (fun c9 => absurd (by decide) c9) (fun _ => ?_)
    refine lv_iconst (v := (-1)) hx hb dX11_feed_10 (by decide) ?_
    exact RI (v := (-1)) hC hP hD hS [] () rfl rfl (by decide) ((by unfold A_feed; first | rfl | (simp only [ifc_f a539]; done) | (simp only [ifc_f a539]; rfl))) rfl dX11_feed_11
set_option maxHeartbeats 4000000 in
set_option maxRecDepth 100000 in
theorem c_byteAt0 (l : Launch) (G : GG) (Tp : Nat) (tb : Nat) (tl : Nat) (ts : Nat) : MP l G yX10_byteAt cX10_byteAt 2 (some .int) 1 [.ref Tp, .int 0] [(Tp, .inr (10, [.ref tb, .int 0, .ref tl, .ref ts, .int (-1), .int 0, .int 0, .int (-1)]))] (fun r : Int32 => r = (-1)) := by
  refine MP.start (by decide +kernel) (Nat.le_of_ble_eq_true rfl) ?_
  intro p e s m below meth c ls hC hK hP hD hl
  have hl : lv_has ls 2 [(0, .ref Tp), (1, .int 0)] := hl
  obtain ⟨hx, hb, hr, hml, hB, hown, hlocks, hnm⟩ := id hC
  refine lv_iload_n hx hb dX10_byteAt_0 rfl (lv_at hl 1 rfl) ?_
  refine lv_if_lt (tgt := 30) hx hb dX10_byteAt_1 (by decide) (fun c9 => absurd c9 (by decide)) (fun _ => ?_)
  refine lv_iload_n hx hb dX10_byteAt_4 rfl (lv_at hl 1 rfl) ?_
  refine lv_aload_n hx hb dX10_byteAt_5 rfl (lv_at hl 0 rfl) ?_
  refine gf_X10_27 hC rfl hK hP 0 rfl rfl dX10_byteAt_6 ?_
  refine lv_icmp_ge (tgt := 30) hx hb dX10_byteAt_9 (by decide) (fun _ => ?_) (fun c9 => absurd (by decide) c9)
  refine lv_iconst (v := (-1)) hx hb dX10_byteAt_30 (by decide) ?_
  exact RP (v := (-1)) hC (rfl) rfl dX10_byteAt_31
set_option maxHeartbeats 4000000 in
set_option maxRecDepth 100000 in
theorem c_isLetter (l : Launch) (G : GG) : MP l G yX10_isLetter cX10_isLetter 1 (some .boolean) 2 [.int (-1)] [] (fun r : Int32 => r = 0) := by
  refine MP.start (by decide +kernel) (Nat.le_of_ble_eq_true rfl) ?_
  intro p e s m below meth c ls hC hK hP hD hl
  have hl : lv_has ls 1 [(0, .int (-1))] := hl
  obtain ⟨hx, hb, hr, hml, hB, hown, hlocks, hnm⟩ := id hC
  refine lv_iload_n hx hb dX10_isLetter_0 rfl (lv_at hl 0 rfl) ?_
  refine lv_bipush (v := 97) hx hb dX10_isLetter_1 (by decide) ?_
  refine lv_bipush (v := 122) hx hb dX10_isLetter_3 (by decide) ?_
  refine pSN hC hK hl (c_within l G (-1) 97 122) si_X10_89 rfl rfl (Nat.le_of_ble_eq_true rfl) ⟨Nat.le_of_ble_eq_true rfl, Nat.le_of_ble_eq_true rfl⟩ ⟨by first | exact Nat.le_of_ble_eq_true rfl | exact Nat.zero_le _, by first | exact Nat.le_of_ble_eq_true rfl | exact Nat.zero_le _⟩ dX10_isLetter_5 (fun r716 hr716 => ?_)
  rcases hr716 with ⟨rfl, a717⟩ | ⟨rfl, a717⟩
  · exact absurd a717 (by unfold Wi; decide)
  · exact RP (v := 0) hC (rfl) (by decide +kernel) dX10_isLetter_8
set_option maxHeartbeats 4000000 in
set_option maxRecDepth 100000 in
theorem c_isDigit (l : Launch) (G : GG) : MP l G yX10_isDigit cX10_isDigit 1 (some .boolean) 2 [.int (-1)] [] (fun r : Int32 => r = 0) := by
  refine MP.start (by decide +kernel) (Nat.le_of_ble_eq_true rfl) ?_
  intro p e s m below meth c ls hC hK hP hD hl
  have hl : lv_has ls 1 [(0, .int (-1))] := hl
  obtain ⟨hx, hb, hr, hml, hB, hown, hlocks, hnm⟩ := id hC
  refine lv_iload_n hx hb dX10_isDigit_0 rfl (lv_at hl 0 rfl) ?_
  refine lv_bipush (v := 48) hx hb dX10_isDigit_1 (by decide) ?_
  refine lv_bipush (v := 57) hx hb dX10_isDigit_3 (by decide) ?_
  refine pSN hC hK hl (c_within l G (-1) 48 57) si_X10_89 rfl rfl (Nat.le_of_ble_eq_true rfl) ⟨Nat.le_of_ble_eq_true rfl, Nat.le_of_ble_eq_true rfl⟩ ⟨by first | exact Nat.le_of_ble_eq_true rfl | exact Nat.zero_le _, by first | exact Nat.le_of_ble_eq_true rfl | exact Nat.zero_le _⟩ dX10_isDigit_5 (fun r718 hr718 => ?_)
  rcases hr718 with ⟨rfl, a719⟩ | ⟨rfl, a719⟩
  · exact absurd a719 (by unfold Wi; decide)
  · exact RP (v := 0) hC (rfl) (by decide +kernel) dX10_isDigit_8
set_option maxHeartbeats 4000000 in
set_option maxRecDepth 100000 in
theorem c_advance0 (l : Launch) (G : GG) (Tp : Nat) (tb : Nat) (tl : Nat) (ts : Nat) : MV l G yX10_advance cX10_advance 1 3 0 0 [.ref Tp] [(Tp, .inr (10, [.ref tb, .int 0, .ref tl, .ref ts, .int (-1), .int 0, .int 0, .int (-1)]))] (fun u : Unit => True) (fun u : Unit => [(Tp, .inr (10, [.ref tb, .int 0, .ref tl, .ref ts, .int (-1), .int 0, .int 0, .int (-1)]))]) := by
  refine MV.start (by decide +kernel) (Nat.le_of_ble_eq_true rfl) ?_
  intro p e s m below meth c A ls hC hK hP hD hS hA hl
  have hl : lv_has ls 1 [(0, .ref Tp)] := hl
  obtain ⟨hx, hb, hr, hml, hB, hown, hlocks, hnm⟩ := id hC
  refine lv_aload_n hx hb dX10_advance_0 rfl (lv_at hl 0 rfl) ?_
  refine lv_aload_n hx hb dX10_advance_1 rfl (lv_at hl 0 rfl) ?_
  refine gf_X10_37 hC rfl hK hP 0 rfl rfl dX10_advance_2 ?_
  refine pf_X10_34 hC rfl hK hP hD hS 0 (ws' := [(Tp, .inr (10, [.ref tb, .int 0, .ref tl, .ref ts, .int (-1), .int 0, .int 0, .int (-1)]))]) rfl (Nat.le_of_ble_eq_true rfl) rfl rfl rfl dX10_advance_5 (fun H locs hP hD hS => ?_)
  refine lv_aload_n hx hb dX10_advance_8 rfl (lv_at hl 0 rfl) ?_
  refine gf_X10_34 hC rfl hK hP 0 rfl rfl dX10_advance_9 ?_
  refine lv_aload_n hx hb dX10_advance_12 rfl (lv_at hl 0 rfl) ?_
  refine gf_X10_27 hC rfl hK hP 0 rfl rfl dX10_advance_13 ?_
  refine lv_icmp_ge (tgt := 45) hx hb dX10_advance_16 (by decide) (fun _ => ?_) (fun c9 => absurd (by decide) c9)
  refine lv_aload_n hx hb dX10_advance_45 rfl (lv_at hl 0 rfl) ?_
  refine lv_aload_n hx hb dX10_advance_46 rfl (lv_at hl 0 rfl) ?_
  refine gf_X10_34 hC rfl hK hP 0 rfl rfl dX10_advance_47 ?_
  refine pf_X10_37 hC rfl hK hP hD hS 0 (ws' := [(Tp, .inr (10, [.ref tb, .int 0, .ref tl, .ref ts, .int (-1), .int 0, .int 0, .int (-1)]))]) rfl (Nat.le_of_ble_eq_true rfl) rfl rfl rfl dX10_advance_50 (fun H locs hP hD hS => ?_)
  refine lv_aload_n hx hb dX10_advance_53 rfl (lv_at hl 0 rfl) ?_
  refine lv_aload_n hx hb dX10_advance_54 rfl (lv_at hl 0 rfl) ?_
  refine gf_X10_34 hC rfl hK hP 0 rfl rfl dX10_advance_55 ?_
  refine pV hC hK hl hP hD (c_byteAt0 l G Tp tb tl ts) si_X10_78 [0] rfl rfl (by decide) rfl rfl rfl rfl rfl (Nat.le_of_ble_eq_true rfl) ⟨Nat.le_of_ble_eq_true rfl, Nat.le_of_ble_eq_true rfl⟩ ⟨by first | exact Nat.le_of_ble_eq_true rfl | exact Nat.zero_le _, by first | exact Nat.le_of_ble_eq_true rfl | exact Nat.zero_le _⟩ dX10_advance_58 (fun r720 hr720 => ?_)
  obtain rfl := hr720
  refine pS hC hK hl (c_isLetter l G) si_X10_82 rfl rfl (Nat.le_of_ble_eq_true rfl) ⟨Nat.le_of_ble_eq_true rfl, Nat.le_of_ble_eq_true rfl⟩ ⟨by first | exact Nat.le_of_ble_eq_true rfl | exact Nat.zero_le _, by first | exact Nat.le_of_ble_eq_true rfl | exact Nat.zero_le _⟩ dX10_advance_61 (fun r722 hr722 => ?_)
  obtain rfl := hr722
  refine lv_if_eq (tgt := 111) hx hb dX10_advance_64 (by decide) (fun _ => ?_) (fun c9 => absurd (by decide) c9)
  refine lv_aload_n hx hb dX10_advance_111 rfl (lv_at hl 0 rfl) ?_
  refine lv_aload_n hx hb dX10_advance_112 rfl (lv_at hl 0 rfl) ?_
  refine gf_X10_34 hC rfl hK hP 0 rfl rfl dX10_advance_113 ?_
  refine pV hC hK hl hP hD (c_byteAt0 l G Tp tb tl ts) si_X10_78 [0] rfl rfl (by decide) rfl rfl rfl rfl rfl (Nat.le_of_ble_eq_true rfl) ⟨Nat.le_of_ble_eq_true rfl, Nat.le_of_ble_eq_true rfl⟩ ⟨by first | exact Nat.le_of_ble_eq_true rfl | exact Nat.zero_le _, by first | exact Nat.le_of_ble_eq_true rfl | exact Nat.zero_le _⟩ dX10_advance_116 (fun r724 hr724 => ?_)
  obtain rfl := hr724
  refine pS hC hK hl (c_isDigit l G) si_X10_86 rfl rfl (Nat.le_of_ble_eq_true rfl) ⟨Nat.le_of_ble_eq_true rfl, Nat.le_of_ble_eq_true rfl⟩ ⟨by first | exact Nat.le_of_ble_eq_true rfl | exact Nat.zero_le _, by first | exact Nat.le_of_ble_eq_true rfl | exact Nat.zero_le _⟩ dX10_advance_119 (fun r726 hr726 => ?_)
  obtain rfl := hr726
  refine lv_if_eq (tgt := 169) hx hb dX10_advance_122 (by decide) (fun _ => ?_) (fun c9 => absurd (by decide) c9)
  refine lv_aload_n hx hb dX10_advance_169 rfl (lv_at hl 0 rfl) ?_
  refine lv_aload_n hx hb dX10_advance_170 rfl (lv_at hl 0 rfl) ?_
  refine lv_aload_n hx hb dX10_advance_171 rfl (lv_at hl 0 rfl) ?_
  refine gf_X10_34 hC rfl hK hP 0 rfl rfl dX10_advance_172 ?_
  refine pV hC hK hl hP hD (c_byteAt0 l G Tp tb tl ts) si_X10_78 [0] rfl rfl (by decide) rfl rfl rfl rfl rfl (Nat.le_of_ble_eq_true rfl) ⟨Nat.le_of_ble_eq_true rfl, Nat.le_of_ble_eq_true rfl⟩ ⟨by first | exact Nat.le_of_ble_eq_true rfl | exact Nat.zero_le _, by first | exact Nat.le_of_ble_eq_true rfl | exact Nat.zero_le _⟩ dX10_advance_175 (fun r728 hr728 => ?_)
  obtain rfl := hr728
  refine pf_X10_31 hC rfl hK hP hD hS 0 (ws' := [(Tp, .inr (10, [.ref tb, .int 0, .ref tl, .ref ts, .int (-1), .int 0, .int 0, .int (-1)]))]) rfl (Nat.le_of_ble_eq_true rfl) rfl rfl rfl dX10_advance_178 (fun H locs hP hD hS => ?_)
  refine lv_aload_n hx hb dX10_advance_181 rfl (lv_at hl 0 rfl) ?_
  refine gf_X10_31 hC rfl hK hP 0 rfl rfl dX10_advance_182 ?_
  refine lv_iconst (v := (-1)) hx hb dX10_advance_185 (by decide) ?_
  refine lv_icmp_eq (tgt := 199) hx hb dX10_advance_186 (by decide) (fun _ => ?_) (fun c9 => absurd (by decide) c9)
  exact RV hC hP hD hS [0] () rfl rfl (by decide) (trivial) dX10_advance_199
set_option maxHeartbeats 4000000 in
set_option maxRecDepth 100000 in
theorem c_scan0 (l : Launch) (G : GG) (Tp : Nat) (tb : Nat) (tl : Nat) (ts : Nat) (tlc : Nat) (tsc : Nat) : MI l G yX10_scan cX10_scan 2 (some .int) 4 0 0 [.ref Tp] [(Tp, .inr (10, [.ref tb, .int 0, .ref tl, .ref ts, .int (-1), .int 0, .int 0, .int (-1)])), (tl, .inr (8, [.int 9, .int 7, .ref tlc, .int 0])), (ts, .inr (8, [.int 120, .int 1, .ref tsc, .int 0]))] (fun (r : Int32) (u : Unit) => (r = (-1))) (fun u : Unit => [(Tp, .inr (10, [.ref tb, .int 0, .ref tl, .ref ts, .int (-1), .int 0, .int 0, .int (-1)])), (tl, .inr (8, [.int 9, .int 7, .ref tlc, .int 0])), (ts, .inr (8, [.int 120, .int 1, .ref tsc, .int 0]))]) := by
  refine MI.start (by decide +kernel) (Nat.le_of_ble_eq_true rfl) ?_
  intro p e s m below meth c A ls hC hK hP hD hS hA hl
  have hl : lv_has ls 2 [(0, .ref Tp)] := hl
  obtain ⟨hx, hb, hr, hml, hB, hown, hlocks, hnm⟩ := id hC
  refine lv_aload_n hx hb dX10_scan_0 rfl (lv_at hl 0 rfl) ?_
  refine gf_X10_20 hC rfl hK hP 0 rfl rfl dX10_scan_1 ?_
  refine lv_iconst (v := 0) hx hb dX10_scan_4 (by decide) ?_
  refine vV (wr := [(Tp, .inr (10, [.ref tb, .int 0, .ref tl, .ref ts, .int (-1), .int 0, .int 0, .int (-1)])), (ts, .inr (8, [.int 120, .int 1, .ref tsc, .int 0]))]) hC hK hl hP hD hS hA (c_T_cut0 l G tl 9 7 tlc) si_X10_43 [1] [0, 2] rfl rfl (by decide) rfl (by decide) (by decide) rfl rfl rfl rfl rfl (Nat.le_of_ble_eq_true rfl) ⟨Nat.le_of_ble_eq_true rfl, Nat.le_of_ble_eq_true rfl⟩ ⟨Nat.le_of_ble_eq_true rfl, Nat.le_of_ble_eq_true rfl⟩ dX10_scan_5 (fun u731 H locs hr730 hP hD hS => ?_)
  have hP : va_P G.1 vwCl [(Tp, .inr (10, [.ref tb, .int 0, .ref tl, .ref ts, .int (-1), .int 0, .int 0, .int (-1)])), (ts, .inr (8, [.int 120, .int 1, .ref tsc, .int 0])), (tl, .inr (8, [.int 9, .int 7, .ref tlc, .int 0]))] H := hP
  have hD : va_D A [(Tp, .inr (10, [.ref tb, .int 0, .ref tl, .ref ts, .int (-1), .int 0, .int 0, .int (-1)])), (ts, .inr (8, [.int 120, .int 1, .ref tsc, .int 0])), (tl, .inr (8, [.int 9, .int 7, .ref tlc, .int 0]))] := hD
  refine lv_aload_n hx hb dX10_scan_8 rfl (lv_at hl 0 rfl) ?_
  refine gf_X10_24 hC rfl hK hP 0 rfl rfl dX10_scan_9 ?_
  refine lv_iconst (v := 0) hx hb dX10_scan_12 (by decide) ?_
  refine vV (wr := [(Tp, .inr (10, [.ref tb, .int 0, .ref tl, .ref ts, .int (-1), .int 0, .int 0, .int (-1)])), (tl, .inr (8, [.int 9, .int 7, .ref tlc, .int 0]))]) hC hK hl hP hD hS hA (c_T_cut0 l G ts 120 1 tsc) si_X10_43 [1] [0, 2] rfl rfl (by decide) rfl (by decide) (by decide) rfl rfl rfl rfl rfl (Nat.le_of_ble_eq_true rfl) ⟨Nat.le_of_ble_eq_true rfl, Nat.le_of_ble_eq_true rfl⟩ ⟨Nat.le_of_ble_eq_true rfl, Nat.le_of_ble_eq_true rfl⟩ dX10_scan_13 (fun u733 H locs hr732 hP hD hS => ?_)
  have hP : va_P G.1 vwCl [(Tp, .inr (10, [.ref tb, .int 0, .ref tl, .ref ts, .int (-1), .int 0, .int 0, .int (-1)])), (tl, .inr (8, [.int 9, .int 7, .ref tlc, .int 0])), (ts, .inr (8, [.int 120, .int 1, .ref tsc, .int 0]))] H := hP
  have hD : va_D A [(Tp, .inr (10, [.ref tb, .int 0, .ref tl, .ref ts, .int (-1), .int 0, .int 0, .int (-1)])), (tl, .inr (8, [.int 9, .int 7, .ref tlc, .int 0])), (ts, .inr (8, [.int 120, .int 1, .ref tsc, .int 0]))] := hD
  refine lv_aload_n hx hb dX10_scan_16 rfl (lv_at hl 0 rfl) ?_
  refine lv_iconst (v := (-1)) hx hb dX10_scan_17 (by decide) ?_
  refine pf_X10_40 hC rfl hK hP hD hS 0 (ws' := [(Tp, .inr (10, [.ref tb, .int 0, .ref tl, .ref ts, .int (-1), .int 0, .int 0, .int (-1)])), (tl, .inr (8, [.int 9, .int 7, .ref tlc, .int 0])), (ts, .inr (8, [.int 120, .int 1, .ref tsc, .int 0]))]) rfl (Nat.le_of_ble_eq_true rfl) rfl rfl rfl dX10_scan_18 (fun H locs hP hD hS => ?_)
  refine lv_aload_n hx hb dX10_scan_21 rfl (lv_at hl 0 rfl) ?_
  refine lv_iconst (v := 0) hx hb dX10_scan_22 (by decide) ?_
  refine pf_X10_37 hC rfl hK hP hD hS 0 (ws' := [(Tp, .inr (10, [.ref tb, .int 0, .ref tl, .ref ts, .int (-1), .int 0, .int 0, .int (-1)])), (tl, .inr (8, [.int 9, .int 7, .ref tlc, .int 0])), (ts, .inr (8, [.int 120, .int 1, .ref tsc, .int 0]))]) rfl (Nat.le_of_ble_eq_true rfl) rfl rfl rfl dX10_scan_23 (fun H locs hP hD hS => ?_)
  refine lv_aload_n hx hb dX10_scan_26 rfl (lv_at hl 0 rfl) ?_
  refine vV (wr := [(tl, .inr (8, [.int 9, .int 7, .ref tlc, .int 0])), (ts, .inr (8, [.int 120, .int 1, .ref tsc, .int 0]))]) hC hK hl hP hD hS hA (c_advance0 l G Tp tb tl ts) si_X10_47 [0] [1, 2] rfl rfl (by decide) rfl (by decide) (by decide) rfl rfl rfl rfl rfl (Nat.le_of_ble_eq_true rfl) ⟨Nat.le_of_ble_eq_true rfl, Nat.le_of_ble_eq_true rfl⟩ ⟨Nat.le_of_ble_eq_true rfl, Nat.le_of_ble_eq_true rfl⟩ dX10_scan_27 (fun u735 H locs hr734 hP hD hS => ?_)
  have hP : va_P G.1 vwCl [(tl, .inr (8, [.int 9, .int 7, .ref tlc, .int 0])), (ts, .inr (8, [.int 120, .int 1, .ref tsc, .int 0])), (Tp, .inr (10, [.ref tb, .int 0, .ref tl, .ref ts, .int (-1), .int 0, .int 0, .int (-1)]))] H := hP
  have hD : va_D A [(tl, .inr (8, [.int 9, .int 7, .ref tlc, .int 0])), (ts, .inr (8, [.int 120, .int 1, .ref tsc, .int 0])), (Tp, .inr (10, [.ref tb, .int 0, .ref tl, .ref ts, .int (-1), .int 0, .int 0, .int (-1)]))] := hD
  refine lv_iconst (v := 0) hx hb dX10_scan_30 (by decide) ?_
  refine lv_istore_n (lv' := [(1, .int 0), (0, .ref Tp)]) hx hb dX10_scan_31 rfl hl (by decide) rfl (fun ls hl => ?_)
  refine lv_iload_n hx hb dX10_scan_32 rfl (lv_at hl 0 rfl) ?_
  refine lv_bipush (v := 9) hx hb dX10_scan_33 (by decide) ?_
  refine lv_icmp_gt (tgt := 64) hx hb dX10_scan_35 (by decide) (fun c9 => absurd c9 (by decide)) (fun _ => ?_)
  refine lv_aload_n hx hb dX10_scan_38 rfl (lv_at hl 1 rfl) ?_
  refine gf_X10_31 hC rfl hK hP 2 rfl rfl dX10_scan_39 ?_
  refine lv_iconst (v := (-1)) hx hb dX10_scan_42 (by decide) ?_
  refine lv_icmp_eq (tgt := 64) hx hb dX10_scan_43 (by decide) (fun _ => ?_) (fun c9 => absurd (by decide) c9)
  refine lv_aload_n hx hb dX10_scan_64 rfl (lv_at hl 1 rfl) ?_
  refine gf_X10_40 hC rfl hK hP 2 rfl rfl dX10_scan_65 ?_
  exact RI (v := (-1)) hC hP hD hS [2, 0, 1] () rfl rfl (by decide) (rfl) rfl dX10_scan_68
set_option maxHeartbeats 4000000 in
set_option maxRecDepth 100000 in
theorem c_Tp_clear (l : Launch) (G : GG) (Tp : Nat) (tb : Nat) (tl : Nat) (ts : Nat) : MV l G yX10_clear cX10_clear 1 1 0 0 [.ref Tp] [(Tp, .inr (10, [.ref tb, .int 0, .ref tl, .ref ts, .int (-1), .int 0, .int 0, .int (-1)]))] (fun u : Unit => True) (fun u : Unit => [(Tp, .inr (10, [.ref tb, .int 0, .ref tl, .ref ts, .int (-1), .int 0, .int 0, .int (-1)]))]) := by
  refine MV.start (by decide +kernel) (Nat.le_of_ble_eq_true rfl) ?_
  intro p e s m below meth c A ls hC hK hP hD hS hA hl
  have hl : lv_has ls 1 [(0, .ref Tp)] := hl
  obtain ⟨hx, hb, hr, hml, hB, hown, hlocks, hnm⟩ := id hC
  refine lv_aload_n hx hb dX10_clear_0 rfl (lv_at hl 0 rfl) ?_
  refine lv_iconst (v := 0) hx hb dX10_clear_1 (by decide) ?_
  refine pf_X10_27 hC rfl hK hP hD hS 0 (ws' := [(Tp, .inr (10, [.ref tb, .int 0, .ref tl, .ref ts, .int (-1), .int 0, .int 0, .int (-1)]))]) rfl (Nat.le_of_ble_eq_true rfl) rfl rfl rfl dX10_clear_2 (fun H locs hP hD hS => ?_)
  exact RV hC hP hD hS [0] () rfl rfl (by decide) (trivial) dX10_clear_5
set_option maxHeartbeats 4000000 in
set_option maxRecDepth 100000 in
theorem c_store0 (l : Launch) (G : GG) (Tp : Nat) (B : Nat) (tb : Nat) (tl : Nat) (ts : Nat) (tlc : Nat) (tsc : Nat) (bpersons : Nat) (bpapers : Nat) (bstamps : Nat) (bversions : Nat) (blines : Nat) (bsteps : Nat) (bsayings : Nat) (bfindings : Nat) (bwarnings : Nat) (bquestions : Nat) (bversionsc : Nat) (blinesc : Nat) (bstepsc : Nat) : MI l G yX10_store cX10_store 7 (some .int) 3 0 0 [.ref Tp, .ref B] [(Tp, .inr (10, [.ref tb, .int 0, .ref tl, .ref ts, .int (-1), .int 0, .int 0, .int (-1)])), (tl, .inr (8, [.int 9, .int 7, .ref tlc, .int 0])), (ts, .inr (8, [.int 120, .int 1, .ref tsc, .int 0])), (B, .inr (0, [.ref bpersons, .ref bpapers, .ref bstamps, .ref bversions, .ref blines, .ref bsteps, .ref bsayings, .ref bfindings, .ref bwarnings, .ref bquestions, .int 0, .int (-1), .int 3, .int 24])), (bversions, .inr (8, [.int 8, .int 3, .ref bversionsc, .int 0])), (bversionsc, .inl (G.2.1, 24, .inl (fun _ => 0))), (blines, .inr (8, [.int 72, .int 7, .ref blinesc, .int 0])), (bsteps, .inr (8, [.int 960, .int 1, .ref bstepsc, .int 0]))] (fun (r : Int32) (u : Unit) => (r = 0)) (fun u : Unit => []) := by
  refine MI.start (by decide +kernel) (Nat.le_of_ble_eq_true rfl) ?_
  intro p e s m below meth c A ls hC hK hP hD hS hA hl
  have hl : lv_has ls 7 [(0, .ref Tp), (1, .ref B)] := hl
  obtain ⟨hx, hb, hr, hml, hB, hown, hlocks, hnm⟩ := id hC
  refine lv_aload_n hx hb dX10_store_0 rfl (lv_at hl 1 rfl) ?_
  refine gf_X10_54 hC rfl hK hP 3 rfl rfl dX10_store_1 ?_
  refine iV (wr := [(Tp, .inr (10, [.ref tb, .int 0, .ref tl, .ref ts, .int (-1), .int 0, .int 0, .int (-1)])), (tl, .inr (8, [.int 9, .int 7, .ref tlc, .int 0])), (ts, .inr (8, [.int 120, .int 1, .ref tsc, .int 0])), (B, .inr (0, [.ref bpersons, .ref bpapers, .ref bstamps, .ref bversions, .ref blines, .ref bsteps, .ref bsayings, .ref bfindings, .ref bwarnings, .ref bquestions, .int 0, .int (-1), .int 3, .int 24])), (bversionsc, .inl (G.2.1, 24, .inl (fun _ => 0))), (blines, .inr (8, [.int 72, .int 7, .ref blinesc, .int 0])), (bsteps, .inr (8, [.int 960, .int 1, .ref bstepsc, .int 0]))]) hC hK hl hP hD hS hA (c_T_append0 l G bversions 8 3 bversionsc (by decide)) si_X10_59 [4] [0, 1, 2, 3, 5, 6, 7] rfl rfl (by decide) rfl (by decide) (by decide) rfl rfl rfl rfl rfl (Nat.le_of_ble_eq_true rfl) ⟨Nat.le_of_ble_eq_true rfl, Nat.le_of_ble_eq_true rfl⟩ ⟨Nat.le_of_ble_eq_true rfl, Nat.le_of_ble_eq_true rfl⟩ dX10_store_4 (fun r736 u737 H locs hr736 hP hD hS => ?_)
  have hP : va_P G.1 vwCl [(Tp, .inr (10, [.ref tb, .int 0, .ref tl, .ref ts, .int (-1), .int 0, .int 0, .int (-1)])), (tl, .inr (8, [.int 9, .int 7, .ref tlc, .int 0])), (ts, .inr (8, [.int 120, .int 1, .ref tsc, .int 0])), (B, .inr (0, [.ref bpersons, .ref bpapers, .ref bstamps, .ref bversions, .ref blines, .ref bsteps, .ref bsayings, .ref bfindings, .ref bwarnings, .ref bquestions, .int 0, .int (-1), .int 3, .int 24])), (bversionsc, .inl (G.2.1, 24, .inl (fun _ => 0))), (blines, .inr (8, [.int 72, .int 7, .ref blinesc, .int 0])), (bsteps, .inr (8, [.int 960, .int 1, .ref bstepsc, .int 0])), (bversions, .inr (8, [.int 8, .int 3, .ref bversionsc, .int 1]))] H := hP
  have hD : va_D A [(Tp, .inr (10, [.ref tb, .int 0, .ref tl, .ref ts, .int (-1), .int 0, .int 0, .int (-1)])), (tl, .inr (8, [.int 9, .int 7, .ref tlc, .int 0])), (ts, .inr (8, [.int 120, .int 1, .ref tsc, .int 0])), (B, .inr (0, [.ref bpersons, .ref bpapers, .ref bstamps, .ref bversions, .ref blines, .ref bsteps, .ref bsayings, .ref bfindings, .ref bwarnings, .ref bquestions, .int 0, .int (-1), .int 3, .int 24])), (bversionsc, .inl (G.2.1, 24, .inl (fun _ => 0))), (blines, .inr (8, [.int 72, .int 7, .ref blinesc, .int 0])), (bsteps, .inr (8, [.int 960, .int 1, .ref bstepsc, .int 0])), (bversions, .inr (8, [.int 8, .int 3, .ref bversionsc, .int 1]))] := hD
  obtain rfl := hr736
  refine lv_istore_n (lv' := [(2, .int 0), (0, .ref Tp), (1, .ref B)]) hx hb dX10_store_7 rfl hl (by decide) rfl (fun ls hl => ?_)
  refine lv_aload_n hx hb dX10_store_8 rfl (lv_at hl 2 rfl) ?_
  refine gf_X10_54 hC rfl hK hP 3 rfl rfl dX10_store_9 ?_
  refine lv_iload_n hx hb dX10_store_12 rfl (lv_at hl 0 rfl) ?_
  refine lv_iconst (v := 0) hx hb dX10_store_13 (by decide) ?_
  refine lv_aload_n hx hb dX10_store_14 rfl (lv_at hl 2 rfl) ?_
  refine gf_X10_63 hC rfl hK hP 3 rfl rfl dX10_store_15 ?_
  refine vV (wr := [(Tp, .inr (10, [.ref tb, .int 0, .ref tl, .ref ts, .int (-1), .int 0, .int 0, .int (-1)])), (tl, .inr (8, [.int 9, .int 7, .ref tlc, .int 0])), (ts, .inr (8, [.int 120, .int 1, .ref tsc, .int 0])), (B, .inr (0, [.ref bpersons, .ref bpapers, .ref bstamps, .ref bversions, .ref blines, .ref bsteps, .ref bsayings, .ref bfindings, .ref bwarnings, .ref bquestions, .int 0, .int (-1), .int 3, .int 24])), (blines, .inr (8, [.int 72, .int 7, .ref blinesc, .int 0])), (bsteps, .inr (8, [.int 960, .int 1, .ref bstepsc, .int 0]))]) hC hK hl hP hD hS hA (c_T_set_3_24_0 l G bversions 0 8 bversionsc (fun _ => 0)) si_X10_66 [7, 4] [0, 1, 2, 3, 5, 6] rfl rfl (by decide) rfl (by decide) (by decide) rfl rfl rfl rfl rfl (Nat.le_of_ble_eq_true rfl) ⟨Nat.le_of_ble_eq_true rfl, Nat.le_of_ble_eq_true rfl⟩ ⟨Nat.le_of_ble_eq_true rfl, Nat.le_of_ble_eq_true rfl⟩ dX10_store_18 (fun u740 H locs hr739 hP hD hS => ?_)
  have hP : va_P G.1 vwCl [(Tp, .inr (10, [.ref tb, .int 0, .ref tl, .ref ts, .int (-1), .int 0, .int 0, .int (-1)])), (tl, .inr (8, [.int 9, .int 7, .ref tlc, .int 0])), (ts, .inr (8, [.int 120, .int 1, .ref tsc, .int 0])), (B, .inr (0, [.ref bpersons, .ref bpapers, .ref bstamps, .ref bversions, .ref blines, .ref bsteps, .ref bsayings, .ref bfindings, .ref bwarnings, .ref bquestions, .int 0, .int (-1), .int 3, .int 24])), (blines, .inr (8, [.int 72, .int 7, .ref blinesc, .int 0])), (bsteps, .inr (8, [.int 960, .int 1, .ref bstepsc, .int 0])), (bversions, .inr (8, [.int 8, .int 3, .ref bversionsc, .int 1])), (bversionsc, .inl (G.2.1, 24, .inl (upd (fun _ => 0) 0 0)))] H := hP
  have hD : va_D A [(Tp, .inr (10, [.ref tb, .int 0, .ref tl, .ref ts, .int (-1), .int 0, .int 0, .int (-1)])), (tl, .inr (8, [.int 9, .int 7, .ref tlc, .int 0])), (ts, .inr (8, [.int 120, .int 1, .ref tsc, .int 0])), (B, .inr (0, [.ref bpersons, .ref bpapers, .ref bstamps, .ref bversions, .ref blines, .ref bsteps, .ref bsayings, .ref bfindings, .ref bwarnings, .ref bquestions, .int 0, .int (-1), .int 3, .int 24])), (blines, .inr (8, [.int 72, .int 7, .ref blinesc, .int 0])), (bsteps, .inr (8, [.int 960, .int 1, .ref bstepsc, .int 0])), (bversions, .inr (8, [.int 8, .int 3, .ref bversionsc, .int 1])), (bversionsc, .inl (G.2.1, 24, .inl (upd (fun _ => 0) 0 0)))] := hD
  refine lv_aload_n hx hb dX10_store_21 rfl (lv_at hl 2 rfl) ?_
  refine gf_X10_54 hC rfl hK hP 3 rfl rfl dX10_store_22 ?_
  refine lv_iload_n hx hb dX10_store_25 rfl (lv_at hl 0 rfl) ?_
  refine lv_iconst (v := 1) hx hb dX10_store_26 (by decide) ?_
  refine lv_aload_n hx hb dX10_store_27 rfl (lv_at hl 2 rfl) ?_
  refine gf_X10_70 hC rfl hK hP 3 rfl rfl dX10_store_28 ?_
  refine pV hC hK hl hP hD (c_T_count l G blines blinesc 72 7 0) si_X10_71 [4] rfl rfl (by decide) rfl rfl rfl rfl rfl (Nat.le_of_ble_eq_true rfl) ⟨Nat.le_of_ble_eq_true rfl, Nat.le_of_ble_eq_true rfl⟩ ⟨by first | exact Nat.le_of_ble_eq_true rfl | exact Nat.zero_le _, by first | exact Nat.le_of_ble_eq_true rfl | exact Nat.zero_le _⟩ dX10_store_31 (fun r741 hr741 => ?_)
  obtain rfl := hr741
  refine vV (wr := [(Tp, .inr (10, [.ref tb, .int 0, .ref tl, .ref ts, .int (-1), .int 0, .int 0, .int (-1)])), (tl, .inr (8, [.int 9, .int 7, .ref tlc, .int 0])), (ts, .inr (8, [.int 120, .int 1, .ref tsc, .int 0])), (B, .inr (0, [.ref bpersons, .ref bpapers, .ref bstamps, .ref bversions, .ref blines, .ref bsteps, .ref bsayings, .ref bfindings, .ref bwarnings, .ref bquestions, .int 0, .int (-1), .int 3, .int 24])), (blines, .inr (8, [.int 72, .int 7, .ref blinesc, .int 0])), (bsteps, .inr (8, [.int 960, .int 1, .ref bstepsc, .int 0]))]) hC hK hl hP hD hS hA (c_T_set_3_24_1 l G bversions 0 8 bversionsc (upd (fun _ => 0) 0 0)) si_X10_66 [6, 7] [0, 1, 2, 3, 4, 5] rfl rfl (by decide) rfl (by decide) (by decide) rfl rfl rfl rfl rfl (Nat.le_of_ble_eq_true rfl) ⟨Nat.le_of_ble_eq_true rfl, Nat.le_of_ble_eq_true rfl⟩ ⟨Nat.le_of_ble_eq_true rfl, Nat.le_of_ble_eq_true rfl⟩ dX10_store_34 (fun u744 H locs hr743 hP hD hS => ?_)
  have hP : va_P G.1 vwCl [(Tp, .inr (10, [.ref tb, .int 0, .ref tl, .ref ts, .int (-1), .int 0, .int 0, .int (-1)])), (tl, .inr (8, [.int 9, .int 7, .ref tlc, .int 0])), (ts, .inr (8, [.int 120, .int 1, .ref tsc, .int 0])), (B, .inr (0, [.ref bpersons, .ref bpapers, .ref bstamps, .ref bversions, .ref blines, .ref bsteps, .ref bsayings, .ref bfindings, .ref bwarnings, .ref bquestions, .int 0, .int (-1), .int 3, .int 24])), (blines, .inr (8, [.int 72, .int 7, .ref blinesc, .int 0])), (bsteps, .inr (8, [.int 960, .int 1, .ref bstepsc, .int 0])), (bversions, .inr (8, [.int 8, .int 3, .ref bversionsc, .int 1])), (bversionsc, .inl (G.2.1, 24, .inl (upd (upd (fun _ => 0) 0 0) 1 0)))] H := hP
  have hD : va_D A [(Tp, .inr (10, [.ref tb, .int 0, .ref tl, .ref ts, .int (-1), .int 0, .int 0, .int (-1)])), (tl, .inr (8, [.int 9, .int 7, .ref tlc, .int 0])), (ts, .inr (8, [.int 120, .int 1, .ref tsc, .int 0])), (B, .inr (0, [.ref bpersons, .ref bpapers, .ref bstamps, .ref bversions, .ref blines, .ref bsteps, .ref bsayings, .ref bfindings, .ref bwarnings, .ref bquestions, .int 0, .int (-1), .int 3, .int 24])), (blines, .inr (8, [.int 72, .int 7, .ref blinesc, .int 0])), (bsteps, .inr (8, [.int 960, .int 1, .ref bstepsc, .int 0])), (bversions, .inr (8, [.int 8, .int 3, .ref bversionsc, .int 1])), (bversionsc, .inl (G.2.1, 24, .inl (upd (upd (fun _ => 0) 0 0) 1 0)))] := hD
  refine lv_aload_n hx hb dX10_store_37 rfl (lv_at hl 2 rfl) ?_
  refine gf_X10_54 hC rfl hK hP 3 rfl rfl dX10_store_38 ?_
  refine lv_iload_n hx hb dX10_store_41 rfl (lv_at hl 0 rfl) ?_
  refine lv_iconst (v := 2) hx hb dX10_store_42 (by decide) ?_
  refine lv_aload_n hx hb dX10_store_43 rfl (lv_at hl 1 rfl) ?_
  refine gf_X10_20 hC rfl hK hP 0 rfl rfl dX10_store_44 ?_
  refine pV hC hK hl hP hD (c_T_count l G tl tlc 9 7 0) si_X10_71 [1] rfl rfl (by decide) rfl rfl rfl rfl rfl (Nat.le_of_ble_eq_true rfl) ⟨Nat.le_of_ble_eq_true rfl, Nat.le_of_ble_eq_true rfl⟩ ⟨by first | exact Nat.le_of_ble_eq_true rfl | exact Nat.zero_le _, by first | exact Nat.le_of_ble_eq_true rfl | exact Nat.zero_le _⟩ dX10_store_47 (fun r745 hr745 => ?_)
  obtain rfl := hr745
  refine vV (wr := [(Tp, .inr (10, [.ref tb, .int 0, .ref tl, .ref ts, .int (-1), .int 0, .int 0, .int (-1)])), (tl, .inr (8, [.int 9, .int 7, .ref tlc, .int 0])), (ts, .inr (8, [.int 120, .int 1, .ref tsc, .int 0])), (B, .inr (0, [.ref bpersons, .ref bpapers, .ref bstamps, .ref bversions, .ref blines, .ref bsteps, .ref bsayings, .ref bfindings, .ref bwarnings, .ref bquestions, .int 0, .int (-1), .int 3, .int 24])), (blines, .inr (8, [.int 72, .int 7, .ref blinesc, .int 0])), (bsteps, .inr (8, [.int 960, .int 1, .ref bstepsc, .int 0]))]) hC hK hl hP hD hS hA (c_T_set_3_24_2 l G bversions 0 8 bversionsc (upd (upd (fun _ => 0) 0 0) 1 0)) si_X10_66 [6, 7] [0, 1, 2, 3, 4, 5] rfl rfl (by decide) rfl (by decide) (by decide) rfl rfl rfl rfl rfl (Nat.le_of_ble_eq_true rfl) ⟨Nat.le_of_ble_eq_true rfl, Nat.le_of_ble_eq_true rfl⟩ ⟨Nat.le_of_ble_eq_true rfl, Nat.le_of_ble_eq_true rfl⟩ dX10_store_50 (fun u748 H locs hr747 hP hD hS => ?_)
  have hP : va_P G.1 vwCl [(Tp, .inr (10, [.ref tb, .int 0, .ref tl, .ref ts, .int (-1), .int 0, .int 0, .int (-1)])), (tl, .inr (8, [.int 9, .int 7, .ref tlc, .int 0])), (ts, .inr (8, [.int 120, .int 1, .ref tsc, .int 0])), (B, .inr (0, [.ref bpersons, .ref bpapers, .ref bstamps, .ref bversions, .ref blines, .ref bsteps, .ref bsayings, .ref bfindings, .ref bwarnings, .ref bquestions, .int 0, .int (-1), .int 3, .int 24])), (blines, .inr (8, [.int 72, .int 7, .ref blinesc, .int 0])), (bsteps, .inr (8, [.int 960, .int 1, .ref bstepsc, .int 0])), (bversions, .inr (8, [.int 8, .int 3, .ref bversionsc, .int 1])), (bversionsc, .inl (G.2.1, 24, .inl (upd (upd (upd (fun _ => 0) 0 0) 1 0) 2 0)))] H := hP
  have hD : va_D A [(Tp, .inr (10, [.ref tb, .int 0, .ref tl, .ref ts, .int (-1), .int 0, .int 0, .int (-1)])), (tl, .inr (8, [.int 9, .int 7, .ref tlc, .int 0])), (ts, .inr (8, [.int 120, .int 1, .ref tsc, .int 0])), (B, .inr (0, [.ref bpersons, .ref bpapers, .ref bstamps, .ref bversions, .ref blines, .ref bsteps, .ref bsayings, .ref bfindings, .ref bwarnings, .ref bquestions, .int 0, .int (-1), .int 3, .int 24])), (blines, .inr (8, [.int 72, .int 7, .ref blinesc, .int 0])), (bsteps, .inr (8, [.int 960, .int 1, .ref bstepsc, .int 0])), (bversions, .inr (8, [.int 8, .int 3, .ref bversionsc, .int 1])), (bversionsc, .inl (G.2.1, 24, .inl (upd (upd (upd (fun _ => 0) 0 0) 1 0) 2 0)))] := hD
  refine lv_aload_n hx hb dX10_store_53 rfl (lv_at hl 2 rfl) ?_
  refine gf_X10_73 hC rfl hK hP 3 rfl rfl dX10_store_54 ?_
  refine pV hC hK hl hP hD (c_T_count l G bsteps bstepsc 960 1 0) si_X10_71 [5] rfl rfl (by decide) rfl rfl rfl rfl rfl (Nat.le_of_ble_eq_true rfl) ⟨Nat.le_of_ble_eq_true rfl, Nat.le_of_ble_eq_true rfl⟩ ⟨by first | exact Nat.le_of_ble_eq_true rfl | exact Nat.zero_le _, by first | exact Nat.le_of_ble_eq_true rfl | exact Nat.zero_le _⟩ dX10_store_57 (fun r749 hr749 => ?_)
  obtain rfl := hr749
  refine lv_istore_n (lv' := [(3, .int 0), (2, .int 0), (0, .ref Tp), (1, .ref B)]) hx hb dX10_store_60 rfl hl (by decide) rfl (fun ls hl => ?_)
  refine lv_iconst (v := 0) hx hb dX10_store_61 (by decide) ?_
  refine lv_istore (lv' := [(4, .int 0), (3, .int 0), (2, .int 0), (0, .ref Tp), (1, .ref B)]) hx hb dX10_store_62 hl (by decide) rfl (fun ls hl => ?_)
  refine lv_iload hx hb dX10_store_64 (lv_at hl 0 rfl) ?_
  refine lv_aload_n hx hb dX10_store_66 rfl (lv_at hl 3 rfl) ?_
  refine gf_X10_20 hC rfl hK hP 0 rfl rfl dX10_store_67 ?_
  refine pV hC hK hl hP hD (c_T_count l G tl tlc 9 7 0) si_X10_71 [1] rfl rfl (by decide) rfl rfl rfl rfl rfl (Nat.le_of_ble_eq_true rfl) ⟨Nat.le_of_ble_eq_true rfl, Nat.le_of_ble_eq_true rfl⟩ ⟨by first | exact Nat.le_of_ble_eq_true rfl | exact Nat.zero_le _, by first | exact Nat.le_of_ble_eq_true rfl | exact Nat.zero_le _⟩ dX10_store_70 (fun r751 hr751 => ?_)
  obtain rfl := hr751
  refine lv_icmp_ge (tgt := 151) hx hb dX10_store_73 (by decide) (fun _ => ?_) (fun c9 => absurd (by decide) c9)
  refine lv_iconst (v := 0) hx hb dX10_store_151 (by decide) ?_
  refine lv_istore (lv' := [(4, .int 0), (3, .int 0), (2, .int 0), (0, .ref Tp), (1, .ref B)]) hx hb dX10_store_152 hl (by decide) rfl (fun ls hl => ?_)
  refine lv_iload hx hb dX10_store_154 (lv_at hl 0 rfl) ?_
  refine lv_aload_n hx hb dX10_store_156 rfl (lv_at hl 3 rfl) ?_
  refine gf_X10_24 hC rfl hK hP 0 rfl rfl dX10_store_157 ?_
  refine pV hC hK hl hP hD (c_T_count l G ts tsc 120 1 0) si_X10_71 [2] rfl rfl (by decide) rfl rfl rfl rfl rfl (Nat.le_of_ble_eq_true rfl) ⟨Nat.le_of_ble_eq_true rfl, Nat.le_of_ble_eq_true rfl⟩ ⟨by first | exact Nat.le_of_ble_eq_true rfl | exact Nat.zero_le _, by first | exact Nat.le_of_ble_eq_true rfl | exact Nat.zero_le _⟩ dX10_store_160 (fun r753 hr753 => ?_)
  obtain rfl := hr753
  refine lv_icmp_ge (tgt := 197) hx hb dX10_store_163 (by decide) (fun _ => ?_) (fun c9 => absurd (by decide) c9)
  refine lv_iload_n hx hb dX10_store_197 rfl (lv_at hl 2 rfl) ?_
  exact RI (v := 0) hC hP hD hS [] () rfl rfl (by decide) (rfl) rfl dX10_store_198
set_option maxHeartbeats 4000000 in
set_option maxRecDepth 100000 in
theorem c_read (l : Launch) (G : GG) (h0 : Nat) (B : Nat) (K : Nat) (S : Nat) (D : Nat) (R : Nat) (Ta : Nat) (Tp : Nat) (Ro : Nat) (Ho : Nat) (De : Nat) (tb : Nat) (tl : Nat) (ts : Nat) (tlc : Nat) (tsc : Nat) (bpersons : Nat) (bpapers : Nat) (bstamps : Nat) (bversions : Nat) (blines : Nat) (bsteps : Nat) (bsayings : Nat) (bfindings : Nat) (bwarnings : Nat) (bquestions : Nat) (bversionsc : Nat) (blinesc : Nat) (bstepsc : Nat) : MI l G yX11_read cX11_read 2 (some .int) 5 0 0 [.ref h0] [(h0, .inr (11, [.ref B, .ref K, .int 0, .ref S, .ref D, .ref R, .ref Ta, .ref Tp, .ref Ro, .ref Ho, .ref De])), (Tp, .inr (10, [.ref tb, .int 0, .ref tl, .ref ts, .int (-1), .int 0, .int 0, .int (-1)])), (tl, .inr (8, [.int 9, .int 7, .ref tlc, .int 0])), (ts, .inr (8, [.int 120, .int 1, .ref tsc, .int 0])), (B, .inr (0, [.ref bpersons, .ref bpapers, .ref bstamps, .ref bversions, .ref blines, .ref bsteps, .ref bsayings, .ref bfindings, .ref bwarnings, .ref bquestions, .int 0, .int (-1), .int 3, .int 24])), (bversions, .inr (8, [.int 8, .int 3, .ref bversionsc, .int 0])), (bversionsc, .inl (G.2.1, 24, .inl (fun _ => 0))), (blines, .inr (8, [.int 72, .int 7, .ref blinesc, .int 0])), (bsteps, .inr (8, [.int 960, .int 1, .ref bstepsc, .int 0]))] (fun (r : Int32) (u : Unit) => (r = 0)) (fun u : Unit => []) := by
  refine MI.start (by decide +kernel) (Nat.le_of_ble_eq_true rfl) ?_
  intro p e s m below meth c A ls hC hK hP hD hS hA hl
  have hl : lv_has ls 2 [(0, .ref h0)] := hl
  obtain ⟨hx, hb, hr, hml, hB, hown, hlocks, hnm⟩ := id hC
  refine lv_aload_n hx hb dX11_read_0 rfl (lv_at hl 0 rfl) ?_
  refine gf_X11_58 hC rfl hK hP 0 rfl rfl dX11_read_1 ?_
  refine iV (wr := [(h0, .inr (11, [.ref B, .ref K, .int 0, .ref S, .ref D, .ref R, .ref Ta, .ref Tp, .ref Ro, .ref Ho, .ref De])), (B, .inr (0, [.ref bpersons, .ref bpapers, .ref bstamps, .ref bversions, .ref blines, .ref bsteps, .ref bsayings, .ref bfindings, .ref bwarnings, .ref bquestions, .int 0, .int (-1), .int 3, .int 24])), (bversions, .inr (8, [.int 8, .int 3, .ref bversionsc, .int 0])), (bversionsc, .inl (G.2.1, 24, .inl (fun _ => 0))), (blines, .inr (8, [.int 72, .int 7, .ref blinesc, .int 0])), (bsteps, .inr (8, [.int 960, .int 1, .ref bstepsc, .int 0]))]) hC hK hl hP hD hS hA (c_scan0 l G Tp tb tl ts tlc tsc) si_X11_227 [1, 2, 3] [0, 4, 5, 6, 7, 8] rfl rfl (by decide) rfl (by decide) (by decide) rfl rfl rfl rfl rfl (Nat.le_of_ble_eq_true rfl) ⟨Nat.le_of_ble_eq_true rfl, Nat.le_of_ble_eq_true rfl⟩ ⟨Nat.le_of_ble_eq_true rfl, Nat.le_of_ble_eq_true rfl⟩ dX11_read_4 (fun r755 u756 H locs hr755 hP hD hS => ?_)
  have hP : va_P G.1 vwCl [(h0, .inr (11, [.ref B, .ref K, .int 0, .ref S, .ref D, .ref R, .ref Ta, .ref Tp, .ref Ro, .ref Ho, .ref De])), (B, .inr (0, [.ref bpersons, .ref bpapers, .ref bstamps, .ref bversions, .ref blines, .ref bsteps, .ref bsayings, .ref bfindings, .ref bwarnings, .ref bquestions, .int 0, .int (-1), .int 3, .int 24])), (bversions, .inr (8, [.int 8, .int 3, .ref bversionsc, .int 0])), (bversionsc, .inl (G.2.1, 24, .inl (fun _ => 0))), (blines, .inr (8, [.int 72, .int 7, .ref blinesc, .int 0])), (bsteps, .inr (8, [.int 960, .int 1, .ref bstepsc, .int 0])), (Tp, .inr (10, [.ref tb, .int 0, .ref tl, .ref ts, .int (-1), .int 0, .int 0, .int (-1)])), (tl, .inr (8, [.int 9, .int 7, .ref tlc, .int 0])), (ts, .inr (8, [.int 120, .int 1, .ref tsc, .int 0]))] H := hP
  have hD : va_D A [(h0, .inr (11, [.ref B, .ref K, .int 0, .ref S, .ref D, .ref R, .ref Ta, .ref Tp, .ref Ro, .ref Ho, .ref De])), (B, .inr (0, [.ref bpersons, .ref bpapers, .ref bstamps, .ref bversions, .ref blines, .ref bsteps, .ref bsayings, .ref bfindings, .ref bwarnings, .ref bquestions, .int 0, .int (-1), .int 3, .int 24])), (bversions, .inr (8, [.int 8, .int 3, .ref bversionsc, .int 0])), (bversionsc, .inl (G.2.1, 24, .inl (fun _ => 0))), (blines, .inr (8, [.int 72, .int 7, .ref blinesc, .int 0])), (bsteps, .inr (8, [.int 960, .int 1, .ref bstepsc, .int 0])), (Tp, .inr (10, [.ref tb, .int 0, .ref tl, .ref ts, .int (-1), .int 0, .int 0, .int (-1)])), (tl, .inr (8, [.int 9, .int 7, .ref tlc, .int 0])), (ts, .inr (8, [.int 120, .int 1, .ref tsc, .int 0]))] := hD
  obtain rfl := hr755
  refine lv_istore_n (lv' := [(1, .int (-1)), (0, .ref h0)]) hx hb dX11_read_7 rfl hl (by decide) rfl (fun ls hl => ?_)
  refine lv_aload_n hx hb dX11_read_8 rfl (lv_at hl 1 rfl) ?_
  refine gf_X11_58 hC rfl hK hP 0 rfl rfl dX11_read_9 ?_
  refine vV (wr := [(h0, .inr (11, [.ref B, .ref K, .int 0, .ref S, .ref D, .ref R, .ref Ta, .ref Tp, .ref Ro, .ref Ho, .ref De])), (B, .inr (0, [.ref bpersons, .ref bpapers, .ref bstamps, .ref bversions, .ref blines, .ref bsteps, .ref bsayings, .ref bfindings, .ref bwarnings, .ref bquestions, .int 0, .int (-1), .int 3, .int 24])), (bversions, .inr (8, [.int 8, .int 3, .ref bversionsc, .int 0])), (bversionsc, .inl (G.2.1, 24, .inl (fun _ => 0))), (blines, .inr (8, [.int 72, .int 7, .ref blinesc, .int 0])), (bsteps, .inr (8, [.int 960, .int 1, .ref bstepsc, .int 0])), (tl, .inr (8, [.int 9, .int 7, .ref tlc, .int 0])), (ts, .inr (8, [.int 120, .int 1, .ref tsc, .int 0]))]) hC hK hl hP hD hS hA (c_Tp_clear l G Tp tb tl ts) si_X11_230 [6] [0, 1, 2, 3, 4, 5, 7, 8] rfl rfl (by decide) rfl (by decide) (by decide) rfl rfl rfl rfl rfl (Nat.le_of_ble_eq_true rfl) ⟨Nat.le_of_ble_eq_true rfl, Nat.le_of_ble_eq_true rfl⟩ ⟨Nat.le_of_ble_eq_true rfl, Nat.le_of_ble_eq_true rfl⟩ dX11_read_12 (fun u759 H locs hr758 hP hD hS => ?_)
  have hP : va_P G.1 vwCl [(h0, .inr (11, [.ref B, .ref K, .int 0, .ref S, .ref D, .ref R, .ref Ta, .ref Tp, .ref Ro, .ref Ho, .ref De])), (B, .inr (0, [.ref bpersons, .ref bpapers, .ref bstamps, .ref bversions, .ref blines, .ref bsteps, .ref bsayings, .ref bfindings, .ref bwarnings, .ref bquestions, .int 0, .int (-1), .int 3, .int 24])), (bversions, .inr (8, [.int 8, .int 3, .ref bversionsc, .int 0])), (bversionsc, .inl (G.2.1, 24, .inl (fun _ => 0))), (blines, .inr (8, [.int 72, .int 7, .ref blinesc, .int 0])), (bsteps, .inr (8, [.int 960, .int 1, .ref bstepsc, .int 0])), (tl, .inr (8, [.int 9, .int 7, .ref tlc, .int 0])), (ts, .inr (8, [.int 120, .int 1, .ref tsc, .int 0])), (Tp, .inr (10, [.ref tb, .int 0, .ref tl, .ref ts, .int (-1), .int 0, .int 0, .int (-1)]))] H := hP
  have hD : va_D A [(h0, .inr (11, [.ref B, .ref K, .int 0, .ref S, .ref D, .ref R, .ref Ta, .ref Tp, .ref Ro, .ref Ho, .ref De])), (B, .inr (0, [.ref bpersons, .ref bpapers, .ref bstamps, .ref bversions, .ref blines, .ref bsteps, .ref bsayings, .ref bfindings, .ref bwarnings, .ref bquestions, .int 0, .int (-1), .int 3, .int 24])), (bversions, .inr (8, [.int 8, .int 3, .ref bversionsc, .int 0])), (bversionsc, .inl (G.2.1, 24, .inl (fun _ => 0))), (blines, .inr (8, [.int 72, .int 7, .ref blinesc, .int 0])), (bsteps, .inr (8, [.int 960, .int 1, .ref bstepsc, .int 0])), (tl, .inr (8, [.int 9, .int 7, .ref tlc, .int 0])), (ts, .inr (8, [.int 120, .int 1, .ref tsc, .int 0])), (Tp, .inr (10, [.ref tb, .int 0, .ref tl, .ref ts, .int (-1), .int 0, .int 0, .int (-1)]))] := hD
  refine lv_iload_n hx hb dX11_read_15 rfl (lv_at hl 0 rfl) ?_
  refine lv_if_lt (tgt := 24) hx hb dX11_read_16 (by decide) (fun _ => ?_) (fun c9 => absurd (by decide) c9)
  refine lv_aload_n hx hb dX11_read_24 rfl (lv_at hl 1 rfl) ?_
  refine gf_X11_15 hC rfl hK hP 0 rfl rfl dX11_read_25 ?_
  refine gf_X11_233 hC rfl hK hP 1 rfl rfl dX11_read_28 ?_
  refine pV hC hK hl hP hD (c_T_isFull l G bversions bversionsc 8 3 0) si_X11_111 [2] rfl rfl (by decide) rfl rfl rfl rfl rfl (Nat.le_of_ble_eq_true rfl) ⟨Nat.le_of_ble_eq_true rfl, Nat.le_of_ble_eq_true rfl⟩ ⟨by first | exact Nat.le_of_ble_eq_true rfl | exact Nat.zero_le _, by first | exact Nat.le_of_ble_eq_true rfl | exact Nat.zero_le _⟩ dX11_read_31 (fun r760 hr760 => ?_)
  rcases hr760 with ⟨rfl, a761⟩ | ⟨rfl, a761⟩
  · exact absurd a761 (by decide)
  · refine lv_if_eq (tgt := 40) hx hb dX11_read_34 (by decide) (fun _ => ?_) (fun c9 => absurd (by decide) c9)
    refine lv_aload_n hx hb dX11_read_40 rfl (lv_at hl 1 rfl) ?_
    refine gf_X11_58 hC rfl hK hP 0 rfl rfl dX11_read_41 ?_
    refine lv_aload_n hx hb dX11_read_44 rfl (lv_at hl 1 rfl) ?_
    refine gf_X11_15 hC rfl hK hP 0 rfl rfl dX11_read_45 ?_
    refine iV (wr := [(h0, .inr (11, [.ref B, .ref K, .int 0, .ref S, .ref D, .ref R, .ref Ta, .ref Tp, .ref Ro, .ref Ho, .ref De]))]) hC hK hl hP hD hS hA (c_store0 l G Tp B tb tl ts tlc tsc bpersons bpapers bstamps bversions blines bsteps bsayings bfindings bwarnings bquestions bversionsc blinesc bstepsc) si_X11_236 [8, 6, 7, 1, 2, 3, 4, 5] [0] rfl rfl (by decide) rfl (by decide) (by decide) rfl rfl rfl rfl rfl (Nat.le_of_ble_eq_true rfl) ⟨Nat.le_of_ble_eq_true rfl, Nat.le_of_ble_eq_true rfl⟩ ⟨Nat.le_of_ble_eq_true rfl, Nat.le_of_ble_eq_true rfl⟩ dX11_read_48 (fun r762 u763 H locs hr762 hP hD hS => ?_)
    have hP : va_P G.1 vwCl [(h0, .inr (11, [.ref B, .ref K, .int 0, .ref S, .ref D, .ref R, .ref Ta, .ref Tp, .ref Ro, .ref Ho, .ref De]))] H := hP
    have hD : va_D A [(h0, .inr (11, [.ref B, .ref K, .int 0, .ref S, .ref D, .ref R, .ref Ta, .ref Tp, .ref Ro, .ref Ho, .ref De]))] := hD
    obtain rfl := hr762
    exact RI (v := 0) hC hP hD hS [] () rfl rfl (by decide) (rfl) rfl dX11_read_51
set_option maxHeartbeats 4000000 in
set_option maxRecDepth 100000 in
theorem c_sort_0 (l : Launch) (G : GG) (Ho : Nat) (hs : Nat) (hz : Nat) (hi : Nat) (hw : Nat) (hn : Nat) (ht : Nat) : MP l G yX4_sort cX4_sort 2 (some .int) 3 [.ref Ho, .int 0] [(Ho, .inr (4, [.ref hs, .ref hz, .ref hi, .ref hw, .ref hn, .ref ht])), (hs, .inl (G.2.1, 4, .inl (upd (upd (upd (upd (fun _ => 0) 0 (-1)) 1 (-1)) 2 (-1)) 3 (-1))))] (fun r : Int32 => r = (-1)) := by
  refine MP.start (by decide +kernel) (Nat.le_of_ble_eq_true rfl) ?_
  intro p e s m below meth c ls hC hK hP hD hl
  have hl : lv_has ls 2 [(0, .ref Ho), (1, .int 0)] := hl
  obtain ⟨hx, hb, hr, hml, hB, hown, hlocks, hnm⟩ := id hC
  refine lv_iload_n hx hb dX4_sort_0 rfl (lv_at hl 1 rfl) ?_
  refine pSN hC hK hl (c_isSheet l G 0) si_X4_30 rfl rfl (Nat.le_of_ble_eq_true rfl) ⟨Nat.le_of_ble_eq_true rfl, Nat.le_of_ble_eq_true rfl⟩ ⟨by first | exact Nat.le_of_ble_eq_true rfl | exact Nat.zero_le _, by first | exact Nat.le_of_ble_eq_true rfl | exact Nat.zero_le _⟩ dX4_sort_1 (fun r765 hr765 => ?_)
  rcases hr765 with ⟨rfl, a766⟩ | ⟨rfl, a766⟩
  · refine lv_if_eq (tgt := 16) hx hb dX4_sort_4 (by decide) (fun c9 => absurd c9 (by decide)) (fun _ => ?_)
    refine lv_aload_n hx hb dX4_sort_7 rfl (lv_at hl 0 rfl) ?_
    refine gf_X4_11 hC rfl hK hP 0 rfl rfl dX4_sort_8 ?_
    refine lv_iload_n hx hb dX4_sort_11 rfl (lv_at hl 1 rfl) ?_
    refine ald hC hK hP 1 rfl (vin (by decide +kernel)) (k := 0) (by decide +kernel) (v := (-1)) (rfl) dX4_sort_12 ?_
    refine lv_goto (tgt := 17) hx hb dX4_sort_13 (by decide) ?_
    exact RP (v := (-1)) hC (rfl) rfl dX4_sort_17
  · exact absurd (by unfold Wi; decide) a766
set_option maxHeartbeats 4000000 in
set_option maxRecDepth 100000 in
theorem c_size_0 (l : Launch) (G : GG) (Ho : Nat) (hs : Nat) (hz : Nat) (hi : Nat) (hw : Nat) (hn : Nat) (ht : Nat) : MP l G yX4_size cX4_size 2 (some .int) 3 [.ref Ho, .int 0] [(Ho, .inr (4, [.ref hs, .ref hz, .ref hi, .ref hw, .ref hn, .ref ht])), (hz, .inl (G.2.1, 4, .inl (fun _ => 0)))] (fun r : Int32 => r = 0) := by
  refine MP.start (by decide +kernel) (Nat.le_of_ble_eq_true rfl) ?_
  intro p e s m below meth c ls hC hK hP hD hl
  have hl : lv_has ls 2 [(0, .ref Ho), (1, .int 0)] := hl
  obtain ⟨hx, hb, hr, hml, hB, hown, hlocks, hnm⟩ := id hC
  refine lv_iload_n hx hb dX4_size_0 rfl (lv_at hl 1 rfl) ?_
  refine pSN hC hK hl (c_isSheet l G 0) si_X4_30 rfl rfl (Nat.le_of_ble_eq_true rfl) ⟨Nat.le_of_ble_eq_true rfl, Nat.le_of_ble_eq_true rfl⟩ ⟨by first | exact Nat.le_of_ble_eq_true rfl | exact Nat.zero_le _, by first | exact Nat.le_of_ble_eq_true rfl | exact Nat.zero_le _⟩ dX4_size_1 (fun r767 hr767 => ?_)
  rcases hr767 with ⟨rfl, a768⟩ | ⟨rfl, a768⟩
  · refine lv_if_eq (tgt := 16) hx hb dX4_size_4 (by decide) (fun c9 => absurd c9 (by decide)) (fun _ => ?_)
    refine lv_aload_n hx hb dX4_size_7 rfl (lv_at hl 0 rfl) ?_
    refine gf_X4_15 hC rfl hK hP 0 rfl rfl dX4_size_8 ?_
    refine lv_iload_n hx hb dX4_size_11 rfl (lv_at hl 1 rfl) ?_
    refine ald hC hK hP 1 rfl (vin (by decide +kernel)) (k := 0) (by decide +kernel) (v := 0) (rfl) dX4_size_12 ?_
    refine lv_goto (tgt := 17) hx hb dX4_size_13 (by decide) ?_
    exact RP (v := 0) hC (rfl) rfl dX4_size_17
  · exact absurd (by unfold Wi; decide) a768
set_option maxHeartbeats 4000000 in
set_option maxRecDepth 100000 in
theorem c_refusal_0 (l : Launch) (G : GG) (Ho : Nat) (so : Int32) (hs : Nat) (hz : Nat) (hi : Nat) (hw : Nat) (hn : Nat) (ht : Nat) : MP l G yX4_refusal cX4_refusal 4 (some .int) 4 [.ref Ho, .int 0, .int so] [(Ho, .inr (4, [.ref hs, .ref hz, .ref hi, .ref hw, .ref hn, .ref ht])), (hs, .inl (G.2.1, 4, .inl (upd (upd (upd (upd (fun _ => 0) 0 (-1)) 1 (-1)) 2 (-1)) 3 (-1))))] (fun r : Int32 => r = (-11)) := by
  refine MP.start (by decide +kernel) (Nat.le_of_ble_eq_true rfl) ?_
  intro p e s m below meth c ls hC hK hP hD hl
  have hl : lv_has ls 4 [(0, .ref Ho), (1, .int 0), (2, .int so)] := hl
  obtain ⟨hx, hb, hr, hml, hB, hown, hlocks, hnm⟩ := id hC
  refine lv_aload_n hx hb dX4_refusal_0 rfl (lv_at hl 0 rfl) ?_
  refine lv_iload_n hx hb dX4_refusal_1 rfl (lv_at hl 1 rfl) ?_
  refine pV hC hK hl hP hD (c_sort_0 l G Ho hs hz hi hw hn ht) si_X4_38 [0, 1] rfl rfl (by decide) rfl rfl rfl rfl rfl (Nat.le_of_ble_eq_true rfl) ⟨Nat.le_of_ble_eq_true rfl, Nat.le_of_ble_eq_true rfl⟩ ⟨by first | exact Nat.le_of_ble_eq_true rfl | exact Nat.zero_le _, by first | exact Nat.le_of_ble_eq_true rfl | exact Nat.zero_le _⟩ dX4_refusal_2 (fun r769 hr769 => ?_)
  obtain rfl := hr769
  refine lv_istore_n (lv' := [(3, .int (-1)), (0, .ref Ho), (1, .int 0), (2, .int so)]) hx hb dX4_refusal_5 rfl hl (by decide) rfl (fun ls hl => ?_)
  refine lv_iload_n hx hb dX4_refusal_6 rfl (lv_at hl 0 rfl) ?_
  refine lv_iconst (v := (-1)) hx hb dX4_refusal_7 (by decide) ?_
  refine lv_icmp_ne (tgt := 14) hx hb dX4_refusal_8 (by decide) (fun c9 => absurd (by decide) c9) (fun _ => ?_)
  refine lv_bipush (v := (-11)) hx hb dX4_refusal_11 (by decide) ?_
  exact RP (v := (-11)) hC (rfl) rfl dX4_refusal_13
set_option maxHeartbeats 4000000 in
set_option maxRecDepth 100000 in
theorem c_held_0 (l : Launch) (G : GG) (Ho : Nat) (B : Nat) (hs : Nat) (hz : Nat) (hi : Nat) (hw : Nat) (hn : Nat) (ht : Nat) : MP l G yX4_held cX4_held 4 (some .int) 3 [.ref Ho, .int 0, .ref B] [(Ho, .inr (4, [.ref hs, .ref hz, .ref hi, .ref hw, .ref hn, .ref ht])), (hw, .inl (G.2.1, 4, .inl (upd (upd (upd (upd (fun _ => 0) 0 4) 1 4) 2 4) 3 4)))] (fun r : Int32 => r = 4) := by
  refine MP.start (by decide +kernel) (Nat.le_of_ble_eq_true rfl) ?_
  intro p e s m below meth c ls hC hK hP hD hl
  have hl : lv_has ls 4 [(0, .ref Ho), (1, .int 0), (2, .ref B)] := hl
  obtain ⟨hx, hb, hr, hml, hB, hown, hlocks, hnm⟩ := id hC
  refine lv_iload_n hx hb dX4_held_0 rfl (lv_at hl 1 rfl) ?_
  refine pSN hC hK hl (c_isShelf l G 0) si_X4_41 rfl rfl (Nat.le_of_ble_eq_true rfl) ⟨Nat.le_of_ble_eq_true rfl, Nat.le_of_ble_eq_true rfl⟩ ⟨by first | exact Nat.le_of_ble_eq_true rfl | exact Nat.zero_le _, by first | exact Nat.le_of_ble_eq_true rfl | exact Nat.zero_le _⟩ dX4_held_1 (fun r771 hr771 => ?_)
  rcases hr771 with ⟨rfl, a772⟩ | ⟨rfl, a772⟩
  · refine lv_if_ne (tgt := 9) hx hb dX4_held_4 (by decide) (fun _ => ?_) (fun c9 => absurd c9 (by decide))
    refine lv_iconst (v := 1) hx hb dX4_held_9 (by decide) ?_
    refine lv_istore_n (lv' := [(3, .int 1), (0, .ref Ho), (1, .int 0), (2, .ref B)]) hx hb dX4_held_10 rfl hl (by decide) rfl (fun ls hl => ?_)
    refine lv_aload_n hx hb dX4_held_11 rfl (lv_at hl 1 rfl) ?_
    refine gf_X4_21 hC rfl hK hP 0 rfl rfl dX4_held_12 ?_
    refine lv_iload_n hx hb dX4_held_15 rfl (lv_at hl 2 rfl) ?_
    refine ald hC hK hP 1 rfl (vin (by decide +kernel)) (k := 0) (by decide +kernel) (v := 4) (rfl) dX4_held_16 ?_
    refine lv_if_ne (tgt := 34) hx hb dX4_held_17 (by decide) (fun _ => ?_) (fun c9 => absurd c9 (by decide))
    refine lv_aload_n hx hb dX4_held_34 rfl (lv_at hl 1 rfl) ?_
    refine gf_X4_21 hC rfl hK hP 0 rfl rfl dX4_held_35 ?_
    refine lv_iload_n hx hb dX4_held_38 rfl (lv_at hl 2 rfl) ?_
    refine ald hC hK hP 1 rfl (vin (by decide +kernel)) (k := 0) (by decide +kernel) (v := 4) (rfl) dX4_held_39 ?_
    refine lv_iconst (v := 1) hx hb dX4_held_40 (by decide) ?_
    refine lv_icmp_ne (tgt := 58) hx hb dX4_held_41 (by decide) (fun _ => ?_) (fun c9 => absurd c9 (by decide))
    refine lv_aload_n hx hb dX4_held_58 rfl (lv_at hl 1 rfl) ?_
    refine gf_X4_21 hC rfl hK hP 0 rfl rfl dX4_held_59 ?_
    refine lv_iload_n hx hb dX4_held_62 rfl (lv_at hl 2 rfl) ?_
    refine ald hC hK hP 1 rfl (vin (by decide +kernel)) (k := 0) (by decide +kernel) (v := 4) (rfl) dX4_held_63 ?_
    refine lv_iconst (v := 2) hx hb dX4_held_64 (by decide) ?_
    refine lv_icmp_ne (tgt := 82) hx hb dX4_held_65 (by decide) (fun _ => ?_) (fun c9 => absurd c9 (by decide))
    refine lv_iload_n hx hb dX4_held_82 rfl (lv_at hl 0 rfl) ?_
    refine lv_if_eq (tgt := 95) hx hb dX4_held_83 (by decide) (fun c9 => absurd c9 (by decide)) (fun _ => ?_)
    refine lv_aload_n hx hb dX4_held_86 rfl (lv_at hl 1 rfl) ?_
    refine gf_X4_21 hC rfl hK hP 0 rfl rfl dX4_held_87 ?_
    refine lv_iload_n hx hb dX4_held_90 rfl (lv_at hl 2 rfl) ?_
    refine ald hC hK hP 1 rfl (vin (by decide +kernel)) (k := 0) (by decide +kernel) (v := 4) (rfl) dX4_held_91 ?_
    refine lv_goto (tgt := 96) hx hb dX4_held_92 (by decide) ?_
    exact RP (v := 4) hC (rfl) rfl dX4_held_96
  · exact absurd (by unfold Wi; decide) a772
set_option maxHeartbeats 4000000 in
set_option maxRecDepth 100000 in
theorem c_sort_1 (l : Launch) (G : GG) (Ho : Nat) (hs : Nat) (hz : Nat) (hi : Nat) (hw : Nat) (hn : Nat) (ht : Nat) : MP l G yX4_sort cX4_sort 2 (some .int) 3 [.ref Ho, .int 1] [(Ho, .inr (4, [.ref hs, .ref hz, .ref hi, .ref hw, .ref hn, .ref ht])), (hs, .inl (G.2.1, 4, .inl (upd (upd (upd (upd (fun _ => 0) 0 (-1)) 1 (-1)) 2 (-1)) 3 (-1))))] (fun r : Int32 => r = (-1)) := by
  refine MP.start (by decide +kernel) (Nat.le_of_ble_eq_true rfl) ?_
  intro p e s m below meth c ls hC hK hP hD hl
  have hl : lv_has ls 2 [(0, .ref Ho), (1, .int 1)] := hl
  obtain ⟨hx, hb, hr, hml, hB, hown, hlocks, hnm⟩ := id hC
  refine lv_iload_n hx hb dX4_sort_0 rfl (lv_at hl 1 rfl) ?_
  refine pSN hC hK hl (c_isSheet l G 1) si_X4_30 rfl rfl (Nat.le_of_ble_eq_true rfl) ⟨Nat.le_of_ble_eq_true rfl, Nat.le_of_ble_eq_true rfl⟩ ⟨by first | exact Nat.le_of_ble_eq_true rfl | exact Nat.zero_le _, by first | exact Nat.le_of_ble_eq_true rfl | exact Nat.zero_le _⟩ dX4_sort_1 (fun r773 hr773 => ?_)
  rcases hr773 with ⟨rfl, a774⟩ | ⟨rfl, a774⟩
  · refine lv_if_eq (tgt := 16) hx hb dX4_sort_4 (by decide) (fun c9 => absurd c9 (by decide)) (fun _ => ?_)
    refine lv_aload_n hx hb dX4_sort_7 rfl (lv_at hl 0 rfl) ?_
    refine gf_X4_11 hC rfl hK hP 0 rfl rfl dX4_sort_8 ?_
    refine lv_iload_n hx hb dX4_sort_11 rfl (lv_at hl 1 rfl) ?_
    refine ald hC hK hP 1 rfl (vin (by decide +kernel)) (k := 1) (by decide +kernel) (v := (-1)) (rfl) dX4_sort_12 ?_
    refine lv_goto (tgt := 17) hx hb dX4_sort_13 (by decide) ?_
    exact RP (v := (-1)) hC (rfl) rfl dX4_sort_17
  · exact absurd (by unfold Wi; decide) a774
set_option maxHeartbeats 4000000 in
set_option maxRecDepth 100000 in
theorem c_size_1 (l : Launch) (G : GG) (Ho : Nat) (hs : Nat) (hz : Nat) (hi : Nat) (hw : Nat) (hn : Nat) (ht : Nat) : MP l G yX4_size cX4_size 2 (some .int) 3 [.ref Ho, .int 1] [(Ho, .inr (4, [.ref hs, .ref hz, .ref hi, .ref hw, .ref hn, .ref ht])), (hz, .inl (G.2.1, 4, .inl (fun _ => 0)))] (fun r : Int32 => r = 0) := by
  refine MP.start (by decide +kernel) (Nat.le_of_ble_eq_true rfl) ?_
  intro p e s m below meth c ls hC hK hP hD hl
  have hl : lv_has ls 2 [(0, .ref Ho), (1, .int 1)] := hl
  obtain ⟨hx, hb, hr, hml, hB, hown, hlocks, hnm⟩ := id hC
  refine lv_iload_n hx hb dX4_size_0 rfl (lv_at hl 1 rfl) ?_
  refine pSN hC hK hl (c_isSheet l G 1) si_X4_30 rfl rfl (Nat.le_of_ble_eq_true rfl) ⟨Nat.le_of_ble_eq_true rfl, Nat.le_of_ble_eq_true rfl⟩ ⟨by first | exact Nat.le_of_ble_eq_true rfl | exact Nat.zero_le _, by first | exact Nat.le_of_ble_eq_true rfl | exact Nat.zero_le _⟩ dX4_size_1 (fun r775 hr775 => ?_)
  rcases hr775 with ⟨rfl, a776⟩ | ⟨rfl, a776⟩
  · refine lv_if_eq (tgt := 16) hx hb dX4_size_4 (by decide) (fun c9 => absurd c9 (by decide)) (fun _ => ?_)
    refine lv_aload_n hx hb dX4_size_7 rfl (lv_at hl 0 rfl) ?_
    refine gf_X4_15 hC rfl hK hP 0 rfl rfl dX4_size_8 ?_
    refine lv_iload_n hx hb dX4_size_11 rfl (lv_at hl 1 rfl) ?_
    refine ald hC hK hP 1 rfl (vin (by decide +kernel)) (k := 1) (by decide +kernel) (v := 0) (rfl) dX4_size_12 ?_
    refine lv_goto (tgt := 17) hx hb dX4_size_13 (by decide) ?_
    exact RP (v := 0) hC (rfl) rfl dX4_size_17
  · exact absurd (by unfold Wi; decide) a776
set_option maxHeartbeats 4000000 in
set_option maxRecDepth 100000 in
theorem c_refusal_1 (l : Launch) (G : GG) (Ho : Nat) (so : Int32) (hs : Nat) (hz : Nat) (hi : Nat) (hw : Nat) (hn : Nat) (ht : Nat) : MP l G yX4_refusal cX4_refusal 4 (some .int) 4 [.ref Ho, .int 1, .int so] [(Ho, .inr (4, [.ref hs, .ref hz, .ref hi, .ref hw, .ref hn, .ref ht])), (hs, .inl (G.2.1, 4, .inl (upd (upd (upd (upd (fun _ => 0) 0 (-1)) 1 (-1)) 2 (-1)) 3 (-1))))] (fun r : Int32 => r = (-11)) := by
  refine MP.start (by decide +kernel) (Nat.le_of_ble_eq_true rfl) ?_
  intro p e s m below meth c ls hC hK hP hD hl
  have hl : lv_has ls 4 [(0, .ref Ho), (1, .int 1), (2, .int so)] := hl
  obtain ⟨hx, hb, hr, hml, hB, hown, hlocks, hnm⟩ := id hC
  refine lv_aload_n hx hb dX4_refusal_0 rfl (lv_at hl 0 rfl) ?_
  refine lv_iload_n hx hb dX4_refusal_1 rfl (lv_at hl 1 rfl) ?_
  refine pV hC hK hl hP hD (c_sort_1 l G Ho hs hz hi hw hn ht) si_X4_38 [0, 1] rfl rfl (by decide) rfl rfl rfl rfl rfl (Nat.le_of_ble_eq_true rfl) ⟨Nat.le_of_ble_eq_true rfl, Nat.le_of_ble_eq_true rfl⟩ ⟨by first | exact Nat.le_of_ble_eq_true rfl | exact Nat.zero_le _, by first | exact Nat.le_of_ble_eq_true rfl | exact Nat.zero_le _⟩ dX4_refusal_2 (fun r777 hr777 => ?_)
  obtain rfl := hr777
  refine lv_istore_n (lv' := [(3, .int (-1)), (0, .ref Ho), (1, .int 1), (2, .int so)]) hx hb dX4_refusal_5 rfl hl (by decide) rfl (fun ls hl => ?_)
  refine lv_iload_n hx hb dX4_refusal_6 rfl (lv_at hl 0 rfl) ?_
  refine lv_iconst (v := (-1)) hx hb dX4_refusal_7 (by decide) ?_
  refine lv_icmp_ne (tgt := 14) hx hb dX4_refusal_8 (by decide) (fun c9 => absurd (by decide) c9) (fun _ => ?_)
  refine lv_bipush (v := (-11)) hx hb dX4_refusal_11 (by decide) ?_
  exact RP (v := (-11)) hC (rfl) rfl dX4_refusal_13
set_option maxHeartbeats 4000000 in
set_option maxRecDepth 100000 in
theorem c_held_1 (l : Launch) (G : GG) (Ho : Nat) (B : Nat) (hs : Nat) (hz : Nat) (hi : Nat) (hw : Nat) (hn : Nat) (ht : Nat) : MP l G yX4_held cX4_held 4 (some .int) 3 [.ref Ho, .int 1, .ref B] [(Ho, .inr (4, [.ref hs, .ref hz, .ref hi, .ref hw, .ref hn, .ref ht])), (hw, .inl (G.2.1, 4, .inl (upd (upd (upd (upd (fun _ => 0) 0 4) 1 4) 2 4) 3 4)))] (fun r : Int32 => r = 4) := by
  refine MP.start (by decide +kernel) (Nat.le_of_ble_eq_true rfl) ?_
  intro p e s m below meth c ls hC hK hP hD hl
  have hl : lv_has ls 4 [(0, .ref Ho), (1, .int 1), (2, .ref B)] := hl
  obtain ⟨hx, hb, hr, hml, hB, hown, hlocks, hnm⟩ := id hC
  refine lv_iload_n hx hb dX4_held_0 rfl (lv_at hl 1 rfl) ?_
  refine pSN hC hK hl (c_isShelf l G 1) si_X4_41 rfl rfl (Nat.le_of_ble_eq_true rfl) ⟨Nat.le_of_ble_eq_true rfl, Nat.le_of_ble_eq_true rfl⟩ ⟨by first | exact Nat.le_of_ble_eq_true rfl | exact Nat.zero_le _, by first | exact Nat.le_of_ble_eq_true rfl | exact Nat.zero_le _⟩ dX4_held_1 (fun r779 hr779 => ?_)
  rcases hr779 with ⟨rfl, a780⟩ | ⟨rfl, a780⟩
  · refine lv_if_ne (tgt := 9) hx hb dX4_held_4 (by decide) (fun _ => ?_) (fun c9 => absurd c9 (by decide))
    refine lv_iconst (v := 1) hx hb dX4_held_9 (by decide) ?_
    refine lv_istore_n (lv' := [(3, .int 1), (0, .ref Ho), (1, .int 1), (2, .ref B)]) hx hb dX4_held_10 rfl hl (by decide) rfl (fun ls hl => ?_)
    refine lv_aload_n hx hb dX4_held_11 rfl (lv_at hl 1 rfl) ?_
    refine gf_X4_21 hC rfl hK hP 0 rfl rfl dX4_held_12 ?_
    refine lv_iload_n hx hb dX4_held_15 rfl (lv_at hl 2 rfl) ?_
    refine ald hC hK hP 1 rfl (vin (by decide +kernel)) (k := 1) (by decide +kernel) (v := 4) (rfl) dX4_held_16 ?_
    refine lv_if_ne (tgt := 34) hx hb dX4_held_17 (by decide) (fun _ => ?_) (fun c9 => absurd c9 (by decide))
    refine lv_aload_n hx hb dX4_held_34 rfl (lv_at hl 1 rfl) ?_
    refine gf_X4_21 hC rfl hK hP 0 rfl rfl dX4_held_35 ?_
    refine lv_iload_n hx hb dX4_held_38 rfl (lv_at hl 2 rfl) ?_
    refine ald hC hK hP 1 rfl (vin (by decide +kernel)) (k := 1) (by decide +kernel) (v := 4) (rfl) dX4_held_39 ?_
    refine lv_iconst (v := 1) hx hb dX4_held_40 (by decide) ?_
    refine lv_icmp_ne (tgt := 58) hx hb dX4_held_41 (by decide) (fun _ => ?_) (fun c9 => absurd c9 (by decide))
    refine lv_aload_n hx hb dX4_held_58 rfl (lv_at hl 1 rfl) ?_
    refine gf_X4_21 hC rfl hK hP 0 rfl rfl dX4_held_59 ?_
    refine lv_iload_n hx hb dX4_held_62 rfl (lv_at hl 2 rfl) ?_
    refine ald hC hK hP 1 rfl (vin (by decide +kernel)) (k := 1) (by decide +kernel) (v := 4) (rfl) dX4_held_63 ?_
    refine lv_iconst (v := 2) hx hb dX4_held_64 (by decide) ?_
    refine lv_icmp_ne (tgt := 82) hx hb dX4_held_65 (by decide) (fun _ => ?_) (fun c9 => absurd c9 (by decide))
    refine lv_iload_n hx hb dX4_held_82 rfl (lv_at hl 0 rfl) ?_
    refine lv_if_eq (tgt := 95) hx hb dX4_held_83 (by decide) (fun c9 => absurd c9 (by decide)) (fun _ => ?_)
    refine lv_aload_n hx hb dX4_held_86 rfl (lv_at hl 1 rfl) ?_
    refine gf_X4_21 hC rfl hK hP 0 rfl rfl dX4_held_87 ?_
    refine lv_iload_n hx hb dX4_held_90 rfl (lv_at hl 2 rfl) ?_
    refine ald hC hK hP 1 rfl (vin (by decide +kernel)) (k := 1) (by decide +kernel) (v := 4) (rfl) dX4_held_91 ?_
    refine lv_goto (tgt := 96) hx hb dX4_held_92 (by decide) ?_
    exact RP (v := 4) hC (rfl) rfl dX4_held_96
  · exact absurd (by unfold Wi; decide) a780
set_option maxHeartbeats 4000000 in
set_option maxRecDepth 100000 in
theorem c_sort_2 (l : Launch) (G : GG) (Ho : Nat) (hs : Nat) (hz : Nat) (hi : Nat) (hw : Nat) (hn : Nat) (ht : Nat) : MP l G yX4_sort cX4_sort 2 (some .int) 3 [.ref Ho, .int 2] [(Ho, .inr (4, [.ref hs, .ref hz, .ref hi, .ref hw, .ref hn, .ref ht])), (hs, .inl (G.2.1, 4, .inl (upd (upd (upd (upd (fun _ => 0) 0 (-1)) 1 (-1)) 2 (-1)) 3 (-1))))] (fun r : Int32 => r = (-1)) := by
  refine MP.start (by decide +kernel) (Nat.le_of_ble_eq_true rfl) ?_
  intro p e s m below meth c ls hC hK hP hD hl
  have hl : lv_has ls 2 [(0, .ref Ho), (1, .int 2)] := hl
  obtain ⟨hx, hb, hr, hml, hB, hown, hlocks, hnm⟩ := id hC
  refine lv_iload_n hx hb dX4_sort_0 rfl (lv_at hl 1 rfl) ?_
  refine pSN hC hK hl (c_isSheet l G 2) si_X4_30 rfl rfl (Nat.le_of_ble_eq_true rfl) ⟨Nat.le_of_ble_eq_true rfl, Nat.le_of_ble_eq_true rfl⟩ ⟨by first | exact Nat.le_of_ble_eq_true rfl | exact Nat.zero_le _, by first | exact Nat.le_of_ble_eq_true rfl | exact Nat.zero_le _⟩ dX4_sort_1 (fun r781 hr781 => ?_)
  rcases hr781 with ⟨rfl, a782⟩ | ⟨rfl, a782⟩
  · refine lv_if_eq (tgt := 16) hx hb dX4_sort_4 (by decide) (fun c9 => absurd c9 (by decide)) (fun _ => ?_)
    refine lv_aload_n hx hb dX4_sort_7 rfl (lv_at hl 0 rfl) ?_
    refine gf_X4_11 hC rfl hK hP 0 rfl rfl dX4_sort_8 ?_
    refine lv_iload_n hx hb dX4_sort_11 rfl (lv_at hl 1 rfl) ?_
    refine ald hC hK hP 1 rfl (vin (by decide +kernel)) (k := 2) (by decide +kernel) (v := (-1)) (rfl) dX4_sort_12 ?_
    refine lv_goto (tgt := 17) hx hb dX4_sort_13 (by decide) ?_
    exact RP (v := (-1)) hC (rfl) rfl dX4_sort_17
  · exact absurd (by unfold Wi; decide) a782
set_option maxHeartbeats 4000000 in
set_option maxRecDepth 100000 in
theorem c_size_2 (l : Launch) (G : GG) (Ho : Nat) (hs : Nat) (hz : Nat) (hi : Nat) (hw : Nat) (hn : Nat) (ht : Nat) : MP l G yX4_size cX4_size 2 (some .int) 3 [.ref Ho, .int 2] [(Ho, .inr (4, [.ref hs, .ref hz, .ref hi, .ref hw, .ref hn, .ref ht])), (hz, .inl (G.2.1, 4, .inl (fun _ => 0)))] (fun r : Int32 => r = 0) := by
  refine MP.start (by decide +kernel) (Nat.le_of_ble_eq_true rfl) ?_
  intro p e s m below meth c ls hC hK hP hD hl
  have hl : lv_has ls 2 [(0, .ref Ho), (1, .int 2)] := hl
  obtain ⟨hx, hb, hr, hml, hB, hown, hlocks, hnm⟩ := id hC
  refine lv_iload_n hx hb dX4_size_0 rfl (lv_at hl 1 rfl) ?_
  refine pSN hC hK hl (c_isSheet l G 2) si_X4_30 rfl rfl (Nat.le_of_ble_eq_true rfl) ⟨Nat.le_of_ble_eq_true rfl, Nat.le_of_ble_eq_true rfl⟩ ⟨by first | exact Nat.le_of_ble_eq_true rfl | exact Nat.zero_le _, by first | exact Nat.le_of_ble_eq_true rfl | exact Nat.zero_le _⟩ dX4_size_1 (fun r783 hr783 => ?_)
  rcases hr783 with ⟨rfl, a784⟩ | ⟨rfl, a784⟩
  · refine lv_if_eq (tgt := 16) hx hb dX4_size_4 (by decide) (fun c9 => absurd c9 (by decide)) (fun _ => ?_)
    refine lv_aload_n hx hb dX4_size_7 rfl (lv_at hl 0 rfl) ?_
    refine gf_X4_15 hC rfl hK hP 0 rfl rfl dX4_size_8 ?_
    refine lv_iload_n hx hb dX4_size_11 rfl (lv_at hl 1 rfl) ?_
    refine ald hC hK hP 1 rfl (vin (by decide +kernel)) (k := 2) (by decide +kernel) (v := 0) (rfl) dX4_size_12 ?_
    refine lv_goto (tgt := 17) hx hb dX4_size_13 (by decide) ?_
    exact RP (v := 0) hC (rfl) rfl dX4_size_17
  · exact absurd (by unfold Wi; decide) a784
set_option maxHeartbeats 4000000 in
set_option maxRecDepth 100000 in
theorem c_refusal_2 (l : Launch) (G : GG) (Ho : Nat) (so : Int32) (hs : Nat) (hz : Nat) (hi : Nat) (hw : Nat) (hn : Nat) (ht : Nat) : MP l G yX4_refusal cX4_refusal 4 (some .int) 4 [.ref Ho, .int 2, .int so] [(Ho, .inr (4, [.ref hs, .ref hz, .ref hi, .ref hw, .ref hn, .ref ht])), (hs, .inl (G.2.1, 4, .inl (upd (upd (upd (upd (fun _ => 0) 0 (-1)) 1 (-1)) 2 (-1)) 3 (-1))))] (fun r : Int32 => r = (-11)) := by
  refine MP.start (by decide +kernel) (Nat.le_of_ble_eq_true rfl) ?_
  intro p e s m below meth c ls hC hK hP hD hl
  have hl : lv_has ls 4 [(0, .ref Ho), (1, .int 2), (2, .int so)] := hl
  obtain ⟨hx, hb, hr, hml, hB, hown, hlocks, hnm⟩ := id hC
  refine lv_aload_n hx hb dX4_refusal_0 rfl (lv_at hl 0 rfl) ?_
  refine lv_iload_n hx hb dX4_refusal_1 rfl (lv_at hl 1 rfl) ?_
  refine pV hC hK hl hP hD (c_sort_2 l G Ho hs hz hi hw hn ht) si_X4_38 [0, 1] rfl rfl (by decide) rfl rfl rfl rfl rfl (Nat.le_of_ble_eq_true rfl) ⟨Nat.le_of_ble_eq_true rfl, Nat.le_of_ble_eq_true rfl⟩ ⟨by first | exact Nat.le_of_ble_eq_true rfl | exact Nat.zero_le _, by first | exact Nat.le_of_ble_eq_true rfl | exact Nat.zero_le _⟩ dX4_refusal_2 (fun r785 hr785 => ?_)
  obtain rfl := hr785
  refine lv_istore_n (lv' := [(3, .int (-1)), (0, .ref Ho), (1, .int 2), (2, .int so)]) hx hb dX4_refusal_5 rfl hl (by decide) rfl (fun ls hl => ?_)
  refine lv_iload_n hx hb dX4_refusal_6 rfl (lv_at hl 0 rfl) ?_
  refine lv_iconst (v := (-1)) hx hb dX4_refusal_7 (by decide) ?_
  refine lv_icmp_ne (tgt := 14) hx hb dX4_refusal_8 (by decide) (fun c9 => absurd (by decide) c9) (fun _ => ?_)
  refine lv_bipush (v := (-11)) hx hb dX4_refusal_11 (by decide) ?_
  exact RP (v := (-11)) hC (rfl) rfl dX4_refusal_13
set_option maxHeartbeats 4000000 in
set_option maxRecDepth 100000 in
theorem c_held_2 (l : Launch) (G : GG) (Ho : Nat) (B : Nat) (hs : Nat) (hz : Nat) (hi : Nat) (hw : Nat) (hn : Nat) (ht : Nat) : MP l G yX4_held cX4_held 4 (some .int) 3 [.ref Ho, .int 2, .ref B] [(Ho, .inr (4, [.ref hs, .ref hz, .ref hi, .ref hw, .ref hn, .ref ht])), (hw, .inl (G.2.1, 4, .inl (upd (upd (upd (upd (fun _ => 0) 0 4) 1 4) 2 4) 3 4)))] (fun r : Int32 => r = 4) := by
  refine MP.start (by decide +kernel) (Nat.le_of_ble_eq_true rfl) ?_
  intro p e s m below meth c ls hC hK hP hD hl
  have hl : lv_has ls 4 [(0, .ref Ho), (1, .int 2), (2, .ref B)] := hl
  obtain ⟨hx, hb, hr, hml, hB, hown, hlocks, hnm⟩ := id hC
  refine lv_iload_n hx hb dX4_held_0 rfl (lv_at hl 1 rfl) ?_
  refine pSN hC hK hl (c_isShelf l G 2) si_X4_41 rfl rfl (Nat.le_of_ble_eq_true rfl) ⟨Nat.le_of_ble_eq_true rfl, Nat.le_of_ble_eq_true rfl⟩ ⟨by first | exact Nat.le_of_ble_eq_true rfl | exact Nat.zero_le _, by first | exact Nat.le_of_ble_eq_true rfl | exact Nat.zero_le _⟩ dX4_held_1 (fun r787 hr787 => ?_)
  rcases hr787 with ⟨rfl, a788⟩ | ⟨rfl, a788⟩
  · refine lv_if_ne (tgt := 9) hx hb dX4_held_4 (by decide) (fun _ => ?_) (fun c9 => absurd c9 (by decide))
    refine lv_iconst (v := 1) hx hb dX4_held_9 (by decide) ?_
    refine lv_istore_n (lv' := [(3, .int 1), (0, .ref Ho), (1, .int 2), (2, .ref B)]) hx hb dX4_held_10 rfl hl (by decide) rfl (fun ls hl => ?_)
    refine lv_aload_n hx hb dX4_held_11 rfl (lv_at hl 1 rfl) ?_
    refine gf_X4_21 hC rfl hK hP 0 rfl rfl dX4_held_12 ?_
    refine lv_iload_n hx hb dX4_held_15 rfl (lv_at hl 2 rfl) ?_
    refine ald hC hK hP 1 rfl (vin (by decide +kernel)) (k := 2) (by decide +kernel) (v := 4) (rfl) dX4_held_16 ?_
    refine lv_if_ne (tgt := 34) hx hb dX4_held_17 (by decide) (fun _ => ?_) (fun c9 => absurd c9 (by decide))
    refine lv_aload_n hx hb dX4_held_34 rfl (lv_at hl 1 rfl) ?_
    refine gf_X4_21 hC rfl hK hP 0 rfl rfl dX4_held_35 ?_
    refine lv_iload_n hx hb dX4_held_38 rfl (lv_at hl 2 rfl) ?_
    refine ald hC hK hP 1 rfl (vin (by decide +kernel)) (k := 2) (by decide +kernel) (v := 4) (rfl) dX4_held_39 ?_
    refine lv_iconst (v := 1) hx hb dX4_held_40 (by decide) ?_
    refine lv_icmp_ne (tgt := 58) hx hb dX4_held_41 (by decide) (fun _ => ?_) (fun c9 => absurd c9 (by decide))
    refine lv_aload_n hx hb dX4_held_58 rfl (lv_at hl 1 rfl) ?_
    refine gf_X4_21 hC rfl hK hP 0 rfl rfl dX4_held_59 ?_
    refine lv_iload_n hx hb dX4_held_62 rfl (lv_at hl 2 rfl) ?_
    refine ald hC hK hP 1 rfl (vin (by decide +kernel)) (k := 2) (by decide +kernel) (v := 4) (rfl) dX4_held_63 ?_
    refine lv_iconst (v := 2) hx hb dX4_held_64 (by decide) ?_
    refine lv_icmp_ne (tgt := 82) hx hb dX4_held_65 (by decide) (fun _ => ?_) (fun c9 => absurd c9 (by decide))
    refine lv_iload_n hx hb dX4_held_82 rfl (lv_at hl 0 rfl) ?_
    refine lv_if_eq (tgt := 95) hx hb dX4_held_83 (by decide) (fun c9 => absurd c9 (by decide)) (fun _ => ?_)
    refine lv_aload_n hx hb dX4_held_86 rfl (lv_at hl 1 rfl) ?_
    refine gf_X4_21 hC rfl hK hP 0 rfl rfl dX4_held_87 ?_
    refine lv_iload_n hx hb dX4_held_90 rfl (lv_at hl 2 rfl) ?_
    refine ald hC hK hP 1 rfl (vin (by decide +kernel)) (k := 2) (by decide +kernel) (v := 4) (rfl) dX4_held_91 ?_
    refine lv_goto (tgt := 96) hx hb dX4_held_92 (by decide) ?_
    exact RP (v := 4) hC (rfl) rfl dX4_held_96
  · exact absurd (by unfold Wi; decide) a788
set_option maxHeartbeats 4000000 in
set_option maxRecDepth 100000 in
theorem c_sort_3 (l : Launch) (G : GG) (Ho : Nat) (hs : Nat) (hz : Nat) (hi : Nat) (hw : Nat) (hn : Nat) (ht : Nat) : MP l G yX4_sort cX4_sort 2 (some .int) 3 [.ref Ho, .int 3] [(Ho, .inr (4, [.ref hs, .ref hz, .ref hi, .ref hw, .ref hn, .ref ht])), (hs, .inl (G.2.1, 4, .inl (upd (upd (upd (upd (fun _ => 0) 0 (-1)) 1 (-1)) 2 (-1)) 3 (-1))))] (fun r : Int32 => r = (-1)) := by
  refine MP.start (by decide +kernel) (Nat.le_of_ble_eq_true rfl) ?_
  intro p e s m below meth c ls hC hK hP hD hl
  have hl : lv_has ls 2 [(0, .ref Ho), (1, .int 3)] := hl
  obtain ⟨hx, hb, hr, hml, hB, hown, hlocks, hnm⟩ := id hC
  refine lv_iload_n hx hb dX4_sort_0 rfl (lv_at hl 1 rfl) ?_
  refine pSN hC hK hl (c_isSheet l G 3) si_X4_30 rfl rfl (Nat.le_of_ble_eq_true rfl) ⟨Nat.le_of_ble_eq_true rfl, Nat.le_of_ble_eq_true rfl⟩ ⟨by first | exact Nat.le_of_ble_eq_true rfl | exact Nat.zero_le _, by first | exact Nat.le_of_ble_eq_true rfl | exact Nat.zero_le _⟩ dX4_sort_1 (fun r789 hr789 => ?_)
  rcases hr789 with ⟨rfl, a790⟩ | ⟨rfl, a790⟩
  · refine lv_if_eq (tgt := 16) hx hb dX4_sort_4 (by decide) (fun c9 => absurd c9 (by decide)) (fun _ => ?_)
    refine lv_aload_n hx hb dX4_sort_7 rfl (lv_at hl 0 rfl) ?_
    refine gf_X4_11 hC rfl hK hP 0 rfl rfl dX4_sort_8 ?_
    refine lv_iload_n hx hb dX4_sort_11 rfl (lv_at hl 1 rfl) ?_
    refine ald hC hK hP 1 rfl (vin (by decide +kernel)) (k := 3) (by decide +kernel) (v := (-1)) (rfl) dX4_sort_12 ?_
    refine lv_goto (tgt := 17) hx hb dX4_sort_13 (by decide) ?_
    exact RP (v := (-1)) hC (rfl) rfl dX4_sort_17
  · exact absurd (by unfold Wi; decide) a790
set_option maxHeartbeats 4000000 in
set_option maxRecDepth 100000 in
theorem c_size_3 (l : Launch) (G : GG) (Ho : Nat) (hs : Nat) (hz : Nat) (hi : Nat) (hw : Nat) (hn : Nat) (ht : Nat) : MP l G yX4_size cX4_size 2 (some .int) 3 [.ref Ho, .int 3] [(Ho, .inr (4, [.ref hs, .ref hz, .ref hi, .ref hw, .ref hn, .ref ht])), (hz, .inl (G.2.1, 4, .inl (fun _ => 0)))] (fun r : Int32 => r = 0) := by
  refine MP.start (by decide +kernel) (Nat.le_of_ble_eq_true rfl) ?_
  intro p e s m below meth c ls hC hK hP hD hl
  have hl : lv_has ls 2 [(0, .ref Ho), (1, .int 3)] := hl
  obtain ⟨hx, hb, hr, hml, hB, hown, hlocks, hnm⟩ := id hC
  refine lv_iload_n hx hb dX4_size_0 rfl (lv_at hl 1 rfl) ?_
  refine pSN hC hK hl (c_isSheet l G 3) si_X4_30 rfl rfl (Nat.le_of_ble_eq_true rfl) ⟨Nat.le_of_ble_eq_true rfl, Nat.le_of_ble_eq_true rfl⟩ ⟨by first | exact Nat.le_of_ble_eq_true rfl | exact Nat.zero_le _, by first | exact Nat.le_of_ble_eq_true rfl | exact Nat.zero_le _⟩ dX4_size_1 (fun r791 hr791 => ?_)
  rcases hr791 with ⟨rfl, a792⟩ | ⟨rfl, a792⟩
  · refine lv_if_eq (tgt := 16) hx hb dX4_size_4 (by decide) (fun c9 => absurd c9 (by decide)) (fun _ => ?_)
    refine lv_aload_n hx hb dX4_size_7 rfl (lv_at hl 0 rfl) ?_
    refine gf_X4_15 hC rfl hK hP 0 rfl rfl dX4_size_8 ?_
    refine lv_iload_n hx hb dX4_size_11 rfl (lv_at hl 1 rfl) ?_
    refine ald hC hK hP 1 rfl (vin (by decide +kernel)) (k := 3) (by decide +kernel) (v := 0) (rfl) dX4_size_12 ?_
    refine lv_goto (tgt := 17) hx hb dX4_size_13 (by decide) ?_
    exact RP (v := 0) hC (rfl) rfl dX4_size_17
  · exact absurd (by unfold Wi; decide) a792
set_option maxHeartbeats 4000000 in
set_option maxRecDepth 100000 in
theorem c_refusal_3 (l : Launch) (G : GG) (Ho : Nat) (so : Int32) (hs : Nat) (hz : Nat) (hi : Nat) (hw : Nat) (hn : Nat) (ht : Nat) : MP l G yX4_refusal cX4_refusal 4 (some .int) 4 [.ref Ho, .int 3, .int so] [(Ho, .inr (4, [.ref hs, .ref hz, .ref hi, .ref hw, .ref hn, .ref ht])), (hs, .inl (G.2.1, 4, .inl (upd (upd (upd (upd (fun _ => 0) 0 (-1)) 1 (-1)) 2 (-1)) 3 (-1))))] (fun r : Int32 => r = (-11)) := by
  refine MP.start (by decide +kernel) (Nat.le_of_ble_eq_true rfl) ?_
  intro p e s m below meth c ls hC hK hP hD hl
  have hl : lv_has ls 4 [(0, .ref Ho), (1, .int 3), (2, .int so)] := hl
  obtain ⟨hx, hb, hr, hml, hB, hown, hlocks, hnm⟩ := id hC
  refine lv_aload_n hx hb dX4_refusal_0 rfl (lv_at hl 0 rfl) ?_
  refine lv_iload_n hx hb dX4_refusal_1 rfl (lv_at hl 1 rfl) ?_
  refine pV hC hK hl hP hD (c_sort_3 l G Ho hs hz hi hw hn ht) si_X4_38 [0, 1] rfl rfl (by decide) rfl rfl rfl rfl rfl (Nat.le_of_ble_eq_true rfl) ⟨Nat.le_of_ble_eq_true rfl, Nat.le_of_ble_eq_true rfl⟩ ⟨by first | exact Nat.le_of_ble_eq_true rfl | exact Nat.zero_le _, by first | exact Nat.le_of_ble_eq_true rfl | exact Nat.zero_le _⟩ dX4_refusal_2 (fun r793 hr793 => ?_)
  obtain rfl := hr793
  refine lv_istore_n (lv' := [(3, .int (-1)), (0, .ref Ho), (1, .int 3), (2, .int so)]) hx hb dX4_refusal_5 rfl hl (by decide) rfl (fun ls hl => ?_)
  refine lv_iload_n hx hb dX4_refusal_6 rfl (lv_at hl 0 rfl) ?_
  refine lv_iconst (v := (-1)) hx hb dX4_refusal_7 (by decide) ?_
  refine lv_icmp_ne (tgt := 14) hx hb dX4_refusal_8 (by decide) (fun c9 => absurd (by decide) c9) (fun _ => ?_)
  refine lv_bipush (v := (-11)) hx hb dX4_refusal_11 (by decide) ?_
  exact RP (v := (-11)) hC (rfl) rfl dX4_refusal_13
set_option maxHeartbeats 4000000 in
set_option maxRecDepth 100000 in
theorem c_held_3 (l : Launch) (G : GG) (Ho : Nat) (B : Nat) (hs : Nat) (hz : Nat) (hi : Nat) (hw : Nat) (hn : Nat) (ht : Nat) : MP l G yX4_held cX4_held 4 (some .int) 3 [.ref Ho, .int 3, .ref B] [(Ho, .inr (4, [.ref hs, .ref hz, .ref hi, .ref hw, .ref hn, .ref ht])), (hw, .inl (G.2.1, 4, .inl (upd (upd (upd (upd (fun _ => 0) 0 4) 1 4) 2 4) 3 4)))] (fun r : Int32 => r = 4) := by
  refine MP.start (by decide +kernel) (Nat.le_of_ble_eq_true rfl) ?_
  intro p e s m below meth c ls hC hK hP hD hl
  have hl : lv_has ls 4 [(0, .ref Ho), (1, .int 3), (2, .ref B)] := hl
  obtain ⟨hx, hb, hr, hml, hB, hown, hlocks, hnm⟩ := id hC
  refine lv_iload_n hx hb dX4_held_0 rfl (lv_at hl 1 rfl) ?_
  refine pSN hC hK hl (c_isShelf l G 3) si_X4_41 rfl rfl (Nat.le_of_ble_eq_true rfl) ⟨Nat.le_of_ble_eq_true rfl, Nat.le_of_ble_eq_true rfl⟩ ⟨by first | exact Nat.le_of_ble_eq_true rfl | exact Nat.zero_le _, by first | exact Nat.le_of_ble_eq_true rfl | exact Nat.zero_le _⟩ dX4_held_1 (fun r795 hr795 => ?_)
  rcases hr795 with ⟨rfl, a796⟩ | ⟨rfl, a796⟩
  · refine lv_if_ne (tgt := 9) hx hb dX4_held_4 (by decide) (fun _ => ?_) (fun c9 => absurd c9 (by decide))
    refine lv_iconst (v := 1) hx hb dX4_held_9 (by decide) ?_
    refine lv_istore_n (lv' := [(3, .int 1), (0, .ref Ho), (1, .int 3), (2, .ref B)]) hx hb dX4_held_10 rfl hl (by decide) rfl (fun ls hl => ?_)
    refine lv_aload_n hx hb dX4_held_11 rfl (lv_at hl 1 rfl) ?_
    refine gf_X4_21 hC rfl hK hP 0 rfl rfl dX4_held_12 ?_
    refine lv_iload_n hx hb dX4_held_15 rfl (lv_at hl 2 rfl) ?_
    refine ald hC hK hP 1 rfl (vin (by decide +kernel)) (k := 3) (by decide +kernel) (v := 4) (rfl) dX4_held_16 ?_
    refine lv_if_ne (tgt := 34) hx hb dX4_held_17 (by decide) (fun _ => ?_) (fun c9 => absurd c9 (by decide))
    refine lv_aload_n hx hb dX4_held_34 rfl (lv_at hl 1 rfl) ?_
    refine gf_X4_21 hC rfl hK hP 0 rfl rfl dX4_held_35 ?_
    refine lv_iload_n hx hb dX4_held_38 rfl (lv_at hl 2 rfl) ?_
    refine ald hC hK hP 1 rfl (vin (by decide +kernel)) (k := 3) (by decide +kernel) (v := 4) (rfl) dX4_held_39 ?_
    refine lv_iconst (v := 1) hx hb dX4_held_40 (by decide) ?_
    refine lv_icmp_ne (tgt := 58) hx hb dX4_held_41 (by decide) (fun _ => ?_) (fun c9 => absurd c9 (by decide))
    refine lv_aload_n hx hb dX4_held_58 rfl (lv_at hl 1 rfl) ?_
    refine gf_X4_21 hC rfl hK hP 0 rfl rfl dX4_held_59 ?_
    refine lv_iload_n hx hb dX4_held_62 rfl (lv_at hl 2 rfl) ?_
    refine ald hC hK hP 1 rfl (vin (by decide +kernel)) (k := 3) (by decide +kernel) (v := 4) (rfl) dX4_held_63 ?_
    refine lv_iconst (v := 2) hx hb dX4_held_64 (by decide) ?_
    refine lv_icmp_ne (tgt := 82) hx hb dX4_held_65 (by decide) (fun _ => ?_) (fun c9 => absurd c9 (by decide))
    refine lv_iload_n hx hb dX4_held_82 rfl (lv_at hl 0 rfl) ?_
    refine lv_if_eq (tgt := 95) hx hb dX4_held_83 (by decide) (fun c9 => absurd c9 (by decide)) (fun _ => ?_)
    refine lv_aload_n hx hb dX4_held_86 rfl (lv_at hl 1 rfl) ?_
    refine gf_X4_21 hC rfl hK hP 0 rfl rfl dX4_held_87 ?_
    refine lv_iload_n hx hb dX4_held_90 rfl (lv_at hl 2 rfl) ?_
    refine ald hC hK hP 1 rfl (vin (by decide +kernel)) (k := 3) (by decide +kernel) (v := 4) (rfl) dX4_held_91 ?_
    refine lv_goto (tgt := 96) hx hb dX4_held_92 (by decide) ?_
    exact RP (v := 4) hC (rfl) rfl dX4_held_96
  · exact absurd (by unfold Wi; decide) a796
set_option maxHeartbeats 4000000 in
set_option maxRecDepth 100000 in
theorem c_put (l : Launch) (G : GG) (h0 : Nat) (s9 : Int32) (x2 : Int32) (x3 : Int32) (B : Nat) (K : Nat) (S : Nat) (D : Nat) (R : Nat) (Ta : Nat) (Tp : Nat) (Ro : Nat) (Ho : Nat) (De : Nat) (hs : Nat) (hz : Nat) (hi : Nat) (hw : Nat) (hn : Nat) (ht : Nat) : MP l G yX11_put cX11_put 4 (some .int) 5 [.ref h0, .int s9, .int x2, .int x3] [(h0, .inr (11, [.ref B, .ref K, .int 0, .ref S, .ref D, .ref R, .ref Ta, .ref Tp, .ref Ro, .ref Ho, .ref De])), (Ho, .inr (4, [.ref hs, .ref hz, .ref hi, .ref hw, .ref hn, .ref ht])), (hs, .inl (G.2.1, 4, .inl (upd (upd (upd (upd (fun _ => 0) 0 (-1)) 1 (-1)) 2 (-1)) 3 (-1))))] (fun r : Int32 => r = A_put s9) := by
  refine MP.start (by decide +kernel) (Nat.le_of_ble_eq_true rfl) ?_
  intro p e s m below meth c ls hC hK hP hD hl
  have hl : lv_has ls 4 [(0, .ref h0), (1, .int s9), (2, .int x2), (3, .int x3)] := hl
  obtain ⟨hx, hb, hr, hml, hB, hown, hlocks, hnm⟩ := id hC
  refine lv_iload_n hx hb dX11_put_0 rfl (lv_at hl 1 rfl) ?_
  refine pS hC hK hl (c_isSheet l G s9) si_X11_164 rfl rfl (Nat.le_of_ble_eq_true rfl) ⟨Nat.le_of_ble_eq_true rfl, Nat.le_of_ble_eq_true rfl⟩ ⟨by first | exact Nat.le_of_ble_eq_true rfl | exact Nat.zero_le _, by first | exact Nat.le_of_ble_eq_true rfl | exact Nat.zero_le _⟩ dX11_put_1 (fun r797 hr797 => ?_)
  rcases hr797 with ⟨rfl, a798⟩ | ⟨rfl, a798⟩
  · rcases Wi_c3 a798 with rfl | rfl | rfl | rfl
    · refine lv_if_ne (tgt := 9) hx hb dX11_put_4 (by decide) (fun _ => ?_) (fun c9 => absurd c9 (by decide))
      refine lv_aload_n hx hb dX11_put_9 rfl (lv_at hl 0 rfl) ?_
      refine gf_X11_72 hC rfl hK hP 0 rfl rfl dX11_put_10 ?_
      refine lv_iload_n hx hb dX11_put_13 rfl (lv_at hl 1 rfl) ?_
      refine pV hC hK hl hP hD (c_sort_0 l G Ho hs hz hi hw hn ht) si_X11_309 [1, 2] rfl rfl (by decide) rfl rfl rfl rfl rfl (Nat.le_of_ble_eq_true rfl) ⟨Nat.le_of_ble_eq_true rfl, Nat.le_of_ble_eq_true rfl⟩ ⟨by first | exact Nat.le_of_ble_eq_true rfl | exact Nat.zero_le _, by first | exact Nat.le_of_ble_eq_true rfl | exact Nat.zero_le _⟩ dX11_put_14 (fun r799 hr799 => ?_)
      obtain rfl := hr799
      refine lv_iconst (v := (-1)) hx hb dX11_put_17 (by decide) ?_
      refine lv_icmp_ne (tgt := 24) hx hb dX11_put_18 (by decide) (fun c9 => absurd (by decide) c9) (fun _ => ?_)
      refine lv_bipush (v := (-11)) hx hb dX11_put_21 (by decide) ?_
      exact RP (v := (-11)) hC ((by unfold A_put; first | rfl | (simp only [ifc_t a798]; done) | (simp only [ifc_t a798]; rfl))) rfl dX11_put_23
    · refine lv_if_ne (tgt := 9) hx hb dX11_put_4 (by decide) (fun _ => ?_) (fun c9 => absurd c9 (by decide))
      refine lv_aload_n hx hb dX11_put_9 rfl (lv_at hl 0 rfl) ?_
      refine gf_X11_72 hC rfl hK hP 0 rfl rfl dX11_put_10 ?_
      refine lv_iload_n hx hb dX11_put_13 rfl (lv_at hl 1 rfl) ?_
      refine pV hC hK hl hP hD (c_sort_1 l G Ho hs hz hi hw hn ht) si_X11_309 [1, 2] rfl rfl (by decide) rfl rfl rfl rfl rfl (Nat.le_of_ble_eq_true rfl) ⟨Nat.le_of_ble_eq_true rfl, Nat.le_of_ble_eq_true rfl⟩ ⟨by first | exact Nat.le_of_ble_eq_true rfl | exact Nat.zero_le _, by first | exact Nat.le_of_ble_eq_true rfl | exact Nat.zero_le _⟩ dX11_put_14 (fun r801 hr801 => ?_)
      obtain rfl := hr801
      refine lv_iconst (v := (-1)) hx hb dX11_put_17 (by decide) ?_
      refine lv_icmp_ne (tgt := 24) hx hb dX11_put_18 (by decide) (fun c9 => absurd (by decide) c9) (fun _ => ?_)
      refine lv_bipush (v := (-11)) hx hb dX11_put_21 (by decide) ?_
      exact RP (v := (-11)) hC ((by unfold A_put; first | rfl | (simp only [ifc_t a798]; done) | (simp only [ifc_t a798]; rfl))) rfl dX11_put_23
    · refine lv_if_ne (tgt := 9) hx hb dX11_put_4 (by decide) (fun _ => ?_) (fun c9 => absurd c9 (by decide))
      refine lv_aload_n hx hb dX11_put_9 rfl (lv_at hl 0 rfl) ?_
      refine gf_X11_72 hC rfl hK hP 0 rfl rfl dX11_put_10 ?_
      refine lv_iload_n hx hb dX11_put_13 rfl (lv_at hl 1 rfl) ?_
      refine pV hC hK hl hP hD (c_sort_2 l G Ho hs hz hi hw hn ht) si_X11_309 [1, 2] rfl rfl (by decide) rfl rfl rfl rfl rfl (Nat.le_of_ble_eq_true rfl) ⟨Nat.le_of_ble_eq_true rfl, Nat.le_of_ble_eq_true rfl⟩ ⟨by first | exact Nat.le_of_ble_eq_true rfl | exact Nat.zero_le _, by first | exact Nat.le_of_ble_eq_true rfl | exact Nat.zero_le _⟩ dX11_put_14 (fun r803 hr803 => ?_)
      obtain rfl := hr803
      refine lv_iconst (v := (-1)) hx hb dX11_put_17 (by decide) ?_
      refine lv_icmp_ne (tgt := 24) hx hb dX11_put_18 (by decide) (fun c9 => absurd (by decide) c9) (fun _ => ?_)
      refine lv_bipush (v := (-11)) hx hb dX11_put_21 (by decide) ?_
      exact RP (v := (-11)) hC ((by unfold A_put; first | rfl | (simp only [ifc_t a798]; done) | (simp only [ifc_t a798]; rfl))) rfl dX11_put_23
    · refine lv_if_ne (tgt := 9) hx hb dX11_put_4 (by decide) (fun _ => ?_) (fun c9 => absurd c9 (by decide))
      refine lv_aload_n hx hb dX11_put_9 rfl (lv_at hl 0 rfl) ?_
      refine gf_X11_72 hC rfl hK hP 0 rfl rfl dX11_put_10 ?_
      refine lv_iload_n hx hb dX11_put_13 rfl (lv_at hl 1 rfl) ?_
      refine pV hC hK hl hP hD (c_sort_3 l G Ho hs hz hi hw hn ht) si_X11_309 [1, 2] rfl rfl (by decide) rfl rfl rfl rfl rfl (Nat.le_of_ble_eq_true rfl) ⟨Nat.le_of_ble_eq_true rfl, Nat.le_of_ble_eq_true rfl⟩ ⟨by first | exact Nat.le_of_ble_eq_true rfl | exact Nat.zero_le _, by first | exact Nat.le_of_ble_eq_true rfl | exact Nat.zero_le _⟩ dX11_put_14 (fun r805 hr805 => ?_)
      obtain rfl := hr805
      refine lv_iconst (v := (-1)) hx hb dX11_put_17 (by decide) ?_
      refine lv_icmp_ne (tgt := 24) hx hb dX11_put_18 (by decide) (fun c9 => absurd (by decide) c9) (fun _ => ?_)
      refine lv_bipush (v := (-11)) hx hb dX11_put_21 (by decide) ?_
      exact RP (v := (-11)) hC ((by unfold A_put; first | rfl | (simp only [ifc_t a798]; done) | (simp only [ifc_t a798]; rfl))) rfl dX11_put_23
  · refine lv_if_ne (tgt := 9) hx hb dX11_put_4 (by decide) (fun c9 => absurd (by decide) c9) (fun _ => ?_)
    refine lv_iconst (v := (-1)) hx hb dX11_put_7 (by decide) ?_
    exact RP (v := (-1)) hC ((by unfold A_put; first | rfl | (simp only [ifc_f a798]; done) | (simp only [ifc_f a798]; rfl))) rfl dX11_put_8
set_option maxHeartbeats 4000000 in
set_option maxRecDepth 100000 in
theorem c_item (l : Launch) (G : GG) (h0 : Nat) (s9 : Int32) (so : Int32) (x3 : Int32) (B : Nat) (K : Nat) (S : Nat) (D : Nat) (R : Nat) (Ta : Nat) (Tp : Nat) (Ro : Nat) (Ho : Nat) (De : Nat) (hs : Nat) (hz : Nat) (hi : Nat) (hw : Nat) (hn : Nat) (ht : Nat) : MP l G yX11_item cX11_item 5 (some .int) 5 [.ref h0, .int s9, .int so, .int x3] [(h0, .inr (11, [.ref B, .ref K, .int 0, .ref S, .ref D, .ref R, .ref Ta, .ref Tp, .ref Ro, .ref Ho, .ref De])), (Ho, .inr (4, [.ref hs, .ref hz, .ref hi, .ref hw, .ref hn, .ref ht])), (hs, .inl (G.2.1, 4, .inl (upd (upd (upd (upd (fun _ => 0) 0 (-1)) 1 (-1)) 2 (-1)) 3 (-1))))] (fun r : Int32 => r = A_item s9 so) := by
  refine MP.start (by decide +kernel) (Nat.le_of_ble_eq_true rfl) ?_
  intro p e s m below meth c ls hC hK hP hD hl
  have hl : lv_has ls 5 [(0, .ref h0), (1, .int s9), (2, .int so), (3, .int x3)] := hl
  obtain ⟨hx, hb, hr, hml, hB, hown, hlocks, hnm⟩ := id hC
  refine lv_iload_n hx hb dX11_item_0 rfl (lv_at hl 1 rfl) ?_
  refine pS hC hK hl (c_isSheet l G s9) si_X11_164 rfl rfl (Nat.le_of_ble_eq_true rfl) ⟨Nat.le_of_ble_eq_true rfl, Nat.le_of_ble_eq_true rfl⟩ ⟨by first | exact Nat.le_of_ble_eq_true rfl | exact Nat.zero_le _, by first | exact Nat.le_of_ble_eq_true rfl | exact Nat.zero_le _⟩ dX11_item_1 (fun r807 hr807 => ?_)
  rcases hr807 with ⟨rfl, a808⟩ | ⟨rfl, a808⟩
  · rcases Wi_c3 a808 with rfl | rfl | rfl | rfl
    · refine lv_if_eq (tgt := 14) hx hb dX11_item_4 (by decide) (fun c9 => absurd c9 (by decide)) (fun _ => ?_)
      refine lv_iload_n hx hb dX11_item_7 rfl (lv_at hl 2 rfl) ?_
      refine pS hC hK hl (c_isSort l G so) si_X11_315 rfl rfl (Nat.le_of_ble_eq_true rfl) ⟨Nat.le_of_ble_eq_true rfl, Nat.le_of_ble_eq_true rfl⟩ ⟨by first | exact Nat.le_of_ble_eq_true rfl | exact Nat.zero_le _, by first | exact Nat.le_of_ble_eq_true rfl | exact Nat.zero_le _⟩ dX11_item_8 (fun r809 hr809 => ?_)
      rcases hr809 with ⟨rfl, a810⟩ | ⟨rfl, a810⟩
      · refine lv_if_ne (tgt := 16) hx hb dX11_item_11 (by decide) (fun _ => ?_) (fun c9 => absurd c9 (by decide))
        refine lv_aload_n hx hb dX11_item_16 rfl (lv_at hl 0 rfl) ?_
        refine gf_X11_72 hC rfl hK hP 0 rfl rfl dX11_item_17 ?_
        refine lv_iload_n hx hb dX11_item_20 rfl (lv_at hl 1 rfl) ?_
        refine lv_iload_n hx hb dX11_item_21 rfl (lv_at hl 2 rfl) ?_
        refine pV hC hK hl hP hD (c_refusal_0 l G Ho so hs hz hi hw hn ht) si_X11_167 [1, 2] rfl rfl (by decide) rfl rfl rfl rfl rfl (Nat.le_of_ble_eq_true rfl) ⟨Nat.le_of_ble_eq_true rfl, Nat.le_of_ble_eq_true rfl⟩ ⟨by first | exact Nat.le_of_ble_eq_true rfl | exact Nat.zero_le _, by first | exact Nat.le_of_ble_eq_true rfl | exact Nat.zero_le _⟩ dX11_item_22 (fun r811 hr811 => ?_)
        obtain rfl := hr811
        refine lv_istore (lv' := [(4, .int (-11)), (0, .ref h0), (1, .int 0), (2, .int so), (3, .int x3)]) hx hb dX11_item_25 hl (by decide) rfl (fun ls hl => ?_)
        refine lv_iload hx hb dX11_item_27 (lv_at hl 0 rfl) ?_
        refine lv_if_eq (tgt := 35) hx hb dX11_item_29 (by decide) (fun c9 => absurd c9 (by decide)) (fun _ => ?_)
        refine lv_iload hx hb dX11_item_32 (lv_at hl 0 rfl) ?_
        exact RP (v := (-11)) hC ((by unfold A_item; first | rfl | (simp only [ifc_t a808, ifc_t a810]; done) | (simp only [ifc_t a808, ifc_t a810]; rfl))) rfl dX11_item_34
      · refine lv_if_ne (tgt := 16) hx hb dX11_item_11 (by decide) (fun c9 => absurd (by decide) c9) (fun _ => ?_)
        refine lv_iconst (v := (-1)) hx hb dX11_item_14 (by decide) ?_
        exact RP (v := (-1)) hC ((by unfold A_item; first | rfl | (simp only [ifc_t a808, ifc_f a810]; done) | (simp only [ifc_t a808, ifc_f a810]; rfl))) rfl dX11_item_15
    · refine lv_if_eq (tgt := 14) hx hb dX11_item_4 (by decide) (fun c9 => absurd c9 (by decide)) (fun _ => ?_)
      refine lv_iload_n hx hb dX11_item_7 rfl (lv_at hl 2 rfl) ?_
      refine pS hC hK hl (c_isSort l G so) si_X11_315 rfl rfl (Nat.le_of_ble_eq_true rfl) ⟨Nat.le_of_ble_eq_true rfl, Nat.le_of_ble_eq_true rfl⟩ ⟨by first | exact Nat.le_of_ble_eq_true rfl | exact Nat.zero_le _, by first | exact Nat.le_of_ble_eq_true rfl | exact Nat.zero_le _⟩ dX11_item_8 (fun r813 hr813 => ?_)
      rcases hr813 with ⟨rfl, a814⟩ | ⟨rfl, a814⟩
      · refine lv_if_ne (tgt := 16) hx hb dX11_item_11 (by decide) (fun _ => ?_) (fun c9 => absurd c9 (by decide))
        refine lv_aload_n hx hb dX11_item_16 rfl (lv_at hl 0 rfl) ?_
        refine gf_X11_72 hC rfl hK hP 0 rfl rfl dX11_item_17 ?_
        refine lv_iload_n hx hb dX11_item_20 rfl (lv_at hl 1 rfl) ?_
        refine lv_iload_n hx hb dX11_item_21 rfl (lv_at hl 2 rfl) ?_
        refine pV hC hK hl hP hD (c_refusal_1 l G Ho so hs hz hi hw hn ht) si_X11_167 [1, 2] rfl rfl (by decide) rfl rfl rfl rfl rfl (Nat.le_of_ble_eq_true rfl) ⟨Nat.le_of_ble_eq_true rfl, Nat.le_of_ble_eq_true rfl⟩ ⟨by first | exact Nat.le_of_ble_eq_true rfl | exact Nat.zero_le _, by first | exact Nat.le_of_ble_eq_true rfl | exact Nat.zero_le _⟩ dX11_item_22 (fun r815 hr815 => ?_)
        obtain rfl := hr815
        refine lv_istore (lv' := [(4, .int (-11)), (0, .ref h0), (1, .int 1), (2, .int so), (3, .int x3)]) hx hb dX11_item_25 hl (by decide) rfl (fun ls hl => ?_)
        refine lv_iload hx hb dX11_item_27 (lv_at hl 0 rfl) ?_
        refine lv_if_eq (tgt := 35) hx hb dX11_item_29 (by decide) (fun c9 => absurd c9 (by decide)) (fun _ => ?_)
        refine lv_iload hx hb dX11_item_32 (lv_at hl 0 rfl) ?_
        exact RP (v := (-11)) hC ((by unfold A_item; first | rfl | (simp only [ifc_t a808, ifc_t a814]; done) | (simp only [ifc_t a808, ifc_t a814]; rfl))) rfl dX11_item_34
      · refine lv_if_ne (tgt := 16) hx hb dX11_item_11 (by decide) (fun c9 => absurd (by decide) c9) (fun _ => ?_)
        refine lv_iconst (v := (-1)) hx hb dX11_item_14 (by decide) ?_
        exact RP (v := (-1)) hC ((by unfold A_item; first | rfl | (simp only [ifc_t a808, ifc_f a814]; done) | (simp only [ifc_t a808, ifc_f a814]; rfl))) rfl dX11_item_15
    · refine lv_if_eq (tgt := 14) hx hb dX11_item_4 (by decide) (fun c9 => absurd c9 (by decide)) (fun _ => ?_)
      refine lv_iload_n hx hb dX11_item_7 rfl (lv_at hl 2 rfl) ?_
      refine pS hC hK hl (c_isSort l G so) si_X11_315 rfl rfl (Nat.le_of_ble_eq_true rfl) ⟨Nat.le_of_ble_eq_true rfl, Nat.le_of_ble_eq_true rfl⟩ ⟨by first | exact Nat.le_of_ble_eq_true rfl | exact Nat.zero_le _, by first | exact Nat.le_of_ble_eq_true rfl | exact Nat.zero_le _⟩ dX11_item_8 (fun r817 hr817 => ?_)
      rcases hr817 with ⟨rfl, a818⟩ | ⟨rfl, a818⟩
      · refine lv_if_ne (tgt := 16) hx hb dX11_item_11 (by decide) (fun _ => ?_) (fun c9 => absurd c9 (by decide))
        refine lv_aload_n hx hb dX11_item_16 rfl (lv_at hl 0 rfl) ?_
        refine gf_X11_72 hC rfl hK hP 0 rfl rfl dX11_item_17 ?_
        refine lv_iload_n hx hb dX11_item_20 rfl (lv_at hl 1 rfl) ?_
        refine lv_iload_n hx hb dX11_item_21 rfl (lv_at hl 2 rfl) ?_
        refine pV hC hK hl hP hD (c_refusal_2 l G Ho so hs hz hi hw hn ht) si_X11_167 [1, 2] rfl rfl (by decide) rfl rfl rfl rfl rfl (Nat.le_of_ble_eq_true rfl) ⟨Nat.le_of_ble_eq_true rfl, Nat.le_of_ble_eq_true rfl⟩ ⟨by first | exact Nat.le_of_ble_eq_true rfl | exact Nat.zero_le _, by first | exact Nat.le_of_ble_eq_true rfl | exact Nat.zero_le _⟩ dX11_item_22 (fun r819 hr819 => ?_)
        obtain rfl := hr819
        refine lv_istore (lv' := [(4, .int (-11)), (0, .ref h0), (1, .int 2), (2, .int so), (3, .int x3)]) hx hb dX11_item_25 hl (by decide) rfl (fun ls hl => ?_)
        refine lv_iload hx hb dX11_item_27 (lv_at hl 0 rfl) ?_
        refine lv_if_eq (tgt := 35) hx hb dX11_item_29 (by decide) (fun c9 => absurd c9 (by decide)) (fun _ => ?_)
        refine lv_iload hx hb dX11_item_32 (lv_at hl 0 rfl) ?_
        exact RP (v := (-11)) hC ((by unfold A_item; first | rfl | (simp only [ifc_t a808, ifc_t a818]; done) | (simp only [ifc_t a808, ifc_t a818]; rfl))) rfl dX11_item_34
      · refine lv_if_ne (tgt := 16) hx hb dX11_item_11 (by decide) (fun c9 => absurd (by decide) c9) (fun _ => ?_)
        refine lv_iconst (v := (-1)) hx hb dX11_item_14 (by decide) ?_
        exact RP (v := (-1)) hC ((by unfold A_item; first | rfl | (simp only [ifc_t a808, ifc_f a818]; done) | (simp only [ifc_t a808, ifc_f a818]; rfl))) rfl dX11_item_15
    · refine lv_if_eq (tgt := 14) hx hb dX11_item_4 (by decide) (fun c9 => absurd c9 (by decide)) (fun _ => ?_)
      refine lv_iload_n hx hb dX11_item_7 rfl (lv_at hl 2 rfl) ?_
      refine pS hC hK hl (c_isSort l G so) si_X11_315 rfl rfl (Nat.le_of_ble_eq_true rfl) ⟨Nat.le_of_ble_eq_true rfl, Nat.le_of_ble_eq_true rfl⟩ ⟨by first | exact Nat.le_of_ble_eq_true rfl | exact Nat.zero_le _, by first | exact Nat.le_of_ble_eq_true rfl | exact Nat.zero_le _⟩ dX11_item_8 (fun r821 hr821 => ?_)
      rcases hr821 with ⟨rfl, a822⟩ | ⟨rfl, a822⟩
      · refine lv_if_ne (tgt := 16) hx hb dX11_item_11 (by decide) (fun _ => ?_) (fun c9 => absurd c9 (by decide))
        refine lv_aload_n hx hb dX11_item_16 rfl (lv_at hl 0 rfl) ?_
        refine gf_X11_72 hC rfl hK hP 0 rfl rfl dX11_item_17 ?_
        refine lv_iload_n hx hb dX11_item_20 rfl (lv_at hl 1 rfl) ?_
        refine lv_iload_n hx hb dX11_item_21 rfl (lv_at hl 2 rfl) ?_
        refine pV hC hK hl hP hD (c_refusal_3 l G Ho so hs hz hi hw hn ht) si_X11_167 [1, 2] rfl rfl (by decide) rfl rfl rfl rfl rfl (Nat.le_of_ble_eq_true rfl) ⟨Nat.le_of_ble_eq_true rfl, Nat.le_of_ble_eq_true rfl⟩ ⟨by first | exact Nat.le_of_ble_eq_true rfl | exact Nat.zero_le _, by first | exact Nat.le_of_ble_eq_true rfl | exact Nat.zero_le _⟩ dX11_item_22 (fun r823 hr823 => ?_)
        obtain rfl := hr823
        refine lv_istore (lv' := [(4, .int (-11)), (0, .ref h0), (1, .int 3), (2, .int so), (3, .int x3)]) hx hb dX11_item_25 hl (by decide) rfl (fun ls hl => ?_)
        refine lv_iload hx hb dX11_item_27 (lv_at hl 0 rfl) ?_
        refine lv_if_eq (tgt := 35) hx hb dX11_item_29 (by decide) (fun c9 => absurd c9 (by decide)) (fun _ => ?_)
        refine lv_iload hx hb dX11_item_32 (lv_at hl 0 rfl) ?_
        exact RP (v := (-11)) hC ((by unfold A_item; first | rfl | (simp only [ifc_t a808, ifc_t a822]; done) | (simp only [ifc_t a808, ifc_t a822]; rfl))) rfl dX11_item_34
      · refine lv_if_ne (tgt := 16) hx hb dX11_item_11 (by decide) (fun c9 => absurd (by decide) c9) (fun _ => ?_)
        refine lv_iconst (v := (-1)) hx hb dX11_item_14 (by decide) ?_
        exact RP (v := (-1)) hC ((by unfold A_item; first | rfl | (simp only [ifc_t a808, ifc_f a822]; done) | (simp only [ifc_t a808, ifc_f a822]; rfl))) rfl dX11_item_15
  · refine lv_if_eq (tgt := 14) hx hb dX11_item_4 (by decide) (fun _ => ?_) (fun c9 => absurd (by decide) c9)
    refine lv_iconst (v := (-1)) hx hb dX11_item_14 (by decide) ?_
    exact RP (v := (-1)) hC ((by unfold A_item; first | rfl | (simp only [ifc_f a808]; done) | (simp only [ifc_f a808]; rfl))) rfl dX11_item_15
set_option maxHeartbeats 4000000 in
set_option maxRecDepth 100000 in
theorem c_clear_0 (l : Launch) (G : GG) (Ho : Nat) (hs : Nat) (hz : Nat) (hi : Nat) (hw : Nat) (hn : Nat) (ht : Nat) : MV l G yX4_clear cX4_clear 2 3 0 0 [.ref Ho, .int 0] [(Ho, .inr (4, [.ref hs, .ref hz, .ref hi, .ref hw, .ref hn, .ref ht])), (hs, .inl (G.2.1, 4, .inl (upd (upd (upd (upd (fun _ => 0) 0 (-1)) 1 (-1)) 2 (-1)) 3 (-1)))), (hz, .inl (G.2.1, 4, .inl (fun _ => 0)))] (fun u : Unit => True) (fun u : Unit => []) := by
  refine MV.start (by decide +kernel) (Nat.le_of_ble_eq_true rfl) ?_
  intro p e s m below meth c A ls hC hK hP hD hS hA hl
  have hl : lv_has ls 2 [(0, .ref Ho), (1, .int 0)] := hl
  obtain ⟨hx, hb, hr, hml, hB, hown, hlocks, hnm⟩ := id hC
  refine lv_iload_n hx hb dX4_clear_0 rfl (lv_at hl 1 rfl) ?_
  refine pSN hC hK hl (c_isSheet l G 0) si_X4_30 rfl rfl (Nat.le_of_ble_eq_true rfl) ⟨Nat.le_of_ble_eq_true rfl, Nat.le_of_ble_eq_true rfl⟩ ⟨by first | exact Nat.le_of_ble_eq_true rfl | exact Nat.zero_le _, by first | exact Nat.le_of_ble_eq_true rfl | exact Nat.zero_le _⟩ dX4_clear_1 (fun r825 hr825 => ?_)
  rcases hr825 with ⟨rfl, a826⟩ | ⟨rfl, a826⟩
  · refine lv_if_ne (tgt := 8) hx hb dX4_clear_4 (by decide) (fun _ => ?_) (fun c9 => absurd c9 (by decide))
    refine lv_aload_n hx hb dX4_clear_8 rfl (lv_at hl 0 rfl) ?_
    refine gf_X4_11 hC rfl hK hP 0 rfl rfl dX4_clear_9 ?_
    refine lv_iload_n hx hb dX4_clear_12 rfl (lv_at hl 1 rfl) ?_
    refine lv_iconst (v := (-1)) hx hb dX4_clear_13 (by decide) ?_
    refine ast hC hK hP hD hS 1 (ws' := [(Ho, .inr (4, [.ref hs, .ref hz, .ref hi, .ref hw, .ref hn, .ref ht])), (hs, .inl (G.2.1, 4, .inl (upd (upd (upd (upd (upd (fun _ => 0) 0 (-1)) 1 (-1)) 2 (-1)) 3 (-1)) 0 (-1)))), (hz, .inl (G.2.1, 4, .inl (fun _ => 0)))]) rfl (vin (by decide +kernel)) (k := 0) (by decide +kernel) (rfl) dX4_clear_14 (fun H locs hP hD hS => ?_)
    refine lv_aload_n hx hb dX4_clear_15 rfl (lv_at hl 0 rfl) ?_
    refine gf_X4_15 hC rfl hK hP 0 rfl rfl dX4_clear_16 ?_
    refine lv_iload_n hx hb dX4_clear_19 rfl (lv_at hl 1 rfl) ?_
    refine lv_iconst (v := 0) hx hb dX4_clear_20 (by decide) ?_
    refine ast hC hK hP hD hS 2 (ws' := [(Ho, .inr (4, [.ref hs, .ref hz, .ref hi, .ref hw, .ref hn, .ref ht])), (hs, .inl (G.2.1, 4, .inl (upd (upd (upd (upd (upd (fun _ => 0) 0 (-1)) 1 (-1)) 2 (-1)) 3 (-1)) 0 (-1)))), (hz, .inl (G.2.1, 4, .inl (upd (fun _ => 0) 0 0)))]) rfl (vin (by decide +kernel)) (k := 0) (by decide +kernel) (rfl) dX4_clear_21 (fun H locs hP hD hS => ?_)
    exact RV hC hP hD hS [] () rfl rfl (by decide) (trivial) dX4_clear_22
  · exact absurd (by unfold Wi; decide) a826
set_option maxHeartbeats 4000000 in
set_option maxRecDepth 100000 in
theorem c_lay_0 (l : Launch) (G : GG) (Ho : Nat) (so : Int32) (n : Int32) (hs : Nat) (hz : Nat) (hi : Nat) (hw : Nat) (hn : Nat) (ht : Nat) (hn40 : Wi n 0 40) : MV l G yX4_lay cX4_lay 5 3 0 0 [.ref Ho, .int 0, .int so, .int n] [(Ho, .inr (4, [.ref hs, .ref hz, .ref hi, .ref hw, .ref hn, .ref ht])), (hs, .inl (G.2.1, 4, .inl (upd (upd (upd (upd (fun _ => 0) 0 (-1)) 1 (-1)) 2 (-1)) 3 (-1)))), (hz, .inl (G.2.1, 4, .inl (fun _ => 0))), (hi, .inl (G.2.1, 160, .inl (fun _ => 0)))] (fun u : Unit => True) (fun u : Unit => []) := by
  refine MV.start (by decide +kernel) (Nat.le_of_ble_eq_true rfl) ?_
  intro p e s m below meth c A ls hC hK hP hD hS hA hl
  have hl : lv_has ls 5 [(0, .ref Ho), (1, .int 0), (2, .int so), (3, .int n)] := hl
  obtain ⟨hx, hb, hr, hml, hB, hown, hlocks, hnm⟩ := id hC
  refine lv_iload_n hx hb dX4_lay_0 rfl (lv_at hl 1 rfl) ?_
  refine pSN hC hK hl (c_isSheet l G 0) si_X4_30 rfl rfl (Nat.le_of_ble_eq_true rfl) ⟨Nat.le_of_ble_eq_true rfl, Nat.le_of_ble_eq_true rfl⟩ ⟨by first | exact Nat.le_of_ble_eq_true rfl | exact Nat.zero_le _, by first | exact Nat.le_of_ble_eq_true rfl | exact Nat.zero_le _⟩ dX4_lay_1 (fun r827 hr827 => ?_)
  rcases hr827 with ⟨rfl, a828⟩ | ⟨rfl, a828⟩
  · refine lv_if_eq (tgt := 17) hx hb dX4_lay_4 (by decide) (fun c9 => absurd c9 (by decide)) (fun _ => ?_)
    refine lv_iload_n hx hb dX4_lay_7 rfl (lv_at hl 3 rfl) ?_
    refine lv_iconst (v := 0) hx hb dX4_lay_8 (by decide) ?_
    refine lv_bipush (v := 40) hx hb dX4_lay_9 (by decide) ?_
    refine pSN hC hK hl (c_within l G n 0 40) si_X4_34 rfl rfl (Nat.le_of_ble_eq_true rfl) ⟨Nat.le_of_ble_eq_true rfl, Nat.le_of_ble_eq_true rfl⟩ ⟨by first | exact Nat.le_of_ble_eq_true rfl | exact Nat.zero_le _, by first | exact Nat.le_of_ble_eq_true rfl | exact Nat.zero_le _⟩ dX4_lay_11 (fun r829 hr829 => ?_)
    rcases hr829 with ⟨rfl, a830⟩ | ⟨rfl, a830⟩
    · refine lv_if_ne (tgt := 18) hx hb dX4_lay_14 (by decide) (fun _ => ?_) (fun c9 => absurd c9 (by decide))
      refine lv_aload_n hx hb dX4_lay_18 rfl (lv_at hl 0 rfl) ?_
      refine gf_X4_11 hC rfl hK hP 0 rfl rfl dX4_lay_19 ?_
      refine lv_iload_n hx hb dX4_lay_22 rfl (lv_at hl 1 rfl) ?_
      refine lv_iload_n hx hb dX4_lay_23 rfl (lv_at hl 2 rfl) ?_
      refine ast hC hK hP hD hS 1 (ws' := [(Ho, .inr (4, [.ref hs, .ref hz, .ref hi, .ref hw, .ref hn, .ref ht])), (hs, .inl (G.2.1, 4, .inl (upd (upd (upd (upd (upd (fun _ => 0) 0 (-1)) 1 (-1)) 2 (-1)) 3 (-1)) 0 so))), (hz, .inl (G.2.1, 4, .inl (fun _ => 0))), (hi, .inl (G.2.1, 160, .inl (fun _ => 0)))]) rfl (vin (by decide +kernel)) (k := 0) (by decide +kernel) (rfl) dX4_lay_24 (fun H locs hP hD hS => ?_)
      refine lv_aload_n hx hb dX4_lay_25 rfl (lv_at hl 0 rfl) ?_
      refine gf_X4_15 hC rfl hK hP 0 rfl rfl dX4_lay_26 ?_
      refine lv_iload_n hx hb dX4_lay_29 rfl (lv_at hl 1 rfl) ?_
      refine lv_iload_n hx hb dX4_lay_30 rfl (lv_at hl 3 rfl) ?_
      refine ast hC hK hP hD hS 2 (ws' := [(Ho, .inr (4, [.ref hs, .ref hz, .ref hi, .ref hw, .ref hn, .ref ht])), (hs, .inl (G.2.1, 4, .inl (upd (upd (upd (upd (upd (fun _ => 0) 0 (-1)) 1 (-1)) 2 (-1)) 3 (-1)) 0 so))), (hz, .inl (G.2.1, 4, .inl (upd (fun _ => 0) 0 n))), (hi, .inl (G.2.1, 160, .inl (fun _ => 0)))]) rfl (vin (by decide +kernel)) (k := 0) (by decide +kernel) (rfl) dX4_lay_31 (fun H locs hP hD hS => ?_)
      refine lv_iconst (v := 0) hx hb dX4_lay_32 (by decide) ?_
      refine lv_istore (lv' := [(4, .int 0), (0, .ref Ho), (1, .int 0), (2, .int so), (3, .int n)]) hx hb dX4_lay_33 hl (by decide) rfl (fun ls hl => ?_)
      have keyT : ∀ (nT kT : Nat) (H : Heap) (locs : List Loc) (ls : Array Slot), kT + nT = 40 → va_P G.1 vwCl [(Ho, .inr (4, [.ref hs, .ref hz, .ref hi, .ref hw, .ref hn, .ref ht])), (hs, .inl (G.2.1, 4, .inl (upd (upd (upd (upd (upd (fun _ => 0) 0 (-1)) 1 (-1)) 2 (-1)) 3 (-1)) 0 so))), (hz, .inl (G.2.1, 4, .inl (upd (fun _ => 0) 0 n))), (hi, .inl (G.2.1, 160, .inl (fun _ => 0)))] H → va_D A [(Ho, .inr (4, [.ref hs, .ref hz, .ref hi, .ref hw, .ref hn, .ref ht])), (hs, .inl (G.2.1, 4, .inl (upd (upd (upd (upd (upd (fun _ => 0) 0 (-1)) 1 (-1)) 2 (-1)) 3 (-1)) 0 so))), (hz, .inl (G.2.1, 4, .inl (upd (fun _ => 0) 0 n))), (hi, .inl (G.2.1, 160, .inl (fun _ => 0)))] → va_S A s.heap H locs → lv_has ls 5 [(4, .int (nI kT)), (0, .ref Ho), (1, .int 0)] → W p l e (RM 3 0 0) s m ([.ref Ho, .int 0, .int so, .int n] : List Value).toArray below meth c H locs 0 0 (MQ below (QV G (fun u : Unit => True) (fun u : Unit => []) A) ([.ref Ho, .int 0, .int so, .int n] : List Value).toArray s 0 0 A) (F0 m 35 ls []) := by
        intro nT
        induction nT with
        | zero =>
          intro kT H locs ls hkT hP hD hS hl
          obtain rfl : kT = 40 := by omega
          have hl : lv_has ls 5 [(4, .int 40), (0, .ref Ho), (1, .int 0)] := hl
          refine lv_iload hx hb dX4_lay_35 (lv_at hl 0 rfl) ?_
          refine lv_bipush (v := 40) hx hb dX4_lay_37 (by decide) ?_
          refine lv_icmp_ge (tgt := 61) hx hb dX4_lay_39 (by decide) (fun _ => ?_) (fun c9 => absurd (by decide) c9)
          exact RV hC hP hD hS [] () rfl rfl (by decide) (trivial) dX4_lay_61
        | succ nT ihT =>
          intro kT H locs ls hkT hP hD hS hl
          refine lv_iload hx hb dX4_lay_35 (lv_at hl 0 rfl) ?_
          refine lv_bipush (v := 40) hx hb dX4_lay_37 (by decide) ?_
          refine lv_icmp_ge (tgt := 61) hx hb dX4_lay_39 (by decide) (fun c9 => absurd c9 (nI_ge (a := kT) (b := 40) (by omega) (by decide))) (fun _ => ?_)
          refine lv_aload_n hx hb dX4_lay_42 rfl (lv_at hl 1 rfl) ?_
          refine gf_X4_18 hC rfl hK hP 0 rfl rfl dX4_lay_43 ?_
          refine lv_iload_n hx hb dX4_lay_46 rfl (lv_at hl 2 rfl) ?_
          refine lv_bipush (v := 40) hx hb dX4_lay_47 (by decide) ?_
          refine lv_imul hx hb dX4_lay_49 ?_
          refine eqi (x1 := 0) (by decide) ?_
          refine lv_iload hx hb dX4_lay_50 (lv_at hl 0 rfl) ?_
          refine lv_iadd hx hb dX4_lay_52 ?_
          refine lv_iconst (v := 0) hx hb dX4_lay_53 (by decide) ?_
          refine ast hC hK hP hD hS 3 (ws' := [(Ho, .inr (4, [.ref hs, .ref hz, .ref hi, .ref hw, .ref hn, .ref ht])), (hs, .inl (G.2.1, 4, .inl (upd (upd (upd (upd (upd (fun _ => 0) 0 (-1)) 1 (-1)) 2 (-1)) 3 (-1)) 0 so))), (hz, .inl (G.2.1, 4, .inl (upd (fun _ => 0) 0 n))), (hi, .inl (G.2.1, 160, .inl (fun _ => 0)))]) rfl (vin (ix40_0 kT (by omega))) (k := (0 + nI kT).toNatClampNeg) rfl (congrArg (fun f9 : Nat → Int32 => (_ : va_W).set _ (_, .inl (G.2.1, 160, .inl f9))) upd_z) dX4_lay_54 (fun H locs hP hD hS => ?_)
          refine lv_iinc (v := nI (kT + 1)) (lv' := [(4, .int (nI (kT + 1))), (0, .ref Ho), (1, .int 0)]) hx hb dX4_lay_55 hl (k := 0) rfl (nI_1 _) (by decide) rfl (fun ls hl => ?_)
          refine lv_goto (tgt := 35) hx hb dX4_lay_58 (by decide) ?_
          exact ihT (kT + 1) _ _ _ (by omega) hP hD hS (lv_sub hl [0, 1, 2] rfl)
      exact keyT 40 0 _ _ _ rfl hP hD hS (lv_sub hl [0, 1, 2] rfl)
    · exact absurd hn40 a830
  · exact absurd (by unfold Wi; decide) a828
set_option maxHeartbeats 4000000 in
set_option maxRecDepth 100000 in
theorem c_clear_1 (l : Launch) (G : GG) (Ho : Nat) (hs : Nat) (hz : Nat) (hi : Nat) (hw : Nat) (hn : Nat) (ht : Nat) : MV l G yX4_clear cX4_clear 2 3 0 0 [.ref Ho, .int 1] [(Ho, .inr (4, [.ref hs, .ref hz, .ref hi, .ref hw, .ref hn, .ref ht])), (hs, .inl (G.2.1, 4, .inl (upd (upd (upd (upd (fun _ => 0) 0 (-1)) 1 (-1)) 2 (-1)) 3 (-1)))), (hz, .inl (G.2.1, 4, .inl (fun _ => 0)))] (fun u : Unit => True) (fun u : Unit => []) := by
  refine MV.start (by decide +kernel) (Nat.le_of_ble_eq_true rfl) ?_
  intro p e s m below meth c A ls hC hK hP hD hS hA hl
  have hl : lv_has ls 2 [(0, .ref Ho), (1, .int 1)] := hl
  obtain ⟨hx, hb, hr, hml, hB, hown, hlocks, hnm⟩ := id hC
  refine lv_iload_n hx hb dX4_clear_0 rfl (lv_at hl 1 rfl) ?_
  refine pSN hC hK hl (c_isSheet l G 1) si_X4_30 rfl rfl (Nat.le_of_ble_eq_true rfl) ⟨Nat.le_of_ble_eq_true rfl, Nat.le_of_ble_eq_true rfl⟩ ⟨by first | exact Nat.le_of_ble_eq_true rfl | exact Nat.zero_le _, by first | exact Nat.le_of_ble_eq_true rfl | exact Nat.zero_le _⟩ dX4_clear_1 (fun r831 hr831 => ?_)
  rcases hr831 with ⟨rfl, a832⟩ | ⟨rfl, a832⟩
  · refine lv_if_ne (tgt := 8) hx hb dX4_clear_4 (by decide) (fun _ => ?_) (fun c9 => absurd c9 (by decide))
    refine lv_aload_n hx hb dX4_clear_8 rfl (lv_at hl 0 rfl) ?_
    refine gf_X4_11 hC rfl hK hP 0 rfl rfl dX4_clear_9 ?_
    refine lv_iload_n hx hb dX4_clear_12 rfl (lv_at hl 1 rfl) ?_
    refine lv_iconst (v := (-1)) hx hb dX4_clear_13 (by decide) ?_
    refine ast hC hK hP hD hS 1 (ws' := [(Ho, .inr (4, [.ref hs, .ref hz, .ref hi, .ref hw, .ref hn, .ref ht])), (hs, .inl (G.2.1, 4, .inl (upd (upd (upd (upd (upd (fun _ => 0) 0 (-1)) 1 (-1)) 2 (-1)) 3 (-1)) 1 (-1)))), (hz, .inl (G.2.1, 4, .inl (fun _ => 0)))]) rfl (vin (by decide +kernel)) (k := 1) (by decide +kernel) (rfl) dX4_clear_14 (fun H locs hP hD hS => ?_)
    refine lv_aload_n hx hb dX4_clear_15 rfl (lv_at hl 0 rfl) ?_
    refine gf_X4_15 hC rfl hK hP 0 rfl rfl dX4_clear_16 ?_
    refine lv_iload_n hx hb dX4_clear_19 rfl (lv_at hl 1 rfl) ?_
    refine lv_iconst (v := 0) hx hb dX4_clear_20 (by decide) ?_
    refine ast hC hK hP hD hS 2 (ws' := [(Ho, .inr (4, [.ref hs, .ref hz, .ref hi, .ref hw, .ref hn, .ref ht])), (hs, .inl (G.2.1, 4, .inl (upd (upd (upd (upd (upd (fun _ => 0) 0 (-1)) 1 (-1)) 2 (-1)) 3 (-1)) 1 (-1)))), (hz, .inl (G.2.1, 4, .inl (upd (fun _ => 0) 1 0)))]) rfl (vin (by decide +kernel)) (k := 1) (by decide +kernel) (rfl) dX4_clear_21 (fun H locs hP hD hS => ?_)
    exact RV hC hP hD hS [] () rfl rfl (by decide) (trivial) dX4_clear_22
  · exact absurd (by unfold Wi; decide) a832
set_option maxHeartbeats 4000000 in
set_option maxRecDepth 100000 in
theorem c_lay_1 (l : Launch) (G : GG) (Ho : Nat) (so : Int32) (n : Int32) (hs : Nat) (hz : Nat) (hi : Nat) (hw : Nat) (hn : Nat) (ht : Nat) (hn40 : Wi n 0 40) : MV l G yX4_lay cX4_lay 5 3 0 0 [.ref Ho, .int 1, .int so, .int n] [(Ho, .inr (4, [.ref hs, .ref hz, .ref hi, .ref hw, .ref hn, .ref ht])), (hs, .inl (G.2.1, 4, .inl (upd (upd (upd (upd (fun _ => 0) 0 (-1)) 1 (-1)) 2 (-1)) 3 (-1)))), (hz, .inl (G.2.1, 4, .inl (fun _ => 0))), (hi, .inl (G.2.1, 160, .inl (fun _ => 0)))] (fun u : Unit => True) (fun u : Unit => []) := by
  refine MV.start (by decide +kernel) (Nat.le_of_ble_eq_true rfl) ?_
  intro p e s m below meth c A ls hC hK hP hD hS hA hl
  have hl : lv_has ls 5 [(0, .ref Ho), (1, .int 1), (2, .int so), (3, .int n)] := hl
  obtain ⟨hx, hb, hr, hml, hB, hown, hlocks, hnm⟩ := id hC
  refine lv_iload_n hx hb dX4_lay_0 rfl (lv_at hl 1 rfl) ?_
  refine pSN hC hK hl (c_isSheet l G 1) si_X4_30 rfl rfl (Nat.le_of_ble_eq_true rfl) ⟨Nat.le_of_ble_eq_true rfl, Nat.le_of_ble_eq_true rfl⟩ ⟨by first | exact Nat.le_of_ble_eq_true rfl | exact Nat.zero_le _, by first | exact Nat.le_of_ble_eq_true rfl | exact Nat.zero_le _⟩ dX4_lay_1 (fun r833 hr833 => ?_)
  rcases hr833 with ⟨rfl, a834⟩ | ⟨rfl, a834⟩
  · refine lv_if_eq (tgt := 17) hx hb dX4_lay_4 (by decide) (fun c9 => absurd c9 (by decide)) (fun _ => ?_)
    refine lv_iload_n hx hb dX4_lay_7 rfl (lv_at hl 3 rfl) ?_
    refine lv_iconst (v := 0) hx hb dX4_lay_8 (by decide) ?_
    refine lv_bipush (v := 40) hx hb dX4_lay_9 (by decide) ?_
    refine pSN hC hK hl (c_within l G n 0 40) si_X4_34 rfl rfl (Nat.le_of_ble_eq_true rfl) ⟨Nat.le_of_ble_eq_true rfl, Nat.le_of_ble_eq_true rfl⟩ ⟨by first | exact Nat.le_of_ble_eq_true rfl | exact Nat.zero_le _, by first | exact Nat.le_of_ble_eq_true rfl | exact Nat.zero_le _⟩ dX4_lay_11 (fun r835 hr835 => ?_)
    rcases hr835 with ⟨rfl, a836⟩ | ⟨rfl, a836⟩
    · refine lv_if_ne (tgt := 18) hx hb dX4_lay_14 (by decide) (fun _ => ?_) (fun c9 => absurd c9 (by decide))
      refine lv_aload_n hx hb dX4_lay_18 rfl (lv_at hl 0 rfl) ?_
      refine gf_X4_11 hC rfl hK hP 0 rfl rfl dX4_lay_19 ?_
      refine lv_iload_n hx hb dX4_lay_22 rfl (lv_at hl 1 rfl) ?_
      refine lv_iload_n hx hb dX4_lay_23 rfl (lv_at hl 2 rfl) ?_
      refine ast hC hK hP hD hS 1 (ws' := [(Ho, .inr (4, [.ref hs, .ref hz, .ref hi, .ref hw, .ref hn, .ref ht])), (hs, .inl (G.2.1, 4, .inl (upd (upd (upd (upd (upd (fun _ => 0) 0 (-1)) 1 (-1)) 2 (-1)) 3 (-1)) 1 so))), (hz, .inl (G.2.1, 4, .inl (fun _ => 0))), (hi, .inl (G.2.1, 160, .inl (fun _ => 0)))]) rfl (vin (by decide +kernel)) (k := 1) (by decide +kernel) (rfl) dX4_lay_24 (fun H locs hP hD hS => ?_)
      refine lv_aload_n hx hb dX4_lay_25 rfl (lv_at hl 0 rfl) ?_
      refine gf_X4_15 hC rfl hK hP 0 rfl rfl dX4_lay_26 ?_
      refine lv_iload_n hx hb dX4_lay_29 rfl (lv_at hl 1 rfl) ?_
      refine lv_iload_n hx hb dX4_lay_30 rfl (lv_at hl 3 rfl) ?_
      refine ast hC hK hP hD hS 2 (ws' := [(Ho, .inr (4, [.ref hs, .ref hz, .ref hi, .ref hw, .ref hn, .ref ht])), (hs, .inl (G.2.1, 4, .inl (upd (upd (upd (upd (upd (fun _ => 0) 0 (-1)) 1 (-1)) 2 (-1)) 3 (-1)) 1 so))), (hz, .inl (G.2.1, 4, .inl (upd (fun _ => 0) 1 n))), (hi, .inl (G.2.1, 160, .inl (fun _ => 0)))]) rfl (vin (by decide +kernel)) (k := 1) (by decide +kernel) (rfl) dX4_lay_31 (fun H locs hP hD hS => ?_)
      refine lv_iconst (v := 0) hx hb dX4_lay_32 (by decide) ?_
      refine lv_istore (lv' := [(4, .int 0), (0, .ref Ho), (1, .int 1), (2, .int so), (3, .int n)]) hx hb dX4_lay_33 hl (by decide) rfl (fun ls hl => ?_)
      have keyT : ∀ (nT kT : Nat) (H : Heap) (locs : List Loc) (ls : Array Slot), kT + nT = 40 → va_P G.1 vwCl [(Ho, .inr (4, [.ref hs, .ref hz, .ref hi, .ref hw, .ref hn, .ref ht])), (hs, .inl (G.2.1, 4, .inl (upd (upd (upd (upd (upd (fun _ => 0) 0 (-1)) 1 (-1)) 2 (-1)) 3 (-1)) 1 so))), (hz, .inl (G.2.1, 4, .inl (upd (fun _ => 0) 1 n))), (hi, .inl (G.2.1, 160, .inl (fun _ => 0)))] H → va_D A [(Ho, .inr (4, [.ref hs, .ref hz, .ref hi, .ref hw, .ref hn, .ref ht])), (hs, .inl (G.2.1, 4, .inl (upd (upd (upd (upd (upd (fun _ => 0) 0 (-1)) 1 (-1)) 2 (-1)) 3 (-1)) 1 so))), (hz, .inl (G.2.1, 4, .inl (upd (fun _ => 0) 1 n))), (hi, .inl (G.2.1, 160, .inl (fun _ => 0)))] → va_S A s.heap H locs → lv_has ls 5 [(4, .int (nI kT)), (0, .ref Ho), (1, .int 1)] → W p l e (RM 3 0 0) s m ([.ref Ho, .int 1, .int so, .int n] : List Value).toArray below meth c H locs 0 0 (MQ below (QV G (fun u : Unit => True) (fun u : Unit => []) A) ([.ref Ho, .int 1, .int so, .int n] : List Value).toArray s 0 0 A) (F0 m 35 ls []) := by
        intro nT
        induction nT with
        | zero =>
          intro kT H locs ls hkT hP hD hS hl
          obtain rfl : kT = 40 := by omega
          have hl : lv_has ls 5 [(4, .int 40), (0, .ref Ho), (1, .int 1)] := hl
          refine lv_iload hx hb dX4_lay_35 (lv_at hl 0 rfl) ?_
          refine lv_bipush (v := 40) hx hb dX4_lay_37 (by decide) ?_
          refine lv_icmp_ge (tgt := 61) hx hb dX4_lay_39 (by decide) (fun _ => ?_) (fun c9 => absurd (by decide) c9)
          exact RV hC hP hD hS [] () rfl rfl (by decide) (trivial) dX4_lay_61
        | succ nT ihT =>
          intro kT H locs ls hkT hP hD hS hl
          refine lv_iload hx hb dX4_lay_35 (lv_at hl 0 rfl) ?_
          refine lv_bipush (v := 40) hx hb dX4_lay_37 (by decide) ?_
          refine lv_icmp_ge (tgt := 61) hx hb dX4_lay_39 (by decide) (fun c9 => absurd c9 (nI_ge (a := kT) (b := 40) (by omega) (by decide))) (fun _ => ?_)
          refine lv_aload_n hx hb dX4_lay_42 rfl (lv_at hl 1 rfl) ?_
          refine gf_X4_18 hC rfl hK hP 0 rfl rfl dX4_lay_43 ?_
          refine lv_iload_n hx hb dX4_lay_46 rfl (lv_at hl 2 rfl) ?_
          refine lv_bipush (v := 40) hx hb dX4_lay_47 (by decide) ?_
          refine lv_imul hx hb dX4_lay_49 ?_
          refine eqi (x1 := 40) (by decide) ?_
          refine lv_iload hx hb dX4_lay_50 (lv_at hl 0 rfl) ?_
          refine lv_iadd hx hb dX4_lay_52 ?_
          refine lv_iconst (v := 0) hx hb dX4_lay_53 (by decide) ?_
          refine ast hC hK hP hD hS 3 (ws' := [(Ho, .inr (4, [.ref hs, .ref hz, .ref hi, .ref hw, .ref hn, .ref ht])), (hs, .inl (G.2.1, 4, .inl (upd (upd (upd (upd (upd (fun _ => 0) 0 (-1)) 1 (-1)) 2 (-1)) 3 (-1)) 1 so))), (hz, .inl (G.2.1, 4, .inl (upd (fun _ => 0) 1 n))), (hi, .inl (G.2.1, 160, .inl (fun _ => 0)))]) rfl (vin (ix40_40 kT (by omega))) (k := (40 + nI kT).toNatClampNeg) rfl (congrArg (fun f9 : Nat → Int32 => (_ : va_W).set _ (_, .inl (G.2.1, 160, .inl f9))) upd_z) dX4_lay_54 (fun H locs hP hD hS => ?_)
          refine lv_iinc (v := nI (kT + 1)) (lv' := [(4, .int (nI (kT + 1))), (0, .ref Ho), (1, .int 1)]) hx hb dX4_lay_55 hl (k := 0) rfl (nI_1 _) (by decide) rfl (fun ls hl => ?_)
          refine lv_goto (tgt := 35) hx hb dX4_lay_58 (by decide) ?_
          exact ihT (kT + 1) _ _ _ (by omega) hP hD hS (lv_sub hl [0, 1, 2] rfl)
      exact keyT 40 0 _ _ _ rfl hP hD hS (lv_sub hl [0, 1, 2] rfl)
    · exact absurd hn40 a836
  · exact absurd (by unfold Wi; decide) a834
set_option maxHeartbeats 4000000 in
set_option maxRecDepth 100000 in
theorem c_clear_2 (l : Launch) (G : GG) (Ho : Nat) (hs : Nat) (hz : Nat) (hi : Nat) (hw : Nat) (hn : Nat) (ht : Nat) : MV l G yX4_clear cX4_clear 2 3 0 0 [.ref Ho, .int 2] [(Ho, .inr (4, [.ref hs, .ref hz, .ref hi, .ref hw, .ref hn, .ref ht])), (hs, .inl (G.2.1, 4, .inl (upd (upd (upd (upd (fun _ => 0) 0 (-1)) 1 (-1)) 2 (-1)) 3 (-1)))), (hz, .inl (G.2.1, 4, .inl (fun _ => 0)))] (fun u : Unit => True) (fun u : Unit => []) := by
  refine MV.start (by decide +kernel) (Nat.le_of_ble_eq_true rfl) ?_
  intro p e s m below meth c A ls hC hK hP hD hS hA hl
  have hl : lv_has ls 2 [(0, .ref Ho), (1, .int 2)] := hl
  obtain ⟨hx, hb, hr, hml, hB, hown, hlocks, hnm⟩ := id hC
  refine lv_iload_n hx hb dX4_clear_0 rfl (lv_at hl 1 rfl) ?_
  refine pSN hC hK hl (c_isSheet l G 2) si_X4_30 rfl rfl (Nat.le_of_ble_eq_true rfl) ⟨Nat.le_of_ble_eq_true rfl, Nat.le_of_ble_eq_true rfl⟩ ⟨by first | exact Nat.le_of_ble_eq_true rfl | exact Nat.zero_le _, by first | exact Nat.le_of_ble_eq_true rfl | exact Nat.zero_le _⟩ dX4_clear_1 (fun r837 hr837 => ?_)
  rcases hr837 with ⟨rfl, a838⟩ | ⟨rfl, a838⟩
  · refine lv_if_ne (tgt := 8) hx hb dX4_clear_4 (by decide) (fun _ => ?_) (fun c9 => absurd c9 (by decide))
    refine lv_aload_n hx hb dX4_clear_8 rfl (lv_at hl 0 rfl) ?_
    refine gf_X4_11 hC rfl hK hP 0 rfl rfl dX4_clear_9 ?_
    refine lv_iload_n hx hb dX4_clear_12 rfl (lv_at hl 1 rfl) ?_
    refine lv_iconst (v := (-1)) hx hb dX4_clear_13 (by decide) ?_
    refine ast hC hK hP hD hS 1 (ws' := [(Ho, .inr (4, [.ref hs, .ref hz, .ref hi, .ref hw, .ref hn, .ref ht])), (hs, .inl (G.2.1, 4, .inl (upd (upd (upd (upd (upd (fun _ => 0) 0 (-1)) 1 (-1)) 2 (-1)) 3 (-1)) 2 (-1)))), (hz, .inl (G.2.1, 4, .inl (fun _ => 0)))]) rfl (vin (by decide +kernel)) (k := 2) (by decide +kernel) (rfl) dX4_clear_14 (fun H locs hP hD hS => ?_)
    refine lv_aload_n hx hb dX4_clear_15 rfl (lv_at hl 0 rfl) ?_
    refine gf_X4_15 hC rfl hK hP 0 rfl rfl dX4_clear_16 ?_
    refine lv_iload_n hx hb dX4_clear_19 rfl (lv_at hl 1 rfl) ?_
    refine lv_iconst (v := 0) hx hb dX4_clear_20 (by decide) ?_
    refine ast hC hK hP hD hS 2 (ws' := [(Ho, .inr (4, [.ref hs, .ref hz, .ref hi, .ref hw, .ref hn, .ref ht])), (hs, .inl (G.2.1, 4, .inl (upd (upd (upd (upd (upd (fun _ => 0) 0 (-1)) 1 (-1)) 2 (-1)) 3 (-1)) 2 (-1)))), (hz, .inl (G.2.1, 4, .inl (upd (fun _ => 0) 2 0)))]) rfl (vin (by decide +kernel)) (k := 2) (by decide +kernel) (rfl) dX4_clear_21 (fun H locs hP hD hS => ?_)
    exact RV hC hP hD hS [] () rfl rfl (by decide) (trivial) dX4_clear_22
  · exact absurd (by unfold Wi; decide) a838
set_option maxHeartbeats 4000000 in
set_option maxRecDepth 100000 in
theorem c_lay_2 (l : Launch) (G : GG) (Ho : Nat) (so : Int32) (n : Int32) (hs : Nat) (hz : Nat) (hi : Nat) (hw : Nat) (hn : Nat) (ht : Nat) (hn40 : Wi n 0 40) : MV l G yX4_lay cX4_lay 5 3 0 0 [.ref Ho, .int 2, .int so, .int n] [(Ho, .inr (4, [.ref hs, .ref hz, .ref hi, .ref hw, .ref hn, .ref ht])), (hs, .inl (G.2.1, 4, .inl (upd (upd (upd (upd (fun _ => 0) 0 (-1)) 1 (-1)) 2 (-1)) 3 (-1)))), (hz, .inl (G.2.1, 4, .inl (fun _ => 0))), (hi, .inl (G.2.1, 160, .inl (fun _ => 0)))] (fun u : Unit => True) (fun u : Unit => []) := by
  refine MV.start (by decide +kernel) (Nat.le_of_ble_eq_true rfl) ?_
  intro p e s m below meth c A ls hC hK hP hD hS hA hl
  have hl : lv_has ls 5 [(0, .ref Ho), (1, .int 2), (2, .int so), (3, .int n)] := hl
  obtain ⟨hx, hb, hr, hml, hB, hown, hlocks, hnm⟩ := id hC
  refine lv_iload_n hx hb dX4_lay_0 rfl (lv_at hl 1 rfl) ?_
  refine pSN hC hK hl (c_isSheet l G 2) si_X4_30 rfl rfl (Nat.le_of_ble_eq_true rfl) ⟨Nat.le_of_ble_eq_true rfl, Nat.le_of_ble_eq_true rfl⟩ ⟨by first | exact Nat.le_of_ble_eq_true rfl | exact Nat.zero_le _, by first | exact Nat.le_of_ble_eq_true rfl | exact Nat.zero_le _⟩ dX4_lay_1 (fun r839 hr839 => ?_)
  rcases hr839 with ⟨rfl, a840⟩ | ⟨rfl, a840⟩
  · refine lv_if_eq (tgt := 17) hx hb dX4_lay_4 (by decide) (fun c9 => absurd c9 (by decide)) (fun _ => ?_)
    refine lv_iload_n hx hb dX4_lay_7 rfl (lv_at hl 3 rfl) ?_
    refine lv_iconst (v := 0) hx hb dX4_lay_8 (by decide) ?_
    refine lv_bipush (v := 40) hx hb dX4_lay_9 (by decide) ?_
    refine pSN hC hK hl (c_within l G n 0 40) si_X4_34 rfl rfl (Nat.le_of_ble_eq_true rfl) ⟨Nat.le_of_ble_eq_true rfl, Nat.le_of_ble_eq_true rfl⟩ ⟨by first | exact Nat.le_of_ble_eq_true rfl | exact Nat.zero_le _, by first | exact Nat.le_of_ble_eq_true rfl | exact Nat.zero_le _⟩ dX4_lay_11 (fun r841 hr841 => ?_)
    rcases hr841 with ⟨rfl, a842⟩ | ⟨rfl, a842⟩
    · refine lv_if_ne (tgt := 18) hx hb dX4_lay_14 (by decide) (fun _ => ?_) (fun c9 => absurd c9 (by decide))
      refine lv_aload_n hx hb dX4_lay_18 rfl (lv_at hl 0 rfl) ?_
      refine gf_X4_11 hC rfl hK hP 0 rfl rfl dX4_lay_19 ?_
      refine lv_iload_n hx hb dX4_lay_22 rfl (lv_at hl 1 rfl) ?_
      refine lv_iload_n hx hb dX4_lay_23 rfl (lv_at hl 2 rfl) ?_
      refine ast hC hK hP hD hS 1 (ws' := [(Ho, .inr (4, [.ref hs, .ref hz, .ref hi, .ref hw, .ref hn, .ref ht])), (hs, .inl (G.2.1, 4, .inl (upd (upd (upd (upd (upd (fun _ => 0) 0 (-1)) 1 (-1)) 2 (-1)) 3 (-1)) 2 so))), (hz, .inl (G.2.1, 4, .inl (fun _ => 0))), (hi, .inl (G.2.1, 160, .inl (fun _ => 0)))]) rfl (vin (by decide +kernel)) (k := 2) (by decide +kernel) (rfl) dX4_lay_24 (fun H locs hP hD hS => ?_)
      refine lv_aload_n hx hb dX4_lay_25 rfl (lv_at hl 0 rfl) ?_
      refine gf_X4_15 hC rfl hK hP 0 rfl rfl dX4_lay_26 ?_
      refine lv_iload_n hx hb dX4_lay_29 rfl (lv_at hl 1 rfl) ?_
      refine lv_iload_n hx hb dX4_lay_30 rfl (lv_at hl 3 rfl) ?_
      refine ast hC hK hP hD hS 2 (ws' := [(Ho, .inr (4, [.ref hs, .ref hz, .ref hi, .ref hw, .ref hn, .ref ht])), (hs, .inl (G.2.1, 4, .inl (upd (upd (upd (upd (upd (fun _ => 0) 0 (-1)) 1 (-1)) 2 (-1)) 3 (-1)) 2 so))), (hz, .inl (G.2.1, 4, .inl (upd (fun _ => 0) 2 n))), (hi, .inl (G.2.1, 160, .inl (fun _ => 0)))]) rfl (vin (by decide +kernel)) (k := 2) (by decide +kernel) (rfl) dX4_lay_31 (fun H locs hP hD hS => ?_)
      refine lv_iconst (v := 0) hx hb dX4_lay_32 (by decide) ?_
      refine lv_istore (lv' := [(4, .int 0), (0, .ref Ho), (1, .int 2), (2, .int so), (3, .int n)]) hx hb dX4_lay_33 hl (by decide) rfl (fun ls hl => ?_)
      have keyT : ∀ (nT kT : Nat) (H : Heap) (locs : List Loc) (ls : Array Slot), kT + nT = 40 → va_P G.1 vwCl [(Ho, .inr (4, [.ref hs, .ref hz, .ref hi, .ref hw, .ref hn, .ref ht])), (hs, .inl (G.2.1, 4, .inl (upd (upd (upd (upd (upd (fun _ => 0) 0 (-1)) 1 (-1)) 2 (-1)) 3 (-1)) 2 so))), (hz, .inl (G.2.1, 4, .inl (upd (fun _ => 0) 2 n))), (hi, .inl (G.2.1, 160, .inl (fun _ => 0)))] H → va_D A [(Ho, .inr (4, [.ref hs, .ref hz, .ref hi, .ref hw, .ref hn, .ref ht])), (hs, .inl (G.2.1, 4, .inl (upd (upd (upd (upd (upd (fun _ => 0) 0 (-1)) 1 (-1)) 2 (-1)) 3 (-1)) 2 so))), (hz, .inl (G.2.1, 4, .inl (upd (fun _ => 0) 2 n))), (hi, .inl (G.2.1, 160, .inl (fun _ => 0)))] → va_S A s.heap H locs → lv_has ls 5 [(4, .int (nI kT)), (0, .ref Ho), (1, .int 2)] → W p l e (RM 3 0 0) s m ([.ref Ho, .int 2, .int so, .int n] : List Value).toArray below meth c H locs 0 0 (MQ below (QV G (fun u : Unit => True) (fun u : Unit => []) A) ([.ref Ho, .int 2, .int so, .int n] : List Value).toArray s 0 0 A) (F0 m 35 ls []) := by
        intro nT
        induction nT with
        | zero =>
          intro kT H locs ls hkT hP hD hS hl
          obtain rfl : kT = 40 := by omega
          have hl : lv_has ls 5 [(4, .int 40), (0, .ref Ho), (1, .int 2)] := hl
          refine lv_iload hx hb dX4_lay_35 (lv_at hl 0 rfl) ?_
          refine lv_bipush (v := 40) hx hb dX4_lay_37 (by decide) ?_
          refine lv_icmp_ge (tgt := 61) hx hb dX4_lay_39 (by decide) (fun _ => ?_) (fun c9 => absurd (by decide) c9)
          exact RV hC hP hD hS [] () rfl rfl (by decide) (trivial) dX4_lay_61
        | succ nT ihT =>
          intro kT H locs ls hkT hP hD hS hl
          refine lv_iload hx hb dX4_lay_35 (lv_at hl 0 rfl) ?_
          refine lv_bipush (v := 40) hx hb dX4_lay_37 (by decide) ?_
          refine lv_icmp_ge (tgt := 61) hx hb dX4_lay_39 (by decide) (fun c9 => absurd c9 (nI_ge (a := kT) (b := 40) (by omega) (by decide))) (fun _ => ?_)
          refine lv_aload_n hx hb dX4_lay_42 rfl (lv_at hl 1 rfl) ?_
          refine gf_X4_18 hC rfl hK hP 0 rfl rfl dX4_lay_43 ?_
          refine lv_iload_n hx hb dX4_lay_46 rfl (lv_at hl 2 rfl) ?_
          refine lv_bipush (v := 40) hx hb dX4_lay_47 (by decide) ?_
          refine lv_imul hx hb dX4_lay_49 ?_
          refine eqi (x1 := 80) (by decide) ?_
          refine lv_iload hx hb dX4_lay_50 (lv_at hl 0 rfl) ?_
          refine lv_iadd hx hb dX4_lay_52 ?_
          refine lv_iconst (v := 0) hx hb dX4_lay_53 (by decide) ?_
          refine ast hC hK hP hD hS 3 (ws' := [(Ho, .inr (4, [.ref hs, .ref hz, .ref hi, .ref hw, .ref hn, .ref ht])), (hs, .inl (G.2.1, 4, .inl (upd (upd (upd (upd (upd (fun _ => 0) 0 (-1)) 1 (-1)) 2 (-1)) 3 (-1)) 2 so))), (hz, .inl (G.2.1, 4, .inl (upd (fun _ => 0) 2 n))), (hi, .inl (G.2.1, 160, .inl (fun _ => 0)))]) rfl (vin (ix40_80 kT (by omega))) (k := (80 + nI kT).toNatClampNeg) rfl (congrArg (fun f9 : Nat → Int32 => (_ : va_W).set _ (_, .inl (G.2.1, 160, .inl f9))) upd_z) dX4_lay_54 (fun H locs hP hD hS => ?_)
          refine lv_iinc (v := nI (kT + 1)) (lv' := [(4, .int (nI (kT + 1))), (0, .ref Ho), (1, .int 2)]) hx hb dX4_lay_55 hl (k := 0) rfl (nI_1 _) (by decide) rfl (fun ls hl => ?_)
          refine lv_goto (tgt := 35) hx hb dX4_lay_58 (by decide) ?_
          exact ihT (kT + 1) _ _ _ (by omega) hP hD hS (lv_sub hl [0, 1, 2] rfl)
      exact keyT 40 0 _ _ _ rfl hP hD hS (lv_sub hl [0, 1, 2] rfl)
    · exact absurd hn40 a842
  · exact absurd (by unfold Wi; decide) a840
set_option maxHeartbeats 4000000 in
set_option maxRecDepth 100000 in
theorem c_clear_3 (l : Launch) (G : GG) (Ho : Nat) (hs : Nat) (hz : Nat) (hi : Nat) (hw : Nat) (hn : Nat) (ht : Nat) : MV l G yX4_clear cX4_clear 2 3 0 0 [.ref Ho, .int 3] [(Ho, .inr (4, [.ref hs, .ref hz, .ref hi, .ref hw, .ref hn, .ref ht])), (hs, .inl (G.2.1, 4, .inl (upd (upd (upd (upd (fun _ => 0) 0 (-1)) 1 (-1)) 2 (-1)) 3 (-1)))), (hz, .inl (G.2.1, 4, .inl (fun _ => 0)))] (fun u : Unit => True) (fun u : Unit => []) := by
  refine MV.start (by decide +kernel) (Nat.le_of_ble_eq_true rfl) ?_
  intro p e s m below meth c A ls hC hK hP hD hS hA hl
  have hl : lv_has ls 2 [(0, .ref Ho), (1, .int 3)] := hl
  obtain ⟨hx, hb, hr, hml, hB, hown, hlocks, hnm⟩ := id hC
  refine lv_iload_n hx hb dX4_clear_0 rfl (lv_at hl 1 rfl) ?_
  refine pSN hC hK hl (c_isSheet l G 3) si_X4_30 rfl rfl (Nat.le_of_ble_eq_true rfl) ⟨Nat.le_of_ble_eq_true rfl, Nat.le_of_ble_eq_true rfl⟩ ⟨by first | exact Nat.le_of_ble_eq_true rfl | exact Nat.zero_le _, by first | exact Nat.le_of_ble_eq_true rfl | exact Nat.zero_le _⟩ dX4_clear_1 (fun r843 hr843 => ?_)
  rcases hr843 with ⟨rfl, a844⟩ | ⟨rfl, a844⟩
  · refine lv_if_ne (tgt := 8) hx hb dX4_clear_4 (by decide) (fun _ => ?_) (fun c9 => absurd c9 (by decide))
    refine lv_aload_n hx hb dX4_clear_8 rfl (lv_at hl 0 rfl) ?_
    refine gf_X4_11 hC rfl hK hP 0 rfl rfl dX4_clear_9 ?_
    refine lv_iload_n hx hb dX4_clear_12 rfl (lv_at hl 1 rfl) ?_
    refine lv_iconst (v := (-1)) hx hb dX4_clear_13 (by decide) ?_
    refine ast hC hK hP hD hS 1 (ws' := [(Ho, .inr (4, [.ref hs, .ref hz, .ref hi, .ref hw, .ref hn, .ref ht])), (hs, .inl (G.2.1, 4, .inl (upd (upd (upd (upd (upd (fun _ => 0) 0 (-1)) 1 (-1)) 2 (-1)) 3 (-1)) 3 (-1)))), (hz, .inl (G.2.1, 4, .inl (fun _ => 0)))]) rfl (vin (by decide +kernel)) (k := 3) (by decide +kernel) (rfl) dX4_clear_14 (fun H locs hP hD hS => ?_)
    refine lv_aload_n hx hb dX4_clear_15 rfl (lv_at hl 0 rfl) ?_
    refine gf_X4_15 hC rfl hK hP 0 rfl rfl dX4_clear_16 ?_
    refine lv_iload_n hx hb dX4_clear_19 rfl (lv_at hl 1 rfl) ?_
    refine lv_iconst (v := 0) hx hb dX4_clear_20 (by decide) ?_
    refine ast hC hK hP hD hS 2 (ws' := [(Ho, .inr (4, [.ref hs, .ref hz, .ref hi, .ref hw, .ref hn, .ref ht])), (hs, .inl (G.2.1, 4, .inl (upd (upd (upd (upd (upd (fun _ => 0) 0 (-1)) 1 (-1)) 2 (-1)) 3 (-1)) 3 (-1)))), (hz, .inl (G.2.1, 4, .inl (upd (fun _ => 0) 3 0)))]) rfl (vin (by decide +kernel)) (k := 3) (by decide +kernel) (rfl) dX4_clear_21 (fun H locs hP hD hS => ?_)
    exact RV hC hP hD hS [] () rfl rfl (by decide) (trivial) dX4_clear_22
  · exact absurd (by unfold Wi; decide) a844
set_option maxHeartbeats 4000000 in
set_option maxRecDepth 100000 in
theorem c_lay_3 (l : Launch) (G : GG) (Ho : Nat) (so : Int32) (n : Int32) (hs : Nat) (hz : Nat) (hi : Nat) (hw : Nat) (hn : Nat) (ht : Nat) (hn40 : Wi n 0 40) : MV l G yX4_lay cX4_lay 5 3 0 0 [.ref Ho, .int 3, .int so, .int n] [(Ho, .inr (4, [.ref hs, .ref hz, .ref hi, .ref hw, .ref hn, .ref ht])), (hs, .inl (G.2.1, 4, .inl (upd (upd (upd (upd (fun _ => 0) 0 (-1)) 1 (-1)) 2 (-1)) 3 (-1)))), (hz, .inl (G.2.1, 4, .inl (fun _ => 0))), (hi, .inl (G.2.1, 160, .inl (fun _ => 0)))] (fun u : Unit => True) (fun u : Unit => []) := by
  refine MV.start (by decide +kernel) (Nat.le_of_ble_eq_true rfl) ?_
  intro p e s m below meth c A ls hC hK hP hD hS hA hl
  have hl : lv_has ls 5 [(0, .ref Ho), (1, .int 3), (2, .int so), (3, .int n)] := hl
  obtain ⟨hx, hb, hr, hml, hB, hown, hlocks, hnm⟩ := id hC
  refine lv_iload_n hx hb dX4_lay_0 rfl (lv_at hl 1 rfl) ?_
  refine pSN hC hK hl (c_isSheet l G 3) si_X4_30 rfl rfl (Nat.le_of_ble_eq_true rfl) ⟨Nat.le_of_ble_eq_true rfl, Nat.le_of_ble_eq_true rfl⟩ ⟨by first | exact Nat.le_of_ble_eq_true rfl | exact Nat.zero_le _, by first | exact Nat.le_of_ble_eq_true rfl | exact Nat.zero_le _⟩ dX4_lay_1 (fun r845 hr845 => ?_)
  rcases hr845 with ⟨rfl, a846⟩ | ⟨rfl, a846⟩
  · refine lv_if_eq (tgt := 17) hx hb dX4_lay_4 (by decide) (fun c9 => absurd c9 (by decide)) (fun _ => ?_)
    refine lv_iload_n hx hb dX4_lay_7 rfl (lv_at hl 3 rfl) ?_
    refine lv_iconst (v := 0) hx hb dX4_lay_8 (by decide) ?_
    refine lv_bipush (v := 40) hx hb dX4_lay_9 (by decide) ?_
    refine pSN hC hK hl (c_within l G n 0 40) si_X4_34 rfl rfl (Nat.le_of_ble_eq_true rfl) ⟨Nat.le_of_ble_eq_true rfl, Nat.le_of_ble_eq_true rfl⟩ ⟨by first | exact Nat.le_of_ble_eq_true rfl | exact Nat.zero_le _, by first | exact Nat.le_of_ble_eq_true rfl | exact Nat.zero_le _⟩ dX4_lay_11 (fun r847 hr847 => ?_)
    rcases hr847 with ⟨rfl, a848⟩ | ⟨rfl, a848⟩
    · refine lv_if_ne (tgt := 18) hx hb dX4_lay_14 (by decide) (fun _ => ?_) (fun c9 => absurd c9 (by decide))
      refine lv_aload_n hx hb dX4_lay_18 rfl (lv_at hl 0 rfl) ?_
      refine gf_X4_11 hC rfl hK hP 0 rfl rfl dX4_lay_19 ?_
      refine lv_iload_n hx hb dX4_lay_22 rfl (lv_at hl 1 rfl) ?_
      refine lv_iload_n hx hb dX4_lay_23 rfl (lv_at hl 2 rfl) ?_
      refine ast hC hK hP hD hS 1 (ws' := [(Ho, .inr (4, [.ref hs, .ref hz, .ref hi, .ref hw, .ref hn, .ref ht])), (hs, .inl (G.2.1, 4, .inl (upd (upd (upd (upd (upd (fun _ => 0) 0 (-1)) 1 (-1)) 2 (-1)) 3 (-1)) 3 so))), (hz, .inl (G.2.1, 4, .inl (fun _ => 0))), (hi, .inl (G.2.1, 160, .inl (fun _ => 0)))]) rfl (vin (by decide +kernel)) (k := 3) (by decide +kernel) (rfl) dX4_lay_24 (fun H locs hP hD hS => ?_)
      refine lv_aload_n hx hb dX4_lay_25 rfl (lv_at hl 0 rfl) ?_
      refine gf_X4_15 hC rfl hK hP 0 rfl rfl dX4_lay_26 ?_
      refine lv_iload_n hx hb dX4_lay_29 rfl (lv_at hl 1 rfl) ?_
      refine lv_iload_n hx hb dX4_lay_30 rfl (lv_at hl 3 rfl) ?_
      refine ast hC hK hP hD hS 2 (ws' := [(Ho, .inr (4, [.ref hs, .ref hz, .ref hi, .ref hw, .ref hn, .ref ht])), (hs, .inl (G.2.1, 4, .inl (upd (upd (upd (upd (upd (fun _ => 0) 0 (-1)) 1 (-1)) 2 (-1)) 3 (-1)) 3 so))), (hz, .inl (G.2.1, 4, .inl (upd (fun _ => 0) 3 n))), (hi, .inl (G.2.1, 160, .inl (fun _ => 0)))]) rfl (vin (by decide +kernel)) (k := 3) (by decide +kernel) (rfl) dX4_lay_31 (fun H locs hP hD hS => ?_)
      refine lv_iconst (v := 0) hx hb dX4_lay_32 (by decide) ?_
      refine lv_istore (lv' := [(4, .int 0), (0, .ref Ho), (1, .int 3), (2, .int so), (3, .int n)]) hx hb dX4_lay_33 hl (by decide) rfl (fun ls hl => ?_)
      have keyT : ∀ (nT kT : Nat) (H : Heap) (locs : List Loc) (ls : Array Slot), kT + nT = 40 → va_P G.1 vwCl [(Ho, .inr (4, [.ref hs, .ref hz, .ref hi, .ref hw, .ref hn, .ref ht])), (hs, .inl (G.2.1, 4, .inl (upd (upd (upd (upd (upd (fun _ => 0) 0 (-1)) 1 (-1)) 2 (-1)) 3 (-1)) 3 so))), (hz, .inl (G.2.1, 4, .inl (upd (fun _ => 0) 3 n))), (hi, .inl (G.2.1, 160, .inl (fun _ => 0)))] H → va_D A [(Ho, .inr (4, [.ref hs, .ref hz, .ref hi, .ref hw, .ref hn, .ref ht])), (hs, .inl (G.2.1, 4, .inl (upd (upd (upd (upd (upd (fun _ => 0) 0 (-1)) 1 (-1)) 2 (-1)) 3 (-1)) 3 so))), (hz, .inl (G.2.1, 4, .inl (upd (fun _ => 0) 3 n))), (hi, .inl (G.2.1, 160, .inl (fun _ => 0)))] → va_S A s.heap H locs → lv_has ls 5 [(4, .int (nI kT)), (0, .ref Ho), (1, .int 3)] → W p l e (RM 3 0 0) s m ([.ref Ho, .int 3, .int so, .int n] : List Value).toArray below meth c H locs 0 0 (MQ below (QV G (fun u : Unit => True) (fun u : Unit => []) A) ([.ref Ho, .int 3, .int so, .int n] : List Value).toArray s 0 0 A) (F0 m 35 ls []) := by
        intro nT
        induction nT with
        | zero =>
          intro kT H locs ls hkT hP hD hS hl
          obtain rfl : kT = 40 := by omega
          have hl : lv_has ls 5 [(4, .int 40), (0, .ref Ho), (1, .int 3)] := hl
          refine lv_iload hx hb dX4_lay_35 (lv_at hl 0 rfl) ?_
          refine lv_bipush (v := 40) hx hb dX4_lay_37 (by decide) ?_
          refine lv_icmp_ge (tgt := 61) hx hb dX4_lay_39 (by decide) (fun _ => ?_) (fun c9 => absurd (by decide) c9)
          exact RV hC hP hD hS [] () rfl rfl (by decide) (trivial) dX4_lay_61
        | succ nT ihT =>
          intro kT H locs ls hkT hP hD hS hl
          refine lv_iload hx hb dX4_lay_35 (lv_at hl 0 rfl) ?_
          refine lv_bipush (v := 40) hx hb dX4_lay_37 (by decide) ?_
          refine lv_icmp_ge (tgt := 61) hx hb dX4_lay_39 (by decide) (fun c9 => absurd c9 (nI_ge (a := kT) (b := 40) (by omega) (by decide))) (fun _ => ?_)
          refine lv_aload_n hx hb dX4_lay_42 rfl (lv_at hl 1 rfl) ?_
          refine gf_X4_18 hC rfl hK hP 0 rfl rfl dX4_lay_43 ?_
          refine lv_iload_n hx hb dX4_lay_46 rfl (lv_at hl 2 rfl) ?_
          refine lv_bipush (v := 40) hx hb dX4_lay_47 (by decide) ?_
          refine lv_imul hx hb dX4_lay_49 ?_
          refine eqi (x1 := 120) (by decide) ?_
          refine lv_iload hx hb dX4_lay_50 (lv_at hl 0 rfl) ?_
          refine lv_iadd hx hb dX4_lay_52 ?_
          refine lv_iconst (v := 0) hx hb dX4_lay_53 (by decide) ?_
          refine ast hC hK hP hD hS 3 (ws' := [(Ho, .inr (4, [.ref hs, .ref hz, .ref hi, .ref hw, .ref hn, .ref ht])), (hs, .inl (G.2.1, 4, .inl (upd (upd (upd (upd (upd (fun _ => 0) 0 (-1)) 1 (-1)) 2 (-1)) 3 (-1)) 3 so))), (hz, .inl (G.2.1, 4, .inl (upd (fun _ => 0) 3 n))), (hi, .inl (G.2.1, 160, .inl (fun _ => 0)))]) rfl (vin (ix40_120 kT (by omega))) (k := (120 + nI kT).toNatClampNeg) rfl (congrArg (fun f9 : Nat → Int32 => (_ : va_W).set _ (_, .inl (G.2.1, 160, .inl f9))) upd_z) dX4_lay_54 (fun H locs hP hD hS => ?_)
          refine lv_iinc (v := nI (kT + 1)) (lv' := [(4, .int (nI (kT + 1))), (0, .ref Ho), (1, .int 3)]) hx hb dX4_lay_55 hl (k := 0) rfl (nI_1 _) (by decide) rfl (fun ls hl => ?_)
          refine lv_goto (tgt := 35) hx hb dX4_lay_58 (by decide) ?_
          exact ihT (kT + 1) _ _ _ (by omega) hP hD hS (lv_sub hl [0, 1, 2] rfl)
      exact keyT 40 0 _ _ _ rfl hP hD hS (lv_sub hl [0, 1, 2] rfl)
    · exact absurd hn40 a848
  · exact absurd (by unfold Wi; decide) a846
set_option maxHeartbeats 4000000 in
set_option maxRecDepth 100000 in
theorem c_sheet (l : Launch) (G : GG) (h0 : Nat) (s9 : Int32) (so : Int32) (n : Int32) (B : Nat) (K : Nat) (S : Nat) (D : Nat) (R : Nat) (Ta : Nat) (Tp : Nat) (Ro : Nat) (Ho : Nat) (De : Nat) (hs : Nat) (hz : Nat) (hi : Nat) (hw : Nat) (hn : Nat) (ht : Nat) : MI l G yX11_sheet cX11_sheet 4 (some .int) 5 0 0 [.ref h0, .int s9, .int so, .int n] [(h0, .inr (11, [.ref B, .ref K, .int 0, .ref S, .ref D, .ref R, .ref Ta, .ref Tp, .ref Ro, .ref Ho, .ref De])), (Ho, .inr (4, [.ref hs, .ref hz, .ref hi, .ref hw, .ref hn, .ref ht])), (hs, .inl (G.2.1, 4, .inl (upd (upd (upd (upd (fun _ => 0) 0 (-1)) 1 (-1)) 2 (-1)) 3 (-1)))), (hz, .inl (G.2.1, 4, .inl (fun _ => 0))), (hi, .inl (G.2.1, 160, .inl (fun _ => 0)))] (fun (r : Int32) (u : Unit) => (r = A_sheet s9 so n)) (fun u : Unit => []) := by
  refine MI.start (by decide +kernel) (Nat.le_of_ble_eq_true rfl) ?_
  intro p e s m below meth c A ls hC hK hP hD hS hA hl
  have hl : lv_has ls 4 [(0, .ref h0), (1, .int s9), (2, .int so), (3, .int n)] := hl
  obtain ⟨hx, hb, hr, hml, hB, hown, hlocks, hnm⟩ := id hC
  refine lv_iload_n hx hb dX11_sheet_0 rfl (lv_at hl 1 rfl) ?_
  refine pS hC hK hl (c_isSheet l G s9) si_X11_164 rfl rfl (Nat.le_of_ble_eq_true rfl) ⟨Nat.le_of_ble_eq_true rfl, Nat.le_of_ble_eq_true rfl⟩ ⟨by first | exact Nat.le_of_ble_eq_true rfl | exact Nat.zero_le _, by first | exact Nat.le_of_ble_eq_true rfl | exact Nat.zero_le _⟩ dX11_sheet_1 (fun r849 hr849 => ?_)
  rcases hr849 with ⟨rfl, a850⟩ | ⟨rfl, a850⟩
  · rcases Wi_c3 a850 with rfl | rfl | rfl | rfl
    · refine lv_if_eq (tgt := 16) hx hb dX11_sheet_4 (by decide) (fun c9 => absurd c9 (by decide)) (fun _ => ?_)
      refine lv_iload_n hx hb dX11_sheet_7 rfl (lv_at hl 2 rfl) ?_
      refine lv_iconst (v := (-1)) hx hb dX11_sheet_8 (by decide) ?_
      refine lv_iconst (v := 4) hx hb dX11_sheet_9 (by decide) ?_
      refine pS hC hK hl (c_within l G so (-1) 4) si_X11_83 rfl rfl (Nat.le_of_ble_eq_true rfl) ⟨Nat.le_of_ble_eq_true rfl, Nat.le_of_ble_eq_true rfl⟩ ⟨by first | exact Nat.le_of_ble_eq_true rfl | exact Nat.zero_le _, by first | exact Nat.le_of_ble_eq_true rfl | exact Nat.zero_le _⟩ dX11_sheet_10 (fun r851 hr851 => ?_)
      rcases hr851 with ⟨rfl, a852⟩ | ⟨rfl, a852⟩
      · refine lv_if_ne (tgt := 18) hx hb dX11_sheet_13 (by decide) (fun _ => ?_) (fun c9 => absurd c9 (by decide))
        refine lv_iload_n hx hb dX11_sheet_18 rfl (lv_at hl 2 rfl) ?_
        refine lv_iconst (v := (-1)) hx hb dX11_sheet_19 (by decide) ?_
        refine lv_icmp_ne (tgt := 33) hx hb dX11_sheet_20 (by decide) (fun c_20_853 => ?_) (fun c_20_853 => ?_)
        · refine lv_iload_n hx hb dX11_sheet_33 rfl (lv_at hl 3 rfl) ?_
          refine lv_bipush (v := 40) hx hb dX11_sheet_34 (by decide) ?_
          refine lv_icmp_le (tgt := 41) hx hb dX11_sheet_36 (by decide) (fun c_36_854 => ?_) (fun c_36_854 => ?_)
          · refine lv_iload_n hx hb dX11_sheet_41 rfl (lv_at hl 3 rfl) ?_
            refine lv_if_ge (tgt := 48) hx hb dX11_sheet_42 (by decide) (fun c_42_855 => ?_) (fun c_42_855 => ?_)
            · refine lv_aload_n hx hb dX11_sheet_48 rfl (lv_at hl 0 rfl) ?_
              refine gf_X11_72 hC rfl hK hP 0 rfl rfl dX11_sheet_49 ?_
              refine lv_iload_n hx hb dX11_sheet_52 rfl (lv_at hl 1 rfl) ?_
              refine lv_iload_n hx hb dX11_sheet_53 rfl (lv_at hl 2 rfl) ?_
              refine lv_iload_n hx hb dX11_sheet_54 rfl (lv_at hl 3 rfl) ?_
              refine vV (wr := [(h0, .inr (11, [.ref B, .ref K, .int 0, .ref S, .ref D, .ref R, .ref Ta, .ref Tp, .ref Ro, .ref Ho, .ref De]))]) hC hK hl hP hD hS hA (c_lay_0 l G Ho so n hs hz hi hw hn ht (Wi_of c_42_855 c_36_854)) si_X11_306 [1, 2, 3, 4] [0] rfl rfl (by decide) rfl (by decide) (by decide) rfl rfl rfl rfl rfl (Nat.le_of_ble_eq_true rfl) ⟨Nat.le_of_ble_eq_true rfl, Nat.le_of_ble_eq_true rfl⟩ ⟨Nat.le_of_ble_eq_true rfl, Nat.le_of_ble_eq_true rfl⟩ dX11_sheet_55 (fun u857 H locs hr856 hP hD hS => ?_)
              have hP : va_P G.1 vwCl [(h0, .inr (11, [.ref B, .ref K, .int 0, .ref S, .ref D, .ref R, .ref Ta, .ref Tp, .ref Ro, .ref Ho, .ref De]))] H := hP
              have hD : va_D A [(h0, .inr (11, [.ref B, .ref K, .int 0, .ref S, .ref D, .ref R, .ref Ta, .ref Tp, .ref Ro, .ref Ho, .ref De]))] := hD
              refine lv_iconst (v := 1) hx hb dX11_sheet_58 (by decide) ?_
              exact RI (v := 1) hC hP hD hS [] () rfl rfl (by decide) ((by unfold A_sheet; first | rfl | (simp only [ifc_t a850, ifc_t a852, ifc_f c_20_853, ifc_t c_36_854, ifc_t c_42_855]; done) | (simp only [ifc_t a850, ifc_t a852, ifc_f c_20_853, ifc_t c_36_854, ifc_t c_42_855]; rfl))) rfl dX11_sheet_59
            · refine lv_bipush (v := (-14)) hx hb dX11_sheet_45 (by decide) ?_
              exact RI (v := (-14)) hC hP hD hS [] () rfl rfl (by decide) ((by unfold A_sheet; first | rfl | (simp only [ifc_t a850, ifc_t a852, ifc_f c_20_853, ifc_t c_36_854, ifc_f c_42_855]; done) | (simp only [ifc_t a850, ifc_t a852, ifc_f c_20_853, ifc_t c_36_854, ifc_f c_42_855]; rfl))) rfl dX11_sheet_47
          · refine lv_iconst (v := (-1)) hx hb dX11_sheet_39 (by decide) ?_
            exact RI (v := (-1)) hC hP hD hS [] () rfl rfl (by decide) ((by unfold A_sheet; first | rfl | (simp only [ifc_t a850, ifc_t a852, ifc_f c_20_853, ifc_f c_36_854]; done) | (simp only [ifc_t a850, ifc_t a852, ifc_f c_20_853, ifc_f c_36_854]; rfl))) rfl dX11_sheet_40
        · refine lv_aload_n hx hb dX11_sheet_23 rfl (lv_at hl 0 rfl) ?_
          refine gf_X11_72 hC rfl hK hP 0 rfl rfl dX11_sheet_24 ?_
          refine lv_iload_n hx hb dX11_sheet_27 rfl (lv_at hl 1 rfl) ?_
          refine vV (wr := [(h0, .inr (11, [.ref B, .ref K, .int 0, .ref S, .ref D, .ref R, .ref Ta, .ref Tp, .ref Ro, .ref Ho, .ref De])), (hi, .inl (G.2.1, 160, .inl (fun _ => 0)))]) hC hK hl hP hD hS hA (c_clear_0 l G Ho hs hz hi hw hn ht) si_X11_304 [1, 2, 3] [0, 4] rfl rfl (by decide) rfl (by decide) (by decide) rfl rfl rfl rfl rfl (Nat.le_of_ble_eq_true rfl) ⟨Nat.le_of_ble_eq_true rfl, Nat.le_of_ble_eq_true rfl⟩ ⟨Nat.le_of_ble_eq_true rfl, Nat.le_of_ble_eq_true rfl⟩ dX11_sheet_28 (fun u859 H locs hr858 hP hD hS => ?_)
          have hP : va_P G.1 vwCl [(h0, .inr (11, [.ref B, .ref K, .int 0, .ref S, .ref D, .ref R, .ref Ta, .ref Tp, .ref Ro, .ref Ho, .ref De])), (hi, .inl (G.2.1, 160, .inl (fun _ => 0)))] H := hP
          have hD : va_D A [(h0, .inr (11, [.ref B, .ref K, .int 0, .ref S, .ref D, .ref R, .ref Ta, .ref Tp, .ref Ro, .ref Ho, .ref De])), (hi, .inl (G.2.1, 160, .inl (fun _ => 0)))] := hD
          refine lv_iconst (v := 1) hx hb dX11_sheet_31 (by decide) ?_
          exact RI (v := 1) hC hP hD hS [] () rfl rfl (by decide) ((by unfold A_sheet; first | rfl | (simp only [ifc_t a850, ifc_t a852, ifc_t c_20_853]; done) | (simp only [ifc_t a850, ifc_t a852, ifc_t c_20_853]; rfl))) rfl dX11_sheet_32
      · refine lv_if_ne (tgt := 18) hx hb dX11_sheet_13 (by decide) (fun c9 => absurd (by decide) c9) (fun _ => ?_)
        refine lv_iconst (v := (-1)) hx hb dX11_sheet_16 (by decide) ?_
        exact RI (v := (-1)) hC hP hD hS [] () rfl rfl (by decide) ((by unfold A_sheet; first | rfl | (simp only [ifc_t a850, ifc_f a852]; done) | (simp only [ifc_t a850, ifc_f a852]; rfl))) rfl dX11_sheet_17
    · refine lv_if_eq (tgt := 16) hx hb dX11_sheet_4 (by decide) (fun c9 => absurd c9 (by decide)) (fun _ => ?_)
      refine lv_iload_n hx hb dX11_sheet_7 rfl (lv_at hl 2 rfl) ?_
      refine lv_iconst (v := (-1)) hx hb dX11_sheet_8 (by decide) ?_
      refine lv_iconst (v := 4) hx hb dX11_sheet_9 (by decide) ?_
      refine pS hC hK hl (c_within l G so (-1) 4) si_X11_83 rfl rfl (Nat.le_of_ble_eq_true rfl) ⟨Nat.le_of_ble_eq_true rfl, Nat.le_of_ble_eq_true rfl⟩ ⟨by first | exact Nat.le_of_ble_eq_true rfl | exact Nat.zero_le _, by first | exact Nat.le_of_ble_eq_true rfl | exact Nat.zero_le _⟩ dX11_sheet_10 (fun r860 hr860 => ?_)
      rcases hr860 with ⟨rfl, a861⟩ | ⟨rfl, a861⟩
      · refine lv_if_ne (tgt := 18) hx hb dX11_sheet_13 (by decide) (fun _ => ?_) (fun c9 => absurd c9 (by decide))
        refine lv_iload_n hx hb dX11_sheet_18 rfl (lv_at hl 2 rfl) ?_
        refine lv_iconst (v := (-1)) hx hb dX11_sheet_19 (by decide) ?_
        refine lv_icmp_ne (tgt := 33) hx hb dX11_sheet_20 (by decide) (fun c_20_862 => ?_) (fun c_20_862 => ?_)
        · refine lv_iload_n hx hb dX11_sheet_33 rfl (lv_at hl 3 rfl) ?_
          refine lv_bipush (v := 40) hx hb dX11_sheet_34 (by decide) ?_
          refine lv_icmp_le (tgt := 41) hx hb dX11_sheet_36 (by decide) (fun c_36_863 => ?_) (fun c_36_863 => ?_)
          · refine lv_iload_n hx hb dX11_sheet_41 rfl (lv_at hl 3 rfl) ?_
            refine lv_if_ge (tgt := 48) hx hb dX11_sheet_42 (by decide) (fun c_42_864 => ?_) (fun c_42_864 => ?_)
            · refine lv_aload_n hx hb dX11_sheet_48 rfl (lv_at hl 0 rfl) ?_
              refine gf_X11_72 hC rfl hK hP 0 rfl rfl dX11_sheet_49 ?_
              refine lv_iload_n hx hb dX11_sheet_52 rfl (lv_at hl 1 rfl) ?_
              refine lv_iload_n hx hb dX11_sheet_53 rfl (lv_at hl 2 rfl) ?_
              refine lv_iload_n hx hb dX11_sheet_54 rfl (lv_at hl 3 rfl) ?_
              refine vV (wr := [(h0, .inr (11, [.ref B, .ref K, .int 0, .ref S, .ref D, .ref R, .ref Ta, .ref Tp, .ref Ro, .ref Ho, .ref De]))]) hC hK hl hP hD hS hA (c_lay_1 l G Ho so n hs hz hi hw hn ht (Wi_of c_42_864 c_36_863)) si_X11_306 [1, 2, 3, 4] [0] rfl rfl (by decide) rfl (by decide) (by decide) rfl rfl rfl rfl rfl (Nat.le_of_ble_eq_true rfl) ⟨Nat.le_of_ble_eq_true rfl, Nat.le_of_ble_eq_true rfl⟩ ⟨Nat.le_of_ble_eq_true rfl, Nat.le_of_ble_eq_true rfl⟩ dX11_sheet_55 (fun u866 H locs hr865 hP hD hS => ?_)
              have hP : va_P G.1 vwCl [(h0, .inr (11, [.ref B, .ref K, .int 0, .ref S, .ref D, .ref R, .ref Ta, .ref Tp, .ref Ro, .ref Ho, .ref De]))] H := hP
              have hD : va_D A [(h0, .inr (11, [.ref B, .ref K, .int 0, .ref S, .ref D, .ref R, .ref Ta, .ref Tp, .ref Ro, .ref Ho, .ref De]))] := hD
              refine lv_iconst (v := 1) hx hb dX11_sheet_58 (by decide) ?_
              exact RI (v := 1) hC hP hD hS [] () rfl rfl (by decide) ((by unfold A_sheet; first | rfl | (simp only [ifc_t a850, ifc_t a861, ifc_f c_20_862, ifc_t c_36_863, ifc_t c_42_864]; done) | (simp only [ifc_t a850, ifc_t a861, ifc_f c_20_862, ifc_t c_36_863, ifc_t c_42_864]; rfl))) rfl dX11_sheet_59
            · refine lv_bipush (v := (-14)) hx hb dX11_sheet_45 (by decide) ?_
              exact RI (v := (-14)) hC hP hD hS [] () rfl rfl (by decide) ((by unfold A_sheet; first | rfl | (simp only [ifc_t a850, ifc_t a861, ifc_f c_20_862, ifc_t c_36_863, ifc_f c_42_864]; done) | (simp only [ifc_t a850, ifc_t a861, ifc_f c_20_862, ifc_t c_36_863, ifc_f c_42_864]; rfl))) rfl dX11_sheet_47
          · refine lv_iconst (v := (-1)) hx hb dX11_sheet_39 (by decide) ?_
            exact RI (v := (-1)) hC hP hD hS [] () rfl rfl (by decide) ((by unfold A_sheet; first | rfl | (simp only [ifc_t a850, ifc_t a861, ifc_f c_20_862, ifc_f c_36_863]; done) | (simp only [ifc_t a850, ifc_t a861, ifc_f c_20_862, ifc_f c_36_863]; rfl))) rfl dX11_sheet_40
        · refine lv_aload_n hx hb dX11_sheet_23 rfl (lv_at hl 0 rfl) ?_
          refine gf_X11_72 hC rfl hK hP 0 rfl rfl dX11_sheet_24 ?_
          refine lv_iload_n hx hb dX11_sheet_27 rfl (lv_at hl 1 rfl) ?_
          refine vV (wr := [(h0, .inr (11, [.ref B, .ref K, .int 0, .ref S, .ref D, .ref R, .ref Ta, .ref Tp, .ref Ro, .ref Ho, .ref De])), (hi, .inl (G.2.1, 160, .inl (fun _ => 0)))]) hC hK hl hP hD hS hA (c_clear_1 l G Ho hs hz hi hw hn ht) si_X11_304 [1, 2, 3] [0, 4] rfl rfl (by decide) rfl (by decide) (by decide) rfl rfl rfl rfl rfl (Nat.le_of_ble_eq_true rfl) ⟨Nat.le_of_ble_eq_true rfl, Nat.le_of_ble_eq_true rfl⟩ ⟨Nat.le_of_ble_eq_true rfl, Nat.le_of_ble_eq_true rfl⟩ dX11_sheet_28 (fun u868 H locs hr867 hP hD hS => ?_)
          have hP : va_P G.1 vwCl [(h0, .inr (11, [.ref B, .ref K, .int 0, .ref S, .ref D, .ref R, .ref Ta, .ref Tp, .ref Ro, .ref Ho, .ref De])), (hi, .inl (G.2.1, 160, .inl (fun _ => 0)))] H := hP
          have hD : va_D A [(h0, .inr (11, [.ref B, .ref K, .int 0, .ref S, .ref D, .ref R, .ref Ta, .ref Tp, .ref Ro, .ref Ho, .ref De])), (hi, .inl (G.2.1, 160, .inl (fun _ => 0)))] := hD
          refine lv_iconst (v := 1) hx hb dX11_sheet_31 (by decide) ?_
          exact RI (v := 1) hC hP hD hS [] () rfl rfl (by decide) ((by unfold A_sheet; first | rfl | (simp only [ifc_t a850, ifc_t a861, ifc_t c_20_862]; done) | (simp only [ifc_t a850, ifc_t a861, ifc_t c_20_862]; rfl))) rfl dX11_sheet_32
      · refine lv_if_ne (tgt := 18) hx hb dX11_sheet_13 (by decide) (fun c9 => absurd (by decide) c9) (fun _ => ?_)
        refine lv_iconst (v := (-1)) hx hb dX11_sheet_16 (by decide) ?_
        exact RI (v := (-1)) hC hP hD hS [] () rfl rfl (by decide) ((by unfold A_sheet; first | rfl | (simp only [ifc_t a850, ifc_f a861]; done) | (simp only [ifc_t a850, ifc_f a861]; rfl))) rfl dX11_sheet_17
    · refine lv_if_eq (tgt := 16) hx hb dX11_sheet_4 (by decide) (fun c9 => absurd c9 (by decide)) (fun _ => ?_)
      refine lv_iload_n hx hb dX11_sheet_7 rfl (lv_at hl 2 rfl) ?_
      refine lv_iconst (v := (-1)) hx hb dX11_sheet_8 (by decide) ?_
      refine lv_iconst (v := 4) hx hb dX11_sheet_9 (by decide) ?_
      refine pS hC hK hl (c_within l G so (-1) 4) si_X11_83 rfl rfl (Nat.le_of_ble_eq_true rfl) ⟨Nat.le_of_ble_eq_true rfl, Nat.le_of_ble_eq_true rfl⟩ ⟨by first | exact Nat.le_of_ble_eq_true rfl | exact Nat.zero_le _, by first | exact Nat.le_of_ble_eq_true rfl | exact Nat.zero_le _⟩ dX11_sheet_10 (fun r869 hr869 => ?_)
      rcases hr869 with ⟨rfl, a870⟩ | ⟨rfl, a870⟩
      · refine lv_if_ne (tgt := 18) hx hb dX11_sheet_13 (by decide) (fun _ => ?_) (fun c9 => absurd c9 (by decide))
        refine lv_iload_n hx hb dX11_sheet_18 rfl (lv_at hl 2 rfl) ?_
        refine lv_iconst (v := (-1)) hx hb dX11_sheet_19 (by decide) ?_
        refine lv_icmp_ne (tgt := 33) hx hb dX11_sheet_20 (by decide) (fun c_20_871 => ?_) (fun c_20_871 => ?_)
        · refine lv_iload_n hx hb dX11_sheet_33 rfl (lv_at hl 3 rfl) ?_
          refine lv_bipush (v := 40) hx hb dX11_sheet_34 (by decide) ?_
          refine lv_icmp_le (tgt := 41) hx hb dX11_sheet_36 (by decide) (fun c_36_872 => ?_) (fun c_36_872 => ?_)
          · refine lv_iload_n hx hb dX11_sheet_41 rfl (lv_at hl 3 rfl) ?_
            refine lv_if_ge (tgt := 48) hx hb dX11_sheet_42 (by decide) (fun c_42_873 => ?_) (fun c_42_873 => ?_)
            · refine lv_aload_n hx hb dX11_sheet_48 rfl (lv_at hl 0 rfl) ?_
              refine gf_X11_72 hC rfl hK hP 0 rfl rfl dX11_sheet_49 ?_
              refine lv_iload_n hx hb dX11_sheet_52 rfl (lv_at hl 1 rfl) ?_
              refine lv_iload_n hx hb dX11_sheet_53 rfl (lv_at hl 2 rfl) ?_
              refine lv_iload_n hx hb dX11_sheet_54 rfl (lv_at hl 3 rfl) ?_
              refine vV (wr := [(h0, .inr (11, [.ref B, .ref K, .int 0, .ref S, .ref D, .ref R, .ref Ta, .ref Tp, .ref Ro, .ref Ho, .ref De]))]) hC hK hl hP hD hS hA (c_lay_2 l G Ho so n hs hz hi hw hn ht (Wi_of c_42_873 c_36_872)) si_X11_306 [1, 2, 3, 4] [0] rfl rfl (by decide) rfl (by decide) (by decide) rfl rfl rfl rfl rfl (Nat.le_of_ble_eq_true rfl) ⟨Nat.le_of_ble_eq_true rfl, Nat.le_of_ble_eq_true rfl⟩ ⟨Nat.le_of_ble_eq_true rfl, Nat.le_of_ble_eq_true rfl⟩ dX11_sheet_55 (fun u875 H locs hr874 hP hD hS => ?_)
              have hP : va_P G.1 vwCl [(h0, .inr (11, [.ref B, .ref K, .int 0, .ref S, .ref D, .ref R, .ref Ta, .ref Tp, .ref Ro, .ref Ho, .ref De]))] H := hP
              have hD : va_D A [(h0, .inr (11, [.ref B, .ref K, .int 0, .ref S, .ref D, .ref R, .ref Ta, .ref Tp, .ref Ro, .ref Ho, .ref De]))] := hD
              refine lv_iconst (v := 1) hx hb dX11_sheet_58 (by decide) ?_
              exact RI (v := 1) hC hP hD hS [] () rfl rfl (by decide) ((by unfold A_sheet; first | rfl | (simp only [ifc_t a850, ifc_t a870, ifc_f c_20_871, ifc_t c_36_872, ifc_t c_42_873]; done) | (simp only [ifc_t a850, ifc_t a870, ifc_f c_20_871, ifc_t c_36_872, ifc_t c_42_873]; rfl))) rfl dX11_sheet_59
            · refine lv_bipush (v := (-14)) hx hb dX11_sheet_45 (by decide) ?_
              exact RI (v := (-14)) hC hP hD hS [] () rfl rfl (by decide) ((by unfold A_sheet; first | rfl | (simp only [ifc_t a850, ifc_t a870, ifc_f c_20_871, ifc_t c_36_872, ifc_f c_42_873]; done) | (simp only [ifc_t a850, ifc_t a870, ifc_f c_20_871, ifc_t c_36_872, ifc_f c_42_873]; rfl))) rfl dX11_sheet_47
          · refine lv_iconst (v := (-1)) hx hb dX11_sheet_39 (by decide) ?_
            exact RI (v := (-1)) hC hP hD hS [] () rfl rfl (by decide) ((by unfold A_sheet; first | rfl | (simp only [ifc_t a850, ifc_t a870, ifc_f c_20_871, ifc_f c_36_872]; done) | (simp only [ifc_t a850, ifc_t a870, ifc_f c_20_871, ifc_f c_36_872]; rfl))) rfl dX11_sheet_40
        · refine lv_aload_n hx hb dX11_sheet_23 rfl (lv_at hl 0 rfl) ?_
          refine gf_X11_72 hC rfl hK hP 0 rfl rfl dX11_sheet_24 ?_
          refine lv_iload_n hx hb dX11_sheet_27 rfl (lv_at hl 1 rfl) ?_
          refine vV (wr := [(h0, .inr (11, [.ref B, .ref K, .int 0, .ref S, .ref D, .ref R, .ref Ta, .ref Tp, .ref Ro, .ref Ho, .ref De])), (hi, .inl (G.2.1, 160, .inl (fun _ => 0)))]) hC hK hl hP hD hS hA (c_clear_2 l G Ho hs hz hi hw hn ht) si_X11_304 [1, 2, 3] [0, 4] rfl rfl (by decide) rfl (by decide) (by decide) rfl rfl rfl rfl rfl (Nat.le_of_ble_eq_true rfl) ⟨Nat.le_of_ble_eq_true rfl, Nat.le_of_ble_eq_true rfl⟩ ⟨Nat.le_of_ble_eq_true rfl, Nat.le_of_ble_eq_true rfl⟩ dX11_sheet_28 (fun u877 H locs hr876 hP hD hS => ?_)
          have hP : va_P G.1 vwCl [(h0, .inr (11, [.ref B, .ref K, .int 0, .ref S, .ref D, .ref R, .ref Ta, .ref Tp, .ref Ro, .ref Ho, .ref De])), (hi, .inl (G.2.1, 160, .inl (fun _ => 0)))] H := hP
          have hD : va_D A [(h0, .inr (11, [.ref B, .ref K, .int 0, .ref S, .ref D, .ref R, .ref Ta, .ref Tp, .ref Ro, .ref Ho, .ref De])), (hi, .inl (G.2.1, 160, .inl (fun _ => 0)))] := hD
          refine lv_iconst (v := 1) hx hb dX11_sheet_31 (by decide) ?_
          exact RI (v := 1) hC hP hD hS [] () rfl rfl (by decide) ((by unfold A_sheet; first | rfl | (simp only [ifc_t a850, ifc_t a870, ifc_t c_20_871]; done) | (simp only [ifc_t a850, ifc_t a870, ifc_t c_20_871]; rfl))) rfl dX11_sheet_32
      · refine lv_if_ne (tgt := 18) hx hb dX11_sheet_13 (by decide) (fun c9 => absurd (by decide) c9) (fun _ => ?_)
        refine lv_iconst (v := (-1)) hx hb dX11_sheet_16 (by decide) ?_
        exact RI (v := (-1)) hC hP hD hS [] () rfl rfl (by decide) ((by unfold A_sheet; first | rfl | (simp only [ifc_t a850, ifc_f a870]; done) | (simp only [ifc_t a850, ifc_f a870]; rfl))) rfl dX11_sheet_17
    · refine lv_if_eq (tgt := 16) hx hb dX11_sheet_4 (by decide) (fun c9 => absurd c9 (by decide)) (fun _ => ?_)
      refine lv_iload_n hx hb dX11_sheet_7 rfl (lv_at hl 2 rfl) ?_
      refine lv_iconst (v := (-1)) hx hb dX11_sheet_8 (by decide) ?_
      refine lv_iconst (v := 4) hx hb dX11_sheet_9 (by decide) ?_
      refine pS hC hK hl (c_within l G so (-1) 4) si_X11_83 rfl rfl (Nat.le_of_ble_eq_true rfl) ⟨Nat.le_of_ble_eq_true rfl, Nat.le_of_ble_eq_true rfl⟩ ⟨by first | exact Nat.le_of_ble_eq_true rfl | exact Nat.zero_le _, by first | exact Nat.le_of_ble_eq_true rfl | exact Nat.zero_le _⟩ dX11_sheet_10 (fun r878 hr878 => ?_)
      rcases hr878 with ⟨rfl, a879⟩ | ⟨rfl, a879⟩
      · refine lv_if_ne (tgt := 18) hx hb dX11_sheet_13 (by decide) (fun _ => ?_) (fun c9 => absurd c9 (by decide))
        refine lv_iload_n hx hb dX11_sheet_18 rfl (lv_at hl 2 rfl) ?_
        refine lv_iconst (v := (-1)) hx hb dX11_sheet_19 (by decide) ?_
        refine lv_icmp_ne (tgt := 33) hx hb dX11_sheet_20 (by decide) (fun c_20_880 => ?_) (fun c_20_880 => ?_)
        · refine lv_iload_n hx hb dX11_sheet_33 rfl (lv_at hl 3 rfl) ?_
          refine lv_bipush (v := 40) hx hb dX11_sheet_34 (by decide) ?_
          refine lv_icmp_le (tgt := 41) hx hb dX11_sheet_36 (by decide) (fun c_36_881 => ?_) (fun c_36_881 => ?_)
          · refine lv_iload_n hx hb dX11_sheet_41 rfl (lv_at hl 3 rfl) ?_
            refine lv_if_ge (tgt := 48) hx hb dX11_sheet_42 (by decide) (fun c_42_882 => ?_) (fun c_42_882 => ?_)
            · refine lv_aload_n hx hb dX11_sheet_48 rfl (lv_at hl 0 rfl) ?_
              refine gf_X11_72 hC rfl hK hP 0 rfl rfl dX11_sheet_49 ?_
              refine lv_iload_n hx hb dX11_sheet_52 rfl (lv_at hl 1 rfl) ?_
              refine lv_iload_n hx hb dX11_sheet_53 rfl (lv_at hl 2 rfl) ?_
              refine lv_iload_n hx hb dX11_sheet_54 rfl (lv_at hl 3 rfl) ?_
              refine vV (wr := [(h0, .inr (11, [.ref B, .ref K, .int 0, .ref S, .ref D, .ref R, .ref Ta, .ref Tp, .ref Ro, .ref Ho, .ref De]))]) hC hK hl hP hD hS hA (c_lay_3 l G Ho so n hs hz hi hw hn ht (Wi_of c_42_882 c_36_881)) si_X11_306 [1, 2, 3, 4] [0] rfl rfl (by decide) rfl (by decide) (by decide) rfl rfl rfl rfl rfl (Nat.le_of_ble_eq_true rfl) ⟨Nat.le_of_ble_eq_true rfl, Nat.le_of_ble_eq_true rfl⟩ ⟨Nat.le_of_ble_eq_true rfl, Nat.le_of_ble_eq_true rfl⟩ dX11_sheet_55 (fun u884 H locs hr883 hP hD hS => ?_)
              have hP : va_P G.1 vwCl [(h0, .inr (11, [.ref B, .ref K, .int 0, .ref S, .ref D, .ref R, .ref Ta, .ref Tp, .ref Ro, .ref Ho, .ref De]))] H := hP
              have hD : va_D A [(h0, .inr (11, [.ref B, .ref K, .int 0, .ref S, .ref D, .ref R, .ref Ta, .ref Tp, .ref Ro, .ref Ho, .ref De]))] := hD
              refine lv_iconst (v := 1) hx hb dX11_sheet_58 (by decide) ?_
              exact RI (v := 1) hC hP hD hS [] () rfl rfl (by decide) ((by unfold A_sheet; first | rfl | (simp only [ifc_t a850, ifc_t a879, ifc_f c_20_880, ifc_t c_36_881, ifc_t c_42_882]; done) | (simp only [ifc_t a850, ifc_t a879, ifc_f c_20_880, ifc_t c_36_881, ifc_t c_42_882]; rfl))) rfl dX11_sheet_59
            · refine lv_bipush (v := (-14)) hx hb dX11_sheet_45 (by decide) ?_
              exact RI (v := (-14)) hC hP hD hS [] () rfl rfl (by decide) ((by unfold A_sheet; first | rfl | (simp only [ifc_t a850, ifc_t a879, ifc_f c_20_880, ifc_t c_36_881, ifc_f c_42_882]; done) | (simp only [ifc_t a850, ifc_t a879, ifc_f c_20_880, ifc_t c_36_881, ifc_f c_42_882]; rfl))) rfl dX11_sheet_47
          · refine lv_iconst (v := (-1)) hx hb dX11_sheet_39 (by decide) ?_
            exact RI (v := (-1)) hC hP hD hS [] () rfl rfl (by decide) ((by unfold A_sheet; first | rfl | (simp only [ifc_t a850, ifc_t a879, ifc_f c_20_880, ifc_f c_36_881]; done) | (simp only [ifc_t a850, ifc_t a879, ifc_f c_20_880, ifc_f c_36_881]; rfl))) rfl dX11_sheet_40
        · refine lv_aload_n hx hb dX11_sheet_23 rfl (lv_at hl 0 rfl) ?_
          refine gf_X11_72 hC rfl hK hP 0 rfl rfl dX11_sheet_24 ?_
          refine lv_iload_n hx hb dX11_sheet_27 rfl (lv_at hl 1 rfl) ?_
          refine vV (wr := [(h0, .inr (11, [.ref B, .ref K, .int 0, .ref S, .ref D, .ref R, .ref Ta, .ref Tp, .ref Ro, .ref Ho, .ref De])), (hi, .inl (G.2.1, 160, .inl (fun _ => 0)))]) hC hK hl hP hD hS hA (c_clear_3 l G Ho hs hz hi hw hn ht) si_X11_304 [1, 2, 3] [0, 4] rfl rfl (by decide) rfl (by decide) (by decide) rfl rfl rfl rfl rfl (Nat.le_of_ble_eq_true rfl) ⟨Nat.le_of_ble_eq_true rfl, Nat.le_of_ble_eq_true rfl⟩ ⟨Nat.le_of_ble_eq_true rfl, Nat.le_of_ble_eq_true rfl⟩ dX11_sheet_28 (fun u886 H locs hr885 hP hD hS => ?_)
          have hP : va_P G.1 vwCl [(h0, .inr (11, [.ref B, .ref K, .int 0, .ref S, .ref D, .ref R, .ref Ta, .ref Tp, .ref Ro, .ref Ho, .ref De])), (hi, .inl (G.2.1, 160, .inl (fun _ => 0)))] H := hP
          have hD : va_D A [(h0, .inr (11, [.ref B, .ref K, .int 0, .ref S, .ref D, .ref R, .ref Ta, .ref Tp, .ref Ro, .ref Ho, .ref De])), (hi, .inl (G.2.1, 160, .inl (fun _ => 0)))] := hD
          refine lv_iconst (v := 1) hx hb dX11_sheet_31 (by decide) ?_
          exact RI (v := 1) hC hP hD hS [] () rfl rfl (by decide) ((by unfold A_sheet; first | rfl | (simp only [ifc_t a850, ifc_t a879, ifc_t c_20_880]; done) | (simp only [ifc_t a850, ifc_t a879, ifc_t c_20_880]; rfl))) rfl dX11_sheet_32
      · refine lv_if_ne (tgt := 18) hx hb dX11_sheet_13 (by decide) (fun c9 => absurd (by decide) c9) (fun _ => ?_)
        refine lv_iconst (v := (-1)) hx hb dX11_sheet_16 (by decide) ?_
        exact RI (v := (-1)) hC hP hD hS [] () rfl rfl (by decide) ((by unfold A_sheet; first | rfl | (simp only [ifc_t a850, ifc_f a879]; done) | (simp only [ifc_t a850, ifc_f a879]; rfl))) rfl dX11_sheet_17
  · refine lv_if_eq (tgt := 16) hx hb dX11_sheet_4 (by decide) (fun _ => ?_) (fun c9 => absurd (by decide) c9)
    refine lv_iconst (v := (-1)) hx hb dX11_sheet_16 (by decide) ?_
    exact RI (v := (-1)) hC hP hD hS [] () rfl rfl (by decide) ((by unfold A_sheet; first | rfl | (simp only [ifc_f a850]; done) | (simp only [ifc_f a850]; rfl))) rfl dX11_sheet_17
set_option maxHeartbeats 4000000 in
set_option maxRecDepth 100000 in
theorem c_hold_0 (l : Launch) (G : GG) (Ho : Nat) (wh : Int32) (n : Int32) (hs : Nat) (hz : Nat) (hi : Nat) (hw : Nat) (hn : Nat) (ht : Nat) : MV l G yX4_hold cX4_hold 4 3 0 0 [.ref Ho, .int 0, .int wh, .int n] [(Ho, .inr (4, [.ref hs, .ref hz, .ref hi, .ref hw, .ref hn, .ref ht])), (hw, .inl (G.2.1, 4, .inl (upd (upd (upd (upd (fun _ => 0) 0 4) 1 4) 2 4) 3 4))), (hn, .inl (G.2.1, 4, .inl (fun _ => 0)))] (fun u : Unit => True) (fun u : Unit => []) := by
  refine MV.start (by decide +kernel) (Nat.le_of_ble_eq_true rfl) ?_
  intro p e s m below meth c A ls hC hK hP hD hS hA hl
  have hl : lv_has ls 4 [(0, .ref Ho), (1, .int 0), (2, .int wh), (3, .int n)] := hl
  obtain ⟨hx, hb, hr, hml, hB, hown, hlocks, hnm⟩ := id hC
  refine lv_iload_n hx hb dX4_hold_0 rfl (lv_at hl 1 rfl) ?_
  refine pSN hC hK hl (c_isShelf l G 0) si_X4_41 rfl rfl (Nat.le_of_ble_eq_true rfl) ⟨Nat.le_of_ble_eq_true rfl, Nat.le_of_ble_eq_true rfl⟩ ⟨by first | exact Nat.le_of_ble_eq_true rfl | exact Nat.zero_le _, by first | exact Nat.le_of_ble_eq_true rfl | exact Nat.zero_le _⟩ dX4_hold_1 (fun r887 hr887 => ?_)
  rcases hr887 with ⟨rfl, a888⟩ | ⟨rfl, a888⟩
  · refine lv_if_ne (tgt := 8) hx hb dX4_hold_4 (by decide) (fun _ => ?_) (fun c9 => absurd c9 (by decide))
    refine lv_aload_n hx hb dX4_hold_8 rfl (lv_at hl 0 rfl) ?_
    refine gf_X4_21 hC rfl hK hP 0 rfl rfl dX4_hold_9 ?_
    refine lv_iload_n hx hb dX4_hold_12 rfl (lv_at hl 1 rfl) ?_
    refine lv_iload_n hx hb dX4_hold_13 rfl (lv_at hl 2 rfl) ?_
    refine ast hC hK hP hD hS 1 (ws' := [(Ho, .inr (4, [.ref hs, .ref hz, .ref hi, .ref hw, .ref hn, .ref ht])), (hw, .inl (G.2.1, 4, .inl (upd (upd (upd (upd (upd (fun _ => 0) 0 4) 1 4) 2 4) 3 4) 0 wh))), (hn, .inl (G.2.1, 4, .inl (fun _ => 0)))]) rfl (vin (by decide +kernel)) (k := 0) (by decide +kernel) (rfl) dX4_hold_14 (fun H locs hP hD hS => ?_)
    refine lv_aload_n hx hb dX4_hold_15 rfl (lv_at hl 0 rfl) ?_
    refine gf_X4_24 hC rfl hK hP 0 rfl rfl dX4_hold_16 ?_
    refine lv_iload_n hx hb dX4_hold_19 rfl (lv_at hl 1 rfl) ?_
    refine lv_iload_n hx hb dX4_hold_20 rfl (lv_at hl 3 rfl) ?_
    refine ast hC hK hP hD hS 2 (ws' := [(Ho, .inr (4, [.ref hs, .ref hz, .ref hi, .ref hw, .ref hn, .ref ht])), (hw, .inl (G.2.1, 4, .inl (upd (upd (upd (upd (upd (fun _ => 0) 0 4) 1 4) 2 4) 3 4) 0 wh))), (hn, .inl (G.2.1, 4, .inl (upd (fun _ => 0) 0 n)))]) rfl (vin (by decide +kernel)) (k := 0) (by decide +kernel) (rfl) dX4_hold_21 (fun H locs hP hD hS => ?_)
    exact RV hC hP hD hS [] () rfl rfl (by decide) (trivial) dX4_hold_22
  · exact absurd (by unfold Wi; decide) a888
set_option maxHeartbeats 4000000 in
set_option maxRecDepth 100000 in
theorem c_holdRow_0_0 (l : Launch) (G : GG) (Ho : Nat) (hs : Nat) (hz : Nat) (hi : Nat) (hw : Nat) (hn : Nat) (ht : Nat) : MV l G yX4_holdRow cX4_holdRow 3 4 0 0 [.ref Ho, .int 0, .int 0] [(Ho, .inr (4, [.ref hs, .ref hz, .ref hi, .ref hw, .ref hn, .ref ht])), (hw, .inl (G.2.1, 4, .inl (upd (upd (upd (upd (fun _ => 0) 0 4) 1 4) 2 4) 3 4))), (hn, .inl (G.2.1, 4, .inl (fun _ => 0))), (ht, .inl (G.2.1, 4, .inl (fun _ => 0))), (hs, .inl (G.2.1, 4, .inl (upd (upd (upd (upd (fun _ => 0) 0 (-1)) 1 (-1)) 2 (-1)) 3 (-1)))), (hz, .inl (G.2.1, 4, .inl (fun _ => 0)))] (fun u : Unit => True) (fun u : Unit => []) := by
  refine MV.start (by decide +kernel) (Nat.le_of_ble_eq_true rfl) ?_
  intro p e s m below meth c A ls hC hK hP hD hS hA hl
  have hl : lv_has ls 3 [(0, .ref Ho), (1, .int 0), (2, .int 0)] := hl
  obtain ⟨hx, hb, hr, hml, hB, hown, hlocks, hnm⟩ := id hC
  refine lv_iload_n hx hb dX4_holdRow_0 rfl (lv_at hl 1 rfl) ?_
  refine pSN hC hK hl (c_isShelf l G 0) si_X4_41 rfl rfl (Nat.le_of_ble_eq_true rfl) ⟨Nat.le_of_ble_eq_true rfl, Nat.le_of_ble_eq_true rfl⟩ ⟨by first | exact Nat.le_of_ble_eq_true rfl | exact Nat.zero_le _, by first | exact Nat.le_of_ble_eq_true rfl | exact Nat.zero_le _⟩ dX4_holdRow_1 (fun r889 hr889 => ?_)
  rcases hr889 with ⟨rfl, a890⟩ | ⟨rfl, a890⟩
  · refine lv_if_ne (tgt := 8) hx hb dX4_holdRow_4 (by decide) (fun _ => ?_) (fun c9 => absurd c9 (by decide))
    refine lv_aload_n hx hb dX4_holdRow_8 rfl (lv_at hl 0 rfl) ?_
    refine gf_X4_21 hC rfl hK hP 0 rfl rfl dX4_holdRow_9 ?_
    refine lv_iload_n hx hb dX4_holdRow_12 rfl (lv_at hl 1 rfl) ?_
    refine lv_aload_n hx hb dX4_holdRow_13 rfl (lv_at hl 0 rfl) ?_
    refine lv_iload_n hx hb dX4_holdRow_14 rfl (lv_at hl 2 rfl) ?_
    refine pV hC hK hl hP hD (c_sort_0 l G Ho hs hz hi hw hn ht) si_X4_38 [0, 4] rfl rfl (by decide) rfl rfl rfl rfl rfl (Nat.le_of_ble_eq_true rfl) ⟨Nat.le_of_ble_eq_true rfl, Nat.le_of_ble_eq_true rfl⟩ ⟨by first | exact Nat.le_of_ble_eq_true rfl | exact Nat.zero_le _, by first | exact Nat.le_of_ble_eq_true rfl | exact Nat.zero_le _⟩ dX4_holdRow_15 (fun r891 hr891 => ?_)
    obtain rfl := hr891
    refine lv_iconst (v := (-1)) hx hb dX4_holdRow_18 (by decide) ?_
    refine lv_icmp_ne (tgt := 26) hx hb dX4_holdRow_19 (by decide) (fun c9 => absurd (by decide) c9) (fun _ => ?_)
    refine lv_iconst (v := 4) hx hb dX4_holdRow_22 (by decide) ?_
    refine lv_goto (tgt := 27) hx hb dX4_holdRow_23 (by decide) ?_
    refine ast hC hK hP hD hS 1 (ws' := [(Ho, .inr (4, [.ref hs, .ref hz, .ref hi, .ref hw, .ref hn, .ref ht])), (hw, .inl (G.2.1, 4, .inl (upd (upd (upd (upd (upd (fun _ => 0) 0 4) 1 4) 2 4) 3 4) 0 4))), (hn, .inl (G.2.1, 4, .inl (fun _ => 0))), (ht, .inl (G.2.1, 4, .inl (fun _ => 0))), (hs, .inl (G.2.1, 4, .inl (upd (upd (upd (upd (fun _ => 0) 0 (-1)) 1 (-1)) 2 (-1)) 3 (-1)))), (hz, .inl (G.2.1, 4, .inl (fun _ => 0)))]) rfl (vin (by decide +kernel)) (k := 0) (by decide +kernel) (rfl) dX4_holdRow_27 (fun H locs hP hD hS => ?_)
    refine lv_aload_n hx hb dX4_holdRow_28 rfl (lv_at hl 0 rfl) ?_
    refine gf_X4_24 hC rfl hK hP 0 rfl rfl dX4_holdRow_29 ?_
    refine lv_iload_n hx hb dX4_holdRow_32 rfl (lv_at hl 1 rfl) ?_
    refine lv_aload_n hx hb dX4_holdRow_33 rfl (lv_at hl 0 rfl) ?_
    refine lv_iload_n hx hb dX4_holdRow_34 rfl (lv_at hl 2 rfl) ?_
    refine pV hC hK hl hP hD (c_size_0 l G Ho hs hz hi hw hn ht) si_X4_44 [0, 5] rfl rfl (by decide) rfl rfl rfl rfl rfl (Nat.le_of_ble_eq_true rfl) ⟨Nat.le_of_ble_eq_true rfl, Nat.le_of_ble_eq_true rfl⟩ ⟨by first | exact Nat.le_of_ble_eq_true rfl | exact Nat.zero_le _, by first | exact Nat.le_of_ble_eq_true rfl | exact Nat.zero_le _⟩ dX4_holdRow_35 (fun r893 hr893 => ?_)
    obtain rfl := hr893
    refine ast hC hK hP hD hS 2 (ws' := [(Ho, .inr (4, [.ref hs, .ref hz, .ref hi, .ref hw, .ref hn, .ref ht])), (hw, .inl (G.2.1, 4, .inl (upd (upd (upd (upd (upd (fun _ => 0) 0 4) 1 4) 2 4) 3 4) 0 4))), (hn, .inl (G.2.1, 4, .inl (upd (fun _ => 0) 0 0))), (ht, .inl (G.2.1, 4, .inl (fun _ => 0))), (hs, .inl (G.2.1, 4, .inl (upd (upd (upd (upd (fun _ => 0) 0 (-1)) 1 (-1)) 2 (-1)) 3 (-1)))), (hz, .inl (G.2.1, 4, .inl (fun _ => 0)))]) rfl (vin (by decide +kernel)) (k := 0) (by decide +kernel) (rfl) dX4_holdRow_38 (fun H locs hP hD hS => ?_)
    refine lv_aload_n hx hb dX4_holdRow_39 rfl (lv_at hl 0 rfl) ?_
    refine gf_X4_27 hC rfl hK hP 0 rfl rfl dX4_holdRow_40 ?_
    refine lv_iload_n hx hb dX4_holdRow_43 rfl (lv_at hl 1 rfl) ?_
    refine lv_aload_n hx hb dX4_holdRow_44 rfl (lv_at hl 0 rfl) ?_
    refine lv_iload_n hx hb dX4_holdRow_45 rfl (lv_at hl 2 rfl) ?_
    refine pV hC hK hl hP hD (c_sort_0 l G Ho hs hz hi hw hn ht) si_X4_38 [0, 4] rfl rfl (by decide) rfl rfl rfl rfl rfl (Nat.le_of_ble_eq_true rfl) ⟨Nat.le_of_ble_eq_true rfl, Nat.le_of_ble_eq_true rfl⟩ ⟨by first | exact Nat.le_of_ble_eq_true rfl | exact Nat.zero_le _, by first | exact Nat.le_of_ble_eq_true rfl | exact Nat.zero_le _⟩ dX4_holdRow_46 (fun r895 hr895 => ?_)
    obtain rfl := hr895
    refine ast hC hK hP hD hS 3 (ws' := [(Ho, .inr (4, [.ref hs, .ref hz, .ref hi, .ref hw, .ref hn, .ref ht])), (hw, .inl (G.2.1, 4, .inl (upd (upd (upd (upd (upd (fun _ => 0) 0 4) 1 4) 2 4) 3 4) 0 4))), (hn, .inl (G.2.1, 4, .inl (upd (fun _ => 0) 0 0))), (ht, .inl (G.2.1, 4, .inl (upd (fun _ => 0) 0 (-1)))), (hs, .inl (G.2.1, 4, .inl (upd (upd (upd (upd (fun _ => 0) 0 (-1)) 1 (-1)) 2 (-1)) 3 (-1)))), (hz, .inl (G.2.1, 4, .inl (fun _ => 0)))]) rfl (vin (by decide +kernel)) (k := 0) (by decide +kernel) (rfl) dX4_holdRow_49 (fun H locs hP hD hS => ?_)
    exact RV hC hP hD hS [] () rfl rfl (by decide) (trivial) dX4_holdRow_50
  · exact absurd (by unfold Wi; decide) a890
set_option maxHeartbeats 4000000 in
set_option maxRecDepth 100000 in
theorem c_holdRow_0_1 (l : Launch) (G : GG) (Ho : Nat) (hs : Nat) (hz : Nat) (hi : Nat) (hw : Nat) (hn : Nat) (ht : Nat) : MV l G yX4_holdRow cX4_holdRow 3 4 0 0 [.ref Ho, .int 0, .int 1] [(Ho, .inr (4, [.ref hs, .ref hz, .ref hi, .ref hw, .ref hn, .ref ht])), (hw, .inl (G.2.1, 4, .inl (upd (upd (upd (upd (fun _ => 0) 0 4) 1 4) 2 4) 3 4))), (hn, .inl (G.2.1, 4, .inl (fun _ => 0))), (ht, .inl (G.2.1, 4, .inl (fun _ => 0))), (hs, .inl (G.2.1, 4, .inl (upd (upd (upd (upd (fun _ => 0) 0 (-1)) 1 (-1)) 2 (-1)) 3 (-1)))), (hz, .inl (G.2.1, 4, .inl (fun _ => 0)))] (fun u : Unit => True) (fun u : Unit => []) := by
  refine MV.start (by decide +kernel) (Nat.le_of_ble_eq_true rfl) ?_
  intro p e s m below meth c A ls hC hK hP hD hS hA hl
  have hl : lv_has ls 3 [(0, .ref Ho), (1, .int 0), (2, .int 1)] := hl
  obtain ⟨hx, hb, hr, hml, hB, hown, hlocks, hnm⟩ := id hC
  refine lv_iload_n hx hb dX4_holdRow_0 rfl (lv_at hl 1 rfl) ?_
  refine pSN hC hK hl (c_isShelf l G 0) si_X4_41 rfl rfl (Nat.le_of_ble_eq_true rfl) ⟨Nat.le_of_ble_eq_true rfl, Nat.le_of_ble_eq_true rfl⟩ ⟨by first | exact Nat.le_of_ble_eq_true rfl | exact Nat.zero_le _, by first | exact Nat.le_of_ble_eq_true rfl | exact Nat.zero_le _⟩ dX4_holdRow_1 (fun r897 hr897 => ?_)
  rcases hr897 with ⟨rfl, a898⟩ | ⟨rfl, a898⟩
  · refine lv_if_ne (tgt := 8) hx hb dX4_holdRow_4 (by decide) (fun _ => ?_) (fun c9 => absurd c9 (by decide))
    refine lv_aload_n hx hb dX4_holdRow_8 rfl (lv_at hl 0 rfl) ?_
    refine gf_X4_21 hC rfl hK hP 0 rfl rfl dX4_holdRow_9 ?_
    refine lv_iload_n hx hb dX4_holdRow_12 rfl (lv_at hl 1 rfl) ?_
    refine lv_aload_n hx hb dX4_holdRow_13 rfl (lv_at hl 0 rfl) ?_
    refine lv_iload_n hx hb dX4_holdRow_14 rfl (lv_at hl 2 rfl) ?_
    refine pV hC hK hl hP hD (c_sort_1 l G Ho hs hz hi hw hn ht) si_X4_38 [0, 4] rfl rfl (by decide) rfl rfl rfl rfl rfl (Nat.le_of_ble_eq_true rfl) ⟨Nat.le_of_ble_eq_true rfl, Nat.le_of_ble_eq_true rfl⟩ ⟨by first | exact Nat.le_of_ble_eq_true rfl | exact Nat.zero_le _, by first | exact Nat.le_of_ble_eq_true rfl | exact Nat.zero_le _⟩ dX4_holdRow_15 (fun r899 hr899 => ?_)
    obtain rfl := hr899
    refine lv_iconst (v := (-1)) hx hb dX4_holdRow_18 (by decide) ?_
    refine lv_icmp_ne (tgt := 26) hx hb dX4_holdRow_19 (by decide) (fun c9 => absurd (by decide) c9) (fun _ => ?_)
    refine lv_iconst (v := 4) hx hb dX4_holdRow_22 (by decide) ?_
    refine lv_goto (tgt := 27) hx hb dX4_holdRow_23 (by decide) ?_
    refine ast hC hK hP hD hS 1 (ws' := [(Ho, .inr (4, [.ref hs, .ref hz, .ref hi, .ref hw, .ref hn, .ref ht])), (hw, .inl (G.2.1, 4, .inl (upd (upd (upd (upd (upd (fun _ => 0) 0 4) 1 4) 2 4) 3 4) 0 4))), (hn, .inl (G.2.1, 4, .inl (fun _ => 0))), (ht, .inl (G.2.1, 4, .inl (fun _ => 0))), (hs, .inl (G.2.1, 4, .inl (upd (upd (upd (upd (fun _ => 0) 0 (-1)) 1 (-1)) 2 (-1)) 3 (-1)))), (hz, .inl (G.2.1, 4, .inl (fun _ => 0)))]) rfl (vin (by decide +kernel)) (k := 0) (by decide +kernel) (rfl) dX4_holdRow_27 (fun H locs hP hD hS => ?_)
    refine lv_aload_n hx hb dX4_holdRow_28 rfl (lv_at hl 0 rfl) ?_
    refine gf_X4_24 hC rfl hK hP 0 rfl rfl dX4_holdRow_29 ?_
    refine lv_iload_n hx hb dX4_holdRow_32 rfl (lv_at hl 1 rfl) ?_
    refine lv_aload_n hx hb dX4_holdRow_33 rfl (lv_at hl 0 rfl) ?_
    refine lv_iload_n hx hb dX4_holdRow_34 rfl (lv_at hl 2 rfl) ?_
    refine pV hC hK hl hP hD (c_size_1 l G Ho hs hz hi hw hn ht) si_X4_44 [0, 5] rfl rfl (by decide) rfl rfl rfl rfl rfl (Nat.le_of_ble_eq_true rfl) ⟨Nat.le_of_ble_eq_true rfl, Nat.le_of_ble_eq_true rfl⟩ ⟨by first | exact Nat.le_of_ble_eq_true rfl | exact Nat.zero_le _, by first | exact Nat.le_of_ble_eq_true rfl | exact Nat.zero_le _⟩ dX4_holdRow_35 (fun r901 hr901 => ?_)
    obtain rfl := hr901
    refine ast hC hK hP hD hS 2 (ws' := [(Ho, .inr (4, [.ref hs, .ref hz, .ref hi, .ref hw, .ref hn, .ref ht])), (hw, .inl (G.2.1, 4, .inl (upd (upd (upd (upd (upd (fun _ => 0) 0 4) 1 4) 2 4) 3 4) 0 4))), (hn, .inl (G.2.1, 4, .inl (upd (fun _ => 0) 0 0))), (ht, .inl (G.2.1, 4, .inl (fun _ => 0))), (hs, .inl (G.2.1, 4, .inl (upd (upd (upd (upd (fun _ => 0) 0 (-1)) 1 (-1)) 2 (-1)) 3 (-1)))), (hz, .inl (G.2.1, 4, .inl (fun _ => 0)))]) rfl (vin (by decide +kernel)) (k := 0) (by decide +kernel) (rfl) dX4_holdRow_38 (fun H locs hP hD hS => ?_)
    refine lv_aload_n hx hb dX4_holdRow_39 rfl (lv_at hl 0 rfl) ?_
    refine gf_X4_27 hC rfl hK hP 0 rfl rfl dX4_holdRow_40 ?_
    refine lv_iload_n hx hb dX4_holdRow_43 rfl (lv_at hl 1 rfl) ?_
    refine lv_aload_n hx hb dX4_holdRow_44 rfl (lv_at hl 0 rfl) ?_
    refine lv_iload_n hx hb dX4_holdRow_45 rfl (lv_at hl 2 rfl) ?_
    refine pV hC hK hl hP hD (c_sort_1 l G Ho hs hz hi hw hn ht) si_X4_38 [0, 4] rfl rfl (by decide) rfl rfl rfl rfl rfl (Nat.le_of_ble_eq_true rfl) ⟨Nat.le_of_ble_eq_true rfl, Nat.le_of_ble_eq_true rfl⟩ ⟨by first | exact Nat.le_of_ble_eq_true rfl | exact Nat.zero_le _, by first | exact Nat.le_of_ble_eq_true rfl | exact Nat.zero_le _⟩ dX4_holdRow_46 (fun r903 hr903 => ?_)
    obtain rfl := hr903
    refine ast hC hK hP hD hS 3 (ws' := [(Ho, .inr (4, [.ref hs, .ref hz, .ref hi, .ref hw, .ref hn, .ref ht])), (hw, .inl (G.2.1, 4, .inl (upd (upd (upd (upd (upd (fun _ => 0) 0 4) 1 4) 2 4) 3 4) 0 4))), (hn, .inl (G.2.1, 4, .inl (upd (fun _ => 0) 0 0))), (ht, .inl (G.2.1, 4, .inl (upd (fun _ => 0) 0 (-1)))), (hs, .inl (G.2.1, 4, .inl (upd (upd (upd (upd (fun _ => 0) 0 (-1)) 1 (-1)) 2 (-1)) 3 (-1)))), (hz, .inl (G.2.1, 4, .inl (fun _ => 0)))]) rfl (vin (by decide +kernel)) (k := 0) (by decide +kernel) (rfl) dX4_holdRow_49 (fun H locs hP hD hS => ?_)
    exact RV hC hP hD hS [] () rfl rfl (by decide) (trivial) dX4_holdRow_50
  · exact absurd (by unfold Wi; decide) a898
set_option maxHeartbeats 4000000 in
set_option maxRecDepth 100000 in
theorem c_holdRow_0_2 (l : Launch) (G : GG) (Ho : Nat) (hs : Nat) (hz : Nat) (hi : Nat) (hw : Nat) (hn : Nat) (ht : Nat) : MV l G yX4_holdRow cX4_holdRow 3 4 0 0 [.ref Ho, .int 0, .int 2] [(Ho, .inr (4, [.ref hs, .ref hz, .ref hi, .ref hw, .ref hn, .ref ht])), (hw, .inl (G.2.1, 4, .inl (upd (upd (upd (upd (fun _ => 0) 0 4) 1 4) 2 4) 3 4))), (hn, .inl (G.2.1, 4, .inl (fun _ => 0))), (ht, .inl (G.2.1, 4, .inl (fun _ => 0))), (hs, .inl (G.2.1, 4, .inl (upd (upd (upd (upd (fun _ => 0) 0 (-1)) 1 (-1)) 2 (-1)) 3 (-1)))), (hz, .inl (G.2.1, 4, .inl (fun _ => 0)))] (fun u : Unit => True) (fun u : Unit => []) := by
  refine MV.start (by decide +kernel) (Nat.le_of_ble_eq_true rfl) ?_
  intro p e s m below meth c A ls hC hK hP hD hS hA hl
  have hl : lv_has ls 3 [(0, .ref Ho), (1, .int 0), (2, .int 2)] := hl
  obtain ⟨hx, hb, hr, hml, hB, hown, hlocks, hnm⟩ := id hC
  refine lv_iload_n hx hb dX4_holdRow_0 rfl (lv_at hl 1 rfl) ?_
  refine pSN hC hK hl (c_isShelf l G 0) si_X4_41 rfl rfl (Nat.le_of_ble_eq_true rfl) ⟨Nat.le_of_ble_eq_true rfl, Nat.le_of_ble_eq_true rfl⟩ ⟨by first | exact Nat.le_of_ble_eq_true rfl | exact Nat.zero_le _, by first | exact Nat.le_of_ble_eq_true rfl | exact Nat.zero_le _⟩ dX4_holdRow_1 (fun r905 hr905 => ?_)
  rcases hr905 with ⟨rfl, a906⟩ | ⟨rfl, a906⟩
  · refine lv_if_ne (tgt := 8) hx hb dX4_holdRow_4 (by decide) (fun _ => ?_) (fun c9 => absurd c9 (by decide))
    refine lv_aload_n hx hb dX4_holdRow_8 rfl (lv_at hl 0 rfl) ?_
    refine gf_X4_21 hC rfl hK hP 0 rfl rfl dX4_holdRow_9 ?_
    refine lv_iload_n hx hb dX4_holdRow_12 rfl (lv_at hl 1 rfl) ?_
    refine lv_aload_n hx hb dX4_holdRow_13 rfl (lv_at hl 0 rfl) ?_
    refine lv_iload_n hx hb dX4_holdRow_14 rfl (lv_at hl 2 rfl) ?_
    refine pV hC hK hl hP hD (c_sort_2 l G Ho hs hz hi hw hn ht) si_X4_38 [0, 4] rfl rfl (by decide) rfl rfl rfl rfl rfl (Nat.le_of_ble_eq_true rfl) ⟨Nat.le_of_ble_eq_true rfl, Nat.le_of_ble_eq_true rfl⟩ ⟨by first | exact Nat.le_of_ble_eq_true rfl | exact Nat.zero_le _, by first | exact Nat.le_of_ble_eq_true rfl | exact Nat.zero_le _⟩ dX4_holdRow_15 (fun r907 hr907 => ?_)
    obtain rfl := hr907
    refine lv_iconst (v := (-1)) hx hb dX4_holdRow_18 (by decide) ?_
    refine lv_icmp_ne (tgt := 26) hx hb dX4_holdRow_19 (by decide) (fun c9 => absurd (by decide) c9) (fun _ => ?_)
    refine lv_iconst (v := 4) hx hb dX4_holdRow_22 (by decide) ?_
    refine lv_goto (tgt := 27) hx hb dX4_holdRow_23 (by decide) ?_
    refine ast hC hK hP hD hS 1 (ws' := [(Ho, .inr (4, [.ref hs, .ref hz, .ref hi, .ref hw, .ref hn, .ref ht])), (hw, .inl (G.2.1, 4, .inl (upd (upd (upd (upd (upd (fun _ => 0) 0 4) 1 4) 2 4) 3 4) 0 4))), (hn, .inl (G.2.1, 4, .inl (fun _ => 0))), (ht, .inl (G.2.1, 4, .inl (fun _ => 0))), (hs, .inl (G.2.1, 4, .inl (upd (upd (upd (upd (fun _ => 0) 0 (-1)) 1 (-1)) 2 (-1)) 3 (-1)))), (hz, .inl (G.2.1, 4, .inl (fun _ => 0)))]) rfl (vin (by decide +kernel)) (k := 0) (by decide +kernel) (rfl) dX4_holdRow_27 (fun H locs hP hD hS => ?_)
    refine lv_aload_n hx hb dX4_holdRow_28 rfl (lv_at hl 0 rfl) ?_
    refine gf_X4_24 hC rfl hK hP 0 rfl rfl dX4_holdRow_29 ?_
    refine lv_iload_n hx hb dX4_holdRow_32 rfl (lv_at hl 1 rfl) ?_
    refine lv_aload_n hx hb dX4_holdRow_33 rfl (lv_at hl 0 rfl) ?_
    refine lv_iload_n hx hb dX4_holdRow_34 rfl (lv_at hl 2 rfl) ?_
    refine pV hC hK hl hP hD (c_size_2 l G Ho hs hz hi hw hn ht) si_X4_44 [0, 5] rfl rfl (by decide) rfl rfl rfl rfl rfl (Nat.le_of_ble_eq_true rfl) ⟨Nat.le_of_ble_eq_true rfl, Nat.le_of_ble_eq_true rfl⟩ ⟨by first | exact Nat.le_of_ble_eq_true rfl | exact Nat.zero_le _, by first | exact Nat.le_of_ble_eq_true rfl | exact Nat.zero_le _⟩ dX4_holdRow_35 (fun r909 hr909 => ?_)
    obtain rfl := hr909
    refine ast hC hK hP hD hS 2 (ws' := [(Ho, .inr (4, [.ref hs, .ref hz, .ref hi, .ref hw, .ref hn, .ref ht])), (hw, .inl (G.2.1, 4, .inl (upd (upd (upd (upd (upd (fun _ => 0) 0 4) 1 4) 2 4) 3 4) 0 4))), (hn, .inl (G.2.1, 4, .inl (upd (fun _ => 0) 0 0))), (ht, .inl (G.2.1, 4, .inl (fun _ => 0))), (hs, .inl (G.2.1, 4, .inl (upd (upd (upd (upd (fun _ => 0) 0 (-1)) 1 (-1)) 2 (-1)) 3 (-1)))), (hz, .inl (G.2.1, 4, .inl (fun _ => 0)))]) rfl (vin (by decide +kernel)) (k := 0) (by decide +kernel) (rfl) dX4_holdRow_38 (fun H locs hP hD hS => ?_)
    refine lv_aload_n hx hb dX4_holdRow_39 rfl (lv_at hl 0 rfl) ?_
    refine gf_X4_27 hC rfl hK hP 0 rfl rfl dX4_holdRow_40 ?_
    refine lv_iload_n hx hb dX4_holdRow_43 rfl (lv_at hl 1 rfl) ?_
    refine lv_aload_n hx hb dX4_holdRow_44 rfl (lv_at hl 0 rfl) ?_
    refine lv_iload_n hx hb dX4_holdRow_45 rfl (lv_at hl 2 rfl) ?_
    refine pV hC hK hl hP hD (c_sort_2 l G Ho hs hz hi hw hn ht) si_X4_38 [0, 4] rfl rfl (by decide) rfl rfl rfl rfl rfl (Nat.le_of_ble_eq_true rfl) ⟨Nat.le_of_ble_eq_true rfl, Nat.le_of_ble_eq_true rfl⟩ ⟨by first | exact Nat.le_of_ble_eq_true rfl | exact Nat.zero_le _, by first | exact Nat.le_of_ble_eq_true rfl | exact Nat.zero_le _⟩ dX4_holdRow_46 (fun r911 hr911 => ?_)
    obtain rfl := hr911
    refine ast hC hK hP hD hS 3 (ws' := [(Ho, .inr (4, [.ref hs, .ref hz, .ref hi, .ref hw, .ref hn, .ref ht])), (hw, .inl (G.2.1, 4, .inl (upd (upd (upd (upd (upd (fun _ => 0) 0 4) 1 4) 2 4) 3 4) 0 4))), (hn, .inl (G.2.1, 4, .inl (upd (fun _ => 0) 0 0))), (ht, .inl (G.2.1, 4, .inl (upd (fun _ => 0) 0 (-1)))), (hs, .inl (G.2.1, 4, .inl (upd (upd (upd (upd (fun _ => 0) 0 (-1)) 1 (-1)) 2 (-1)) 3 (-1)))), (hz, .inl (G.2.1, 4, .inl (fun _ => 0)))]) rfl (vin (by decide +kernel)) (k := 0) (by decide +kernel) (rfl) dX4_holdRow_49 (fun H locs hP hD hS => ?_)
    exact RV hC hP hD hS [] () rfl rfl (by decide) (trivial) dX4_holdRow_50
  · exact absurd (by unfold Wi; decide) a906
set_option maxHeartbeats 4000000 in
set_option maxRecDepth 100000 in
theorem c_holdRow_0_3 (l : Launch) (G : GG) (Ho : Nat) (hs : Nat) (hz : Nat) (hi : Nat) (hw : Nat) (hn : Nat) (ht : Nat) : MV l G yX4_holdRow cX4_holdRow 3 4 0 0 [.ref Ho, .int 0, .int 3] [(Ho, .inr (4, [.ref hs, .ref hz, .ref hi, .ref hw, .ref hn, .ref ht])), (hw, .inl (G.2.1, 4, .inl (upd (upd (upd (upd (fun _ => 0) 0 4) 1 4) 2 4) 3 4))), (hn, .inl (G.2.1, 4, .inl (fun _ => 0))), (ht, .inl (G.2.1, 4, .inl (fun _ => 0))), (hs, .inl (G.2.1, 4, .inl (upd (upd (upd (upd (fun _ => 0) 0 (-1)) 1 (-1)) 2 (-1)) 3 (-1)))), (hz, .inl (G.2.1, 4, .inl (fun _ => 0)))] (fun u : Unit => True) (fun u : Unit => []) := by
  refine MV.start (by decide +kernel) (Nat.le_of_ble_eq_true rfl) ?_
  intro p e s m below meth c A ls hC hK hP hD hS hA hl
  have hl : lv_has ls 3 [(0, .ref Ho), (1, .int 0), (2, .int 3)] := hl
  obtain ⟨hx, hb, hr, hml, hB, hown, hlocks, hnm⟩ := id hC
  refine lv_iload_n hx hb dX4_holdRow_0 rfl (lv_at hl 1 rfl) ?_
  refine pSN hC hK hl (c_isShelf l G 0) si_X4_41 rfl rfl (Nat.le_of_ble_eq_true rfl) ⟨Nat.le_of_ble_eq_true rfl, Nat.le_of_ble_eq_true rfl⟩ ⟨by first | exact Nat.le_of_ble_eq_true rfl | exact Nat.zero_le _, by first | exact Nat.le_of_ble_eq_true rfl | exact Nat.zero_le _⟩ dX4_holdRow_1 (fun r913 hr913 => ?_)
  rcases hr913 with ⟨rfl, a914⟩ | ⟨rfl, a914⟩
  · refine lv_if_ne (tgt := 8) hx hb dX4_holdRow_4 (by decide) (fun _ => ?_) (fun c9 => absurd c9 (by decide))
    refine lv_aload_n hx hb dX4_holdRow_8 rfl (lv_at hl 0 rfl) ?_
    refine gf_X4_21 hC rfl hK hP 0 rfl rfl dX4_holdRow_9 ?_
    refine lv_iload_n hx hb dX4_holdRow_12 rfl (lv_at hl 1 rfl) ?_
    refine lv_aload_n hx hb dX4_holdRow_13 rfl (lv_at hl 0 rfl) ?_
    refine lv_iload_n hx hb dX4_holdRow_14 rfl (lv_at hl 2 rfl) ?_
    refine pV hC hK hl hP hD (c_sort_3 l G Ho hs hz hi hw hn ht) si_X4_38 [0, 4] rfl rfl (by decide) rfl rfl rfl rfl rfl (Nat.le_of_ble_eq_true rfl) ⟨Nat.le_of_ble_eq_true rfl, Nat.le_of_ble_eq_true rfl⟩ ⟨by first | exact Nat.le_of_ble_eq_true rfl | exact Nat.zero_le _, by first | exact Nat.le_of_ble_eq_true rfl | exact Nat.zero_le _⟩ dX4_holdRow_15 (fun r915 hr915 => ?_)
    obtain rfl := hr915
    refine lv_iconst (v := (-1)) hx hb dX4_holdRow_18 (by decide) ?_
    refine lv_icmp_ne (tgt := 26) hx hb dX4_holdRow_19 (by decide) (fun c9 => absurd (by decide) c9) (fun _ => ?_)
    refine lv_iconst (v := 4) hx hb dX4_holdRow_22 (by decide) ?_
    refine lv_goto (tgt := 27) hx hb dX4_holdRow_23 (by decide) ?_
    refine ast hC hK hP hD hS 1 (ws' := [(Ho, .inr (4, [.ref hs, .ref hz, .ref hi, .ref hw, .ref hn, .ref ht])), (hw, .inl (G.2.1, 4, .inl (upd (upd (upd (upd (upd (fun _ => 0) 0 4) 1 4) 2 4) 3 4) 0 4))), (hn, .inl (G.2.1, 4, .inl (fun _ => 0))), (ht, .inl (G.2.1, 4, .inl (fun _ => 0))), (hs, .inl (G.2.1, 4, .inl (upd (upd (upd (upd (fun _ => 0) 0 (-1)) 1 (-1)) 2 (-1)) 3 (-1)))), (hz, .inl (G.2.1, 4, .inl (fun _ => 0)))]) rfl (vin (by decide +kernel)) (k := 0) (by decide +kernel) (rfl) dX4_holdRow_27 (fun H locs hP hD hS => ?_)
    refine lv_aload_n hx hb dX4_holdRow_28 rfl (lv_at hl 0 rfl) ?_
    refine gf_X4_24 hC rfl hK hP 0 rfl rfl dX4_holdRow_29 ?_
    refine lv_iload_n hx hb dX4_holdRow_32 rfl (lv_at hl 1 rfl) ?_
    refine lv_aload_n hx hb dX4_holdRow_33 rfl (lv_at hl 0 rfl) ?_
    refine lv_iload_n hx hb dX4_holdRow_34 rfl (lv_at hl 2 rfl) ?_
    refine pV hC hK hl hP hD (c_size_3 l G Ho hs hz hi hw hn ht) si_X4_44 [0, 5] rfl rfl (by decide) rfl rfl rfl rfl rfl (Nat.le_of_ble_eq_true rfl) ⟨Nat.le_of_ble_eq_true rfl, Nat.le_of_ble_eq_true rfl⟩ ⟨by first | exact Nat.le_of_ble_eq_true rfl | exact Nat.zero_le _, by first | exact Nat.le_of_ble_eq_true rfl | exact Nat.zero_le _⟩ dX4_holdRow_35 (fun r917 hr917 => ?_)
    obtain rfl := hr917
    refine ast hC hK hP hD hS 2 (ws' := [(Ho, .inr (4, [.ref hs, .ref hz, .ref hi, .ref hw, .ref hn, .ref ht])), (hw, .inl (G.2.1, 4, .inl (upd (upd (upd (upd (upd (fun _ => 0) 0 4) 1 4) 2 4) 3 4) 0 4))), (hn, .inl (G.2.1, 4, .inl (upd (fun _ => 0) 0 0))), (ht, .inl (G.2.1, 4, .inl (fun _ => 0))), (hs, .inl (G.2.1, 4, .inl (upd (upd (upd (upd (fun _ => 0) 0 (-1)) 1 (-1)) 2 (-1)) 3 (-1)))), (hz, .inl (G.2.1, 4, .inl (fun _ => 0)))]) rfl (vin (by decide +kernel)) (k := 0) (by decide +kernel) (rfl) dX4_holdRow_38 (fun H locs hP hD hS => ?_)
    refine lv_aload_n hx hb dX4_holdRow_39 rfl (lv_at hl 0 rfl) ?_
    refine gf_X4_27 hC rfl hK hP 0 rfl rfl dX4_holdRow_40 ?_
    refine lv_iload_n hx hb dX4_holdRow_43 rfl (lv_at hl 1 rfl) ?_
    refine lv_aload_n hx hb dX4_holdRow_44 rfl (lv_at hl 0 rfl) ?_
    refine lv_iload_n hx hb dX4_holdRow_45 rfl (lv_at hl 2 rfl) ?_
    refine pV hC hK hl hP hD (c_sort_3 l G Ho hs hz hi hw hn ht) si_X4_38 [0, 4] rfl rfl (by decide) rfl rfl rfl rfl rfl (Nat.le_of_ble_eq_true rfl) ⟨Nat.le_of_ble_eq_true rfl, Nat.le_of_ble_eq_true rfl⟩ ⟨by first | exact Nat.le_of_ble_eq_true rfl | exact Nat.zero_le _, by first | exact Nat.le_of_ble_eq_true rfl | exact Nat.zero_le _⟩ dX4_holdRow_46 (fun r919 hr919 => ?_)
    obtain rfl := hr919
    refine ast hC hK hP hD hS 3 (ws' := [(Ho, .inr (4, [.ref hs, .ref hz, .ref hi, .ref hw, .ref hn, .ref ht])), (hw, .inl (G.2.1, 4, .inl (upd (upd (upd (upd (upd (fun _ => 0) 0 4) 1 4) 2 4) 3 4) 0 4))), (hn, .inl (G.2.1, 4, .inl (upd (fun _ => 0) 0 0))), (ht, .inl (G.2.1, 4, .inl (upd (fun _ => 0) 0 (-1)))), (hs, .inl (G.2.1, 4, .inl (upd (upd (upd (upd (fun _ => 0) 0 (-1)) 1 (-1)) 2 (-1)) 3 (-1)))), (hz, .inl (G.2.1, 4, .inl (fun _ => 0)))]) rfl (vin (by decide +kernel)) (k := 0) (by decide +kernel) (rfl) dX4_holdRow_49 (fun H locs hP hD hS => ?_)
    exact RV hC hP hD hS [] () rfl rfl (by decide) (trivial) dX4_holdRow_50
  · exact absurd (by unfold Wi; decide) a914
set_option maxHeartbeats 4000000 in
set_option maxRecDepth 100000 in
theorem c_hold_1 (l : Launch) (G : GG) (Ho : Nat) (wh : Int32) (n : Int32) (hs : Nat) (hz : Nat) (hi : Nat) (hw : Nat) (hn : Nat) (ht : Nat) : MV l G yX4_hold cX4_hold 4 3 0 0 [.ref Ho, .int 1, .int wh, .int n] [(Ho, .inr (4, [.ref hs, .ref hz, .ref hi, .ref hw, .ref hn, .ref ht])), (hw, .inl (G.2.1, 4, .inl (upd (upd (upd (upd (fun _ => 0) 0 4) 1 4) 2 4) 3 4))), (hn, .inl (G.2.1, 4, .inl (fun _ => 0)))] (fun u : Unit => True) (fun u : Unit => []) := by
  refine MV.start (by decide +kernel) (Nat.le_of_ble_eq_true rfl) ?_
  intro p e s m below meth c A ls hC hK hP hD hS hA hl
  have hl : lv_has ls 4 [(0, .ref Ho), (1, .int 1), (2, .int wh), (3, .int n)] := hl
  obtain ⟨hx, hb, hr, hml, hB, hown, hlocks, hnm⟩ := id hC
  refine lv_iload_n hx hb dX4_hold_0 rfl (lv_at hl 1 rfl) ?_
  refine pSN hC hK hl (c_isShelf l G 1) si_X4_41 rfl rfl (Nat.le_of_ble_eq_true rfl) ⟨Nat.le_of_ble_eq_true rfl, Nat.le_of_ble_eq_true rfl⟩ ⟨by first | exact Nat.le_of_ble_eq_true rfl | exact Nat.zero_le _, by first | exact Nat.le_of_ble_eq_true rfl | exact Nat.zero_le _⟩ dX4_hold_1 (fun r921 hr921 => ?_)
  rcases hr921 with ⟨rfl, a922⟩ | ⟨rfl, a922⟩
  · refine lv_if_ne (tgt := 8) hx hb dX4_hold_4 (by decide) (fun _ => ?_) (fun c9 => absurd c9 (by decide))
    refine lv_aload_n hx hb dX4_hold_8 rfl (lv_at hl 0 rfl) ?_
    refine gf_X4_21 hC rfl hK hP 0 rfl rfl dX4_hold_9 ?_
    refine lv_iload_n hx hb dX4_hold_12 rfl (lv_at hl 1 rfl) ?_
    refine lv_iload_n hx hb dX4_hold_13 rfl (lv_at hl 2 rfl) ?_
    refine ast hC hK hP hD hS 1 (ws' := [(Ho, .inr (4, [.ref hs, .ref hz, .ref hi, .ref hw, .ref hn, .ref ht])), (hw, .inl (G.2.1, 4, .inl (upd (upd (upd (upd (upd (fun _ => 0) 0 4) 1 4) 2 4) 3 4) 1 wh))), (hn, .inl (G.2.1, 4, .inl (fun _ => 0)))]) rfl (vin (by decide +kernel)) (k := 1) (by decide +kernel) (rfl) dX4_hold_14 (fun H locs hP hD hS => ?_)
    refine lv_aload_n hx hb dX4_hold_15 rfl (lv_at hl 0 rfl) ?_
    refine gf_X4_24 hC rfl hK hP 0 rfl rfl dX4_hold_16 ?_
    refine lv_iload_n hx hb dX4_hold_19 rfl (lv_at hl 1 rfl) ?_
    refine lv_iload_n hx hb dX4_hold_20 rfl (lv_at hl 3 rfl) ?_
    refine ast hC hK hP hD hS 2 (ws' := [(Ho, .inr (4, [.ref hs, .ref hz, .ref hi, .ref hw, .ref hn, .ref ht])), (hw, .inl (G.2.1, 4, .inl (upd (upd (upd (upd (upd (fun _ => 0) 0 4) 1 4) 2 4) 3 4) 1 wh))), (hn, .inl (G.2.1, 4, .inl (upd (fun _ => 0) 1 n)))]) rfl (vin (by decide +kernel)) (k := 1) (by decide +kernel) (rfl) dX4_hold_21 (fun H locs hP hD hS => ?_)
    exact RV hC hP hD hS [] () rfl rfl (by decide) (trivial) dX4_hold_22
  · exact absurd (by unfold Wi; decide) a922
set_option maxHeartbeats 4000000 in
set_option maxRecDepth 100000 in
theorem c_holdRow_1_0 (l : Launch) (G : GG) (Ho : Nat) (hs : Nat) (hz : Nat) (hi : Nat) (hw : Nat) (hn : Nat) (ht : Nat) : MV l G yX4_holdRow cX4_holdRow 3 4 0 0 [.ref Ho, .int 1, .int 0] [(Ho, .inr (4, [.ref hs, .ref hz, .ref hi, .ref hw, .ref hn, .ref ht])), (hw, .inl (G.2.1, 4, .inl (upd (upd (upd (upd (fun _ => 0) 0 4) 1 4) 2 4) 3 4))), (hn, .inl (G.2.1, 4, .inl (fun _ => 0))), (ht, .inl (G.2.1, 4, .inl (fun _ => 0))), (hs, .inl (G.2.1, 4, .inl (upd (upd (upd (upd (fun _ => 0) 0 (-1)) 1 (-1)) 2 (-1)) 3 (-1)))), (hz, .inl (G.2.1, 4, .inl (fun _ => 0)))] (fun u : Unit => True) (fun u : Unit => []) := by
  refine MV.start (by decide +kernel) (Nat.le_of_ble_eq_true rfl) ?_
  intro p e s m below meth c A ls hC hK hP hD hS hA hl
  have hl : lv_has ls 3 [(0, .ref Ho), (1, .int 1), (2, .int 0)] := hl
  obtain ⟨hx, hb, hr, hml, hB, hown, hlocks, hnm⟩ := id hC
  refine lv_iload_n hx hb dX4_holdRow_0 rfl (lv_at hl 1 rfl) ?_
  refine pSN hC hK hl (c_isShelf l G 1) si_X4_41 rfl rfl (Nat.le_of_ble_eq_true rfl) ⟨Nat.le_of_ble_eq_true rfl, Nat.le_of_ble_eq_true rfl⟩ ⟨by first | exact Nat.le_of_ble_eq_true rfl | exact Nat.zero_le _, by first | exact Nat.le_of_ble_eq_true rfl | exact Nat.zero_le _⟩ dX4_holdRow_1 (fun r923 hr923 => ?_)
  rcases hr923 with ⟨rfl, a924⟩ | ⟨rfl, a924⟩
  · refine lv_if_ne (tgt := 8) hx hb dX4_holdRow_4 (by decide) (fun _ => ?_) (fun c9 => absurd c9 (by decide))
    refine lv_aload_n hx hb dX4_holdRow_8 rfl (lv_at hl 0 rfl) ?_
    refine gf_X4_21 hC rfl hK hP 0 rfl rfl dX4_holdRow_9 ?_
    refine lv_iload_n hx hb dX4_holdRow_12 rfl (lv_at hl 1 rfl) ?_
    refine lv_aload_n hx hb dX4_holdRow_13 rfl (lv_at hl 0 rfl) ?_
    refine lv_iload_n hx hb dX4_holdRow_14 rfl (lv_at hl 2 rfl) ?_
    refine pV hC hK hl hP hD (c_sort_0 l G Ho hs hz hi hw hn ht) si_X4_38 [0, 4] rfl rfl (by decide) rfl rfl rfl rfl rfl (Nat.le_of_ble_eq_true rfl) ⟨Nat.le_of_ble_eq_true rfl, Nat.le_of_ble_eq_true rfl⟩ ⟨by first | exact Nat.le_of_ble_eq_true rfl | exact Nat.zero_le _, by first | exact Nat.le_of_ble_eq_true rfl | exact Nat.zero_le _⟩ dX4_holdRow_15 (fun r925 hr925 => ?_)
    obtain rfl := hr925
    refine lv_iconst (v := (-1)) hx hb dX4_holdRow_18 (by decide) ?_
    refine lv_icmp_ne (tgt := 26) hx hb dX4_holdRow_19 (by decide) (fun c9 => absurd (by decide) c9) (fun _ => ?_)
    refine lv_iconst (v := 4) hx hb dX4_holdRow_22 (by decide) ?_
    refine lv_goto (tgt := 27) hx hb dX4_holdRow_23 (by decide) ?_
    refine ast hC hK hP hD hS 1 (ws' := [(Ho, .inr (4, [.ref hs, .ref hz, .ref hi, .ref hw, .ref hn, .ref ht])), (hw, .inl (G.2.1, 4, .inl (upd (upd (upd (upd (upd (fun _ => 0) 0 4) 1 4) 2 4) 3 4) 1 4))), (hn, .inl (G.2.1, 4, .inl (fun _ => 0))), (ht, .inl (G.2.1, 4, .inl (fun _ => 0))), (hs, .inl (G.2.1, 4, .inl (upd (upd (upd (upd (fun _ => 0) 0 (-1)) 1 (-1)) 2 (-1)) 3 (-1)))), (hz, .inl (G.2.1, 4, .inl (fun _ => 0)))]) rfl (vin (by decide +kernel)) (k := 1) (by decide +kernel) (rfl) dX4_holdRow_27 (fun H locs hP hD hS => ?_)
    refine lv_aload_n hx hb dX4_holdRow_28 rfl (lv_at hl 0 rfl) ?_
    refine gf_X4_24 hC rfl hK hP 0 rfl rfl dX4_holdRow_29 ?_
    refine lv_iload_n hx hb dX4_holdRow_32 rfl (lv_at hl 1 rfl) ?_
    refine lv_aload_n hx hb dX4_holdRow_33 rfl (lv_at hl 0 rfl) ?_
    refine lv_iload_n hx hb dX4_holdRow_34 rfl (lv_at hl 2 rfl) ?_
    refine pV hC hK hl hP hD (c_size_0 l G Ho hs hz hi hw hn ht) si_X4_44 [0, 5] rfl rfl (by decide) rfl rfl rfl rfl rfl (Nat.le_of_ble_eq_true rfl) ⟨Nat.le_of_ble_eq_true rfl, Nat.le_of_ble_eq_true rfl⟩ ⟨by first | exact Nat.le_of_ble_eq_true rfl | exact Nat.zero_le _, by first | exact Nat.le_of_ble_eq_true rfl | exact Nat.zero_le _⟩ dX4_holdRow_35 (fun r927 hr927 => ?_)
    obtain rfl := hr927
    refine ast hC hK hP hD hS 2 (ws' := [(Ho, .inr (4, [.ref hs, .ref hz, .ref hi, .ref hw, .ref hn, .ref ht])), (hw, .inl (G.2.1, 4, .inl (upd (upd (upd (upd (upd (fun _ => 0) 0 4) 1 4) 2 4) 3 4) 1 4))), (hn, .inl (G.2.1, 4, .inl (upd (fun _ => 0) 1 0))), (ht, .inl (G.2.1, 4, .inl (fun _ => 0))), (hs, .inl (G.2.1, 4, .inl (upd (upd (upd (upd (fun _ => 0) 0 (-1)) 1 (-1)) 2 (-1)) 3 (-1)))), (hz, .inl (G.2.1, 4, .inl (fun _ => 0)))]) rfl (vin (by decide +kernel)) (k := 1) (by decide +kernel) (rfl) dX4_holdRow_38 (fun H locs hP hD hS => ?_)
    refine lv_aload_n hx hb dX4_holdRow_39 rfl (lv_at hl 0 rfl) ?_
    refine gf_X4_27 hC rfl hK hP 0 rfl rfl dX4_holdRow_40 ?_
    refine lv_iload_n hx hb dX4_holdRow_43 rfl (lv_at hl 1 rfl) ?_
    refine lv_aload_n hx hb dX4_holdRow_44 rfl (lv_at hl 0 rfl) ?_
    refine lv_iload_n hx hb dX4_holdRow_45 rfl (lv_at hl 2 rfl) ?_
    refine pV hC hK hl hP hD (c_sort_0 l G Ho hs hz hi hw hn ht) si_X4_38 [0, 4] rfl rfl (by decide) rfl rfl rfl rfl rfl (Nat.le_of_ble_eq_true rfl) ⟨Nat.le_of_ble_eq_true rfl, Nat.le_of_ble_eq_true rfl⟩ ⟨by first | exact Nat.le_of_ble_eq_true rfl | exact Nat.zero_le _, by first | exact Nat.le_of_ble_eq_true rfl | exact Nat.zero_le _⟩ dX4_holdRow_46 (fun r929 hr929 => ?_)
    obtain rfl := hr929
    refine ast hC hK hP hD hS 3 (ws' := [(Ho, .inr (4, [.ref hs, .ref hz, .ref hi, .ref hw, .ref hn, .ref ht])), (hw, .inl (G.2.1, 4, .inl (upd (upd (upd (upd (upd (fun _ => 0) 0 4) 1 4) 2 4) 3 4) 1 4))), (hn, .inl (G.2.1, 4, .inl (upd (fun _ => 0) 1 0))), (ht, .inl (G.2.1, 4, .inl (upd (fun _ => 0) 1 (-1)))), (hs, .inl (G.2.1, 4, .inl (upd (upd (upd (upd (fun _ => 0) 0 (-1)) 1 (-1)) 2 (-1)) 3 (-1)))), (hz, .inl (G.2.1, 4, .inl (fun _ => 0)))]) rfl (vin (by decide +kernel)) (k := 1) (by decide +kernel) (rfl) dX4_holdRow_49 (fun H locs hP hD hS => ?_)
    exact RV hC hP hD hS [] () rfl rfl (by decide) (trivial) dX4_holdRow_50
  · exact absurd (by unfold Wi; decide) a924
set_option maxHeartbeats 4000000 in
set_option maxRecDepth 100000 in
theorem c_holdRow_1_1 (l : Launch) (G : GG) (Ho : Nat) (hs : Nat) (hz : Nat) (hi : Nat) (hw : Nat) (hn : Nat) (ht : Nat) : MV l G yX4_holdRow cX4_holdRow 3 4 0 0 [.ref Ho, .int 1, .int 1] [(Ho, .inr (4, [.ref hs, .ref hz, .ref hi, .ref hw, .ref hn, .ref ht])), (hw, .inl (G.2.1, 4, .inl (upd (upd (upd (upd (fun _ => 0) 0 4) 1 4) 2 4) 3 4))), (hn, .inl (G.2.1, 4, .inl (fun _ => 0))), (ht, .inl (G.2.1, 4, .inl (fun _ => 0))), (hs, .inl (G.2.1, 4, .inl (upd (upd (upd (upd (fun _ => 0) 0 (-1)) 1 (-1)) 2 (-1)) 3 (-1)))), (hz, .inl (G.2.1, 4, .inl (fun _ => 0)))] (fun u : Unit => True) (fun u : Unit => []) := by
  refine MV.start (by decide +kernel) (Nat.le_of_ble_eq_true rfl) ?_
  intro p e s m below meth c A ls hC hK hP hD hS hA hl
  have hl : lv_has ls 3 [(0, .ref Ho), (1, .int 1), (2, .int 1)] := hl
  obtain ⟨hx, hb, hr, hml, hB, hown, hlocks, hnm⟩ := id hC
  refine lv_iload_n hx hb dX4_holdRow_0 rfl (lv_at hl 1 rfl) ?_
  refine pSN hC hK hl (c_isShelf l G 1) si_X4_41 rfl rfl (Nat.le_of_ble_eq_true rfl) ⟨Nat.le_of_ble_eq_true rfl, Nat.le_of_ble_eq_true rfl⟩ ⟨by first | exact Nat.le_of_ble_eq_true rfl | exact Nat.zero_le _, by first | exact Nat.le_of_ble_eq_true rfl | exact Nat.zero_le _⟩ dX4_holdRow_1 (fun r931 hr931 => ?_)
  rcases hr931 with ⟨rfl, a932⟩ | ⟨rfl, a932⟩
  · refine lv_if_ne (tgt := 8) hx hb dX4_holdRow_4 (by decide) (fun _ => ?_) (fun c9 => absurd c9 (by decide))
    refine lv_aload_n hx hb dX4_holdRow_8 rfl (lv_at hl 0 rfl) ?_
    refine gf_X4_21 hC rfl hK hP 0 rfl rfl dX4_holdRow_9 ?_
    refine lv_iload_n hx hb dX4_holdRow_12 rfl (lv_at hl 1 rfl) ?_
    refine lv_aload_n hx hb dX4_holdRow_13 rfl (lv_at hl 0 rfl) ?_
    refine lv_iload_n hx hb dX4_holdRow_14 rfl (lv_at hl 2 rfl) ?_
    refine pV hC hK hl hP hD (c_sort_1 l G Ho hs hz hi hw hn ht) si_X4_38 [0, 4] rfl rfl (by decide) rfl rfl rfl rfl rfl (Nat.le_of_ble_eq_true rfl) ⟨Nat.le_of_ble_eq_true rfl, Nat.le_of_ble_eq_true rfl⟩ ⟨by first | exact Nat.le_of_ble_eq_true rfl | exact Nat.zero_le _, by first | exact Nat.le_of_ble_eq_true rfl | exact Nat.zero_le _⟩ dX4_holdRow_15 (fun r933 hr933 => ?_)
    obtain rfl := hr933
    refine lv_iconst (v := (-1)) hx hb dX4_holdRow_18 (by decide) ?_
    refine lv_icmp_ne (tgt := 26) hx hb dX4_holdRow_19 (by decide) (fun c9 => absurd (by decide) c9) (fun _ => ?_)
    refine lv_iconst (v := 4) hx hb dX4_holdRow_22 (by decide) ?_
    refine lv_goto (tgt := 27) hx hb dX4_holdRow_23 (by decide) ?_
    refine ast hC hK hP hD hS 1 (ws' := [(Ho, .inr (4, [.ref hs, .ref hz, .ref hi, .ref hw, .ref hn, .ref ht])), (hw, .inl (G.2.1, 4, .inl (upd (upd (upd (upd (upd (fun _ => 0) 0 4) 1 4) 2 4) 3 4) 1 4))), (hn, .inl (G.2.1, 4, .inl (fun _ => 0))), (ht, .inl (G.2.1, 4, .inl (fun _ => 0))), (hs, .inl (G.2.1, 4, .inl (upd (upd (upd (upd (fun _ => 0) 0 (-1)) 1 (-1)) 2 (-1)) 3 (-1)))), (hz, .inl (G.2.1, 4, .inl (fun _ => 0)))]) rfl (vin (by decide +kernel)) (k := 1) (by decide +kernel) (rfl) dX4_holdRow_27 (fun H locs hP hD hS => ?_)
    refine lv_aload_n hx hb dX4_holdRow_28 rfl (lv_at hl 0 rfl) ?_
    refine gf_X4_24 hC rfl hK hP 0 rfl rfl dX4_holdRow_29 ?_
    refine lv_iload_n hx hb dX4_holdRow_32 rfl (lv_at hl 1 rfl) ?_
    refine lv_aload_n hx hb dX4_holdRow_33 rfl (lv_at hl 0 rfl) ?_
    refine lv_iload_n hx hb dX4_holdRow_34 rfl (lv_at hl 2 rfl) ?_
    refine pV hC hK hl hP hD (c_size_1 l G Ho hs hz hi hw hn ht) si_X4_44 [0, 5] rfl rfl (by decide) rfl rfl rfl rfl rfl (Nat.le_of_ble_eq_true rfl) ⟨Nat.le_of_ble_eq_true rfl, Nat.le_of_ble_eq_true rfl⟩ ⟨by first | exact Nat.le_of_ble_eq_true rfl | exact Nat.zero_le _, by first | exact Nat.le_of_ble_eq_true rfl | exact Nat.zero_le _⟩ dX4_holdRow_35 (fun r935 hr935 => ?_)
    obtain rfl := hr935
    refine ast hC hK hP hD hS 2 (ws' := [(Ho, .inr (4, [.ref hs, .ref hz, .ref hi, .ref hw, .ref hn, .ref ht])), (hw, .inl (G.2.1, 4, .inl (upd (upd (upd (upd (upd (fun _ => 0) 0 4) 1 4) 2 4) 3 4) 1 4))), (hn, .inl (G.2.1, 4, .inl (upd (fun _ => 0) 1 0))), (ht, .inl (G.2.1, 4, .inl (fun _ => 0))), (hs, .inl (G.2.1, 4, .inl (upd (upd (upd (upd (fun _ => 0) 0 (-1)) 1 (-1)) 2 (-1)) 3 (-1)))), (hz, .inl (G.2.1, 4, .inl (fun _ => 0)))]) rfl (vin (by decide +kernel)) (k := 1) (by decide +kernel) (rfl) dX4_holdRow_38 (fun H locs hP hD hS => ?_)
    refine lv_aload_n hx hb dX4_holdRow_39 rfl (lv_at hl 0 rfl) ?_
    refine gf_X4_27 hC rfl hK hP 0 rfl rfl dX4_holdRow_40 ?_
    refine lv_iload_n hx hb dX4_holdRow_43 rfl (lv_at hl 1 rfl) ?_
    refine lv_aload_n hx hb dX4_holdRow_44 rfl (lv_at hl 0 rfl) ?_
    refine lv_iload_n hx hb dX4_holdRow_45 rfl (lv_at hl 2 rfl) ?_
    refine pV hC hK hl hP hD (c_sort_1 l G Ho hs hz hi hw hn ht) si_X4_38 [0, 4] rfl rfl (by decide) rfl rfl rfl rfl rfl (Nat.le_of_ble_eq_true rfl) ⟨Nat.le_of_ble_eq_true rfl, Nat.le_of_ble_eq_true rfl⟩ ⟨by first | exact Nat.le_of_ble_eq_true rfl | exact Nat.zero_le _, by first | exact Nat.le_of_ble_eq_true rfl | exact Nat.zero_le _⟩ dX4_holdRow_46 (fun r937 hr937 => ?_)
    obtain rfl := hr937
    refine ast hC hK hP hD hS 3 (ws' := [(Ho, .inr (4, [.ref hs, .ref hz, .ref hi, .ref hw, .ref hn, .ref ht])), (hw, .inl (G.2.1, 4, .inl (upd (upd (upd (upd (upd (fun _ => 0) 0 4) 1 4) 2 4) 3 4) 1 4))), (hn, .inl (G.2.1, 4, .inl (upd (fun _ => 0) 1 0))), (ht, .inl (G.2.1, 4, .inl (upd (fun _ => 0) 1 (-1)))), (hs, .inl (G.2.1, 4, .inl (upd (upd (upd (upd (fun _ => 0) 0 (-1)) 1 (-1)) 2 (-1)) 3 (-1)))), (hz, .inl (G.2.1, 4, .inl (fun _ => 0)))]) rfl (vin (by decide +kernel)) (k := 1) (by decide +kernel) (rfl) dX4_holdRow_49 (fun H locs hP hD hS => ?_)
    exact RV hC hP hD hS [] () rfl rfl (by decide) (trivial) dX4_holdRow_50
  · exact absurd (by unfold Wi; decide) a932
set_option maxHeartbeats 4000000 in
set_option maxRecDepth 100000 in
theorem c_holdRow_1_2 (l : Launch) (G : GG) (Ho : Nat) (hs : Nat) (hz : Nat) (hi : Nat) (hw : Nat) (hn : Nat) (ht : Nat) : MV l G yX4_holdRow cX4_holdRow 3 4 0 0 [.ref Ho, .int 1, .int 2] [(Ho, .inr (4, [.ref hs, .ref hz, .ref hi, .ref hw, .ref hn, .ref ht])), (hw, .inl (G.2.1, 4, .inl (upd (upd (upd (upd (fun _ => 0) 0 4) 1 4) 2 4) 3 4))), (hn, .inl (G.2.1, 4, .inl (fun _ => 0))), (ht, .inl (G.2.1, 4, .inl (fun _ => 0))), (hs, .inl (G.2.1, 4, .inl (upd (upd (upd (upd (fun _ => 0) 0 (-1)) 1 (-1)) 2 (-1)) 3 (-1)))), (hz, .inl (G.2.1, 4, .inl (fun _ => 0)))] (fun u : Unit => True) (fun u : Unit => []) := by
  refine MV.start (by decide +kernel) (Nat.le_of_ble_eq_true rfl) ?_
  intro p e s m below meth c A ls hC hK hP hD hS hA hl
  have hl : lv_has ls 3 [(0, .ref Ho), (1, .int 1), (2, .int 2)] := hl
  obtain ⟨hx, hb, hr, hml, hB, hown, hlocks, hnm⟩ := id hC
  refine lv_iload_n hx hb dX4_holdRow_0 rfl (lv_at hl 1 rfl) ?_
  refine pSN hC hK hl (c_isShelf l G 1) si_X4_41 rfl rfl (Nat.le_of_ble_eq_true rfl) ⟨Nat.le_of_ble_eq_true rfl, Nat.le_of_ble_eq_true rfl⟩ ⟨by first | exact Nat.le_of_ble_eq_true rfl | exact Nat.zero_le _, by first | exact Nat.le_of_ble_eq_true rfl | exact Nat.zero_le _⟩ dX4_holdRow_1 (fun r939 hr939 => ?_)
  rcases hr939 with ⟨rfl, a940⟩ | ⟨rfl, a940⟩
  · refine lv_if_ne (tgt := 8) hx hb dX4_holdRow_4 (by decide) (fun _ => ?_) (fun c9 => absurd c9 (by decide))
    refine lv_aload_n hx hb dX4_holdRow_8 rfl (lv_at hl 0 rfl) ?_
    refine gf_X4_21 hC rfl hK hP 0 rfl rfl dX4_holdRow_9 ?_
    refine lv_iload_n hx hb dX4_holdRow_12 rfl (lv_at hl 1 rfl) ?_
    refine lv_aload_n hx hb dX4_holdRow_13 rfl (lv_at hl 0 rfl) ?_
    refine lv_iload_n hx hb dX4_holdRow_14 rfl (lv_at hl 2 rfl) ?_
    refine pV hC hK hl hP hD (c_sort_2 l G Ho hs hz hi hw hn ht) si_X4_38 [0, 4] rfl rfl (by decide) rfl rfl rfl rfl rfl (Nat.le_of_ble_eq_true rfl) ⟨Nat.le_of_ble_eq_true rfl, Nat.le_of_ble_eq_true rfl⟩ ⟨by first | exact Nat.le_of_ble_eq_true rfl | exact Nat.zero_le _, by first | exact Nat.le_of_ble_eq_true rfl | exact Nat.zero_le _⟩ dX4_holdRow_15 (fun r941 hr941 => ?_)
    obtain rfl := hr941
    refine lv_iconst (v := (-1)) hx hb dX4_holdRow_18 (by decide) ?_
    refine lv_icmp_ne (tgt := 26) hx hb dX4_holdRow_19 (by decide) (fun c9 => absurd (by decide) c9) (fun _ => ?_)
    refine lv_iconst (v := 4) hx hb dX4_holdRow_22 (by decide) ?_
    refine lv_goto (tgt := 27) hx hb dX4_holdRow_23 (by decide) ?_
    refine ast hC hK hP hD hS 1 (ws' := [(Ho, .inr (4, [.ref hs, .ref hz, .ref hi, .ref hw, .ref hn, .ref ht])), (hw, .inl (G.2.1, 4, .inl (upd (upd (upd (upd (upd (fun _ => 0) 0 4) 1 4) 2 4) 3 4) 1 4))), (hn, .inl (G.2.1, 4, .inl (fun _ => 0))), (ht, .inl (G.2.1, 4, .inl (fun _ => 0))), (hs, .inl (G.2.1, 4, .inl (upd (upd (upd (upd (fun _ => 0) 0 (-1)) 1 (-1)) 2 (-1)) 3 (-1)))), (hz, .inl (G.2.1, 4, .inl (fun _ => 0)))]) rfl (vin (by decide +kernel)) (k := 1) (by decide +kernel) (rfl) dX4_holdRow_27 (fun H locs hP hD hS => ?_)
    refine lv_aload_n hx hb dX4_holdRow_28 rfl (lv_at hl 0 rfl) ?_
    refine gf_X4_24 hC rfl hK hP 0 rfl rfl dX4_holdRow_29 ?_
    refine lv_iload_n hx hb dX4_holdRow_32 rfl (lv_at hl 1 rfl) ?_
    refine lv_aload_n hx hb dX4_holdRow_33 rfl (lv_at hl 0 rfl) ?_
    refine lv_iload_n hx hb dX4_holdRow_34 rfl (lv_at hl 2 rfl) ?_
    refine pV hC hK hl hP hD (c_size_2 l G Ho hs hz hi hw hn ht) si_X4_44 [0, 5] rfl rfl (by decide) rfl rfl rfl rfl rfl (Nat.le_of_ble_eq_true rfl) ⟨Nat.le_of_ble_eq_true rfl, Nat.le_of_ble_eq_true rfl⟩ ⟨by first | exact Nat.le_of_ble_eq_true rfl | exact Nat.zero_le _, by first | exact Nat.le_of_ble_eq_true rfl | exact Nat.zero_le _⟩ dX4_holdRow_35 (fun r943 hr943 => ?_)
    obtain rfl := hr943
    refine ast hC hK hP hD hS 2 (ws' := [(Ho, .inr (4, [.ref hs, .ref hz, .ref hi, .ref hw, .ref hn, .ref ht])), (hw, .inl (G.2.1, 4, .inl (upd (upd (upd (upd (upd (fun _ => 0) 0 4) 1 4) 2 4) 3 4) 1 4))), (hn, .inl (G.2.1, 4, .inl (upd (fun _ => 0) 1 0))), (ht, .inl (G.2.1, 4, .inl (fun _ => 0))), (hs, .inl (G.2.1, 4, .inl (upd (upd (upd (upd (fun _ => 0) 0 (-1)) 1 (-1)) 2 (-1)) 3 (-1)))), (hz, .inl (G.2.1, 4, .inl (fun _ => 0)))]) rfl (vin (by decide +kernel)) (k := 1) (by decide +kernel) (rfl) dX4_holdRow_38 (fun H locs hP hD hS => ?_)
    refine lv_aload_n hx hb dX4_holdRow_39 rfl (lv_at hl 0 rfl) ?_
    refine gf_X4_27 hC rfl hK hP 0 rfl rfl dX4_holdRow_40 ?_
    refine lv_iload_n hx hb dX4_holdRow_43 rfl (lv_at hl 1 rfl) ?_
    refine lv_aload_n hx hb dX4_holdRow_44 rfl (lv_at hl 0 rfl) ?_
    refine lv_iload_n hx hb dX4_holdRow_45 rfl (lv_at hl 2 rfl) ?_
    refine pV hC hK hl hP hD (c_sort_2 l G Ho hs hz hi hw hn ht) si_X4_38 [0, 4] rfl rfl (by decide) rfl rfl rfl rfl rfl (Nat.le_of_ble_eq_true rfl) ⟨Nat.le_of_ble_eq_true rfl, Nat.le_of_ble_eq_true rfl⟩ ⟨by first | exact Nat.le_of_ble_eq_true rfl | exact Nat.zero_le _, by first | exact Nat.le_of_ble_eq_true rfl | exact Nat.zero_le _⟩ dX4_holdRow_46 (fun r945 hr945 => ?_)
    obtain rfl := hr945
    refine ast hC hK hP hD hS 3 (ws' := [(Ho, .inr (4, [.ref hs, .ref hz, .ref hi, .ref hw, .ref hn, .ref ht])), (hw, .inl (G.2.1, 4, .inl (upd (upd (upd (upd (upd (fun _ => 0) 0 4) 1 4) 2 4) 3 4) 1 4))), (hn, .inl (G.2.1, 4, .inl (upd (fun _ => 0) 1 0))), (ht, .inl (G.2.1, 4, .inl (upd (fun _ => 0) 1 (-1)))), (hs, .inl (G.2.1, 4, .inl (upd (upd (upd (upd (fun _ => 0) 0 (-1)) 1 (-1)) 2 (-1)) 3 (-1)))), (hz, .inl (G.2.1, 4, .inl (fun _ => 0)))]) rfl (vin (by decide +kernel)) (k := 1) (by decide +kernel) (rfl) dX4_holdRow_49 (fun H locs hP hD hS => ?_)
    exact RV hC hP hD hS [] () rfl rfl (by decide) (trivial) dX4_holdRow_50
  · exact absurd (by unfold Wi; decide) a940
set_option maxHeartbeats 4000000 in
set_option maxRecDepth 100000 in
theorem c_holdRow_1_3 (l : Launch) (G : GG) (Ho : Nat) (hs : Nat) (hz : Nat) (hi : Nat) (hw : Nat) (hn : Nat) (ht : Nat) : MV l G yX4_holdRow cX4_holdRow 3 4 0 0 [.ref Ho, .int 1, .int 3] [(Ho, .inr (4, [.ref hs, .ref hz, .ref hi, .ref hw, .ref hn, .ref ht])), (hw, .inl (G.2.1, 4, .inl (upd (upd (upd (upd (fun _ => 0) 0 4) 1 4) 2 4) 3 4))), (hn, .inl (G.2.1, 4, .inl (fun _ => 0))), (ht, .inl (G.2.1, 4, .inl (fun _ => 0))), (hs, .inl (G.2.1, 4, .inl (upd (upd (upd (upd (fun _ => 0) 0 (-1)) 1 (-1)) 2 (-1)) 3 (-1)))), (hz, .inl (G.2.1, 4, .inl (fun _ => 0)))] (fun u : Unit => True) (fun u : Unit => []) := by
  refine MV.start (by decide +kernel) (Nat.le_of_ble_eq_true rfl) ?_
  intro p e s m below meth c A ls hC hK hP hD hS hA hl
  have hl : lv_has ls 3 [(0, .ref Ho), (1, .int 1), (2, .int 3)] := hl
  obtain ⟨hx, hb, hr, hml, hB, hown, hlocks, hnm⟩ := id hC
  refine lv_iload_n hx hb dX4_holdRow_0 rfl (lv_at hl 1 rfl) ?_
  refine pSN hC hK hl (c_isShelf l G 1) si_X4_41 rfl rfl (Nat.le_of_ble_eq_true rfl) ⟨Nat.le_of_ble_eq_true rfl, Nat.le_of_ble_eq_true rfl⟩ ⟨by first | exact Nat.le_of_ble_eq_true rfl | exact Nat.zero_le _, by first | exact Nat.le_of_ble_eq_true rfl | exact Nat.zero_le _⟩ dX4_holdRow_1 (fun r947 hr947 => ?_)
  rcases hr947 with ⟨rfl, a948⟩ | ⟨rfl, a948⟩
  · refine lv_if_ne (tgt := 8) hx hb dX4_holdRow_4 (by decide) (fun _ => ?_) (fun c9 => absurd c9 (by decide))
    refine lv_aload_n hx hb dX4_holdRow_8 rfl (lv_at hl 0 rfl) ?_
    refine gf_X4_21 hC rfl hK hP 0 rfl rfl dX4_holdRow_9 ?_
    refine lv_iload_n hx hb dX4_holdRow_12 rfl (lv_at hl 1 rfl) ?_
    refine lv_aload_n hx hb dX4_holdRow_13 rfl (lv_at hl 0 rfl) ?_
    refine lv_iload_n hx hb dX4_holdRow_14 rfl (lv_at hl 2 rfl) ?_
    refine pV hC hK hl hP hD (c_sort_3 l G Ho hs hz hi hw hn ht) si_X4_38 [0, 4] rfl rfl (by decide) rfl rfl rfl rfl rfl (Nat.le_of_ble_eq_true rfl) ⟨Nat.le_of_ble_eq_true rfl, Nat.le_of_ble_eq_true rfl⟩ ⟨by first | exact Nat.le_of_ble_eq_true rfl | exact Nat.zero_le _, by first | exact Nat.le_of_ble_eq_true rfl | exact Nat.zero_le _⟩ dX4_holdRow_15 (fun r949 hr949 => ?_)
    obtain rfl := hr949
    refine lv_iconst (v := (-1)) hx hb dX4_holdRow_18 (by decide) ?_
    refine lv_icmp_ne (tgt := 26) hx hb dX4_holdRow_19 (by decide) (fun c9 => absurd (by decide) c9) (fun _ => ?_)
    refine lv_iconst (v := 4) hx hb dX4_holdRow_22 (by decide) ?_
    refine lv_goto (tgt := 27) hx hb dX4_holdRow_23 (by decide) ?_
    refine ast hC hK hP hD hS 1 (ws' := [(Ho, .inr (4, [.ref hs, .ref hz, .ref hi, .ref hw, .ref hn, .ref ht])), (hw, .inl (G.2.1, 4, .inl (upd (upd (upd (upd (upd (fun _ => 0) 0 4) 1 4) 2 4) 3 4) 1 4))), (hn, .inl (G.2.1, 4, .inl (fun _ => 0))), (ht, .inl (G.2.1, 4, .inl (fun _ => 0))), (hs, .inl (G.2.1, 4, .inl (upd (upd (upd (upd (fun _ => 0) 0 (-1)) 1 (-1)) 2 (-1)) 3 (-1)))), (hz, .inl (G.2.1, 4, .inl (fun _ => 0)))]) rfl (vin (by decide +kernel)) (k := 1) (by decide +kernel) (rfl) dX4_holdRow_27 (fun H locs hP hD hS => ?_)
    refine lv_aload_n hx hb dX4_holdRow_28 rfl (lv_at hl 0 rfl) ?_
    refine gf_X4_24 hC rfl hK hP 0 rfl rfl dX4_holdRow_29 ?_
    refine lv_iload_n hx hb dX4_holdRow_32 rfl (lv_at hl 1 rfl) ?_
    refine lv_aload_n hx hb dX4_holdRow_33 rfl (lv_at hl 0 rfl) ?_
    refine lv_iload_n hx hb dX4_holdRow_34 rfl (lv_at hl 2 rfl) ?_
    refine pV hC hK hl hP hD (c_size_3 l G Ho hs hz hi hw hn ht) si_X4_44 [0, 5] rfl rfl (by decide) rfl rfl rfl rfl rfl (Nat.le_of_ble_eq_true rfl) ⟨Nat.le_of_ble_eq_true rfl, Nat.le_of_ble_eq_true rfl⟩ ⟨by first | exact Nat.le_of_ble_eq_true rfl | exact Nat.zero_le _, by first | exact Nat.le_of_ble_eq_true rfl | exact Nat.zero_le _⟩ dX4_holdRow_35 (fun r951 hr951 => ?_)
    obtain rfl := hr951
    refine ast hC hK hP hD hS 2 (ws' := [(Ho, .inr (4, [.ref hs, .ref hz, .ref hi, .ref hw, .ref hn, .ref ht])), (hw, .inl (G.2.1, 4, .inl (upd (upd (upd (upd (upd (fun _ => 0) 0 4) 1 4) 2 4) 3 4) 1 4))), (hn, .inl (G.2.1, 4, .inl (upd (fun _ => 0) 1 0))), (ht, .inl (G.2.1, 4, .inl (fun _ => 0))), (hs, .inl (G.2.1, 4, .inl (upd (upd (upd (upd (fun _ => 0) 0 (-1)) 1 (-1)) 2 (-1)) 3 (-1)))), (hz, .inl (G.2.1, 4, .inl (fun _ => 0)))]) rfl (vin (by decide +kernel)) (k := 1) (by decide +kernel) (rfl) dX4_holdRow_38 (fun H locs hP hD hS => ?_)
    refine lv_aload_n hx hb dX4_holdRow_39 rfl (lv_at hl 0 rfl) ?_
    refine gf_X4_27 hC rfl hK hP 0 rfl rfl dX4_holdRow_40 ?_
    refine lv_iload_n hx hb dX4_holdRow_43 rfl (lv_at hl 1 rfl) ?_
    refine lv_aload_n hx hb dX4_holdRow_44 rfl (lv_at hl 0 rfl) ?_
    refine lv_iload_n hx hb dX4_holdRow_45 rfl (lv_at hl 2 rfl) ?_
    refine pV hC hK hl hP hD (c_sort_3 l G Ho hs hz hi hw hn ht) si_X4_38 [0, 4] rfl rfl (by decide) rfl rfl rfl rfl rfl (Nat.le_of_ble_eq_true rfl) ⟨Nat.le_of_ble_eq_true rfl, Nat.le_of_ble_eq_true rfl⟩ ⟨by first | exact Nat.le_of_ble_eq_true rfl | exact Nat.zero_le _, by first | exact Nat.le_of_ble_eq_true rfl | exact Nat.zero_le _⟩ dX4_holdRow_46 (fun r953 hr953 => ?_)
    obtain rfl := hr953
    refine ast hC hK hP hD hS 3 (ws' := [(Ho, .inr (4, [.ref hs, .ref hz, .ref hi, .ref hw, .ref hn, .ref ht])), (hw, .inl (G.2.1, 4, .inl (upd (upd (upd (upd (upd (fun _ => 0) 0 4) 1 4) 2 4) 3 4) 1 4))), (hn, .inl (G.2.1, 4, .inl (upd (fun _ => 0) 1 0))), (ht, .inl (G.2.1, 4, .inl (upd (fun _ => 0) 1 (-1)))), (hs, .inl (G.2.1, 4, .inl (upd (upd (upd (upd (fun _ => 0) 0 (-1)) 1 (-1)) 2 (-1)) 3 (-1)))), (hz, .inl (G.2.1, 4, .inl (fun _ => 0)))]) rfl (vin (by decide +kernel)) (k := 1) (by decide +kernel) (rfl) dX4_holdRow_49 (fun H locs hP hD hS => ?_)
    exact RV hC hP hD hS [] () rfl rfl (by decide) (trivial) dX4_holdRow_50
  · exact absurd (by unfold Wi; decide) a948
set_option maxHeartbeats 4000000 in
set_option maxRecDepth 100000 in
theorem c_hold_2 (l : Launch) (G : GG) (Ho : Nat) (wh : Int32) (n : Int32) (hs : Nat) (hz : Nat) (hi : Nat) (hw : Nat) (hn : Nat) (ht : Nat) : MV l G yX4_hold cX4_hold 4 3 0 0 [.ref Ho, .int 2, .int wh, .int n] [(Ho, .inr (4, [.ref hs, .ref hz, .ref hi, .ref hw, .ref hn, .ref ht])), (hw, .inl (G.2.1, 4, .inl (upd (upd (upd (upd (fun _ => 0) 0 4) 1 4) 2 4) 3 4))), (hn, .inl (G.2.1, 4, .inl (fun _ => 0)))] (fun u : Unit => True) (fun u : Unit => []) := by
  refine MV.start (by decide +kernel) (Nat.le_of_ble_eq_true rfl) ?_
  intro p e s m below meth c A ls hC hK hP hD hS hA hl
  have hl : lv_has ls 4 [(0, .ref Ho), (1, .int 2), (2, .int wh), (3, .int n)] := hl
  obtain ⟨hx, hb, hr, hml, hB, hown, hlocks, hnm⟩ := id hC
  refine lv_iload_n hx hb dX4_hold_0 rfl (lv_at hl 1 rfl) ?_
  refine pSN hC hK hl (c_isShelf l G 2) si_X4_41 rfl rfl (Nat.le_of_ble_eq_true rfl) ⟨Nat.le_of_ble_eq_true rfl, Nat.le_of_ble_eq_true rfl⟩ ⟨by first | exact Nat.le_of_ble_eq_true rfl | exact Nat.zero_le _, by first | exact Nat.le_of_ble_eq_true rfl | exact Nat.zero_le _⟩ dX4_hold_1 (fun r955 hr955 => ?_)
  rcases hr955 with ⟨rfl, a956⟩ | ⟨rfl, a956⟩
  · refine lv_if_ne (tgt := 8) hx hb dX4_hold_4 (by decide) (fun _ => ?_) (fun c9 => absurd c9 (by decide))
    refine lv_aload_n hx hb dX4_hold_8 rfl (lv_at hl 0 rfl) ?_
    refine gf_X4_21 hC rfl hK hP 0 rfl rfl dX4_hold_9 ?_
    refine lv_iload_n hx hb dX4_hold_12 rfl (lv_at hl 1 rfl) ?_
    refine lv_iload_n hx hb dX4_hold_13 rfl (lv_at hl 2 rfl) ?_
    refine ast hC hK hP hD hS 1 (ws' := [(Ho, .inr (4, [.ref hs, .ref hz, .ref hi, .ref hw, .ref hn, .ref ht])), (hw, .inl (G.2.1, 4, .inl (upd (upd (upd (upd (upd (fun _ => 0) 0 4) 1 4) 2 4) 3 4) 2 wh))), (hn, .inl (G.2.1, 4, .inl (fun _ => 0)))]) rfl (vin (by decide +kernel)) (k := 2) (by decide +kernel) (rfl) dX4_hold_14 (fun H locs hP hD hS => ?_)
    refine lv_aload_n hx hb dX4_hold_15 rfl (lv_at hl 0 rfl) ?_
    refine gf_X4_24 hC rfl hK hP 0 rfl rfl dX4_hold_16 ?_
    refine lv_iload_n hx hb dX4_hold_19 rfl (lv_at hl 1 rfl) ?_
    refine lv_iload_n hx hb dX4_hold_20 rfl (lv_at hl 3 rfl) ?_
    refine ast hC hK hP hD hS 2 (ws' := [(Ho, .inr (4, [.ref hs, .ref hz, .ref hi, .ref hw, .ref hn, .ref ht])), (hw, .inl (G.2.1, 4, .inl (upd (upd (upd (upd (upd (fun _ => 0) 0 4) 1 4) 2 4) 3 4) 2 wh))), (hn, .inl (G.2.1, 4, .inl (upd (fun _ => 0) 2 n)))]) rfl (vin (by decide +kernel)) (k := 2) (by decide +kernel) (rfl) dX4_hold_21 (fun H locs hP hD hS => ?_)
    exact RV hC hP hD hS [] () rfl rfl (by decide) (trivial) dX4_hold_22
  · exact absurd (by unfold Wi; decide) a956
set_option maxHeartbeats 4000000 in
set_option maxRecDepth 100000 in
theorem c_holdRow_2_0 (l : Launch) (G : GG) (Ho : Nat) (hs : Nat) (hz : Nat) (hi : Nat) (hw : Nat) (hn : Nat) (ht : Nat) : MV l G yX4_holdRow cX4_holdRow 3 4 0 0 [.ref Ho, .int 2, .int 0] [(Ho, .inr (4, [.ref hs, .ref hz, .ref hi, .ref hw, .ref hn, .ref ht])), (hw, .inl (G.2.1, 4, .inl (upd (upd (upd (upd (fun _ => 0) 0 4) 1 4) 2 4) 3 4))), (hn, .inl (G.2.1, 4, .inl (fun _ => 0))), (ht, .inl (G.2.1, 4, .inl (fun _ => 0))), (hs, .inl (G.2.1, 4, .inl (upd (upd (upd (upd (fun _ => 0) 0 (-1)) 1 (-1)) 2 (-1)) 3 (-1)))), (hz, .inl (G.2.1, 4, .inl (fun _ => 0)))] (fun u : Unit => True) (fun u : Unit => []) := by
  refine MV.start (by decide +kernel) (Nat.le_of_ble_eq_true rfl) ?_
  intro p e s m below meth c A ls hC hK hP hD hS hA hl
  have hl : lv_has ls 3 [(0, .ref Ho), (1, .int 2), (2, .int 0)] := hl
  obtain ⟨hx, hb, hr, hml, hB, hown, hlocks, hnm⟩ := id hC
  refine lv_iload_n hx hb dX4_holdRow_0 rfl (lv_at hl 1 rfl) ?_
  refine pSN hC hK hl (c_isShelf l G 2) si_X4_41 rfl rfl (Nat.le_of_ble_eq_true rfl) ⟨Nat.le_of_ble_eq_true rfl, Nat.le_of_ble_eq_true rfl⟩ ⟨by first | exact Nat.le_of_ble_eq_true rfl | exact Nat.zero_le _, by first | exact Nat.le_of_ble_eq_true rfl | exact Nat.zero_le _⟩ dX4_holdRow_1 (fun r957 hr957 => ?_)
  rcases hr957 with ⟨rfl, a958⟩ | ⟨rfl, a958⟩
  · refine lv_if_ne (tgt := 8) hx hb dX4_holdRow_4 (by decide) (fun _ => ?_) (fun c9 => absurd c9 (by decide))
    refine lv_aload_n hx hb dX4_holdRow_8 rfl (lv_at hl 0 rfl) ?_
    refine gf_X4_21 hC rfl hK hP 0 rfl rfl dX4_holdRow_9 ?_
    refine lv_iload_n hx hb dX4_holdRow_12 rfl (lv_at hl 1 rfl) ?_
    refine lv_aload_n hx hb dX4_holdRow_13 rfl (lv_at hl 0 rfl) ?_
    refine lv_iload_n hx hb dX4_holdRow_14 rfl (lv_at hl 2 rfl) ?_
    refine pV hC hK hl hP hD (c_sort_0 l G Ho hs hz hi hw hn ht) si_X4_38 [0, 4] rfl rfl (by decide) rfl rfl rfl rfl rfl (Nat.le_of_ble_eq_true rfl) ⟨Nat.le_of_ble_eq_true rfl, Nat.le_of_ble_eq_true rfl⟩ ⟨by first | exact Nat.le_of_ble_eq_true rfl | exact Nat.zero_le _, by first | exact Nat.le_of_ble_eq_true rfl | exact Nat.zero_le _⟩ dX4_holdRow_15 (fun r959 hr959 => ?_)
    obtain rfl := hr959
    refine lv_iconst (v := (-1)) hx hb dX4_holdRow_18 (by decide) ?_
    refine lv_icmp_ne (tgt := 26) hx hb dX4_holdRow_19 (by decide) (fun c9 => absurd (by decide) c9) (fun _ => ?_)
    refine lv_iconst (v := 4) hx hb dX4_holdRow_22 (by decide) ?_
    refine lv_goto (tgt := 27) hx hb dX4_holdRow_23 (by decide) ?_
    refine ast hC hK hP hD hS 1 (ws' := [(Ho, .inr (4, [.ref hs, .ref hz, .ref hi, .ref hw, .ref hn, .ref ht])), (hw, .inl (G.2.1, 4, .inl (upd (upd (upd (upd (upd (fun _ => 0) 0 4) 1 4) 2 4) 3 4) 2 4))), (hn, .inl (G.2.1, 4, .inl (fun _ => 0))), (ht, .inl (G.2.1, 4, .inl (fun _ => 0))), (hs, .inl (G.2.1, 4, .inl (upd (upd (upd (upd (fun _ => 0) 0 (-1)) 1 (-1)) 2 (-1)) 3 (-1)))), (hz, .inl (G.2.1, 4, .inl (fun _ => 0)))]) rfl (vin (by decide +kernel)) (k := 2) (by decide +kernel) (rfl) dX4_holdRow_27 (fun H locs hP hD hS => ?_)
    refine lv_aload_n hx hb dX4_holdRow_28 rfl (lv_at hl 0 rfl) ?_
    refine gf_X4_24 hC rfl hK hP 0 rfl rfl dX4_holdRow_29 ?_
    refine lv_iload_n hx hb dX4_holdRow_32 rfl (lv_at hl 1 rfl) ?_
    refine lv_aload_n hx hb dX4_holdRow_33 rfl (lv_at hl 0 rfl) ?_
    refine lv_iload_n hx hb dX4_holdRow_34 rfl (lv_at hl 2 rfl) ?_
    refine pV hC hK hl hP hD (c_size_0 l G Ho hs hz hi hw hn ht) si_X4_44 [0, 5] rfl rfl (by decide) rfl rfl rfl rfl rfl (Nat.le_of_ble_eq_true rfl) ⟨Nat.le_of_ble_eq_true rfl, Nat.le_of_ble_eq_true rfl⟩ ⟨by first | exact Nat.le_of_ble_eq_true rfl | exact Nat.zero_le _, by first | exact Nat.le_of_ble_eq_true rfl | exact Nat.zero_le _⟩ dX4_holdRow_35 (fun r961 hr961 => ?_)
    obtain rfl := hr961
    refine ast hC hK hP hD hS 2 (ws' := [(Ho, .inr (4, [.ref hs, .ref hz, .ref hi, .ref hw, .ref hn, .ref ht])), (hw, .inl (G.2.1, 4, .inl (upd (upd (upd (upd (upd (fun _ => 0) 0 4) 1 4) 2 4) 3 4) 2 4))), (hn, .inl (G.2.1, 4, .inl (upd (fun _ => 0) 2 0))), (ht, .inl (G.2.1, 4, .inl (fun _ => 0))), (hs, .inl (G.2.1, 4, .inl (upd (upd (upd (upd (fun _ => 0) 0 (-1)) 1 (-1)) 2 (-1)) 3 (-1)))), (hz, .inl (G.2.1, 4, .inl (fun _ => 0)))]) rfl (vin (by decide +kernel)) (k := 2) (by decide +kernel) (rfl) dX4_holdRow_38 (fun H locs hP hD hS => ?_)
    refine lv_aload_n hx hb dX4_holdRow_39 rfl (lv_at hl 0 rfl) ?_
    refine gf_X4_27 hC rfl hK hP 0 rfl rfl dX4_holdRow_40 ?_
    refine lv_iload_n hx hb dX4_holdRow_43 rfl (lv_at hl 1 rfl) ?_
    refine lv_aload_n hx hb dX4_holdRow_44 rfl (lv_at hl 0 rfl) ?_
    refine lv_iload_n hx hb dX4_holdRow_45 rfl (lv_at hl 2 rfl) ?_
    refine pV hC hK hl hP hD (c_sort_0 l G Ho hs hz hi hw hn ht) si_X4_38 [0, 4] rfl rfl (by decide) rfl rfl rfl rfl rfl (Nat.le_of_ble_eq_true rfl) ⟨Nat.le_of_ble_eq_true rfl, Nat.le_of_ble_eq_true rfl⟩ ⟨by first | exact Nat.le_of_ble_eq_true rfl | exact Nat.zero_le _, by first | exact Nat.le_of_ble_eq_true rfl | exact Nat.zero_le _⟩ dX4_holdRow_46 (fun r963 hr963 => ?_)
    obtain rfl := hr963
    refine ast hC hK hP hD hS 3 (ws' := [(Ho, .inr (4, [.ref hs, .ref hz, .ref hi, .ref hw, .ref hn, .ref ht])), (hw, .inl (G.2.1, 4, .inl (upd (upd (upd (upd (upd (fun _ => 0) 0 4) 1 4) 2 4) 3 4) 2 4))), (hn, .inl (G.2.1, 4, .inl (upd (fun _ => 0) 2 0))), (ht, .inl (G.2.1, 4, .inl (upd (fun _ => 0) 2 (-1)))), (hs, .inl (G.2.1, 4, .inl (upd (upd (upd (upd (fun _ => 0) 0 (-1)) 1 (-1)) 2 (-1)) 3 (-1)))), (hz, .inl (G.2.1, 4, .inl (fun _ => 0)))]) rfl (vin (by decide +kernel)) (k := 2) (by decide +kernel) (rfl) dX4_holdRow_49 (fun H locs hP hD hS => ?_)
    exact RV hC hP hD hS [] () rfl rfl (by decide) (trivial) dX4_holdRow_50
  · exact absurd (by unfold Wi; decide) a958
set_option maxHeartbeats 4000000 in
set_option maxRecDepth 100000 in
theorem c_holdRow_2_1 (l : Launch) (G : GG) (Ho : Nat) (hs : Nat) (hz : Nat) (hi : Nat) (hw : Nat) (hn : Nat) (ht : Nat) : MV l G yX4_holdRow cX4_holdRow 3 4 0 0 [.ref Ho, .int 2, .int 1] [(Ho, .inr (4, [.ref hs, .ref hz, .ref hi, .ref hw, .ref hn, .ref ht])), (hw, .inl (G.2.1, 4, .inl (upd (upd (upd (upd (fun _ => 0) 0 4) 1 4) 2 4) 3 4))), (hn, .inl (G.2.1, 4, .inl (fun _ => 0))), (ht, .inl (G.2.1, 4, .inl (fun _ => 0))), (hs, .inl (G.2.1, 4, .inl (upd (upd (upd (upd (fun _ => 0) 0 (-1)) 1 (-1)) 2 (-1)) 3 (-1)))), (hz, .inl (G.2.1, 4, .inl (fun _ => 0)))] (fun u : Unit => True) (fun u : Unit => []) := by
  refine MV.start (by decide +kernel) (Nat.le_of_ble_eq_true rfl) ?_
  intro p e s m below meth c A ls hC hK hP hD hS hA hl
  have hl : lv_has ls 3 [(0, .ref Ho), (1, .int 2), (2, .int 1)] := hl
  obtain ⟨hx, hb, hr, hml, hB, hown, hlocks, hnm⟩ := id hC
  refine lv_iload_n hx hb dX4_holdRow_0 rfl (lv_at hl 1 rfl) ?_
  refine pSN hC hK hl (c_isShelf l G 2) si_X4_41 rfl rfl (Nat.le_of_ble_eq_true rfl) ⟨Nat.le_of_ble_eq_true rfl, Nat.le_of_ble_eq_true rfl⟩ ⟨by first | exact Nat.le_of_ble_eq_true rfl | exact Nat.zero_le _, by first | exact Nat.le_of_ble_eq_true rfl | exact Nat.zero_le _⟩ dX4_holdRow_1 (fun r965 hr965 => ?_)
  rcases hr965 with ⟨rfl, a966⟩ | ⟨rfl, a966⟩
  · refine lv_if_ne (tgt := 8) hx hb dX4_holdRow_4 (by decide) (fun _ => ?_) (fun c9 => absurd c9 (by decide))
    refine lv_aload_n hx hb dX4_holdRow_8 rfl (lv_at hl 0 rfl) ?_
    refine gf_X4_21 hC rfl hK hP 0 rfl rfl dX4_holdRow_9 ?_
    refine lv_iload_n hx hb dX4_holdRow_12 rfl (lv_at hl 1 rfl) ?_
    refine lv_aload_n hx hb dX4_holdRow_13 rfl (lv_at hl 0 rfl) ?_
    refine lv_iload_n hx hb dX4_holdRow_14 rfl (lv_at hl 2 rfl) ?_
    refine pV hC hK hl hP hD (c_sort_1 l G Ho hs hz hi hw hn ht) si_X4_38 [0, 4] rfl rfl (by decide) rfl rfl rfl rfl rfl (Nat.le_of_ble_eq_true rfl) ⟨Nat.le_of_ble_eq_true rfl, Nat.le_of_ble_eq_true rfl⟩ ⟨by first | exact Nat.le_of_ble_eq_true rfl | exact Nat.zero_le _, by first | exact Nat.le_of_ble_eq_true rfl | exact Nat.zero_le _⟩ dX4_holdRow_15 (fun r967 hr967 => ?_)
    obtain rfl := hr967
    refine lv_iconst (v := (-1)) hx hb dX4_holdRow_18 (by decide) ?_
    refine lv_icmp_ne (tgt := 26) hx hb dX4_holdRow_19 (by decide) (fun c9 => absurd (by decide) c9) (fun _ => ?_)
    refine lv_iconst (v := 4) hx hb dX4_holdRow_22 (by decide) ?_
    refine lv_goto (tgt := 27) hx hb dX4_holdRow_23 (by decide) ?_
    refine ast hC hK hP hD hS 1 (ws' := [(Ho, .inr (4, [.ref hs, .ref hz, .ref hi, .ref hw, .ref hn, .ref ht])), (hw, .inl (G.2.1, 4, .inl (upd (upd (upd (upd (upd (fun _ => 0) 0 4) 1 4) 2 4) 3 4) 2 4))), (hn, .inl (G.2.1, 4, .inl (fun _ => 0))), (ht, .inl (G.2.1, 4, .inl (fun _ => 0))), (hs, .inl (G.2.1, 4, .inl (upd (upd (upd (upd (fun _ => 0) 0 (-1)) 1 (-1)) 2 (-1)) 3 (-1)))), (hz, .inl (G.2.1, 4, .inl (fun _ => 0)))]) rfl (vin (by decide +kernel)) (k := 2) (by decide +kernel) (rfl) dX4_holdRow_27 (fun H locs hP hD hS => ?_)
    refine lv_aload_n hx hb dX4_holdRow_28 rfl (lv_at hl 0 rfl) ?_
    refine gf_X4_24 hC rfl hK hP 0 rfl rfl dX4_holdRow_29 ?_
    refine lv_iload_n hx hb dX4_holdRow_32 rfl (lv_at hl 1 rfl) ?_
    refine lv_aload_n hx hb dX4_holdRow_33 rfl (lv_at hl 0 rfl) ?_
    refine lv_iload_n hx hb dX4_holdRow_34 rfl (lv_at hl 2 rfl) ?_
    refine pV hC hK hl hP hD (c_size_1 l G Ho hs hz hi hw hn ht) si_X4_44 [0, 5] rfl rfl (by decide) rfl rfl rfl rfl rfl (Nat.le_of_ble_eq_true rfl) ⟨Nat.le_of_ble_eq_true rfl, Nat.le_of_ble_eq_true rfl⟩ ⟨by first | exact Nat.le_of_ble_eq_true rfl | exact Nat.zero_le _, by first | exact Nat.le_of_ble_eq_true rfl | exact Nat.zero_le _⟩ dX4_holdRow_35 (fun r969 hr969 => ?_)
    obtain rfl := hr969
    refine ast hC hK hP hD hS 2 (ws' := [(Ho, .inr (4, [.ref hs, .ref hz, .ref hi, .ref hw, .ref hn, .ref ht])), (hw, .inl (G.2.1, 4, .inl (upd (upd (upd (upd (upd (fun _ => 0) 0 4) 1 4) 2 4) 3 4) 2 4))), (hn, .inl (G.2.1, 4, .inl (upd (fun _ => 0) 2 0))), (ht, .inl (G.2.1, 4, .inl (fun _ => 0))), (hs, .inl (G.2.1, 4, .inl (upd (upd (upd (upd (fun _ => 0) 0 (-1)) 1 (-1)) 2 (-1)) 3 (-1)))), (hz, .inl (G.2.1, 4, .inl (fun _ => 0)))]) rfl (vin (by decide +kernel)) (k := 2) (by decide +kernel) (rfl) dX4_holdRow_38 (fun H locs hP hD hS => ?_)
    refine lv_aload_n hx hb dX4_holdRow_39 rfl (lv_at hl 0 rfl) ?_
    refine gf_X4_27 hC rfl hK hP 0 rfl rfl dX4_holdRow_40 ?_
    refine lv_iload_n hx hb dX4_holdRow_43 rfl (lv_at hl 1 rfl) ?_
    refine lv_aload_n hx hb dX4_holdRow_44 rfl (lv_at hl 0 rfl) ?_
    refine lv_iload_n hx hb dX4_holdRow_45 rfl (lv_at hl 2 rfl) ?_
    refine pV hC hK hl hP hD (c_sort_1 l G Ho hs hz hi hw hn ht) si_X4_38 [0, 4] rfl rfl (by decide) rfl rfl rfl rfl rfl (Nat.le_of_ble_eq_true rfl) ⟨Nat.le_of_ble_eq_true rfl, Nat.le_of_ble_eq_true rfl⟩ ⟨by first | exact Nat.le_of_ble_eq_true rfl | exact Nat.zero_le _, by first | exact Nat.le_of_ble_eq_true rfl | exact Nat.zero_le _⟩ dX4_holdRow_46 (fun r971 hr971 => ?_)
    obtain rfl := hr971
    refine ast hC hK hP hD hS 3 (ws' := [(Ho, .inr (4, [.ref hs, .ref hz, .ref hi, .ref hw, .ref hn, .ref ht])), (hw, .inl (G.2.1, 4, .inl (upd (upd (upd (upd (upd (fun _ => 0) 0 4) 1 4) 2 4) 3 4) 2 4))), (hn, .inl (G.2.1, 4, .inl (upd (fun _ => 0) 2 0))), (ht, .inl (G.2.1, 4, .inl (upd (fun _ => 0) 2 (-1)))), (hs, .inl (G.2.1, 4, .inl (upd (upd (upd (upd (fun _ => 0) 0 (-1)) 1 (-1)) 2 (-1)) 3 (-1)))), (hz, .inl (G.2.1, 4, .inl (fun _ => 0)))]) rfl (vin (by decide +kernel)) (k := 2) (by decide +kernel) (rfl) dX4_holdRow_49 (fun H locs hP hD hS => ?_)
    exact RV hC hP hD hS [] () rfl rfl (by decide) (trivial) dX4_holdRow_50
  · exact absurd (by unfold Wi; decide) a966
set_option maxHeartbeats 4000000 in
set_option maxRecDepth 100000 in
theorem c_holdRow_2_2 (l : Launch) (G : GG) (Ho : Nat) (hs : Nat) (hz : Nat) (hi : Nat) (hw : Nat) (hn : Nat) (ht : Nat) : MV l G yX4_holdRow cX4_holdRow 3 4 0 0 [.ref Ho, .int 2, .int 2] [(Ho, .inr (4, [.ref hs, .ref hz, .ref hi, .ref hw, .ref hn, .ref ht])), (hw, .inl (G.2.1, 4, .inl (upd (upd (upd (upd (fun _ => 0) 0 4) 1 4) 2 4) 3 4))), (hn, .inl (G.2.1, 4, .inl (fun _ => 0))), (ht, .inl (G.2.1, 4, .inl (fun _ => 0))), (hs, .inl (G.2.1, 4, .inl (upd (upd (upd (upd (fun _ => 0) 0 (-1)) 1 (-1)) 2 (-1)) 3 (-1)))), (hz, .inl (G.2.1, 4, .inl (fun _ => 0)))] (fun u : Unit => True) (fun u : Unit => []) := by
  refine MV.start (by decide +kernel) (Nat.le_of_ble_eq_true rfl) ?_
  intro p e s m below meth c A ls hC hK hP hD hS hA hl
  have hl : lv_has ls 3 [(0, .ref Ho), (1, .int 2), (2, .int 2)] := hl
  obtain ⟨hx, hb, hr, hml, hB, hown, hlocks, hnm⟩ := id hC
  refine lv_iload_n hx hb dX4_holdRow_0 rfl (lv_at hl 1 rfl) ?_
  refine pSN hC hK hl (c_isShelf l G 2) si_X4_41 rfl rfl (Nat.le_of_ble_eq_true rfl) ⟨Nat.le_of_ble_eq_true rfl, Nat.le_of_ble_eq_true rfl⟩ ⟨by first | exact Nat.le_of_ble_eq_true rfl | exact Nat.zero_le _, by first | exact Nat.le_of_ble_eq_true rfl | exact Nat.zero_le _⟩ dX4_holdRow_1 (fun r973 hr973 => ?_)
  rcases hr973 with ⟨rfl, a974⟩ | ⟨rfl, a974⟩
  · refine lv_if_ne (tgt := 8) hx hb dX4_holdRow_4 (by decide) (fun _ => ?_) (fun c9 => absurd c9 (by decide))
    refine lv_aload_n hx hb dX4_holdRow_8 rfl (lv_at hl 0 rfl) ?_
    refine gf_X4_21 hC rfl hK hP 0 rfl rfl dX4_holdRow_9 ?_
    refine lv_iload_n hx hb dX4_holdRow_12 rfl (lv_at hl 1 rfl) ?_
    refine lv_aload_n hx hb dX4_holdRow_13 rfl (lv_at hl 0 rfl) ?_
    refine lv_iload_n hx hb dX4_holdRow_14 rfl (lv_at hl 2 rfl) ?_
    refine pV hC hK hl hP hD (c_sort_2 l G Ho hs hz hi hw hn ht) si_X4_38 [0, 4] rfl rfl (by decide) rfl rfl rfl rfl rfl (Nat.le_of_ble_eq_true rfl) ⟨Nat.le_of_ble_eq_true rfl, Nat.le_of_ble_eq_true rfl⟩ ⟨by first | exact Nat.le_of_ble_eq_true rfl | exact Nat.zero_le _, by first | exact Nat.le_of_ble_eq_true rfl | exact Nat.zero_le _⟩ dX4_holdRow_15 (fun r975 hr975 => ?_)
    obtain rfl := hr975
    refine lv_iconst (v := (-1)) hx hb dX4_holdRow_18 (by decide) ?_
    refine lv_icmp_ne (tgt := 26) hx hb dX4_holdRow_19 (by decide) (fun c9 => absurd (by decide) c9) (fun _ => ?_)
    refine lv_iconst (v := 4) hx hb dX4_holdRow_22 (by decide) ?_
    refine lv_goto (tgt := 27) hx hb dX4_holdRow_23 (by decide) ?_
    refine ast hC hK hP hD hS 1 (ws' := [(Ho, .inr (4, [.ref hs, .ref hz, .ref hi, .ref hw, .ref hn, .ref ht])), (hw, .inl (G.2.1, 4, .inl (upd (upd (upd (upd (upd (fun _ => 0) 0 4) 1 4) 2 4) 3 4) 2 4))), (hn, .inl (G.2.1, 4, .inl (fun _ => 0))), (ht, .inl (G.2.1, 4, .inl (fun _ => 0))), (hs, .inl (G.2.1, 4, .inl (upd (upd (upd (upd (fun _ => 0) 0 (-1)) 1 (-1)) 2 (-1)) 3 (-1)))), (hz, .inl (G.2.1, 4, .inl (fun _ => 0)))]) rfl (vin (by decide +kernel)) (k := 2) (by decide +kernel) (rfl) dX4_holdRow_27 (fun H locs hP hD hS => ?_)
    refine lv_aload_n hx hb dX4_holdRow_28 rfl (lv_at hl 0 rfl) ?_
    refine gf_X4_24 hC rfl hK hP 0 rfl rfl dX4_holdRow_29 ?_
    refine lv_iload_n hx hb dX4_holdRow_32 rfl (lv_at hl 1 rfl) ?_
    refine lv_aload_n hx hb dX4_holdRow_33 rfl (lv_at hl 0 rfl) ?_
    refine lv_iload_n hx hb dX4_holdRow_34 rfl (lv_at hl 2 rfl) ?_
    refine pV hC hK hl hP hD (c_size_2 l G Ho hs hz hi hw hn ht) si_X4_44 [0, 5] rfl rfl (by decide) rfl rfl rfl rfl rfl (Nat.le_of_ble_eq_true rfl) ⟨Nat.le_of_ble_eq_true rfl, Nat.le_of_ble_eq_true rfl⟩ ⟨by first | exact Nat.le_of_ble_eq_true rfl | exact Nat.zero_le _, by first | exact Nat.le_of_ble_eq_true rfl | exact Nat.zero_le _⟩ dX4_holdRow_35 (fun r977 hr977 => ?_)
    obtain rfl := hr977
    refine ast hC hK hP hD hS 2 (ws' := [(Ho, .inr (4, [.ref hs, .ref hz, .ref hi, .ref hw, .ref hn, .ref ht])), (hw, .inl (G.2.1, 4, .inl (upd (upd (upd (upd (upd (fun _ => 0) 0 4) 1 4) 2 4) 3 4) 2 4))), (hn, .inl (G.2.1, 4, .inl (upd (fun _ => 0) 2 0))), (ht, .inl (G.2.1, 4, .inl (fun _ => 0))), (hs, .inl (G.2.1, 4, .inl (upd (upd (upd (upd (fun _ => 0) 0 (-1)) 1 (-1)) 2 (-1)) 3 (-1)))), (hz, .inl (G.2.1, 4, .inl (fun _ => 0)))]) rfl (vin (by decide +kernel)) (k := 2) (by decide +kernel) (rfl) dX4_holdRow_38 (fun H locs hP hD hS => ?_)
    refine lv_aload_n hx hb dX4_holdRow_39 rfl (lv_at hl 0 rfl) ?_
    refine gf_X4_27 hC rfl hK hP 0 rfl rfl dX4_holdRow_40 ?_
    refine lv_iload_n hx hb dX4_holdRow_43 rfl (lv_at hl 1 rfl) ?_
    refine lv_aload_n hx hb dX4_holdRow_44 rfl (lv_at hl 0 rfl) ?_
    refine lv_iload_n hx hb dX4_holdRow_45 rfl (lv_at hl 2 rfl) ?_
    refine pV hC hK hl hP hD (c_sort_2 l G Ho hs hz hi hw hn ht) si_X4_38 [0, 4] rfl rfl (by decide) rfl rfl rfl rfl rfl (Nat.le_of_ble_eq_true rfl) ⟨Nat.le_of_ble_eq_true rfl, Nat.le_of_ble_eq_true rfl⟩ ⟨by first | exact Nat.le_of_ble_eq_true rfl | exact Nat.zero_le _, by first | exact Nat.le_of_ble_eq_true rfl | exact Nat.zero_le _⟩ dX4_holdRow_46 (fun r979 hr979 => ?_)
    obtain rfl := hr979
    refine ast hC hK hP hD hS 3 (ws' := [(Ho, .inr (4, [.ref hs, .ref hz, .ref hi, .ref hw, .ref hn, .ref ht])), (hw, .inl (G.2.1, 4, .inl (upd (upd (upd (upd (upd (fun _ => 0) 0 4) 1 4) 2 4) 3 4) 2 4))), (hn, .inl (G.2.1, 4, .inl (upd (fun _ => 0) 2 0))), (ht, .inl (G.2.1, 4, .inl (upd (fun _ => 0) 2 (-1)))), (hs, .inl (G.2.1, 4, .inl (upd (upd (upd (upd (fun _ => 0) 0 (-1)) 1 (-1)) 2 (-1)) 3 (-1)))), (hz, .inl (G.2.1, 4, .inl (fun _ => 0)))]) rfl (vin (by decide +kernel)) (k := 2) (by decide +kernel) (rfl) dX4_holdRow_49 (fun H locs hP hD hS => ?_)
    exact RV hC hP hD hS [] () rfl rfl (by decide) (trivial) dX4_holdRow_50
  · exact absurd (by unfold Wi; decide) a974
set_option maxHeartbeats 4000000 in
set_option maxRecDepth 100000 in
theorem c_holdRow_2_3 (l : Launch) (G : GG) (Ho : Nat) (hs : Nat) (hz : Nat) (hi : Nat) (hw : Nat) (hn : Nat) (ht : Nat) : MV l G yX4_holdRow cX4_holdRow 3 4 0 0 [.ref Ho, .int 2, .int 3] [(Ho, .inr (4, [.ref hs, .ref hz, .ref hi, .ref hw, .ref hn, .ref ht])), (hw, .inl (G.2.1, 4, .inl (upd (upd (upd (upd (fun _ => 0) 0 4) 1 4) 2 4) 3 4))), (hn, .inl (G.2.1, 4, .inl (fun _ => 0))), (ht, .inl (G.2.1, 4, .inl (fun _ => 0))), (hs, .inl (G.2.1, 4, .inl (upd (upd (upd (upd (fun _ => 0) 0 (-1)) 1 (-1)) 2 (-1)) 3 (-1)))), (hz, .inl (G.2.1, 4, .inl (fun _ => 0)))] (fun u : Unit => True) (fun u : Unit => []) := by
  refine MV.start (by decide +kernel) (Nat.le_of_ble_eq_true rfl) ?_
  intro p e s m below meth c A ls hC hK hP hD hS hA hl
  have hl : lv_has ls 3 [(0, .ref Ho), (1, .int 2), (2, .int 3)] := hl
  obtain ⟨hx, hb, hr, hml, hB, hown, hlocks, hnm⟩ := id hC
  refine lv_iload_n hx hb dX4_holdRow_0 rfl (lv_at hl 1 rfl) ?_
  refine pSN hC hK hl (c_isShelf l G 2) si_X4_41 rfl rfl (Nat.le_of_ble_eq_true rfl) ⟨Nat.le_of_ble_eq_true rfl, Nat.le_of_ble_eq_true rfl⟩ ⟨by first | exact Nat.le_of_ble_eq_true rfl | exact Nat.zero_le _, by first | exact Nat.le_of_ble_eq_true rfl | exact Nat.zero_le _⟩ dX4_holdRow_1 (fun r981 hr981 => ?_)
  rcases hr981 with ⟨rfl, a982⟩ | ⟨rfl, a982⟩
  · refine lv_if_ne (tgt := 8) hx hb dX4_holdRow_4 (by decide) (fun _ => ?_) (fun c9 => absurd c9 (by decide))
    refine lv_aload_n hx hb dX4_holdRow_8 rfl (lv_at hl 0 rfl) ?_
    refine gf_X4_21 hC rfl hK hP 0 rfl rfl dX4_holdRow_9 ?_
    refine lv_iload_n hx hb dX4_holdRow_12 rfl (lv_at hl 1 rfl) ?_
    refine lv_aload_n hx hb dX4_holdRow_13 rfl (lv_at hl 0 rfl) ?_
    refine lv_iload_n hx hb dX4_holdRow_14 rfl (lv_at hl 2 rfl) ?_
    refine pV hC hK hl hP hD (c_sort_3 l G Ho hs hz hi hw hn ht) si_X4_38 [0, 4] rfl rfl (by decide) rfl rfl rfl rfl rfl (Nat.le_of_ble_eq_true rfl) ⟨Nat.le_of_ble_eq_true rfl, Nat.le_of_ble_eq_true rfl⟩ ⟨by first | exact Nat.le_of_ble_eq_true rfl | exact Nat.zero_le _, by first | exact Nat.le_of_ble_eq_true rfl | exact Nat.zero_le _⟩ dX4_holdRow_15 (fun r983 hr983 => ?_)
    obtain rfl := hr983
    refine lv_iconst (v := (-1)) hx hb dX4_holdRow_18 (by decide) ?_
    refine lv_icmp_ne (tgt := 26) hx hb dX4_holdRow_19 (by decide) (fun c9 => absurd (by decide) c9) (fun _ => ?_)
    refine lv_iconst (v := 4) hx hb dX4_holdRow_22 (by decide) ?_
    refine lv_goto (tgt := 27) hx hb dX4_holdRow_23 (by decide) ?_
    refine ast hC hK hP hD hS 1 (ws' := [(Ho, .inr (4, [.ref hs, .ref hz, .ref hi, .ref hw, .ref hn, .ref ht])), (hw, .inl (G.2.1, 4, .inl (upd (upd (upd (upd (upd (fun _ => 0) 0 4) 1 4) 2 4) 3 4) 2 4))), (hn, .inl (G.2.1, 4, .inl (fun _ => 0))), (ht, .inl (G.2.1, 4, .inl (fun _ => 0))), (hs, .inl (G.2.1, 4, .inl (upd (upd (upd (upd (fun _ => 0) 0 (-1)) 1 (-1)) 2 (-1)) 3 (-1)))), (hz, .inl (G.2.1, 4, .inl (fun _ => 0)))]) rfl (vin (by decide +kernel)) (k := 2) (by decide +kernel) (rfl) dX4_holdRow_27 (fun H locs hP hD hS => ?_)
    refine lv_aload_n hx hb dX4_holdRow_28 rfl (lv_at hl 0 rfl) ?_
    refine gf_X4_24 hC rfl hK hP 0 rfl rfl dX4_holdRow_29 ?_
    refine lv_iload_n hx hb dX4_holdRow_32 rfl (lv_at hl 1 rfl) ?_
    refine lv_aload_n hx hb dX4_holdRow_33 rfl (lv_at hl 0 rfl) ?_
    refine lv_iload_n hx hb dX4_holdRow_34 rfl (lv_at hl 2 rfl) ?_
    refine pV hC hK hl hP hD (c_size_3 l G Ho hs hz hi hw hn ht) si_X4_44 [0, 5] rfl rfl (by decide) rfl rfl rfl rfl rfl (Nat.le_of_ble_eq_true rfl) ⟨Nat.le_of_ble_eq_true rfl, Nat.le_of_ble_eq_true rfl⟩ ⟨by first | exact Nat.le_of_ble_eq_true rfl | exact Nat.zero_le _, by first | exact Nat.le_of_ble_eq_true rfl | exact Nat.zero_le _⟩ dX4_holdRow_35 (fun r985 hr985 => ?_)
    obtain rfl := hr985
    refine ast hC hK hP hD hS 2 (ws' := [(Ho, .inr (4, [.ref hs, .ref hz, .ref hi, .ref hw, .ref hn, .ref ht])), (hw, .inl (G.2.1, 4, .inl (upd (upd (upd (upd (upd (fun _ => 0) 0 4) 1 4) 2 4) 3 4) 2 4))), (hn, .inl (G.2.1, 4, .inl (upd (fun _ => 0) 2 0))), (ht, .inl (G.2.1, 4, .inl (fun _ => 0))), (hs, .inl (G.2.1, 4, .inl (upd (upd (upd (upd (fun _ => 0) 0 (-1)) 1 (-1)) 2 (-1)) 3 (-1)))), (hz, .inl (G.2.1, 4, .inl (fun _ => 0)))]) rfl (vin (by decide +kernel)) (k := 2) (by decide +kernel) (rfl) dX4_holdRow_38 (fun H locs hP hD hS => ?_)
    refine lv_aload_n hx hb dX4_holdRow_39 rfl (lv_at hl 0 rfl) ?_
    refine gf_X4_27 hC rfl hK hP 0 rfl rfl dX4_holdRow_40 ?_
    refine lv_iload_n hx hb dX4_holdRow_43 rfl (lv_at hl 1 rfl) ?_
    refine lv_aload_n hx hb dX4_holdRow_44 rfl (lv_at hl 0 rfl) ?_
    refine lv_iload_n hx hb dX4_holdRow_45 rfl (lv_at hl 2 rfl) ?_
    refine pV hC hK hl hP hD (c_sort_3 l G Ho hs hz hi hw hn ht) si_X4_38 [0, 4] rfl rfl (by decide) rfl rfl rfl rfl rfl (Nat.le_of_ble_eq_true rfl) ⟨Nat.le_of_ble_eq_true rfl, Nat.le_of_ble_eq_true rfl⟩ ⟨by first | exact Nat.le_of_ble_eq_true rfl | exact Nat.zero_le _, by first | exact Nat.le_of_ble_eq_true rfl | exact Nat.zero_le _⟩ dX4_holdRow_46 (fun r987 hr987 => ?_)
    obtain rfl := hr987
    refine ast hC hK hP hD hS 3 (ws' := [(Ho, .inr (4, [.ref hs, .ref hz, .ref hi, .ref hw, .ref hn, .ref ht])), (hw, .inl (G.2.1, 4, .inl (upd (upd (upd (upd (upd (fun _ => 0) 0 4) 1 4) 2 4) 3 4) 2 4))), (hn, .inl (G.2.1, 4, .inl (upd (fun _ => 0) 2 0))), (ht, .inl (G.2.1, 4, .inl (upd (fun _ => 0) 2 (-1)))), (hs, .inl (G.2.1, 4, .inl (upd (upd (upd (upd (fun _ => 0) 0 (-1)) 1 (-1)) 2 (-1)) 3 (-1)))), (hz, .inl (G.2.1, 4, .inl (fun _ => 0)))]) rfl (vin (by decide +kernel)) (k := 2) (by decide +kernel) (rfl) dX4_holdRow_49 (fun H locs hP hD hS => ?_)
    exact RV hC hP hD hS [] () rfl rfl (by decide) (trivial) dX4_holdRow_50
  · exact absurd (by unfold Wi; decide) a982
set_option maxHeartbeats 4000000 in
set_option maxRecDepth 100000 in
theorem c_hold_3 (l : Launch) (G : GG) (Ho : Nat) (wh : Int32) (n : Int32) (hs : Nat) (hz : Nat) (hi : Nat) (hw : Nat) (hn : Nat) (ht : Nat) : MV l G yX4_hold cX4_hold 4 3 0 0 [.ref Ho, .int 3, .int wh, .int n] [(Ho, .inr (4, [.ref hs, .ref hz, .ref hi, .ref hw, .ref hn, .ref ht])), (hw, .inl (G.2.1, 4, .inl (upd (upd (upd (upd (fun _ => 0) 0 4) 1 4) 2 4) 3 4))), (hn, .inl (G.2.1, 4, .inl (fun _ => 0)))] (fun u : Unit => True) (fun u : Unit => []) := by
  refine MV.start (by decide +kernel) (Nat.le_of_ble_eq_true rfl) ?_
  intro p e s m below meth c A ls hC hK hP hD hS hA hl
  have hl : lv_has ls 4 [(0, .ref Ho), (1, .int 3), (2, .int wh), (3, .int n)] := hl
  obtain ⟨hx, hb, hr, hml, hB, hown, hlocks, hnm⟩ := id hC
  refine lv_iload_n hx hb dX4_hold_0 rfl (lv_at hl 1 rfl) ?_
  refine pSN hC hK hl (c_isShelf l G 3) si_X4_41 rfl rfl (Nat.le_of_ble_eq_true rfl) ⟨Nat.le_of_ble_eq_true rfl, Nat.le_of_ble_eq_true rfl⟩ ⟨by first | exact Nat.le_of_ble_eq_true rfl | exact Nat.zero_le _, by first | exact Nat.le_of_ble_eq_true rfl | exact Nat.zero_le _⟩ dX4_hold_1 (fun r989 hr989 => ?_)
  rcases hr989 with ⟨rfl, a990⟩ | ⟨rfl, a990⟩
  · refine lv_if_ne (tgt := 8) hx hb dX4_hold_4 (by decide) (fun _ => ?_) (fun c9 => absurd c9 (by decide))
    refine lv_aload_n hx hb dX4_hold_8 rfl (lv_at hl 0 rfl) ?_
    refine gf_X4_21 hC rfl hK hP 0 rfl rfl dX4_hold_9 ?_
    refine lv_iload_n hx hb dX4_hold_12 rfl (lv_at hl 1 rfl) ?_
    refine lv_iload_n hx hb dX4_hold_13 rfl (lv_at hl 2 rfl) ?_
    refine ast hC hK hP hD hS 1 (ws' := [(Ho, .inr (4, [.ref hs, .ref hz, .ref hi, .ref hw, .ref hn, .ref ht])), (hw, .inl (G.2.1, 4, .inl (upd (upd (upd (upd (upd (fun _ => 0) 0 4) 1 4) 2 4) 3 4) 3 wh))), (hn, .inl (G.2.1, 4, .inl (fun _ => 0)))]) rfl (vin (by decide +kernel)) (k := 3) (by decide +kernel) (rfl) dX4_hold_14 (fun H locs hP hD hS => ?_)
    refine lv_aload_n hx hb dX4_hold_15 rfl (lv_at hl 0 rfl) ?_
    refine gf_X4_24 hC rfl hK hP 0 rfl rfl dX4_hold_16 ?_
    refine lv_iload_n hx hb dX4_hold_19 rfl (lv_at hl 1 rfl) ?_
    refine lv_iload_n hx hb dX4_hold_20 rfl (lv_at hl 3 rfl) ?_
    refine ast hC hK hP hD hS 2 (ws' := [(Ho, .inr (4, [.ref hs, .ref hz, .ref hi, .ref hw, .ref hn, .ref ht])), (hw, .inl (G.2.1, 4, .inl (upd (upd (upd (upd (upd (fun _ => 0) 0 4) 1 4) 2 4) 3 4) 3 wh))), (hn, .inl (G.2.1, 4, .inl (upd (fun _ => 0) 3 n)))]) rfl (vin (by decide +kernel)) (k := 3) (by decide +kernel) (rfl) dX4_hold_21 (fun H locs hP hD hS => ?_)
    exact RV hC hP hD hS [] () rfl rfl (by decide) (trivial) dX4_hold_22
  · exact absurd (by unfold Wi; decide) a990
set_option maxHeartbeats 4000000 in
set_option maxRecDepth 100000 in
theorem c_holdRow_3_0 (l : Launch) (G : GG) (Ho : Nat) (hs : Nat) (hz : Nat) (hi : Nat) (hw : Nat) (hn : Nat) (ht : Nat) : MV l G yX4_holdRow cX4_holdRow 3 4 0 0 [.ref Ho, .int 3, .int 0] [(Ho, .inr (4, [.ref hs, .ref hz, .ref hi, .ref hw, .ref hn, .ref ht])), (hw, .inl (G.2.1, 4, .inl (upd (upd (upd (upd (fun _ => 0) 0 4) 1 4) 2 4) 3 4))), (hn, .inl (G.2.1, 4, .inl (fun _ => 0))), (ht, .inl (G.2.1, 4, .inl (fun _ => 0))), (hs, .inl (G.2.1, 4, .inl (upd (upd (upd (upd (fun _ => 0) 0 (-1)) 1 (-1)) 2 (-1)) 3 (-1)))), (hz, .inl (G.2.1, 4, .inl (fun _ => 0)))] (fun u : Unit => True) (fun u : Unit => []) := by
  refine MV.start (by decide +kernel) (Nat.le_of_ble_eq_true rfl) ?_
  intro p e s m below meth c A ls hC hK hP hD hS hA hl
  have hl : lv_has ls 3 [(0, .ref Ho), (1, .int 3), (2, .int 0)] := hl
  obtain ⟨hx, hb, hr, hml, hB, hown, hlocks, hnm⟩ := id hC
  refine lv_iload_n hx hb dX4_holdRow_0 rfl (lv_at hl 1 rfl) ?_
  refine pSN hC hK hl (c_isShelf l G 3) si_X4_41 rfl rfl (Nat.le_of_ble_eq_true rfl) ⟨Nat.le_of_ble_eq_true rfl, Nat.le_of_ble_eq_true rfl⟩ ⟨by first | exact Nat.le_of_ble_eq_true rfl | exact Nat.zero_le _, by first | exact Nat.le_of_ble_eq_true rfl | exact Nat.zero_le _⟩ dX4_holdRow_1 (fun r991 hr991 => ?_)
  rcases hr991 with ⟨rfl, a992⟩ | ⟨rfl, a992⟩
  · refine lv_if_ne (tgt := 8) hx hb dX4_holdRow_4 (by decide) (fun _ => ?_) (fun c9 => absurd c9 (by decide))
    refine lv_aload_n hx hb dX4_holdRow_8 rfl (lv_at hl 0 rfl) ?_
    refine gf_X4_21 hC rfl hK hP 0 rfl rfl dX4_holdRow_9 ?_
    refine lv_iload_n hx hb dX4_holdRow_12 rfl (lv_at hl 1 rfl) ?_
    refine lv_aload_n hx hb dX4_holdRow_13 rfl (lv_at hl 0 rfl) ?_
    refine lv_iload_n hx hb dX4_holdRow_14 rfl (lv_at hl 2 rfl) ?_
    refine pV hC hK hl hP hD (c_sort_0 l G Ho hs hz hi hw hn ht) si_X4_38 [0, 4] rfl rfl (by decide) rfl rfl rfl rfl rfl (Nat.le_of_ble_eq_true rfl) ⟨Nat.le_of_ble_eq_true rfl, Nat.le_of_ble_eq_true rfl⟩ ⟨by first | exact Nat.le_of_ble_eq_true rfl | exact Nat.zero_le _, by first | exact Nat.le_of_ble_eq_true rfl | exact Nat.zero_le _⟩ dX4_holdRow_15 (fun r993 hr993 => ?_)
    obtain rfl := hr993
    refine lv_iconst (v := (-1)) hx hb dX4_holdRow_18 (by decide) ?_
    refine lv_icmp_ne (tgt := 26) hx hb dX4_holdRow_19 (by decide) (fun c9 => absurd (by decide) c9) (fun _ => ?_)
    refine lv_iconst (v := 4) hx hb dX4_holdRow_22 (by decide) ?_
    refine lv_goto (tgt := 27) hx hb dX4_holdRow_23 (by decide) ?_
    refine ast hC hK hP hD hS 1 (ws' := [(Ho, .inr (4, [.ref hs, .ref hz, .ref hi, .ref hw, .ref hn, .ref ht])), (hw, .inl (G.2.1, 4, .inl (upd (upd (upd (upd (upd (fun _ => 0) 0 4) 1 4) 2 4) 3 4) 3 4))), (hn, .inl (G.2.1, 4, .inl (fun _ => 0))), (ht, .inl (G.2.1, 4, .inl (fun _ => 0))), (hs, .inl (G.2.1, 4, .inl (upd (upd (upd (upd (fun _ => 0) 0 (-1)) 1 (-1)) 2 (-1)) 3 (-1)))), (hz, .inl (G.2.1, 4, .inl (fun _ => 0)))]) rfl (vin (by decide +kernel)) (k := 3) (by decide +kernel) (rfl) dX4_holdRow_27 (fun H locs hP hD hS => ?_)
    refine lv_aload_n hx hb dX4_holdRow_28 rfl (lv_at hl 0 rfl) ?_
    refine gf_X4_24 hC rfl hK hP 0 rfl rfl dX4_holdRow_29 ?_
    refine lv_iload_n hx hb dX4_holdRow_32 rfl (lv_at hl 1 rfl) ?_
    refine lv_aload_n hx hb dX4_holdRow_33 rfl (lv_at hl 0 rfl) ?_
    refine lv_iload_n hx hb dX4_holdRow_34 rfl (lv_at hl 2 rfl) ?_
    refine pV hC hK hl hP hD (c_size_0 l G Ho hs hz hi hw hn ht) si_X4_44 [0, 5] rfl rfl (by decide) rfl rfl rfl rfl rfl (Nat.le_of_ble_eq_true rfl) ⟨Nat.le_of_ble_eq_true rfl, Nat.le_of_ble_eq_true rfl⟩ ⟨by first | exact Nat.le_of_ble_eq_true rfl | exact Nat.zero_le _, by first | exact Nat.le_of_ble_eq_true rfl | exact Nat.zero_le _⟩ dX4_holdRow_35 (fun r995 hr995 => ?_)
    obtain rfl := hr995
    refine ast hC hK hP hD hS 2 (ws' := [(Ho, .inr (4, [.ref hs, .ref hz, .ref hi, .ref hw, .ref hn, .ref ht])), (hw, .inl (G.2.1, 4, .inl (upd (upd (upd (upd (upd (fun _ => 0) 0 4) 1 4) 2 4) 3 4) 3 4))), (hn, .inl (G.2.1, 4, .inl (upd (fun _ => 0) 3 0))), (ht, .inl (G.2.1, 4, .inl (fun _ => 0))), (hs, .inl (G.2.1, 4, .inl (upd (upd (upd (upd (fun _ => 0) 0 (-1)) 1 (-1)) 2 (-1)) 3 (-1)))), (hz, .inl (G.2.1, 4, .inl (fun _ => 0)))]) rfl (vin (by decide +kernel)) (k := 3) (by decide +kernel) (rfl) dX4_holdRow_38 (fun H locs hP hD hS => ?_)
    refine lv_aload_n hx hb dX4_holdRow_39 rfl (lv_at hl 0 rfl) ?_
    refine gf_X4_27 hC rfl hK hP 0 rfl rfl dX4_holdRow_40 ?_
    refine lv_iload_n hx hb dX4_holdRow_43 rfl (lv_at hl 1 rfl) ?_
    refine lv_aload_n hx hb dX4_holdRow_44 rfl (lv_at hl 0 rfl) ?_
    refine lv_iload_n hx hb dX4_holdRow_45 rfl (lv_at hl 2 rfl) ?_
    refine pV hC hK hl hP hD (c_sort_0 l G Ho hs hz hi hw hn ht) si_X4_38 [0, 4] rfl rfl (by decide) rfl rfl rfl rfl rfl (Nat.le_of_ble_eq_true rfl) ⟨Nat.le_of_ble_eq_true rfl, Nat.le_of_ble_eq_true rfl⟩ ⟨by first | exact Nat.le_of_ble_eq_true rfl | exact Nat.zero_le _, by first | exact Nat.le_of_ble_eq_true rfl | exact Nat.zero_le _⟩ dX4_holdRow_46 (fun r997 hr997 => ?_)
    obtain rfl := hr997
    refine ast hC hK hP hD hS 3 (ws' := [(Ho, .inr (4, [.ref hs, .ref hz, .ref hi, .ref hw, .ref hn, .ref ht])), (hw, .inl (G.2.1, 4, .inl (upd (upd (upd (upd (upd (fun _ => 0) 0 4) 1 4) 2 4) 3 4) 3 4))), (hn, .inl (G.2.1, 4, .inl (upd (fun _ => 0) 3 0))), (ht, .inl (G.2.1, 4, .inl (upd (fun _ => 0) 3 (-1)))), (hs, .inl (G.2.1, 4, .inl (upd (upd (upd (upd (fun _ => 0) 0 (-1)) 1 (-1)) 2 (-1)) 3 (-1)))), (hz, .inl (G.2.1, 4, .inl (fun _ => 0)))]) rfl (vin (by decide +kernel)) (k := 3) (by decide +kernel) (rfl) dX4_holdRow_49 (fun H locs hP hD hS => ?_)
    exact RV hC hP hD hS [] () rfl rfl (by decide) (trivial) dX4_holdRow_50
  · exact absurd (by unfold Wi; decide) a992
set_option maxHeartbeats 4000000 in
set_option maxRecDepth 100000 in
theorem c_holdRow_3_1 (l : Launch) (G : GG) (Ho : Nat) (hs : Nat) (hz : Nat) (hi : Nat) (hw : Nat) (hn : Nat) (ht : Nat) : MV l G yX4_holdRow cX4_holdRow 3 4 0 0 [.ref Ho, .int 3, .int 1] [(Ho, .inr (4, [.ref hs, .ref hz, .ref hi, .ref hw, .ref hn, .ref ht])), (hw, .inl (G.2.1, 4, .inl (upd (upd (upd (upd (fun _ => 0) 0 4) 1 4) 2 4) 3 4))), (hn, .inl (G.2.1, 4, .inl (fun _ => 0))), (ht, .inl (G.2.1, 4, .inl (fun _ => 0))), (hs, .inl (G.2.1, 4, .inl (upd (upd (upd (upd (fun _ => 0) 0 (-1)) 1 (-1)) 2 (-1)) 3 (-1)))), (hz, .inl (G.2.1, 4, .inl (fun _ => 0)))] (fun u : Unit => True) (fun u : Unit => []) := by
  refine MV.start (by decide +kernel) (Nat.le_of_ble_eq_true rfl) ?_
  intro p e s m below meth c A ls hC hK hP hD hS hA hl
  have hl : lv_has ls 3 [(0, .ref Ho), (1, .int 3), (2, .int 1)] := hl
  obtain ⟨hx, hb, hr, hml, hB, hown, hlocks, hnm⟩ := id hC
  refine lv_iload_n hx hb dX4_holdRow_0 rfl (lv_at hl 1 rfl) ?_
  refine pSN hC hK hl (c_isShelf l G 3) si_X4_41 rfl rfl (Nat.le_of_ble_eq_true rfl) ⟨Nat.le_of_ble_eq_true rfl, Nat.le_of_ble_eq_true rfl⟩ ⟨by first | exact Nat.le_of_ble_eq_true rfl | exact Nat.zero_le _, by first | exact Nat.le_of_ble_eq_true rfl | exact Nat.zero_le _⟩ dX4_holdRow_1 (fun r999 hr999 => ?_)
  rcases hr999 with ⟨rfl, a1000⟩ | ⟨rfl, a1000⟩
  · refine lv_if_ne (tgt := 8) hx hb dX4_holdRow_4 (by decide) (fun _ => ?_) (fun c9 => absurd c9 (by decide))
    refine lv_aload_n hx hb dX4_holdRow_8 rfl (lv_at hl 0 rfl) ?_
    refine gf_X4_21 hC rfl hK hP 0 rfl rfl dX4_holdRow_9 ?_
    refine lv_iload_n hx hb dX4_holdRow_12 rfl (lv_at hl 1 rfl) ?_
    refine lv_aload_n hx hb dX4_holdRow_13 rfl (lv_at hl 0 rfl) ?_
    refine lv_iload_n hx hb dX4_holdRow_14 rfl (lv_at hl 2 rfl) ?_
    refine pV hC hK hl hP hD (c_sort_1 l G Ho hs hz hi hw hn ht) si_X4_38 [0, 4] rfl rfl (by decide) rfl rfl rfl rfl rfl (Nat.le_of_ble_eq_true rfl) ⟨Nat.le_of_ble_eq_true rfl, Nat.le_of_ble_eq_true rfl⟩ ⟨by first | exact Nat.le_of_ble_eq_true rfl | exact Nat.zero_le _, by first | exact Nat.le_of_ble_eq_true rfl | exact Nat.zero_le _⟩ dX4_holdRow_15 (fun r1001 hr1001 => ?_)
    obtain rfl := hr1001
    refine lv_iconst (v := (-1)) hx hb dX4_holdRow_18 (by decide) ?_
    refine lv_icmp_ne (tgt := 26) hx hb dX4_holdRow_19 (by decide) (fun c9 => absurd (by decide) c9) (fun _ => ?_)
    refine lv_iconst (v := 4) hx hb dX4_holdRow_22 (by decide) ?_
    refine lv_goto (tgt := 27) hx hb dX4_holdRow_23 (by decide) ?_
    refine ast hC hK hP hD hS 1 (ws' := [(Ho, .inr (4, [.ref hs, .ref hz, .ref hi, .ref hw, .ref hn, .ref ht])), (hw, .inl (G.2.1, 4, .inl (upd (upd (upd (upd (upd (fun _ => 0) 0 4) 1 4) 2 4) 3 4) 3 4))), (hn, .inl (G.2.1, 4, .inl (fun _ => 0))), (ht, .inl (G.2.1, 4, .inl (fun _ => 0))), (hs, .inl (G.2.1, 4, .inl (upd (upd (upd (upd (fun _ => 0) 0 (-1)) 1 (-1)) 2 (-1)) 3 (-1)))), (hz, .inl (G.2.1, 4, .inl (fun _ => 0)))]) rfl (vin (by decide +kernel)) (k := 3) (by decide +kernel) (rfl) dX4_holdRow_27 (fun H locs hP hD hS => ?_)
    refine lv_aload_n hx hb dX4_holdRow_28 rfl (lv_at hl 0 rfl) ?_
    refine gf_X4_24 hC rfl hK hP 0 rfl rfl dX4_holdRow_29 ?_
    refine lv_iload_n hx hb dX4_holdRow_32 rfl (lv_at hl 1 rfl) ?_
    refine lv_aload_n hx hb dX4_holdRow_33 rfl (lv_at hl 0 rfl) ?_
    refine lv_iload_n hx hb dX4_holdRow_34 rfl (lv_at hl 2 rfl) ?_
    refine pV hC hK hl hP hD (c_size_1 l G Ho hs hz hi hw hn ht) si_X4_44 [0, 5] rfl rfl (by decide) rfl rfl rfl rfl rfl (Nat.le_of_ble_eq_true rfl) ⟨Nat.le_of_ble_eq_true rfl, Nat.le_of_ble_eq_true rfl⟩ ⟨by first | exact Nat.le_of_ble_eq_true rfl | exact Nat.zero_le _, by first | exact Nat.le_of_ble_eq_true rfl | exact Nat.zero_le _⟩ dX4_holdRow_35 (fun r1003 hr1003 => ?_)
    obtain rfl := hr1003
    refine ast hC hK hP hD hS 2 (ws' := [(Ho, .inr (4, [.ref hs, .ref hz, .ref hi, .ref hw, .ref hn, .ref ht])), (hw, .inl (G.2.1, 4, .inl (upd (upd (upd (upd (upd (fun _ => 0) 0 4) 1 4) 2 4) 3 4) 3 4))), (hn, .inl (G.2.1, 4, .inl (upd (fun _ => 0) 3 0))), (ht, .inl (G.2.1, 4, .inl (fun _ => 0))), (hs, .inl (G.2.1, 4, .inl (upd (upd (upd (upd (fun _ => 0) 0 (-1)) 1 (-1)) 2 (-1)) 3 (-1)))), (hz, .inl (G.2.1, 4, .inl (fun _ => 0)))]) rfl (vin (by decide +kernel)) (k := 3) (by decide +kernel) (rfl) dX4_holdRow_38 (fun H locs hP hD hS => ?_)
    refine lv_aload_n hx hb dX4_holdRow_39 rfl (lv_at hl 0 rfl) ?_
    refine gf_X4_27 hC rfl hK hP 0 rfl rfl dX4_holdRow_40 ?_
    refine lv_iload_n hx hb dX4_holdRow_43 rfl (lv_at hl 1 rfl) ?_
    refine lv_aload_n hx hb dX4_holdRow_44 rfl (lv_at hl 0 rfl) ?_
    refine lv_iload_n hx hb dX4_holdRow_45 rfl (lv_at hl 2 rfl) ?_
    refine pV hC hK hl hP hD (c_sort_1 l G Ho hs hz hi hw hn ht) si_X4_38 [0, 4] rfl rfl (by decide) rfl rfl rfl rfl rfl (Nat.le_of_ble_eq_true rfl) ⟨Nat.le_of_ble_eq_true rfl, Nat.le_of_ble_eq_true rfl⟩ ⟨by first | exact Nat.le_of_ble_eq_true rfl | exact Nat.zero_le _, by first | exact Nat.le_of_ble_eq_true rfl | exact Nat.zero_le _⟩ dX4_holdRow_46 (fun r1005 hr1005 => ?_)
    obtain rfl := hr1005
    refine ast hC hK hP hD hS 3 (ws' := [(Ho, .inr (4, [.ref hs, .ref hz, .ref hi, .ref hw, .ref hn, .ref ht])), (hw, .inl (G.2.1, 4, .inl (upd (upd (upd (upd (upd (fun _ => 0) 0 4) 1 4) 2 4) 3 4) 3 4))), (hn, .inl (G.2.1, 4, .inl (upd (fun _ => 0) 3 0))), (ht, .inl (G.2.1, 4, .inl (upd (fun _ => 0) 3 (-1)))), (hs, .inl (G.2.1, 4, .inl (upd (upd (upd (upd (fun _ => 0) 0 (-1)) 1 (-1)) 2 (-1)) 3 (-1)))), (hz, .inl (G.2.1, 4, .inl (fun _ => 0)))]) rfl (vin (by decide +kernel)) (k := 3) (by decide +kernel) (rfl) dX4_holdRow_49 (fun H locs hP hD hS => ?_)
    exact RV hC hP hD hS [] () rfl rfl (by decide) (trivial) dX4_holdRow_50
  · exact absurd (by unfold Wi; decide) a1000
set_option maxHeartbeats 4000000 in
set_option maxRecDepth 100000 in
theorem c_holdRow_3_2 (l : Launch) (G : GG) (Ho : Nat) (hs : Nat) (hz : Nat) (hi : Nat) (hw : Nat) (hn : Nat) (ht : Nat) : MV l G yX4_holdRow cX4_holdRow 3 4 0 0 [.ref Ho, .int 3, .int 2] [(Ho, .inr (4, [.ref hs, .ref hz, .ref hi, .ref hw, .ref hn, .ref ht])), (hw, .inl (G.2.1, 4, .inl (upd (upd (upd (upd (fun _ => 0) 0 4) 1 4) 2 4) 3 4))), (hn, .inl (G.2.1, 4, .inl (fun _ => 0))), (ht, .inl (G.2.1, 4, .inl (fun _ => 0))), (hs, .inl (G.2.1, 4, .inl (upd (upd (upd (upd (fun _ => 0) 0 (-1)) 1 (-1)) 2 (-1)) 3 (-1)))), (hz, .inl (G.2.1, 4, .inl (fun _ => 0)))] (fun u : Unit => True) (fun u : Unit => []) := by
  refine MV.start (by decide +kernel) (Nat.le_of_ble_eq_true rfl) ?_
  intro p e s m below meth c A ls hC hK hP hD hS hA hl
  have hl : lv_has ls 3 [(0, .ref Ho), (1, .int 3), (2, .int 2)] := hl
  obtain ⟨hx, hb, hr, hml, hB, hown, hlocks, hnm⟩ := id hC
  refine lv_iload_n hx hb dX4_holdRow_0 rfl (lv_at hl 1 rfl) ?_
  refine pSN hC hK hl (c_isShelf l G 3) si_X4_41 rfl rfl (Nat.le_of_ble_eq_true rfl) ⟨Nat.le_of_ble_eq_true rfl, Nat.le_of_ble_eq_true rfl⟩ ⟨by first | exact Nat.le_of_ble_eq_true rfl | exact Nat.zero_le _, by first | exact Nat.le_of_ble_eq_true rfl | exact Nat.zero_le _⟩ dX4_holdRow_1 (fun r1007 hr1007 => ?_)
  rcases hr1007 with ⟨rfl, a1008⟩ | ⟨rfl, a1008⟩
  · refine lv_if_ne (tgt := 8) hx hb dX4_holdRow_4 (by decide) (fun _ => ?_) (fun c9 => absurd c9 (by decide))
    refine lv_aload_n hx hb dX4_holdRow_8 rfl (lv_at hl 0 rfl) ?_
    refine gf_X4_21 hC rfl hK hP 0 rfl rfl dX4_holdRow_9 ?_
    refine lv_iload_n hx hb dX4_holdRow_12 rfl (lv_at hl 1 rfl) ?_
    refine lv_aload_n hx hb dX4_holdRow_13 rfl (lv_at hl 0 rfl) ?_
    refine lv_iload_n hx hb dX4_holdRow_14 rfl (lv_at hl 2 rfl) ?_
    refine pV hC hK hl hP hD (c_sort_2 l G Ho hs hz hi hw hn ht) si_X4_38 [0, 4] rfl rfl (by decide) rfl rfl rfl rfl rfl (Nat.le_of_ble_eq_true rfl) ⟨Nat.le_of_ble_eq_true rfl, Nat.le_of_ble_eq_true rfl⟩ ⟨by first | exact Nat.le_of_ble_eq_true rfl | exact Nat.zero_le _, by first | exact Nat.le_of_ble_eq_true rfl | exact Nat.zero_le _⟩ dX4_holdRow_15 (fun r1009 hr1009 => ?_)
    obtain rfl := hr1009
    refine lv_iconst (v := (-1)) hx hb dX4_holdRow_18 (by decide) ?_
    refine lv_icmp_ne (tgt := 26) hx hb dX4_holdRow_19 (by decide) (fun c9 => absurd (by decide) c9) (fun _ => ?_)
    refine lv_iconst (v := 4) hx hb dX4_holdRow_22 (by decide) ?_
    refine lv_goto (tgt := 27) hx hb dX4_holdRow_23 (by decide) ?_
    refine ast hC hK hP hD hS 1 (ws' := [(Ho, .inr (4, [.ref hs, .ref hz, .ref hi, .ref hw, .ref hn, .ref ht])), (hw, .inl (G.2.1, 4, .inl (upd (upd (upd (upd (upd (fun _ => 0) 0 4) 1 4) 2 4) 3 4) 3 4))), (hn, .inl (G.2.1, 4, .inl (fun _ => 0))), (ht, .inl (G.2.1, 4, .inl (fun _ => 0))), (hs, .inl (G.2.1, 4, .inl (upd (upd (upd (upd (fun _ => 0) 0 (-1)) 1 (-1)) 2 (-1)) 3 (-1)))), (hz, .inl (G.2.1, 4, .inl (fun _ => 0)))]) rfl (vin (by decide +kernel)) (k := 3) (by decide +kernel) (rfl) dX4_holdRow_27 (fun H locs hP hD hS => ?_)
    refine lv_aload_n hx hb dX4_holdRow_28 rfl (lv_at hl 0 rfl) ?_
    refine gf_X4_24 hC rfl hK hP 0 rfl rfl dX4_holdRow_29 ?_
    refine lv_iload_n hx hb dX4_holdRow_32 rfl (lv_at hl 1 rfl) ?_
    refine lv_aload_n hx hb dX4_holdRow_33 rfl (lv_at hl 0 rfl) ?_
    refine lv_iload_n hx hb dX4_holdRow_34 rfl (lv_at hl 2 rfl) ?_
    refine pV hC hK hl hP hD (c_size_2 l G Ho hs hz hi hw hn ht) si_X4_44 [0, 5] rfl rfl (by decide) rfl rfl rfl rfl rfl (Nat.le_of_ble_eq_true rfl) ⟨Nat.le_of_ble_eq_true rfl, Nat.le_of_ble_eq_true rfl⟩ ⟨by first | exact Nat.le_of_ble_eq_true rfl | exact Nat.zero_le _, by first | exact Nat.le_of_ble_eq_true rfl | exact Nat.zero_le _⟩ dX4_holdRow_35 (fun r1011 hr1011 => ?_)
    obtain rfl := hr1011
    refine ast hC hK hP hD hS 2 (ws' := [(Ho, .inr (4, [.ref hs, .ref hz, .ref hi, .ref hw, .ref hn, .ref ht])), (hw, .inl (G.2.1, 4, .inl (upd (upd (upd (upd (upd (fun _ => 0) 0 4) 1 4) 2 4) 3 4) 3 4))), (hn, .inl (G.2.1, 4, .inl (upd (fun _ => 0) 3 0))), (ht, .inl (G.2.1, 4, .inl (fun _ => 0))), (hs, .inl (G.2.1, 4, .inl (upd (upd (upd (upd (fun _ => 0) 0 (-1)) 1 (-1)) 2 (-1)) 3 (-1)))), (hz, .inl (G.2.1, 4, .inl (fun _ => 0)))]) rfl (vin (by decide +kernel)) (k := 3) (by decide +kernel) (rfl) dX4_holdRow_38 (fun H locs hP hD hS => ?_)
    refine lv_aload_n hx hb dX4_holdRow_39 rfl (lv_at hl 0 rfl) ?_
    refine gf_X4_27 hC rfl hK hP 0 rfl rfl dX4_holdRow_40 ?_
    refine lv_iload_n hx hb dX4_holdRow_43 rfl (lv_at hl 1 rfl) ?_
    refine lv_aload_n hx hb dX4_holdRow_44 rfl (lv_at hl 0 rfl) ?_
    refine lv_iload_n hx hb dX4_holdRow_45 rfl (lv_at hl 2 rfl) ?_
    refine pV hC hK hl hP hD (c_sort_2 l G Ho hs hz hi hw hn ht) si_X4_38 [0, 4] rfl rfl (by decide) rfl rfl rfl rfl rfl (Nat.le_of_ble_eq_true rfl) ⟨Nat.le_of_ble_eq_true rfl, Nat.le_of_ble_eq_true rfl⟩ ⟨by first | exact Nat.le_of_ble_eq_true rfl | exact Nat.zero_le _, by first | exact Nat.le_of_ble_eq_true rfl | exact Nat.zero_le _⟩ dX4_holdRow_46 (fun r1013 hr1013 => ?_)
    obtain rfl := hr1013
    refine ast hC hK hP hD hS 3 (ws' := [(Ho, .inr (4, [.ref hs, .ref hz, .ref hi, .ref hw, .ref hn, .ref ht])), (hw, .inl (G.2.1, 4, .inl (upd (upd (upd (upd (upd (fun _ => 0) 0 4) 1 4) 2 4) 3 4) 3 4))), (hn, .inl (G.2.1, 4, .inl (upd (fun _ => 0) 3 0))), (ht, .inl (G.2.1, 4, .inl (upd (fun _ => 0) 3 (-1)))), (hs, .inl (G.2.1, 4, .inl (upd (upd (upd (upd (fun _ => 0) 0 (-1)) 1 (-1)) 2 (-1)) 3 (-1)))), (hz, .inl (G.2.1, 4, .inl (fun _ => 0)))]) rfl (vin (by decide +kernel)) (k := 3) (by decide +kernel) (rfl) dX4_holdRow_49 (fun H locs hP hD hS => ?_)
    exact RV hC hP hD hS [] () rfl rfl (by decide) (trivial) dX4_holdRow_50
  · exact absurd (by unfold Wi; decide) a1008
set_option maxHeartbeats 4000000 in
set_option maxRecDepth 100000 in
theorem c_holdRow_3_3 (l : Launch) (G : GG) (Ho : Nat) (hs : Nat) (hz : Nat) (hi : Nat) (hw : Nat) (hn : Nat) (ht : Nat) : MV l G yX4_holdRow cX4_holdRow 3 4 0 0 [.ref Ho, .int 3, .int 3] [(Ho, .inr (4, [.ref hs, .ref hz, .ref hi, .ref hw, .ref hn, .ref ht])), (hw, .inl (G.2.1, 4, .inl (upd (upd (upd (upd (fun _ => 0) 0 4) 1 4) 2 4) 3 4))), (hn, .inl (G.2.1, 4, .inl (fun _ => 0))), (ht, .inl (G.2.1, 4, .inl (fun _ => 0))), (hs, .inl (G.2.1, 4, .inl (upd (upd (upd (upd (fun _ => 0) 0 (-1)) 1 (-1)) 2 (-1)) 3 (-1)))), (hz, .inl (G.2.1, 4, .inl (fun _ => 0)))] (fun u : Unit => True) (fun u : Unit => []) := by
  refine MV.start (by decide +kernel) (Nat.le_of_ble_eq_true rfl) ?_
  intro p e s m below meth c A ls hC hK hP hD hS hA hl
  have hl : lv_has ls 3 [(0, .ref Ho), (1, .int 3), (2, .int 3)] := hl
  obtain ⟨hx, hb, hr, hml, hB, hown, hlocks, hnm⟩ := id hC
  refine lv_iload_n hx hb dX4_holdRow_0 rfl (lv_at hl 1 rfl) ?_
  refine pSN hC hK hl (c_isShelf l G 3) si_X4_41 rfl rfl (Nat.le_of_ble_eq_true rfl) ⟨Nat.le_of_ble_eq_true rfl, Nat.le_of_ble_eq_true rfl⟩ ⟨by first | exact Nat.le_of_ble_eq_true rfl | exact Nat.zero_le _, by first | exact Nat.le_of_ble_eq_true rfl | exact Nat.zero_le _⟩ dX4_holdRow_1 (fun r1015 hr1015 => ?_)
  rcases hr1015 with ⟨rfl, a1016⟩ | ⟨rfl, a1016⟩
  · refine lv_if_ne (tgt := 8) hx hb dX4_holdRow_4 (by decide) (fun _ => ?_) (fun c9 => absurd c9 (by decide))
    refine lv_aload_n hx hb dX4_holdRow_8 rfl (lv_at hl 0 rfl) ?_
    refine gf_X4_21 hC rfl hK hP 0 rfl rfl dX4_holdRow_9 ?_
    refine lv_iload_n hx hb dX4_holdRow_12 rfl (lv_at hl 1 rfl) ?_
    refine lv_aload_n hx hb dX4_holdRow_13 rfl (lv_at hl 0 rfl) ?_
    refine lv_iload_n hx hb dX4_holdRow_14 rfl (lv_at hl 2 rfl) ?_
    refine pV hC hK hl hP hD (c_sort_3 l G Ho hs hz hi hw hn ht) si_X4_38 [0, 4] rfl rfl (by decide) rfl rfl rfl rfl rfl (Nat.le_of_ble_eq_true rfl) ⟨Nat.le_of_ble_eq_true rfl, Nat.le_of_ble_eq_true rfl⟩ ⟨by first | exact Nat.le_of_ble_eq_true rfl | exact Nat.zero_le _, by first | exact Nat.le_of_ble_eq_true rfl | exact Nat.zero_le _⟩ dX4_holdRow_15 (fun r1017 hr1017 => ?_)
    obtain rfl := hr1017
    refine lv_iconst (v := (-1)) hx hb dX4_holdRow_18 (by decide) ?_
    refine lv_icmp_ne (tgt := 26) hx hb dX4_holdRow_19 (by decide) (fun c9 => absurd (by decide) c9) (fun _ => ?_)
    refine lv_iconst (v := 4) hx hb dX4_holdRow_22 (by decide) ?_
    refine lv_goto (tgt := 27) hx hb dX4_holdRow_23 (by decide) ?_
    refine ast hC hK hP hD hS 1 (ws' := [(Ho, .inr (4, [.ref hs, .ref hz, .ref hi, .ref hw, .ref hn, .ref ht])), (hw, .inl (G.2.1, 4, .inl (upd (upd (upd (upd (upd (fun _ => 0) 0 4) 1 4) 2 4) 3 4) 3 4))), (hn, .inl (G.2.1, 4, .inl (fun _ => 0))), (ht, .inl (G.2.1, 4, .inl (fun _ => 0))), (hs, .inl (G.2.1, 4, .inl (upd (upd (upd (upd (fun _ => 0) 0 (-1)) 1 (-1)) 2 (-1)) 3 (-1)))), (hz, .inl (G.2.1, 4, .inl (fun _ => 0)))]) rfl (vin (by decide +kernel)) (k := 3) (by decide +kernel) (rfl) dX4_holdRow_27 (fun H locs hP hD hS => ?_)
    refine lv_aload_n hx hb dX4_holdRow_28 rfl (lv_at hl 0 rfl) ?_
    refine gf_X4_24 hC rfl hK hP 0 rfl rfl dX4_holdRow_29 ?_
    refine lv_iload_n hx hb dX4_holdRow_32 rfl (lv_at hl 1 rfl) ?_
    refine lv_aload_n hx hb dX4_holdRow_33 rfl (lv_at hl 0 rfl) ?_
    refine lv_iload_n hx hb dX4_holdRow_34 rfl (lv_at hl 2 rfl) ?_
    refine pV hC hK hl hP hD (c_size_3 l G Ho hs hz hi hw hn ht) si_X4_44 [0, 5] rfl rfl (by decide) rfl rfl rfl rfl rfl (Nat.le_of_ble_eq_true rfl) ⟨Nat.le_of_ble_eq_true rfl, Nat.le_of_ble_eq_true rfl⟩ ⟨by first | exact Nat.le_of_ble_eq_true rfl | exact Nat.zero_le _, by first | exact Nat.le_of_ble_eq_true rfl | exact Nat.zero_le _⟩ dX4_holdRow_35 (fun r1019 hr1019 => ?_)
    obtain rfl := hr1019
    refine ast hC hK hP hD hS 2 (ws' := [(Ho, .inr (4, [.ref hs, .ref hz, .ref hi, .ref hw, .ref hn, .ref ht])), (hw, .inl (G.2.1, 4, .inl (upd (upd (upd (upd (upd (fun _ => 0) 0 4) 1 4) 2 4) 3 4) 3 4))), (hn, .inl (G.2.1, 4, .inl (upd (fun _ => 0) 3 0))), (ht, .inl (G.2.1, 4, .inl (fun _ => 0))), (hs, .inl (G.2.1, 4, .inl (upd (upd (upd (upd (fun _ => 0) 0 (-1)) 1 (-1)) 2 (-1)) 3 (-1)))), (hz, .inl (G.2.1, 4, .inl (fun _ => 0)))]) rfl (vin (by decide +kernel)) (k := 3) (by decide +kernel) (rfl) dX4_holdRow_38 (fun H locs hP hD hS => ?_)
    refine lv_aload_n hx hb dX4_holdRow_39 rfl (lv_at hl 0 rfl) ?_
    refine gf_X4_27 hC rfl hK hP 0 rfl rfl dX4_holdRow_40 ?_
    refine lv_iload_n hx hb dX4_holdRow_43 rfl (lv_at hl 1 rfl) ?_
    refine lv_aload_n hx hb dX4_holdRow_44 rfl (lv_at hl 0 rfl) ?_
    refine lv_iload_n hx hb dX4_holdRow_45 rfl (lv_at hl 2 rfl) ?_
    refine pV hC hK hl hP hD (c_sort_3 l G Ho hs hz hi hw hn ht) si_X4_38 [0, 4] rfl rfl (by decide) rfl rfl rfl rfl rfl (Nat.le_of_ble_eq_true rfl) ⟨Nat.le_of_ble_eq_true rfl, Nat.le_of_ble_eq_true rfl⟩ ⟨by first | exact Nat.le_of_ble_eq_true rfl | exact Nat.zero_le _, by first | exact Nat.le_of_ble_eq_true rfl | exact Nat.zero_le _⟩ dX4_holdRow_46 (fun r1021 hr1021 => ?_)
    obtain rfl := hr1021
    refine ast hC hK hP hD hS 3 (ws' := [(Ho, .inr (4, [.ref hs, .ref hz, .ref hi, .ref hw, .ref hn, .ref ht])), (hw, .inl (G.2.1, 4, .inl (upd (upd (upd (upd (upd (fun _ => 0) 0 4) 1 4) 2 4) 3 4) 3 4))), (hn, .inl (G.2.1, 4, .inl (upd (fun _ => 0) 3 0))), (ht, .inl (G.2.1, 4, .inl (upd (fun _ => 0) 3 (-1)))), (hs, .inl (G.2.1, 4, .inl (upd (upd (upd (upd (fun _ => 0) 0 (-1)) 1 (-1)) 2 (-1)) 3 (-1)))), (hz, .inl (G.2.1, 4, .inl (fun _ => 0)))]) rfl (vin (by decide +kernel)) (k := 3) (by decide +kernel) (rfl) dX4_holdRow_49 (fun H locs hP hD hS => ?_)
    exact RV hC hP hD hS [] () rfl rfl (by decide) (trivial) dX4_holdRow_50
  · exact absurd (by unfold Wi; decide) a1016
set_option maxHeartbeats 4000000 in
set_option maxRecDepth 100000 in
theorem c_shelf (l : Launch) (G : GG) (h0 : Nat) (s9 : Int32) (w : Int32) (n : Int32) (B : Nat) (K : Nat) (S : Nat) (D : Nat) (R : Nat) (Ta : Nat) (Tp : Nat) (Ro : Nat) (Ho : Nat) (De : Nat) (hs : Nat) (hz : Nat) (hi : Nat) (hw : Nat) (hn : Nat) (ht : Nat) (bpersons : Nat) (bpapers : Nat) (bstamps : Nat) (bversions : Nat) (blines : Nat) (bsteps : Nat) (bsayings : Nat) (bfindings : Nat) (bwarnings : Nat) (bquestions : Nat) (bpapersc : Nat) (bsayingsc : Nat) (bfindingsc : Nat) : MI l G yX11_shelf cX11_shelf 4 (some .int) 5 0 0 [.ref h0, .int s9, .int w, .int n] [(h0, .inr (11, [.ref B, .ref K, .int 0, .ref S, .ref D, .ref R, .ref Ta, .ref Tp, .ref Ro, .ref Ho, .ref De])), (Ho, .inr (4, [.ref hs, .ref hz, .ref hi, .ref hw, .ref hn, .ref ht])), (hw, .inl (G.2.1, 4, .inl (upd (upd (upd (upd (fun _ => 0) 0 4) 1 4) 2 4) 3 4))), (hn, .inl (G.2.1, 4, .inl (fun _ => 0))), (ht, .inl (G.2.1, 4, .inl (fun _ => 0))), (hs, .inl (G.2.1, 4, .inl (upd (upd (upd (upd (fun _ => 0) 0 (-1)) 1 (-1)) 2 (-1)) 3 (-1)))), (hz, .inl (G.2.1, 4, .inl (fun _ => 0))), (B, .inr (0, [.ref bpersons, .ref bpapers, .ref bstamps, .ref bversions, .ref blines, .ref bsteps, .ref bsayings, .ref bfindings, .ref bwarnings, .ref bquestions, .int 0, .int (-1), .int 3, .int 24])), (bpapers, .inr (8, [.int 12, .int 6, .ref bpapersc, .int 0])), (bsayings, .inr (8, [.int 16, .int 8, .ref bsayingsc, .int 0])), (bfindings, .inr (8, [.int 12, .int 4, .ref bfindingsc, .int 0]))] (fun (r : Int32) (u : Unit) => (r = A_shelf s9 w n)) (fun u : Unit => []) := by
  refine MI.start (by decide +kernel) (Nat.le_of_ble_eq_true rfl) ?_
  intro p e s m below meth c A ls hC hK hP hD hS hA hl
  have hl : lv_has ls 4 [(0, .ref h0), (1, .int s9), (2, .int w), (3, .int n)] := hl
  obtain ⟨hx, hb, hr, hml, hB, hown, hlocks, hnm⟩ := id hC
  refine lv_iload_n hx hb dX11_shelf_0 rfl (lv_at hl 1 rfl) ?_
  refine pS hC hK hl (c_isShelf l G s9) si_X11_318 rfl rfl (Nat.le_of_ble_eq_true rfl) ⟨Nat.le_of_ble_eq_true rfl, Nat.le_of_ble_eq_true rfl⟩ ⟨by first | exact Nat.le_of_ble_eq_true rfl | exact Nat.zero_le _, by first | exact Nat.le_of_ble_eq_true rfl | exact Nat.zero_le _⟩ dX11_shelf_1 (fun r1023 hr1023 => ?_)
  rcases hr1023 with ⟨rfl, a1024⟩ | ⟨rfl, a1024⟩
  · rcases Wi_c3 a1024 with rfl | rfl | rfl | rfl
    · refine lv_if_ne (tgt := 9) hx hb dX11_shelf_4 (by decide) (fun _ => ?_) (fun c9 => absurd c9 (by decide))
      refine lv_iload_n hx hb dX11_shelf_9 rfl (lv_at hl 2 rfl) ?_
      by_cases c_10_1025 : w = 0
      · refine lv_tableIn (tgt := 44) hx hb dX11_shelf_10 (by rw [c_10_1025]; decide) (by rw [c_10_1025]; decide) (by rw [c_10_1025]; rfl) (by decide) ?_
        refine lv_aload_n hx hb dX11_shelf_44 rfl (lv_at hl 0 rfl) ?_
        refine gf_X11_15 hC rfl hK hP 0 rfl rfl dX11_shelf_45 ?_
        refine gf_X11_144 hC rfl hK hP 7 rfl rfl dX11_shelf_48 ?_
        refine lv_iload_n hx hb dX11_shelf_51 rfl (lv_at hl 3 rfl) ?_
        refine pV hC hK hl hP hD (c_T_has l G bpapers bpapersc 12 6 0 n) si_X11_124 [8] rfl rfl (by decide) rfl rfl rfl rfl rfl (Nat.le_of_ble_eq_true rfl) ⟨Nat.le_of_ble_eq_true rfl, Nat.le_of_ble_eq_true rfl⟩ ⟨by first | exact Nat.le_of_ble_eq_true rfl | exact Nat.zero_le _, by first | exact Nat.le_of_ble_eq_true rfl | exact Nat.zero_le _⟩ dX11_shelf_52 (fun r1026 hr1026 => ?_)
        rcases hr1026 with ⟨rfl, a1027⟩ | ⟨rfl, a1027⟩
        · exact absurd a1027 (Hs_none _)
        · refine lv_if_ne (tgt := 106) hx hb dX11_shelf_55 (by decide) (fun c9 => absurd (by decide) c9) (fun _ => ?_)
          refine lv_iconst (v := (-1)) hx hb dX11_shelf_58 (by decide) ?_
          exact RI (v := (-1)) hC hP hD hS [] () rfl rfl (by decide) ((by subst c_10_1025; unfold A_shelf; rw [ifc_t a1024, ifc_f (by decide), ifc_f (by decide)])) rfl dX11_shelf_59
      by_cases c_10_1028 : w = 1
      · refine lv_tableIn (tgt := 60) hx hb dX11_shelf_10 (by rw [c_10_1028]; decide) (by rw [c_10_1028]; decide) (by rw [c_10_1028]; rfl) (by decide) ?_
        refine lv_aload_n hx hb dX11_shelf_60 rfl (lv_at hl 0 rfl) ?_
        refine gf_X11_15 hC rfl hK hP 0 rfl rfl dX11_shelf_61 ?_
        refine gf_X11_256 hC rfl hK hP 7 rfl rfl dX11_shelf_64 ?_
        refine lv_iload_n hx hb dX11_shelf_67 rfl (lv_at hl 3 rfl) ?_
        refine pV hC hK hl hP hD (c_T_has l G bsayings bsayingsc 16 8 0 n) si_X11_124 [9] rfl rfl (by decide) rfl rfl rfl rfl rfl (Nat.le_of_ble_eq_true rfl) ⟨Nat.le_of_ble_eq_true rfl, Nat.le_of_ble_eq_true rfl⟩ ⟨by first | exact Nat.le_of_ble_eq_true rfl | exact Nat.zero_le _, by first | exact Nat.le_of_ble_eq_true rfl | exact Nat.zero_le _⟩ dX11_shelf_68 (fun r1029 hr1029 => ?_)
        rcases hr1029 with ⟨rfl, a1030⟩ | ⟨rfl, a1030⟩
        · exact absurd a1030 (Hs_none _)
        · refine lv_if_ne (tgt := 106) hx hb dX11_shelf_71 (by decide) (fun c9 => absurd (by decide) c9) (fun _ => ?_)
          refine lv_iconst (v := (-1)) hx hb dX11_shelf_74 (by decide) ?_
          exact RI (v := (-1)) hC hP hD hS [] () rfl rfl (by decide) ((by subst c_10_1028; unfold A_shelf; rw [ifc_t a1024, ifc_f (by decide), ifc_f (by decide)])) rfl dX11_shelf_75
      by_cases c_10_1031 : w = 2
      · refine lv_tableIn (tgt := 76) hx hb dX11_shelf_10 (by rw [c_10_1031]; decide) (by rw [c_10_1031]; decide) (by rw [c_10_1031]; rfl) (by decide) ?_
        refine lv_aload_n hx hb dX11_shelf_76 rfl (lv_at hl 0 rfl) ?_
        refine gf_X11_15 hC rfl hK hP 0 rfl rfl dX11_shelf_77 ?_
        refine gf_X11_271 hC rfl hK hP 7 rfl rfl dX11_shelf_80 ?_
        refine lv_iload_n hx hb dX11_shelf_83 rfl (lv_at hl 3 rfl) ?_
        refine pV hC hK hl hP hD (c_T_has l G bfindings bfindingsc 12 4 0 n) si_X11_124 [10] rfl rfl (by decide) rfl rfl rfl rfl rfl (Nat.le_of_ble_eq_true rfl) ⟨Nat.le_of_ble_eq_true rfl, Nat.le_of_ble_eq_true rfl⟩ ⟨by first | exact Nat.le_of_ble_eq_true rfl | exact Nat.zero_le _, by first | exact Nat.le_of_ble_eq_true rfl | exact Nat.zero_le _⟩ dX11_shelf_84 (fun r1032 hr1032 => ?_)
        rcases hr1032 with ⟨rfl, a1033⟩ | ⟨rfl, a1033⟩
        · exact absurd a1033 (Hs_none _)
        · refine lv_if_ne (tgt := 106) hx hb dX11_shelf_87 (by decide) (fun c9 => absurd (by decide) c9) (fun _ => ?_)
          refine lv_iconst (v := (-1)) hx hb dX11_shelf_90 (by decide) ?_
          exact RI (v := (-1)) hC hP hD hS [] () rfl rfl (by decide) ((by subst c_10_1031; unfold A_shelf; rw [ifc_t a1024, ifc_f (by decide), ifc_f (by decide)])) rfl dX11_shelf_91
      by_cases c_10_1034 : w = 3
      · refine lv_tableIn (tgt := 92) hx hb dX11_shelf_10 (by rw [c_10_1034]; decide) (by rw [c_10_1034]; decide) (by rw [c_10_1034]; rfl) (by decide) ?_
        refine lv_iload_n hx hb dX11_shelf_92 rfl (lv_at hl 3 rfl) ?_
        refine pS hC hK hl (c_isSheet l G n) si_X11_164 rfl rfl (Nat.le_of_ble_eq_true rfl) ⟨Nat.le_of_ble_eq_true rfl, Nat.le_of_ble_eq_true rfl⟩ ⟨by first | exact Nat.le_of_ble_eq_true rfl | exact Nat.zero_le _, by first | exact Nat.le_of_ble_eq_true rfl | exact Nat.zero_le _⟩ dX11_shelf_93 (fun r1035 hr1035 => ?_)
        rcases hr1035 with ⟨rfl, a1036⟩ | ⟨rfl, a1036⟩
        · rcases Wi_c3 a1036 with rfl | rfl | rfl | rfl
          · refine lv_if_ne (tgt := 106) hx hb dX11_shelf_96 (by decide) (fun _ => ?_) (fun c9 => absurd c9 (by decide))
            refine lv_iload_n hx hb dX11_shelf_106 rfl (lv_at hl 2 rfl) ?_
            refine lv_iconst (v := 3) hx hb dX11_shelf_107 (by decide) ?_
            refine lv_icmp_ne (tgt := 123) hx hb dX11_shelf_108 (by decide) (fun c9 => absurd (c_10_1034) c9) (fun _ => ?_)
            refine lv_aload_n hx hb dX11_shelf_111 rfl (lv_at hl 0 rfl) ?_
            refine gf_X11_72 hC rfl hK hP 0 rfl rfl dX11_shelf_112 ?_
            refine lv_iload_n hx hb dX11_shelf_115 rfl (lv_at hl 1 rfl) ?_
            refine lv_iload_n hx hb dX11_shelf_116 rfl (lv_at hl 3 rfl) ?_
            refine vV (wr := [(h0, .inr (11, [.ref B, .ref K, .int 0, .ref S, .ref D, .ref R, .ref Ta, .ref Tp, .ref Ro, .ref Ho, .ref De])), (B, .inr (0, [.ref bpersons, .ref bpapers, .ref bstamps, .ref bversions, .ref blines, .ref bsteps, .ref bsayings, .ref bfindings, .ref bwarnings, .ref bquestions, .int 0, .int (-1), .int 3, .int 24])), (bpapers, .inr (8, [.int 12, .int 6, .ref bpapersc, .int 0])), (bsayings, .inr (8, [.int 16, .int 8, .ref bsayingsc, .int 0])), (bfindings, .inr (8, [.int 12, .int 4, .ref bfindingsc, .int 0]))]) hC hK hl hP hD hS hA (c_holdRow_0_0 l G Ho hs hz hi hw hn ht) si_X11_321 [1, 2, 3, 4, 5, 6] [0, 7, 8, 9, 10] rfl rfl (by decide) rfl (by decide) (by decide) rfl rfl rfl rfl rfl (Nat.le_of_ble_eq_true rfl) ⟨Nat.le_of_ble_eq_true rfl, Nat.le_of_ble_eq_true rfl⟩ ⟨Nat.le_of_ble_eq_true rfl, Nat.le_of_ble_eq_true rfl⟩ dX11_shelf_117 (fun u1038 H locs hr1037 hP hD hS => ?_)
            have hP : va_P G.1 vwCl [(h0, .inr (11, [.ref B, .ref K, .int 0, .ref S, .ref D, .ref R, .ref Ta, .ref Tp, .ref Ro, .ref Ho, .ref De])), (B, .inr (0, [.ref bpersons, .ref bpapers, .ref bstamps, .ref bversions, .ref blines, .ref bsteps, .ref bsayings, .ref bfindings, .ref bwarnings, .ref bquestions, .int 0, .int (-1), .int 3, .int 24])), (bpapers, .inr (8, [.int 12, .int 6, .ref bpapersc, .int 0])), (bsayings, .inr (8, [.int 16, .int 8, .ref bsayingsc, .int 0])), (bfindings, .inr (8, [.int 12, .int 4, .ref bfindingsc, .int 0]))] H := hP
            have hD : va_D A [(h0, .inr (11, [.ref B, .ref K, .int 0, .ref S, .ref D, .ref R, .ref Ta, .ref Tp, .ref Ro, .ref Ho, .ref De])), (B, .inr (0, [.ref bpersons, .ref bpapers, .ref bstamps, .ref bversions, .ref blines, .ref bsteps, .ref bsayings, .ref bfindings, .ref bwarnings, .ref bquestions, .int 0, .int (-1), .int 3, .int 24])), (bpapers, .inr (8, [.int 12, .int 6, .ref bpapersc, .int 0])), (bsayings, .inr (8, [.int 16, .int 8, .ref bsayingsc, .int 0])), (bfindings, .inr (8, [.int 12, .int 4, .ref bfindingsc, .int 0]))] := hD
            refine lv_goto (tgt := 133) hx hb dX11_shelf_120 (by decide) ?_
            refine lv_iconst (v := 1) hx hb dX11_shelf_133 (by decide) ?_
            exact RI (v := 1) hC hP hD hS [] () rfl rfl (by decide) ((by subst c_10_1034; unfold A_shelf; rw [ifc_t a1036, ifc_t rfl, ifc_t a1036])) rfl dX11_shelf_134
          · refine lv_if_ne (tgt := 106) hx hb dX11_shelf_96 (by decide) (fun _ => ?_) (fun c9 => absurd c9 (by decide))
            refine lv_iload_n hx hb dX11_shelf_106 rfl (lv_at hl 2 rfl) ?_
            refine lv_iconst (v := 3) hx hb dX11_shelf_107 (by decide) ?_
            refine lv_icmp_ne (tgt := 123) hx hb dX11_shelf_108 (by decide) (fun c9 => absurd (c_10_1034) c9) (fun _ => ?_)
            refine lv_aload_n hx hb dX11_shelf_111 rfl (lv_at hl 0 rfl) ?_
            refine gf_X11_72 hC rfl hK hP 0 rfl rfl dX11_shelf_112 ?_
            refine lv_iload_n hx hb dX11_shelf_115 rfl (lv_at hl 1 rfl) ?_
            refine lv_iload_n hx hb dX11_shelf_116 rfl (lv_at hl 3 rfl) ?_
            refine vV (wr := [(h0, .inr (11, [.ref B, .ref K, .int 0, .ref S, .ref D, .ref R, .ref Ta, .ref Tp, .ref Ro, .ref Ho, .ref De])), (B, .inr (0, [.ref bpersons, .ref bpapers, .ref bstamps, .ref bversions, .ref blines, .ref bsteps, .ref bsayings, .ref bfindings, .ref bwarnings, .ref bquestions, .int 0, .int (-1), .int 3, .int 24])), (bpapers, .inr (8, [.int 12, .int 6, .ref bpapersc, .int 0])), (bsayings, .inr (8, [.int 16, .int 8, .ref bsayingsc, .int 0])), (bfindings, .inr (8, [.int 12, .int 4, .ref bfindingsc, .int 0]))]) hC hK hl hP hD hS hA (c_holdRow_0_1 l G Ho hs hz hi hw hn ht) si_X11_321 [1, 2, 3, 4, 5, 6] [0, 7, 8, 9, 10] rfl rfl (by decide) rfl (by decide) (by decide) rfl rfl rfl rfl rfl (Nat.le_of_ble_eq_true rfl) ⟨Nat.le_of_ble_eq_true rfl, Nat.le_of_ble_eq_true rfl⟩ ⟨Nat.le_of_ble_eq_true rfl, Nat.le_of_ble_eq_true rfl⟩ dX11_shelf_117 (fun u1040 H locs hr1039 hP hD hS => ?_)
            have hP : va_P G.1 vwCl [(h0, .inr (11, [.ref B, .ref K, .int 0, .ref S, .ref D, .ref R, .ref Ta, .ref Tp, .ref Ro, .ref Ho, .ref De])), (B, .inr (0, [.ref bpersons, .ref bpapers, .ref bstamps, .ref bversions, .ref blines, .ref bsteps, .ref bsayings, .ref bfindings, .ref bwarnings, .ref bquestions, .int 0, .int (-1), .int 3, .int 24])), (bpapers, .inr (8, [.int 12, .int 6, .ref bpapersc, .int 0])), (bsayings, .inr (8, [.int 16, .int 8, .ref bsayingsc, .int 0])), (bfindings, .inr (8, [.int 12, .int 4, .ref bfindingsc, .int 0]))] H := hP
            have hD : va_D A [(h0, .inr (11, [.ref B, .ref K, .int 0, .ref S, .ref D, .ref R, .ref Ta, .ref Tp, .ref Ro, .ref Ho, .ref De])), (B, .inr (0, [.ref bpersons, .ref bpapers, .ref bstamps, .ref bversions, .ref blines, .ref bsteps, .ref bsayings, .ref bfindings, .ref bwarnings, .ref bquestions, .int 0, .int (-1), .int 3, .int 24])), (bpapers, .inr (8, [.int 12, .int 6, .ref bpapersc, .int 0])), (bsayings, .inr (8, [.int 16, .int 8, .ref bsayingsc, .int 0])), (bfindings, .inr (8, [.int 12, .int 4, .ref bfindingsc, .int 0]))] := hD
            refine lv_goto (tgt := 133) hx hb dX11_shelf_120 (by decide) ?_
            refine lv_iconst (v := 1) hx hb dX11_shelf_133 (by decide) ?_
            exact RI (v := 1) hC hP hD hS [] () rfl rfl (by decide) ((by subst c_10_1034; unfold A_shelf; rw [ifc_t a1024, ifc_t rfl, ifc_t a1036])) rfl dX11_shelf_134
          · refine lv_if_ne (tgt := 106) hx hb dX11_shelf_96 (by decide) (fun _ => ?_) (fun c9 => absurd c9 (by decide))
            refine lv_iload_n hx hb dX11_shelf_106 rfl (lv_at hl 2 rfl) ?_
            refine lv_iconst (v := 3) hx hb dX11_shelf_107 (by decide) ?_
            refine lv_icmp_ne (tgt := 123) hx hb dX11_shelf_108 (by decide) (fun c9 => absurd (c_10_1034) c9) (fun _ => ?_)
            refine lv_aload_n hx hb dX11_shelf_111 rfl (lv_at hl 0 rfl) ?_
            refine gf_X11_72 hC rfl hK hP 0 rfl rfl dX11_shelf_112 ?_
            refine lv_iload_n hx hb dX11_shelf_115 rfl (lv_at hl 1 rfl) ?_
            refine lv_iload_n hx hb dX11_shelf_116 rfl (lv_at hl 3 rfl) ?_
            refine vV (wr := [(h0, .inr (11, [.ref B, .ref K, .int 0, .ref S, .ref D, .ref R, .ref Ta, .ref Tp, .ref Ro, .ref Ho, .ref De])), (B, .inr (0, [.ref bpersons, .ref bpapers, .ref bstamps, .ref bversions, .ref blines, .ref bsteps, .ref bsayings, .ref bfindings, .ref bwarnings, .ref bquestions, .int 0, .int (-1), .int 3, .int 24])), (bpapers, .inr (8, [.int 12, .int 6, .ref bpapersc, .int 0])), (bsayings, .inr (8, [.int 16, .int 8, .ref bsayingsc, .int 0])), (bfindings, .inr (8, [.int 12, .int 4, .ref bfindingsc, .int 0]))]) hC hK hl hP hD hS hA (c_holdRow_0_2 l G Ho hs hz hi hw hn ht) si_X11_321 [1, 2, 3, 4, 5, 6] [0, 7, 8, 9, 10] rfl rfl (by decide) rfl (by decide) (by decide) rfl rfl rfl rfl rfl (Nat.le_of_ble_eq_true rfl) ⟨Nat.le_of_ble_eq_true rfl, Nat.le_of_ble_eq_true rfl⟩ ⟨Nat.le_of_ble_eq_true rfl, Nat.le_of_ble_eq_true rfl⟩ dX11_shelf_117 (fun u1042 H locs hr1041 hP hD hS => ?_)
            have hP : va_P G.1 vwCl [(h0, .inr (11, [.ref B, .ref K, .int 0, .ref S, .ref D, .ref R, .ref Ta, .ref Tp, .ref Ro, .ref Ho, .ref De])), (B, .inr (0, [.ref bpersons, .ref bpapers, .ref bstamps, .ref bversions, .ref blines, .ref bsteps, .ref bsayings, .ref bfindings, .ref bwarnings, .ref bquestions, .int 0, .int (-1), .int 3, .int 24])), (bpapers, .inr (8, [.int 12, .int 6, .ref bpapersc, .int 0])), (bsayings, .inr (8, [.int 16, .int 8, .ref bsayingsc, .int 0])), (bfindings, .inr (8, [.int 12, .int 4, .ref bfindingsc, .int 0]))] H := hP
            have hD : va_D A [(h0, .inr (11, [.ref B, .ref K, .int 0, .ref S, .ref D, .ref R, .ref Ta, .ref Tp, .ref Ro, .ref Ho, .ref De])), (B, .inr (0, [.ref bpersons, .ref bpapers, .ref bstamps, .ref bversions, .ref blines, .ref bsteps, .ref bsayings, .ref bfindings, .ref bwarnings, .ref bquestions, .int 0, .int (-1), .int 3, .int 24])), (bpapers, .inr (8, [.int 12, .int 6, .ref bpapersc, .int 0])), (bsayings, .inr (8, [.int 16, .int 8, .ref bsayingsc, .int 0])), (bfindings, .inr (8, [.int 12, .int 4, .ref bfindingsc, .int 0]))] := hD
            refine lv_goto (tgt := 133) hx hb dX11_shelf_120 (by decide) ?_
            refine lv_iconst (v := 1) hx hb dX11_shelf_133 (by decide) ?_
            exact RI (v := 1) hC hP hD hS [] () rfl rfl (by decide) ((by subst c_10_1034; unfold A_shelf; rw [ifc_t a1024, ifc_t rfl, ifc_t a1036])) rfl dX11_shelf_134
          · refine lv_if_ne (tgt := 106) hx hb dX11_shelf_96 (by decide) (fun _ => ?_) (fun c9 => absurd c9 (by decide))
            refine lv_iload_n hx hb dX11_shelf_106 rfl (lv_at hl 2 rfl) ?_
            refine lv_iconst (v := 3) hx hb dX11_shelf_107 (by decide) ?_
            refine lv_icmp_ne (tgt := 123) hx hb dX11_shelf_108 (by decide) (fun c9 => absurd (c_10_1034) c9) (fun _ => ?_)
            refine lv_aload_n hx hb dX11_shelf_111 rfl (lv_at hl 0 rfl) ?_
            refine gf_X11_72 hC rfl hK hP 0 rfl rfl dX11_shelf_112 ?_
            refine lv_iload_n hx hb dX11_shelf_115 rfl (lv_at hl 1 rfl) ?_
            refine lv_iload_n hx hb dX11_shelf_116 rfl (lv_at hl 3 rfl) ?_
            refine vV (wr := [(h0, .inr (11, [.ref B, .ref K, .int 0, .ref S, .ref D, .ref R, .ref Ta, .ref Tp, .ref Ro, .ref Ho, .ref De])), (B, .inr (0, [.ref bpersons, .ref bpapers, .ref bstamps, .ref bversions, .ref blines, .ref bsteps, .ref bsayings, .ref bfindings, .ref bwarnings, .ref bquestions, .int 0, .int (-1), .int 3, .int 24])), (bpapers, .inr (8, [.int 12, .int 6, .ref bpapersc, .int 0])), (bsayings, .inr (8, [.int 16, .int 8, .ref bsayingsc, .int 0])), (bfindings, .inr (8, [.int 12, .int 4, .ref bfindingsc, .int 0]))]) hC hK hl hP hD hS hA (c_holdRow_0_3 l G Ho hs hz hi hw hn ht) si_X11_321 [1, 2, 3, 4, 5, 6] [0, 7, 8, 9, 10] rfl rfl (by decide) rfl (by decide) (by decide) rfl rfl rfl rfl rfl (Nat.le_of_ble_eq_true rfl) ⟨Nat.le_of_ble_eq_true rfl, Nat.le_of_ble_eq_true rfl⟩ ⟨Nat.le_of_ble_eq_true rfl, Nat.le_of_ble_eq_true rfl⟩ dX11_shelf_117 (fun u1044 H locs hr1043 hP hD hS => ?_)
            have hP : va_P G.1 vwCl [(h0, .inr (11, [.ref B, .ref K, .int 0, .ref S, .ref D, .ref R, .ref Ta, .ref Tp, .ref Ro, .ref Ho, .ref De])), (B, .inr (0, [.ref bpersons, .ref bpapers, .ref bstamps, .ref bversions, .ref blines, .ref bsteps, .ref bsayings, .ref bfindings, .ref bwarnings, .ref bquestions, .int 0, .int (-1), .int 3, .int 24])), (bpapers, .inr (8, [.int 12, .int 6, .ref bpapersc, .int 0])), (bsayings, .inr (8, [.int 16, .int 8, .ref bsayingsc, .int 0])), (bfindings, .inr (8, [.int 12, .int 4, .ref bfindingsc, .int 0]))] H := hP
            have hD : va_D A [(h0, .inr (11, [.ref B, .ref K, .int 0, .ref S, .ref D, .ref R, .ref Ta, .ref Tp, .ref Ro, .ref Ho, .ref De])), (B, .inr (0, [.ref bpersons, .ref bpapers, .ref bstamps, .ref bversions, .ref blines, .ref bsteps, .ref bsayings, .ref bfindings, .ref bwarnings, .ref bquestions, .int 0, .int (-1), .int 3, .int 24])), (bpapers, .inr (8, [.int 12, .int 6, .ref bpapersc, .int 0])), (bsayings, .inr (8, [.int 16, .int 8, .ref bsayingsc, .int 0])), (bfindings, .inr (8, [.int 12, .int 4, .ref bfindingsc, .int 0]))] := hD
            refine lv_goto (tgt := 133) hx hb dX11_shelf_120 (by decide) ?_
            refine lv_iconst (v := 1) hx hb dX11_shelf_133 (by decide) ?_
            exact RI (v := 1) hC hP hD hS [] () rfl rfl (by decide) ((by subst c_10_1034; unfold A_shelf; rw [ifc_t a1024, ifc_t rfl, ifc_t a1036])) rfl dX11_shelf_134
        · refine lv_if_ne (tgt := 106) hx hb dX11_shelf_96 (by decide) (fun c9 => absurd (by decide) c9) (fun _ => ?_)
          refine lv_iconst (v := (-1)) hx hb dX11_shelf_99 (by decide) ?_
          exact RI (v := (-1)) hC hP hD hS [] () rfl rfl (by decide) ((by subst c_10_1034; unfold A_shelf; rw [ifc_t a1024, ifc_t rfl, ifc_f a1036])) rfl dX11_shelf_100
      by_cases c_10_1045 : w = 4
      · refine lv_tableIn (tgt := 101) hx hb dX11_shelf_10 (by rw [c_10_1045]; decide) (by rw [c_10_1045]; decide) (by rw [c_10_1045]; rfl) (by decide) ?_
        refine lv_goto (tgt := 106) hx hb dX11_shelf_101 (by decide) ?_
        refine lv_iload_n hx hb dX11_shelf_106 rfl (lv_at hl 2 rfl) ?_
        refine lv_iconst (v := 3) hx hb dX11_shelf_107 (by decide) ?_
        refine lv_icmp_ne (tgt := 123) hx hb dX11_shelf_108 (by decide) (fun _ => ?_) (fun c9 => absurd c9 (c_10_1034))
        refine lv_aload_n hx hb dX11_shelf_123 rfl (lv_at hl 0 rfl) ?_
        refine gf_X11_72 hC rfl hK hP 0 rfl rfl dX11_shelf_124 ?_
        refine lv_iload_n hx hb dX11_shelf_127 rfl (lv_at hl 1 rfl) ?_
        refine lv_iload_n hx hb dX11_shelf_128 rfl (lv_at hl 2 rfl) ?_
        refine lv_iload_n hx hb dX11_shelf_129 rfl (lv_at hl 3 rfl) ?_
        refine vV (wr := [(h0, .inr (11, [.ref B, .ref K, .int 0, .ref S, .ref D, .ref R, .ref Ta, .ref Tp, .ref Ro, .ref Ho, .ref De])), (ht, .inl (G.2.1, 4, .inl (fun _ => 0))), (hs, .inl (G.2.1, 4, .inl (upd (upd (upd (upd (fun _ => 0) 0 (-1)) 1 (-1)) 2 (-1)) 3 (-1)))), (hz, .inl (G.2.1, 4, .inl (fun _ => 0))), (B, .inr (0, [.ref bpersons, .ref bpapers, .ref bstamps, .ref bversions, .ref blines, .ref bsteps, .ref bsayings, .ref bfindings, .ref bwarnings, .ref bquestions, .int 0, .int (-1), .int 3, .int 24])), (bpapers, .inr (8, [.int 12, .int 6, .ref bpapersc, .int 0])), (bsayings, .inr (8, [.int 16, .int 8, .ref bsayingsc, .int 0])), (bfindings, .inr (8, [.int 12, .int 4, .ref bfindingsc, .int 0]))]) hC hK hl hP hD hS hA (c_hold_0 l G Ho w n hs hz hi hw hn ht) si_X11_324 [1, 2, 3] [0, 4, 5, 6, 7, 8, 9, 10] rfl rfl (by decide) rfl (by decide) (by decide) rfl rfl rfl rfl rfl (Nat.le_of_ble_eq_true rfl) ⟨Nat.le_of_ble_eq_true rfl, Nat.le_of_ble_eq_true rfl⟩ ⟨Nat.le_of_ble_eq_true rfl, Nat.le_of_ble_eq_true rfl⟩ dX11_shelf_130 (fun u1047 H locs hr1046 hP hD hS => ?_)
        have hP : va_P G.1 vwCl [(h0, .inr (11, [.ref B, .ref K, .int 0, .ref S, .ref D, .ref R, .ref Ta, .ref Tp, .ref Ro, .ref Ho, .ref De])), (ht, .inl (G.2.1, 4, .inl (fun _ => 0))), (hs, .inl (G.2.1, 4, .inl (upd (upd (upd (upd (fun _ => 0) 0 (-1)) 1 (-1)) 2 (-1)) 3 (-1)))), (hz, .inl (G.2.1, 4, .inl (fun _ => 0))), (B, .inr (0, [.ref bpersons, .ref bpapers, .ref bstamps, .ref bversions, .ref blines, .ref bsteps, .ref bsayings, .ref bfindings, .ref bwarnings, .ref bquestions, .int 0, .int (-1), .int 3, .int 24])), (bpapers, .inr (8, [.int 12, .int 6, .ref bpapersc, .int 0])), (bsayings, .inr (8, [.int 16, .int 8, .ref bsayingsc, .int 0])), (bfindings, .inr (8, [.int 12, .int 4, .ref bfindingsc, .int 0]))] H := hP
        have hD : va_D A [(h0, .inr (11, [.ref B, .ref K, .int 0, .ref S, .ref D, .ref R, .ref Ta, .ref Tp, .ref Ro, .ref Ho, .ref De])), (ht, .inl (G.2.1, 4, .inl (fun _ => 0))), (hs, .inl (G.2.1, 4, .inl (upd (upd (upd (upd (fun _ => 0) 0 (-1)) 1 (-1)) 2 (-1)) 3 (-1)))), (hz, .inl (G.2.1, 4, .inl (fun _ => 0))), (B, .inr (0, [.ref bpersons, .ref bpapers, .ref bstamps, .ref bversions, .ref blines, .ref bsteps, .ref bsayings, .ref bfindings, .ref bwarnings, .ref bquestions, .int 0, .int (-1), .int 3, .int 24])), (bpapers, .inr (8, [.int 12, .int 6, .ref bpapersc, .int 0])), (bsayings, .inr (8, [.int 16, .int 8, .ref bsayingsc, .int 0])), (bfindings, .inr (8, [.int 12, .int 4, .ref bfindingsc, .int 0]))] := hD
        refine lv_iconst (v := 1) hx hb dX11_shelf_133 (by decide) ?_
        exact RI (v := 1) hC hP hD hS [] () rfl rfl (by decide) ((by subst c_10_1045; unfold A_shelf; rw [ifc_t a1024, ifc_f (by decide), ifc_t rfl])) rfl dX11_shelf_134
      refine lv_tableOut (tgt := 104) hx hb dX11_shelf_10 (by have q9 := sw_0_4 (x := w); simp only [c_10_1025, c_10_1028, c_10_1031, c_10_1034, c_10_1045, not_false_eq_true, true_implies] at q9; exact q9) (by decide) ?_
      refine lv_iconst (v := (-1)) hx hb dX11_shelf_104 (by decide) ?_
      exact RI (v := (-1)) hC hP hD hS [] () rfl rfl (by decide) ((by unfold A_shelf; rw [ifc_t a1024, ifc_f c_10_1034, ifc_f c_10_1045])) rfl dX11_shelf_105
    · refine lv_if_ne (tgt := 9) hx hb dX11_shelf_4 (by decide) (fun _ => ?_) (fun c9 => absurd c9 (by decide))
      refine lv_iload_n hx hb dX11_shelf_9 rfl (lv_at hl 2 rfl) ?_
      by_cases c_10_1048 : w = 0
      · refine lv_tableIn (tgt := 44) hx hb dX11_shelf_10 (by rw [c_10_1048]; decide) (by rw [c_10_1048]; decide) (by rw [c_10_1048]; rfl) (by decide) ?_
        refine lv_aload_n hx hb dX11_shelf_44 rfl (lv_at hl 0 rfl) ?_
        refine gf_X11_15 hC rfl hK hP 0 rfl rfl dX11_shelf_45 ?_
        refine gf_X11_144 hC rfl hK hP 7 rfl rfl dX11_shelf_48 ?_
        refine lv_iload_n hx hb dX11_shelf_51 rfl (lv_at hl 3 rfl) ?_
        refine pV hC hK hl hP hD (c_T_has l G bpapers bpapersc 12 6 0 n) si_X11_124 [8] rfl rfl (by decide) rfl rfl rfl rfl rfl (Nat.le_of_ble_eq_true rfl) ⟨Nat.le_of_ble_eq_true rfl, Nat.le_of_ble_eq_true rfl⟩ ⟨by first | exact Nat.le_of_ble_eq_true rfl | exact Nat.zero_le _, by first | exact Nat.le_of_ble_eq_true rfl | exact Nat.zero_le _⟩ dX11_shelf_52 (fun r1049 hr1049 => ?_)
        rcases hr1049 with ⟨rfl, a1050⟩ | ⟨rfl, a1050⟩
        · exact absurd a1050 (Hs_none _)
        · refine lv_if_ne (tgt := 106) hx hb dX11_shelf_55 (by decide) (fun c9 => absurd (by decide) c9) (fun _ => ?_)
          refine lv_iconst (v := (-1)) hx hb dX11_shelf_58 (by decide) ?_
          exact RI (v := (-1)) hC hP hD hS [] () rfl rfl (by decide) ((by subst c_10_1048; unfold A_shelf; rw [ifc_t a1024, ifc_f (by decide), ifc_f (by decide)])) rfl dX11_shelf_59
      by_cases c_10_1051 : w = 1
      · refine lv_tableIn (tgt := 60) hx hb dX11_shelf_10 (by rw [c_10_1051]; decide) (by rw [c_10_1051]; decide) (by rw [c_10_1051]; rfl) (by decide) ?_
        refine lv_aload_n hx hb dX11_shelf_60 rfl (lv_at hl 0 rfl) ?_
        refine gf_X11_15 hC rfl hK hP 0 rfl rfl dX11_shelf_61 ?_
        refine gf_X11_256 hC rfl hK hP 7 rfl rfl dX11_shelf_64 ?_
        refine lv_iload_n hx hb dX11_shelf_67 rfl (lv_at hl 3 rfl) ?_
        refine pV hC hK hl hP hD (c_T_has l G bsayings bsayingsc 16 8 0 n) si_X11_124 [9] rfl rfl (by decide) rfl rfl rfl rfl rfl (Nat.le_of_ble_eq_true rfl) ⟨Nat.le_of_ble_eq_true rfl, Nat.le_of_ble_eq_true rfl⟩ ⟨by first | exact Nat.le_of_ble_eq_true rfl | exact Nat.zero_le _, by first | exact Nat.le_of_ble_eq_true rfl | exact Nat.zero_le _⟩ dX11_shelf_68 (fun r1052 hr1052 => ?_)
        rcases hr1052 with ⟨rfl, a1053⟩ | ⟨rfl, a1053⟩
        · exact absurd a1053 (Hs_none _)
        · refine lv_if_ne (tgt := 106) hx hb dX11_shelf_71 (by decide) (fun c9 => absurd (by decide) c9) (fun _ => ?_)
          refine lv_iconst (v := (-1)) hx hb dX11_shelf_74 (by decide) ?_
          exact RI (v := (-1)) hC hP hD hS [] () rfl rfl (by decide) ((by subst c_10_1051; unfold A_shelf; rw [ifc_t a1024, ifc_f (by decide), ifc_f (by decide)])) rfl dX11_shelf_75
      by_cases c_10_1054 : w = 2
      · refine lv_tableIn (tgt := 76) hx hb dX11_shelf_10 (by rw [c_10_1054]; decide) (by rw [c_10_1054]; decide) (by rw [c_10_1054]; rfl) (by decide) ?_
        refine lv_aload_n hx hb dX11_shelf_76 rfl (lv_at hl 0 rfl) ?_
        refine gf_X11_15 hC rfl hK hP 0 rfl rfl dX11_shelf_77 ?_
        refine gf_X11_271 hC rfl hK hP 7 rfl rfl dX11_shelf_80 ?_
        refine lv_iload_n hx hb dX11_shelf_83 rfl (lv_at hl 3 rfl) ?_
        refine pV hC hK hl hP hD (c_T_has l G bfindings bfindingsc 12 4 0 n) si_X11_124 [10] rfl rfl (by decide) rfl rfl rfl rfl rfl (Nat.le_of_ble_eq_true rfl) ⟨Nat.le_of_ble_eq_true rfl, Nat.le_of_ble_eq_true rfl⟩ ⟨by first | exact Nat.le_of_ble_eq_true rfl | exact Nat.zero_le _, by first | exact Nat.le_of_ble_eq_true rfl | exact Nat.zero_le _⟩ dX11_shelf_84 (fun r1055 hr1055 => ?_)
        rcases hr1055 with ⟨rfl, a1056⟩ | ⟨rfl, a1056⟩
        · exact absurd a1056 (Hs_none _)
        · refine lv_if_ne (tgt := 106) hx hb dX11_shelf_87 (by decide) (fun c9 => absurd (by decide) c9) (fun _ => ?_)
          refine lv_iconst (v := (-1)) hx hb dX11_shelf_90 (by decide) ?_
          exact RI (v := (-1)) hC hP hD hS [] () rfl rfl (by decide) ((by subst c_10_1054; unfold A_shelf; rw [ifc_t a1024, ifc_f (by decide), ifc_f (by decide)])) rfl dX11_shelf_91
      by_cases c_10_1057 : w = 3
      · refine lv_tableIn (tgt := 92) hx hb dX11_shelf_10 (by rw [c_10_1057]; decide) (by rw [c_10_1057]; decide) (by rw [c_10_1057]; rfl) (by decide) ?_
        refine lv_iload_n hx hb dX11_shelf_92 rfl (lv_at hl 3 rfl) ?_
        refine pS hC hK hl (c_isSheet l G n) si_X11_164 rfl rfl (Nat.le_of_ble_eq_true rfl) ⟨Nat.le_of_ble_eq_true rfl, Nat.le_of_ble_eq_true rfl⟩ ⟨by first | exact Nat.le_of_ble_eq_true rfl | exact Nat.zero_le _, by first | exact Nat.le_of_ble_eq_true rfl | exact Nat.zero_le _⟩ dX11_shelf_93 (fun r1058 hr1058 => ?_)
        rcases hr1058 with ⟨rfl, a1059⟩ | ⟨rfl, a1059⟩
        · rcases Wi_c3 a1059 with rfl | rfl | rfl | rfl
          · refine lv_if_ne (tgt := 106) hx hb dX11_shelf_96 (by decide) (fun _ => ?_) (fun c9 => absurd c9 (by decide))
            refine lv_iload_n hx hb dX11_shelf_106 rfl (lv_at hl 2 rfl) ?_
            refine lv_iconst (v := 3) hx hb dX11_shelf_107 (by decide) ?_
            refine lv_icmp_ne (tgt := 123) hx hb dX11_shelf_108 (by decide) (fun c9 => absurd (c_10_1057) c9) (fun _ => ?_)
            refine lv_aload_n hx hb dX11_shelf_111 rfl (lv_at hl 0 rfl) ?_
            refine gf_X11_72 hC rfl hK hP 0 rfl rfl dX11_shelf_112 ?_
            refine lv_iload_n hx hb dX11_shelf_115 rfl (lv_at hl 1 rfl) ?_
            refine lv_iload_n hx hb dX11_shelf_116 rfl (lv_at hl 3 rfl) ?_
            refine vV (wr := [(h0, .inr (11, [.ref B, .ref K, .int 0, .ref S, .ref D, .ref R, .ref Ta, .ref Tp, .ref Ro, .ref Ho, .ref De])), (B, .inr (0, [.ref bpersons, .ref bpapers, .ref bstamps, .ref bversions, .ref blines, .ref bsteps, .ref bsayings, .ref bfindings, .ref bwarnings, .ref bquestions, .int 0, .int (-1), .int 3, .int 24])), (bpapers, .inr (8, [.int 12, .int 6, .ref bpapersc, .int 0])), (bsayings, .inr (8, [.int 16, .int 8, .ref bsayingsc, .int 0])), (bfindings, .inr (8, [.int 12, .int 4, .ref bfindingsc, .int 0]))]) hC hK hl hP hD hS hA (c_holdRow_1_0 l G Ho hs hz hi hw hn ht) si_X11_321 [1, 2, 3, 4, 5, 6] [0, 7, 8, 9, 10] rfl rfl (by decide) rfl (by decide) (by decide) rfl rfl rfl rfl rfl (Nat.le_of_ble_eq_true rfl) ⟨Nat.le_of_ble_eq_true rfl, Nat.le_of_ble_eq_true rfl⟩ ⟨Nat.le_of_ble_eq_true rfl, Nat.le_of_ble_eq_true rfl⟩ dX11_shelf_117 (fun u1061 H locs hr1060 hP hD hS => ?_)
            have hP : va_P G.1 vwCl [(h0, .inr (11, [.ref B, .ref K, .int 0, .ref S, .ref D, .ref R, .ref Ta, .ref Tp, .ref Ro, .ref Ho, .ref De])), (B, .inr (0, [.ref bpersons, .ref bpapers, .ref bstamps, .ref bversions, .ref blines, .ref bsteps, .ref bsayings, .ref bfindings, .ref bwarnings, .ref bquestions, .int 0, .int (-1), .int 3, .int 24])), (bpapers, .inr (8, [.int 12, .int 6, .ref bpapersc, .int 0])), (bsayings, .inr (8, [.int 16, .int 8, .ref bsayingsc, .int 0])), (bfindings, .inr (8, [.int 12, .int 4, .ref bfindingsc, .int 0]))] H := hP
            have hD : va_D A [(h0, .inr (11, [.ref B, .ref K, .int 0, .ref S, .ref D, .ref R, .ref Ta, .ref Tp, .ref Ro, .ref Ho, .ref De])), (B, .inr (0, [.ref bpersons, .ref bpapers, .ref bstamps, .ref bversions, .ref blines, .ref bsteps, .ref bsayings, .ref bfindings, .ref bwarnings, .ref bquestions, .int 0, .int (-1), .int 3, .int 24])), (bpapers, .inr (8, [.int 12, .int 6, .ref bpapersc, .int 0])), (bsayings, .inr (8, [.int 16, .int 8, .ref bsayingsc, .int 0])), (bfindings, .inr (8, [.int 12, .int 4, .ref bfindingsc, .int 0]))] := hD
            refine lv_goto (tgt := 133) hx hb dX11_shelf_120 (by decide) ?_
            refine lv_iconst (v := 1) hx hb dX11_shelf_133 (by decide) ?_
            exact RI (v := 1) hC hP hD hS [] () rfl rfl (by decide) ((by subst c_10_1057; unfold A_shelf; rw [ifc_t a1024, ifc_t rfl, ifc_t a1059])) rfl dX11_shelf_134
          · refine lv_if_ne (tgt := 106) hx hb dX11_shelf_96 (by decide) (fun _ => ?_) (fun c9 => absurd c9 (by decide))
            refine lv_iload_n hx hb dX11_shelf_106 rfl (lv_at hl 2 rfl) ?_
            refine lv_iconst (v := 3) hx hb dX11_shelf_107 (by decide) ?_
            refine lv_icmp_ne (tgt := 123) hx hb dX11_shelf_108 (by decide) (fun c9 => absurd (c_10_1057) c9) (fun _ => ?_)
            refine lv_aload_n hx hb dX11_shelf_111 rfl (lv_at hl 0 rfl) ?_
            refine gf_X11_72 hC rfl hK hP 0 rfl rfl dX11_shelf_112 ?_
            refine lv_iload_n hx hb dX11_shelf_115 rfl (lv_at hl 1 rfl) ?_
            refine lv_iload_n hx hb dX11_shelf_116 rfl (lv_at hl 3 rfl) ?_
            refine vV (wr := [(h0, .inr (11, [.ref B, .ref K, .int 0, .ref S, .ref D, .ref R, .ref Ta, .ref Tp, .ref Ro, .ref Ho, .ref De])), (B, .inr (0, [.ref bpersons, .ref bpapers, .ref bstamps, .ref bversions, .ref blines, .ref bsteps, .ref bsayings, .ref bfindings, .ref bwarnings, .ref bquestions, .int 0, .int (-1), .int 3, .int 24])), (bpapers, .inr (8, [.int 12, .int 6, .ref bpapersc, .int 0])), (bsayings, .inr (8, [.int 16, .int 8, .ref bsayingsc, .int 0])), (bfindings, .inr (8, [.int 12, .int 4, .ref bfindingsc, .int 0]))]) hC hK hl hP hD hS hA (c_holdRow_1_1 l G Ho hs hz hi hw hn ht) si_X11_321 [1, 2, 3, 4, 5, 6] [0, 7, 8, 9, 10] rfl rfl (by decide) rfl (by decide) (by decide) rfl rfl rfl rfl rfl (Nat.le_of_ble_eq_true rfl) ⟨Nat.le_of_ble_eq_true rfl, Nat.le_of_ble_eq_true rfl⟩ ⟨Nat.le_of_ble_eq_true rfl, Nat.le_of_ble_eq_true rfl⟩ dX11_shelf_117 (fun u1063 H locs hr1062 hP hD hS => ?_)
            have hP : va_P G.1 vwCl [(h0, .inr (11, [.ref B, .ref K, .int 0, .ref S, .ref D, .ref R, .ref Ta, .ref Tp, .ref Ro, .ref Ho, .ref De])), (B, .inr (0, [.ref bpersons, .ref bpapers, .ref bstamps, .ref bversions, .ref blines, .ref bsteps, .ref bsayings, .ref bfindings, .ref bwarnings, .ref bquestions, .int 0, .int (-1), .int 3, .int 24])), (bpapers, .inr (8, [.int 12, .int 6, .ref bpapersc, .int 0])), (bsayings, .inr (8, [.int 16, .int 8, .ref bsayingsc, .int 0])), (bfindings, .inr (8, [.int 12, .int 4, .ref bfindingsc, .int 0]))] H := hP
            have hD : va_D A [(h0, .inr (11, [.ref B, .ref K, .int 0, .ref S, .ref D, .ref R, .ref Ta, .ref Tp, .ref Ro, .ref Ho, .ref De])), (B, .inr (0, [.ref bpersons, .ref bpapers, .ref bstamps, .ref bversions, .ref blines, .ref bsteps, .ref bsayings, .ref bfindings, .ref bwarnings, .ref bquestions, .int 0, .int (-1), .int 3, .int 24])), (bpapers, .inr (8, [.int 12, .int 6, .ref bpapersc, .int 0])), (bsayings, .inr (8, [.int 16, .int 8, .ref bsayingsc, .int 0])), (bfindings, .inr (8, [.int 12, .int 4, .ref bfindingsc, .int 0]))] := hD
            refine lv_goto (tgt := 133) hx hb dX11_shelf_120 (by decide) ?_
            refine lv_iconst (v := 1) hx hb dX11_shelf_133 (by decide) ?_
            exact RI (v := 1) hC hP hD hS [] () rfl rfl (by decide) ((by subst c_10_1057; unfold A_shelf; rw [ifc_t a1059, ifc_t rfl, ifc_t a1059])) rfl dX11_shelf_134
          · refine lv_if_ne (tgt := 106) hx hb dX11_shelf_96 (by decide) (fun _ => ?_) (fun c9 => absurd c9 (by decide))
            refine lv_iload_n hx hb dX11_shelf_106 rfl (lv_at hl 2 rfl) ?_
            refine lv_iconst (v := 3) hx hb dX11_shelf_107 (by decide) ?_
            refine lv_icmp_ne (tgt := 123) hx hb dX11_shelf_108 (by decide) (fun c9 => absurd (c_10_1057) c9) (fun _ => ?_)
            refine lv_aload_n hx hb dX11_shelf_111 rfl (lv_at hl 0 rfl) ?_
            refine gf_X11_72 hC rfl hK hP 0 rfl rfl dX11_shelf_112 ?_
            refine lv_iload_n hx hb dX11_shelf_115 rfl (lv_at hl 1 rfl) ?_
            refine lv_iload_n hx hb dX11_shelf_116 rfl (lv_at hl 3 rfl) ?_
            refine vV (wr := [(h0, .inr (11, [.ref B, .ref K, .int 0, .ref S, .ref D, .ref R, .ref Ta, .ref Tp, .ref Ro, .ref Ho, .ref De])), (B, .inr (0, [.ref bpersons, .ref bpapers, .ref bstamps, .ref bversions, .ref blines, .ref bsteps, .ref bsayings, .ref bfindings, .ref bwarnings, .ref bquestions, .int 0, .int (-1), .int 3, .int 24])), (bpapers, .inr (8, [.int 12, .int 6, .ref bpapersc, .int 0])), (bsayings, .inr (8, [.int 16, .int 8, .ref bsayingsc, .int 0])), (bfindings, .inr (8, [.int 12, .int 4, .ref bfindingsc, .int 0]))]) hC hK hl hP hD hS hA (c_holdRow_1_2 l G Ho hs hz hi hw hn ht) si_X11_321 [1, 2, 3, 4, 5, 6] [0, 7, 8, 9, 10] rfl rfl (by decide) rfl (by decide) (by decide) rfl rfl rfl rfl rfl (Nat.le_of_ble_eq_true rfl) ⟨Nat.le_of_ble_eq_true rfl, Nat.le_of_ble_eq_true rfl⟩ ⟨Nat.le_of_ble_eq_true rfl, Nat.le_of_ble_eq_true rfl⟩ dX11_shelf_117 (fun u1065 H locs hr1064 hP hD hS => ?_)
            have hP : va_P G.1 vwCl [(h0, .inr (11, [.ref B, .ref K, .int 0, .ref S, .ref D, .ref R, .ref Ta, .ref Tp, .ref Ro, .ref Ho, .ref De])), (B, .inr (0, [.ref bpersons, .ref bpapers, .ref bstamps, .ref bversions, .ref blines, .ref bsteps, .ref bsayings, .ref bfindings, .ref bwarnings, .ref bquestions, .int 0, .int (-1), .int 3, .int 24])), (bpapers, .inr (8, [.int 12, .int 6, .ref bpapersc, .int 0])), (bsayings, .inr (8, [.int 16, .int 8, .ref bsayingsc, .int 0])), (bfindings, .inr (8, [.int 12, .int 4, .ref bfindingsc, .int 0]))] H := hP
            have hD : va_D A [(h0, .inr (11, [.ref B, .ref K, .int 0, .ref S, .ref D, .ref R, .ref Ta, .ref Tp, .ref Ro, .ref Ho, .ref De])), (B, .inr (0, [.ref bpersons, .ref bpapers, .ref bstamps, .ref bversions, .ref blines, .ref bsteps, .ref bsayings, .ref bfindings, .ref bwarnings, .ref bquestions, .int 0, .int (-1), .int 3, .int 24])), (bpapers, .inr (8, [.int 12, .int 6, .ref bpapersc, .int 0])), (bsayings, .inr (8, [.int 16, .int 8, .ref bsayingsc, .int 0])), (bfindings, .inr (8, [.int 12, .int 4, .ref bfindingsc, .int 0]))] := hD
            refine lv_goto (tgt := 133) hx hb dX11_shelf_120 (by decide) ?_
            refine lv_iconst (v := 1) hx hb dX11_shelf_133 (by decide) ?_
            exact RI (v := 1) hC hP hD hS [] () rfl rfl (by decide) ((by subst c_10_1057; unfold A_shelf; rw [ifc_t a1024, ifc_t rfl, ifc_t a1059])) rfl dX11_shelf_134
          · refine lv_if_ne (tgt := 106) hx hb dX11_shelf_96 (by decide) (fun _ => ?_) (fun c9 => absurd c9 (by decide))
            refine lv_iload_n hx hb dX11_shelf_106 rfl (lv_at hl 2 rfl) ?_
            refine lv_iconst (v := 3) hx hb dX11_shelf_107 (by decide) ?_
            refine lv_icmp_ne (tgt := 123) hx hb dX11_shelf_108 (by decide) (fun c9 => absurd (c_10_1057) c9) (fun _ => ?_)
            refine lv_aload_n hx hb dX11_shelf_111 rfl (lv_at hl 0 rfl) ?_
            refine gf_X11_72 hC rfl hK hP 0 rfl rfl dX11_shelf_112 ?_
            refine lv_iload_n hx hb dX11_shelf_115 rfl (lv_at hl 1 rfl) ?_
            refine lv_iload_n hx hb dX11_shelf_116 rfl (lv_at hl 3 rfl) ?_
            refine vV (wr := [(h0, .inr (11, [.ref B, .ref K, .int 0, .ref S, .ref D, .ref R, .ref Ta, .ref Tp, .ref Ro, .ref Ho, .ref De])), (B, .inr (0, [.ref bpersons, .ref bpapers, .ref bstamps, .ref bversions, .ref blines, .ref bsteps, .ref bsayings, .ref bfindings, .ref bwarnings, .ref bquestions, .int 0, .int (-1), .int 3, .int 24])), (bpapers, .inr (8, [.int 12, .int 6, .ref bpapersc, .int 0])), (bsayings, .inr (8, [.int 16, .int 8, .ref bsayingsc, .int 0])), (bfindings, .inr (8, [.int 12, .int 4, .ref bfindingsc, .int 0]))]) hC hK hl hP hD hS hA (c_holdRow_1_3 l G Ho hs hz hi hw hn ht) si_X11_321 [1, 2, 3, 4, 5, 6] [0, 7, 8, 9, 10] rfl rfl (by decide) rfl (by decide) (by decide) rfl rfl rfl rfl rfl (Nat.le_of_ble_eq_true rfl) ⟨Nat.le_of_ble_eq_true rfl, Nat.le_of_ble_eq_true rfl⟩ ⟨Nat.le_of_ble_eq_true rfl, Nat.le_of_ble_eq_true rfl⟩ dX11_shelf_117 (fun u1067 H locs hr1066 hP hD hS => ?_)
            have hP : va_P G.1 vwCl [(h0, .inr (11, [.ref B, .ref K, .int 0, .ref S, .ref D, .ref R, .ref Ta, .ref Tp, .ref Ro, .ref Ho, .ref De])), (B, .inr (0, [.ref bpersons, .ref bpapers, .ref bstamps, .ref bversions, .ref blines, .ref bsteps, .ref bsayings, .ref bfindings, .ref bwarnings, .ref bquestions, .int 0, .int (-1), .int 3, .int 24])), (bpapers, .inr (8, [.int 12, .int 6, .ref bpapersc, .int 0])), (bsayings, .inr (8, [.int 16, .int 8, .ref bsayingsc, .int 0])), (bfindings, .inr (8, [.int 12, .int 4, .ref bfindingsc, .int 0]))] H := hP
            have hD : va_D A [(h0, .inr (11, [.ref B, .ref K, .int 0, .ref S, .ref D, .ref R, .ref Ta, .ref Tp, .ref Ro, .ref Ho, .ref De])), (B, .inr (0, [.ref bpersons, .ref bpapers, .ref bstamps, .ref bversions, .ref blines, .ref bsteps, .ref bsayings, .ref bfindings, .ref bwarnings, .ref bquestions, .int 0, .int (-1), .int 3, .int 24])), (bpapers, .inr (8, [.int 12, .int 6, .ref bpapersc, .int 0])), (bsayings, .inr (8, [.int 16, .int 8, .ref bsayingsc, .int 0])), (bfindings, .inr (8, [.int 12, .int 4, .ref bfindingsc, .int 0]))] := hD
            refine lv_goto (tgt := 133) hx hb dX11_shelf_120 (by decide) ?_
            refine lv_iconst (v := 1) hx hb dX11_shelf_133 (by decide) ?_
            exact RI (v := 1) hC hP hD hS [] () rfl rfl (by decide) ((by subst c_10_1057; unfold A_shelf; rw [ifc_t a1024, ifc_t rfl, ifc_t a1059])) rfl dX11_shelf_134
        · refine lv_if_ne (tgt := 106) hx hb dX11_shelf_96 (by decide) (fun c9 => absurd (by decide) c9) (fun _ => ?_)
          refine lv_iconst (v := (-1)) hx hb dX11_shelf_99 (by decide) ?_
          exact RI (v := (-1)) hC hP hD hS [] () rfl rfl (by decide) ((by subst c_10_1057; unfold A_shelf; rw [ifc_t a1024, ifc_t rfl, ifc_f a1059])) rfl dX11_shelf_100
      by_cases c_10_1068 : w = 4
      · refine lv_tableIn (tgt := 101) hx hb dX11_shelf_10 (by rw [c_10_1068]; decide) (by rw [c_10_1068]; decide) (by rw [c_10_1068]; rfl) (by decide) ?_
        refine lv_goto (tgt := 106) hx hb dX11_shelf_101 (by decide) ?_
        refine lv_iload_n hx hb dX11_shelf_106 rfl (lv_at hl 2 rfl) ?_
        refine lv_iconst (v := 3) hx hb dX11_shelf_107 (by decide) ?_
        refine lv_icmp_ne (tgt := 123) hx hb dX11_shelf_108 (by decide) (fun _ => ?_) (fun c9 => absurd c9 (c_10_1057))
        refine lv_aload_n hx hb dX11_shelf_123 rfl (lv_at hl 0 rfl) ?_
        refine gf_X11_72 hC rfl hK hP 0 rfl rfl dX11_shelf_124 ?_
        refine lv_iload_n hx hb dX11_shelf_127 rfl (lv_at hl 1 rfl) ?_
        refine lv_iload_n hx hb dX11_shelf_128 rfl (lv_at hl 2 rfl) ?_
        refine lv_iload_n hx hb dX11_shelf_129 rfl (lv_at hl 3 rfl) ?_
        refine vV (wr := [(h0, .inr (11, [.ref B, .ref K, .int 0, .ref S, .ref D, .ref R, .ref Ta, .ref Tp, .ref Ro, .ref Ho, .ref De])), (ht, .inl (G.2.1, 4, .inl (fun _ => 0))), (hs, .inl (G.2.1, 4, .inl (upd (upd (upd (upd (fun _ => 0) 0 (-1)) 1 (-1)) 2 (-1)) 3 (-1)))), (hz, .inl (G.2.1, 4, .inl (fun _ => 0))), (B, .inr (0, [.ref bpersons, .ref bpapers, .ref bstamps, .ref bversions, .ref blines, .ref bsteps, .ref bsayings, .ref bfindings, .ref bwarnings, .ref bquestions, .int 0, .int (-1), .int 3, .int 24])), (bpapers, .inr (8, [.int 12, .int 6, .ref bpapersc, .int 0])), (bsayings, .inr (8, [.int 16, .int 8, .ref bsayingsc, .int 0])), (bfindings, .inr (8, [.int 12, .int 4, .ref bfindingsc, .int 0]))]) hC hK hl hP hD hS hA (c_hold_1 l G Ho w n hs hz hi hw hn ht) si_X11_324 [1, 2, 3] [0, 4, 5, 6, 7, 8, 9, 10] rfl rfl (by decide) rfl (by decide) (by decide) rfl rfl rfl rfl rfl (Nat.le_of_ble_eq_true rfl) ⟨Nat.le_of_ble_eq_true rfl, Nat.le_of_ble_eq_true rfl⟩ ⟨Nat.le_of_ble_eq_true rfl, Nat.le_of_ble_eq_true rfl⟩ dX11_shelf_130 (fun u1070 H locs hr1069 hP hD hS => ?_)
        have hP : va_P G.1 vwCl [(h0, .inr (11, [.ref B, .ref K, .int 0, .ref S, .ref D, .ref R, .ref Ta, .ref Tp, .ref Ro, .ref Ho, .ref De])), (ht, .inl (G.2.1, 4, .inl (fun _ => 0))), (hs, .inl (G.2.1, 4, .inl (upd (upd (upd (upd (fun _ => 0) 0 (-1)) 1 (-1)) 2 (-1)) 3 (-1)))), (hz, .inl (G.2.1, 4, .inl (fun _ => 0))), (B, .inr (0, [.ref bpersons, .ref bpapers, .ref bstamps, .ref bversions, .ref blines, .ref bsteps, .ref bsayings, .ref bfindings, .ref bwarnings, .ref bquestions, .int 0, .int (-1), .int 3, .int 24])), (bpapers, .inr (8, [.int 12, .int 6, .ref bpapersc, .int 0])), (bsayings, .inr (8, [.int 16, .int 8, .ref bsayingsc, .int 0])), (bfindings, .inr (8, [.int 12, .int 4, .ref bfindingsc, .int 0]))] H := hP
        have hD : va_D A [(h0, .inr (11, [.ref B, .ref K, .int 0, .ref S, .ref D, .ref R, .ref Ta, .ref Tp, .ref Ro, .ref Ho, .ref De])), (ht, .inl (G.2.1, 4, .inl (fun _ => 0))), (hs, .inl (G.2.1, 4, .inl (upd (upd (upd (upd (fun _ => 0) 0 (-1)) 1 (-1)) 2 (-1)) 3 (-1)))), (hz, .inl (G.2.1, 4, .inl (fun _ => 0))), (B, .inr (0, [.ref bpersons, .ref bpapers, .ref bstamps, .ref bversions, .ref blines, .ref bsteps, .ref bsayings, .ref bfindings, .ref bwarnings, .ref bquestions, .int 0, .int (-1), .int 3, .int 24])), (bpapers, .inr (8, [.int 12, .int 6, .ref bpapersc, .int 0])), (bsayings, .inr (8, [.int 16, .int 8, .ref bsayingsc, .int 0])), (bfindings, .inr (8, [.int 12, .int 4, .ref bfindingsc, .int 0]))] := hD
        refine lv_iconst (v := 1) hx hb dX11_shelf_133 (by decide) ?_
        exact RI (v := 1) hC hP hD hS [] () rfl rfl (by decide) ((by subst c_10_1068; unfold A_shelf; rw [ifc_t a1024, ifc_f (by decide), ifc_t rfl])) rfl dX11_shelf_134
      refine lv_tableOut (tgt := 104) hx hb dX11_shelf_10 (by have q9 := sw_0_4 (x := w); simp only [c_10_1048, c_10_1051, c_10_1054, c_10_1057, c_10_1068, not_false_eq_true, true_implies] at q9; exact q9) (by decide) ?_
      refine lv_iconst (v := (-1)) hx hb dX11_shelf_104 (by decide) ?_
      exact RI (v := (-1)) hC hP hD hS [] () rfl rfl (by decide) ((by unfold A_shelf; rw [ifc_t a1024, ifc_f c_10_1057, ifc_f c_10_1068])) rfl dX11_shelf_105
    · refine lv_if_ne (tgt := 9) hx hb dX11_shelf_4 (by decide) (fun _ => ?_) (fun c9 => absurd c9 (by decide))
      refine lv_iload_n hx hb dX11_shelf_9 rfl (lv_at hl 2 rfl) ?_
      by_cases c_10_1071 : w = 0
      · refine lv_tableIn (tgt := 44) hx hb dX11_shelf_10 (by rw [c_10_1071]; decide) (by rw [c_10_1071]; decide) (by rw [c_10_1071]; rfl) (by decide) ?_
        refine lv_aload_n hx hb dX11_shelf_44 rfl (lv_at hl 0 rfl) ?_
        refine gf_X11_15 hC rfl hK hP 0 rfl rfl dX11_shelf_45 ?_
        refine gf_X11_144 hC rfl hK hP 7 rfl rfl dX11_shelf_48 ?_
        refine lv_iload_n hx hb dX11_shelf_51 rfl (lv_at hl 3 rfl) ?_
        refine pV hC hK hl hP hD (c_T_has l G bpapers bpapersc 12 6 0 n) si_X11_124 [8] rfl rfl (by decide) rfl rfl rfl rfl rfl (Nat.le_of_ble_eq_true rfl) ⟨Nat.le_of_ble_eq_true rfl, Nat.le_of_ble_eq_true rfl⟩ ⟨by first | exact Nat.le_of_ble_eq_true rfl | exact Nat.zero_le _, by first | exact Nat.le_of_ble_eq_true rfl | exact Nat.zero_le _⟩ dX11_shelf_52 (fun r1072 hr1072 => ?_)
        rcases hr1072 with ⟨rfl, a1073⟩ | ⟨rfl, a1073⟩
        · exact absurd a1073 (Hs_none _)
        · refine lv_if_ne (tgt := 106) hx hb dX11_shelf_55 (by decide) (fun c9 => absurd (by decide) c9) (fun _ => ?_)
          refine lv_iconst (v := (-1)) hx hb dX11_shelf_58 (by decide) ?_
          exact RI (v := (-1)) hC hP hD hS [] () rfl rfl (by decide) ((by subst c_10_1071; unfold A_shelf; rw [ifc_t a1024, ifc_f (by decide), ifc_f (by decide)])) rfl dX11_shelf_59
      by_cases c_10_1074 : w = 1
      · refine lv_tableIn (tgt := 60) hx hb dX11_shelf_10 (by rw [c_10_1074]; decide) (by rw [c_10_1074]; decide) (by rw [c_10_1074]; rfl) (by decide) ?_
        refine lv_aload_n hx hb dX11_shelf_60 rfl (lv_at hl 0 rfl) ?_
        refine gf_X11_15 hC rfl hK hP 0 rfl rfl dX11_shelf_61 ?_
        refine gf_X11_256 hC rfl hK hP 7 rfl rfl dX11_shelf_64 ?_
        refine lv_iload_n hx hb dX11_shelf_67 rfl (lv_at hl 3 rfl) ?_
        refine pV hC hK hl hP hD (c_T_has l G bsayings bsayingsc 16 8 0 n) si_X11_124 [9] rfl rfl (by decide) rfl rfl rfl rfl rfl (Nat.le_of_ble_eq_true rfl) ⟨Nat.le_of_ble_eq_true rfl, Nat.le_of_ble_eq_true rfl⟩ ⟨by first | exact Nat.le_of_ble_eq_true rfl | exact Nat.zero_le _, by first | exact Nat.le_of_ble_eq_true rfl | exact Nat.zero_le _⟩ dX11_shelf_68 (fun r1075 hr1075 => ?_)
        rcases hr1075 with ⟨rfl, a1076⟩ | ⟨rfl, a1076⟩
        · exact absurd a1076 (Hs_none _)
        · refine lv_if_ne (tgt := 106) hx hb dX11_shelf_71 (by decide) (fun c9 => absurd (by decide) c9) (fun _ => ?_)
          refine lv_iconst (v := (-1)) hx hb dX11_shelf_74 (by decide) ?_
          exact RI (v := (-1)) hC hP hD hS [] () rfl rfl (by decide) ((by subst c_10_1074; unfold A_shelf; rw [ifc_t a1024, ifc_f (by decide), ifc_f (by decide)])) rfl dX11_shelf_75
      by_cases c_10_1077 : w = 2
      · refine lv_tableIn (tgt := 76) hx hb dX11_shelf_10 (by rw [c_10_1077]; decide) (by rw [c_10_1077]; decide) (by rw [c_10_1077]; rfl) (by decide) ?_
        refine lv_aload_n hx hb dX11_shelf_76 rfl (lv_at hl 0 rfl) ?_
        refine gf_X11_15 hC rfl hK hP 0 rfl rfl dX11_shelf_77 ?_
        refine gf_X11_271 hC rfl hK hP 7 rfl rfl dX11_shelf_80 ?_
        refine lv_iload_n hx hb dX11_shelf_83 rfl (lv_at hl 3 rfl) ?_
        refine pV hC hK hl hP hD (c_T_has l G bfindings bfindingsc 12 4 0 n) si_X11_124 [10] rfl rfl (by decide) rfl rfl rfl rfl rfl (Nat.le_of_ble_eq_true rfl) ⟨Nat.le_of_ble_eq_true rfl, Nat.le_of_ble_eq_true rfl⟩ ⟨by first | exact Nat.le_of_ble_eq_true rfl | exact Nat.zero_le _, by first | exact Nat.le_of_ble_eq_true rfl | exact Nat.zero_le _⟩ dX11_shelf_84 (fun r1078 hr1078 => ?_)
        rcases hr1078 with ⟨rfl, a1079⟩ | ⟨rfl, a1079⟩
        · exact absurd a1079 (Hs_none _)
        · refine lv_if_ne (tgt := 106) hx hb dX11_shelf_87 (by decide) (fun c9 => absurd (by decide) c9) (fun _ => ?_)
          refine lv_iconst (v := (-1)) hx hb dX11_shelf_90 (by decide) ?_
          exact RI (v := (-1)) hC hP hD hS [] () rfl rfl (by decide) ((by subst c_10_1077; unfold A_shelf; rw [ifc_t a1024, ifc_f (by decide), ifc_f (by decide)])) rfl dX11_shelf_91
      by_cases c_10_1080 : w = 3
      · refine lv_tableIn (tgt := 92) hx hb dX11_shelf_10 (by rw [c_10_1080]; decide) (by rw [c_10_1080]; decide) (by rw [c_10_1080]; rfl) (by decide) ?_
        refine lv_iload_n hx hb dX11_shelf_92 rfl (lv_at hl 3 rfl) ?_
        refine pS hC hK hl (c_isSheet l G n) si_X11_164 rfl rfl (Nat.le_of_ble_eq_true rfl) ⟨Nat.le_of_ble_eq_true rfl, Nat.le_of_ble_eq_true rfl⟩ ⟨by first | exact Nat.le_of_ble_eq_true rfl | exact Nat.zero_le _, by first | exact Nat.le_of_ble_eq_true rfl | exact Nat.zero_le _⟩ dX11_shelf_93 (fun r1081 hr1081 => ?_)
        rcases hr1081 with ⟨rfl, a1082⟩ | ⟨rfl, a1082⟩
        · rcases Wi_c3 a1082 with rfl | rfl | rfl | rfl
          · refine lv_if_ne (tgt := 106) hx hb dX11_shelf_96 (by decide) (fun _ => ?_) (fun c9 => absurd c9 (by decide))
            refine lv_iload_n hx hb dX11_shelf_106 rfl (lv_at hl 2 rfl) ?_
            refine lv_iconst (v := 3) hx hb dX11_shelf_107 (by decide) ?_
            refine lv_icmp_ne (tgt := 123) hx hb dX11_shelf_108 (by decide) (fun c9 => absurd (c_10_1080) c9) (fun _ => ?_)
            refine lv_aload_n hx hb dX11_shelf_111 rfl (lv_at hl 0 rfl) ?_
            refine gf_X11_72 hC rfl hK hP 0 rfl rfl dX11_shelf_112 ?_
            refine lv_iload_n hx hb dX11_shelf_115 rfl (lv_at hl 1 rfl) ?_
            refine lv_iload_n hx hb dX11_shelf_116 rfl (lv_at hl 3 rfl) ?_
            refine vV (wr := [(h0, .inr (11, [.ref B, .ref K, .int 0, .ref S, .ref D, .ref R, .ref Ta, .ref Tp, .ref Ro, .ref Ho, .ref De])), (B, .inr (0, [.ref bpersons, .ref bpapers, .ref bstamps, .ref bversions, .ref blines, .ref bsteps, .ref bsayings, .ref bfindings, .ref bwarnings, .ref bquestions, .int 0, .int (-1), .int 3, .int 24])), (bpapers, .inr (8, [.int 12, .int 6, .ref bpapersc, .int 0])), (bsayings, .inr (8, [.int 16, .int 8, .ref bsayingsc, .int 0])), (bfindings, .inr (8, [.int 12, .int 4, .ref bfindingsc, .int 0]))]) hC hK hl hP hD hS hA (c_holdRow_2_0 l G Ho hs hz hi hw hn ht) si_X11_321 [1, 2, 3, 4, 5, 6] [0, 7, 8, 9, 10] rfl rfl (by decide) rfl (by decide) (by decide) rfl rfl rfl rfl rfl (Nat.le_of_ble_eq_true rfl) ⟨Nat.le_of_ble_eq_true rfl, Nat.le_of_ble_eq_true rfl⟩ ⟨Nat.le_of_ble_eq_true rfl, Nat.le_of_ble_eq_true rfl⟩ dX11_shelf_117 (fun u1084 H locs hr1083 hP hD hS => ?_)
            have hP : va_P G.1 vwCl [(h0, .inr (11, [.ref B, .ref K, .int 0, .ref S, .ref D, .ref R, .ref Ta, .ref Tp, .ref Ro, .ref Ho, .ref De])), (B, .inr (0, [.ref bpersons, .ref bpapers, .ref bstamps, .ref bversions, .ref blines, .ref bsteps, .ref bsayings, .ref bfindings, .ref bwarnings, .ref bquestions, .int 0, .int (-1), .int 3, .int 24])), (bpapers, .inr (8, [.int 12, .int 6, .ref bpapersc, .int 0])), (bsayings, .inr (8, [.int 16, .int 8, .ref bsayingsc, .int 0])), (bfindings, .inr (8, [.int 12, .int 4, .ref bfindingsc, .int 0]))] H := hP
            have hD : va_D A [(h0, .inr (11, [.ref B, .ref K, .int 0, .ref S, .ref D, .ref R, .ref Ta, .ref Tp, .ref Ro, .ref Ho, .ref De])), (B, .inr (0, [.ref bpersons, .ref bpapers, .ref bstamps, .ref bversions, .ref blines, .ref bsteps, .ref bsayings, .ref bfindings, .ref bwarnings, .ref bquestions, .int 0, .int (-1), .int 3, .int 24])), (bpapers, .inr (8, [.int 12, .int 6, .ref bpapersc, .int 0])), (bsayings, .inr (8, [.int 16, .int 8, .ref bsayingsc, .int 0])), (bfindings, .inr (8, [.int 12, .int 4, .ref bfindingsc, .int 0]))] := hD
            refine lv_goto (tgt := 133) hx hb dX11_shelf_120 (by decide) ?_
            refine lv_iconst (v := 1) hx hb dX11_shelf_133 (by decide) ?_
            exact RI (v := 1) hC hP hD hS [] () rfl rfl (by decide) ((by subst c_10_1080; unfold A_shelf; rw [ifc_t a1024, ifc_t rfl, ifc_t a1082])) rfl dX11_shelf_134
          · refine lv_if_ne (tgt := 106) hx hb dX11_shelf_96 (by decide) (fun _ => ?_) (fun c9 => absurd c9 (by decide))
            refine lv_iload_n hx hb dX11_shelf_106 rfl (lv_at hl 2 rfl) ?_
            refine lv_iconst (v := 3) hx hb dX11_shelf_107 (by decide) ?_
            refine lv_icmp_ne (tgt := 123) hx hb dX11_shelf_108 (by decide) (fun c9 => absurd (c_10_1080) c9) (fun _ => ?_)
            refine lv_aload_n hx hb dX11_shelf_111 rfl (lv_at hl 0 rfl) ?_
            refine gf_X11_72 hC rfl hK hP 0 rfl rfl dX11_shelf_112 ?_
            refine lv_iload_n hx hb dX11_shelf_115 rfl (lv_at hl 1 rfl) ?_
            refine lv_iload_n hx hb dX11_shelf_116 rfl (lv_at hl 3 rfl) ?_
            refine vV (wr := [(h0, .inr (11, [.ref B, .ref K, .int 0, .ref S, .ref D, .ref R, .ref Ta, .ref Tp, .ref Ro, .ref Ho, .ref De])), (B, .inr (0, [.ref bpersons, .ref bpapers, .ref bstamps, .ref bversions, .ref blines, .ref bsteps, .ref bsayings, .ref bfindings, .ref bwarnings, .ref bquestions, .int 0, .int (-1), .int 3, .int 24])), (bpapers, .inr (8, [.int 12, .int 6, .ref bpapersc, .int 0])), (bsayings, .inr (8, [.int 16, .int 8, .ref bsayingsc, .int 0])), (bfindings, .inr (8, [.int 12, .int 4, .ref bfindingsc, .int 0]))]) hC hK hl hP hD hS hA (c_holdRow_2_1 l G Ho hs hz hi hw hn ht) si_X11_321 [1, 2, 3, 4, 5, 6] [0, 7, 8, 9, 10] rfl rfl (by decide) rfl (by decide) (by decide) rfl rfl rfl rfl rfl (Nat.le_of_ble_eq_true rfl) ⟨Nat.le_of_ble_eq_true rfl, Nat.le_of_ble_eq_true rfl⟩ ⟨Nat.le_of_ble_eq_true rfl, Nat.le_of_ble_eq_true rfl⟩ dX11_shelf_117 (fun u1086 H locs hr1085 hP hD hS => ?_)
            have hP : va_P G.1 vwCl [(h0, .inr (11, [.ref B, .ref K, .int 0, .ref S, .ref D, .ref R, .ref Ta, .ref Tp, .ref Ro, .ref Ho, .ref De])), (B, .inr (0, [.ref bpersons, .ref bpapers, .ref bstamps, .ref bversions, .ref blines, .ref bsteps, .ref bsayings, .ref bfindings, .ref bwarnings, .ref bquestions, .int 0, .int (-1), .int 3, .int 24])), (bpapers, .inr (8, [.int 12, .int 6, .ref bpapersc, .int 0])), (bsayings, .inr (8, [.int 16, .int 8, .ref bsayingsc, .int 0])), (bfindings, .inr (8, [.int 12, .int 4, .ref bfindingsc, .int 0]))] H := hP
            have hD : va_D A [(h0, .inr (11, [.ref B, .ref K, .int 0, .ref S, .ref D, .ref R, .ref Ta, .ref Tp, .ref Ro, .ref Ho, .ref De])), (B, .inr (0, [.ref bpersons, .ref bpapers, .ref bstamps, .ref bversions, .ref blines, .ref bsteps, .ref bsayings, .ref bfindings, .ref bwarnings, .ref bquestions, .int 0, .int (-1), .int 3, .int 24])), (bpapers, .inr (8, [.int 12, .int 6, .ref bpapersc, .int 0])), (bsayings, .inr (8, [.int 16, .int 8, .ref bsayingsc, .int 0])), (bfindings, .inr (8, [.int 12, .int 4, .ref bfindingsc, .int 0]))] := hD
            refine lv_goto (tgt := 133) hx hb dX11_shelf_120 (by decide) ?_
            refine lv_iconst (v := 1) hx hb dX11_shelf_133 (by decide) ?_
            exact RI (v := 1) hC hP hD hS [] () rfl rfl (by decide) ((by subst c_10_1080; unfold A_shelf; rw [ifc_t a1024, ifc_t rfl, ifc_t a1082])) rfl dX11_shelf_134
          · refine lv_if_ne (tgt := 106) hx hb dX11_shelf_96 (by decide) (fun _ => ?_) (fun c9 => absurd c9 (by decide))
            refine lv_iload_n hx hb dX11_shelf_106 rfl (lv_at hl 2 rfl) ?_
            refine lv_iconst (v := 3) hx hb dX11_shelf_107 (by decide) ?_
            refine lv_icmp_ne (tgt := 123) hx hb dX11_shelf_108 (by decide) (fun c9 => absurd (c_10_1080) c9) (fun _ => ?_)
            refine lv_aload_n hx hb dX11_shelf_111 rfl (lv_at hl 0 rfl) ?_
            refine gf_X11_72 hC rfl hK hP 0 rfl rfl dX11_shelf_112 ?_
            refine lv_iload_n hx hb dX11_shelf_115 rfl (lv_at hl 1 rfl) ?_
            refine lv_iload_n hx hb dX11_shelf_116 rfl (lv_at hl 3 rfl) ?_
            refine vV (wr := [(h0, .inr (11, [.ref B, .ref K, .int 0, .ref S, .ref D, .ref R, .ref Ta, .ref Tp, .ref Ro, .ref Ho, .ref De])), (B, .inr (0, [.ref bpersons, .ref bpapers, .ref bstamps, .ref bversions, .ref blines, .ref bsteps, .ref bsayings, .ref bfindings, .ref bwarnings, .ref bquestions, .int 0, .int (-1), .int 3, .int 24])), (bpapers, .inr (8, [.int 12, .int 6, .ref bpapersc, .int 0])), (bsayings, .inr (8, [.int 16, .int 8, .ref bsayingsc, .int 0])), (bfindings, .inr (8, [.int 12, .int 4, .ref bfindingsc, .int 0]))]) hC hK hl hP hD hS hA (c_holdRow_2_2 l G Ho hs hz hi hw hn ht) si_X11_321 [1, 2, 3, 4, 5, 6] [0, 7, 8, 9, 10] rfl rfl (by decide) rfl (by decide) (by decide) rfl rfl rfl rfl rfl (Nat.le_of_ble_eq_true rfl) ⟨Nat.le_of_ble_eq_true rfl, Nat.le_of_ble_eq_true rfl⟩ ⟨Nat.le_of_ble_eq_true rfl, Nat.le_of_ble_eq_true rfl⟩ dX11_shelf_117 (fun u1088 H locs hr1087 hP hD hS => ?_)
            have hP : va_P G.1 vwCl [(h0, .inr (11, [.ref B, .ref K, .int 0, .ref S, .ref D, .ref R, .ref Ta, .ref Tp, .ref Ro, .ref Ho, .ref De])), (B, .inr (0, [.ref bpersons, .ref bpapers, .ref bstamps, .ref bversions, .ref blines, .ref bsteps, .ref bsayings, .ref bfindings, .ref bwarnings, .ref bquestions, .int 0, .int (-1), .int 3, .int 24])), (bpapers, .inr (8, [.int 12, .int 6, .ref bpapersc, .int 0])), (bsayings, .inr (8, [.int 16, .int 8, .ref bsayingsc, .int 0])), (bfindings, .inr (8, [.int 12, .int 4, .ref bfindingsc, .int 0]))] H := hP
            have hD : va_D A [(h0, .inr (11, [.ref B, .ref K, .int 0, .ref S, .ref D, .ref R, .ref Ta, .ref Tp, .ref Ro, .ref Ho, .ref De])), (B, .inr (0, [.ref bpersons, .ref bpapers, .ref bstamps, .ref bversions, .ref blines, .ref bsteps, .ref bsayings, .ref bfindings, .ref bwarnings, .ref bquestions, .int 0, .int (-1), .int 3, .int 24])), (bpapers, .inr (8, [.int 12, .int 6, .ref bpapersc, .int 0])), (bsayings, .inr (8, [.int 16, .int 8, .ref bsayingsc, .int 0])), (bfindings, .inr (8, [.int 12, .int 4, .ref bfindingsc, .int 0]))] := hD
            refine lv_goto (tgt := 133) hx hb dX11_shelf_120 (by decide) ?_
            refine lv_iconst (v := 1) hx hb dX11_shelf_133 (by decide) ?_
            exact RI (v := 1) hC hP hD hS [] () rfl rfl (by decide) ((by subst c_10_1080; unfold A_shelf; rw [ifc_t a1082, ifc_t rfl, ifc_t a1082])) rfl dX11_shelf_134
          · refine lv_if_ne (tgt := 106) hx hb dX11_shelf_96 (by decide) (fun _ => ?_) (fun c9 => absurd c9 (by decide))
            refine lv_iload_n hx hb dX11_shelf_106 rfl (lv_at hl 2 rfl) ?_
            refine lv_iconst (v := 3) hx hb dX11_shelf_107 (by decide) ?_
            refine lv_icmp_ne (tgt := 123) hx hb dX11_shelf_108 (by decide) (fun c9 => absurd (c_10_1080) c9) (fun _ => ?_)
            refine lv_aload_n hx hb dX11_shelf_111 rfl (lv_at hl 0 rfl) ?_
            refine gf_X11_72 hC rfl hK hP 0 rfl rfl dX11_shelf_112 ?_
            refine lv_iload_n hx hb dX11_shelf_115 rfl (lv_at hl 1 rfl) ?_
            refine lv_iload_n hx hb dX11_shelf_116 rfl (lv_at hl 3 rfl) ?_
            refine vV (wr := [(h0, .inr (11, [.ref B, .ref K, .int 0, .ref S, .ref D, .ref R, .ref Ta, .ref Tp, .ref Ro, .ref Ho, .ref De])), (B, .inr (0, [.ref bpersons, .ref bpapers, .ref bstamps, .ref bversions, .ref blines, .ref bsteps, .ref bsayings, .ref bfindings, .ref bwarnings, .ref bquestions, .int 0, .int (-1), .int 3, .int 24])), (bpapers, .inr (8, [.int 12, .int 6, .ref bpapersc, .int 0])), (bsayings, .inr (8, [.int 16, .int 8, .ref bsayingsc, .int 0])), (bfindings, .inr (8, [.int 12, .int 4, .ref bfindingsc, .int 0]))]) hC hK hl hP hD hS hA (c_holdRow_2_3 l G Ho hs hz hi hw hn ht) si_X11_321 [1, 2, 3, 4, 5, 6] [0, 7, 8, 9, 10] rfl rfl (by decide) rfl (by decide) (by decide) rfl rfl rfl rfl rfl (Nat.le_of_ble_eq_true rfl) ⟨Nat.le_of_ble_eq_true rfl, Nat.le_of_ble_eq_true rfl⟩ ⟨Nat.le_of_ble_eq_true rfl, Nat.le_of_ble_eq_true rfl⟩ dX11_shelf_117 (fun u1090 H locs hr1089 hP hD hS => ?_)
            have hP : va_P G.1 vwCl [(h0, .inr (11, [.ref B, .ref K, .int 0, .ref S, .ref D, .ref R, .ref Ta, .ref Tp, .ref Ro, .ref Ho, .ref De])), (B, .inr (0, [.ref bpersons, .ref bpapers, .ref bstamps, .ref bversions, .ref blines, .ref bsteps, .ref bsayings, .ref bfindings, .ref bwarnings, .ref bquestions, .int 0, .int (-1), .int 3, .int 24])), (bpapers, .inr (8, [.int 12, .int 6, .ref bpapersc, .int 0])), (bsayings, .inr (8, [.int 16, .int 8, .ref bsayingsc, .int 0])), (bfindings, .inr (8, [.int 12, .int 4, .ref bfindingsc, .int 0]))] H := hP
            have hD : va_D A [(h0, .inr (11, [.ref B, .ref K, .int 0, .ref S, .ref D, .ref R, .ref Ta, .ref Tp, .ref Ro, .ref Ho, .ref De])), (B, .inr (0, [.ref bpersons, .ref bpapers, .ref bstamps, .ref bversions, .ref blines, .ref bsteps, .ref bsayings, .ref bfindings, .ref bwarnings, .ref bquestions, .int 0, .int (-1), .int 3, .int 24])), (bpapers, .inr (8, [.int 12, .int 6, .ref bpapersc, .int 0])), (bsayings, .inr (8, [.int 16, .int 8, .ref bsayingsc, .int 0])), (bfindings, .inr (8, [.int 12, .int 4, .ref bfindingsc, .int 0]))] := hD
            refine lv_goto (tgt := 133) hx hb dX11_shelf_120 (by decide) ?_
            refine lv_iconst (v := 1) hx hb dX11_shelf_133 (by decide) ?_
            exact RI (v := 1) hC hP hD hS [] () rfl rfl (by decide) ((by subst c_10_1080; unfold A_shelf; rw [ifc_t a1024, ifc_t rfl, ifc_t a1082])) rfl dX11_shelf_134
        · refine lv_if_ne (tgt := 106) hx hb dX11_shelf_96 (by decide) (fun c9 => absurd (by decide) c9) (fun _ => ?_)
          refine lv_iconst (v := (-1)) hx hb dX11_shelf_99 (by decide) ?_
          exact RI (v := (-1)) hC hP hD hS [] () rfl rfl (by decide) ((by subst c_10_1080; unfold A_shelf; rw [ifc_t a1024, ifc_t rfl, ifc_f a1082])) rfl dX11_shelf_100
      by_cases c_10_1091 : w = 4
      · refine lv_tableIn (tgt := 101) hx hb dX11_shelf_10 (by rw [c_10_1091]; decide) (by rw [c_10_1091]; decide) (by rw [c_10_1091]; rfl) (by decide) ?_
        refine lv_goto (tgt := 106) hx hb dX11_shelf_101 (by decide) ?_
        refine lv_iload_n hx hb dX11_shelf_106 rfl (lv_at hl 2 rfl) ?_
        refine lv_iconst (v := 3) hx hb dX11_shelf_107 (by decide) ?_
        refine lv_icmp_ne (tgt := 123) hx hb dX11_shelf_108 (by decide) (fun _ => ?_) (fun c9 => absurd c9 (c_10_1080))
        refine lv_aload_n hx hb dX11_shelf_123 rfl (lv_at hl 0 rfl) ?_
        refine gf_X11_72 hC rfl hK hP 0 rfl rfl dX11_shelf_124 ?_
        refine lv_iload_n hx hb dX11_shelf_127 rfl (lv_at hl 1 rfl) ?_
        refine lv_iload_n hx hb dX11_shelf_128 rfl (lv_at hl 2 rfl) ?_
        refine lv_iload_n hx hb dX11_shelf_129 rfl (lv_at hl 3 rfl) ?_
        refine vV (wr := [(h0, .inr (11, [.ref B, .ref K, .int 0, .ref S, .ref D, .ref R, .ref Ta, .ref Tp, .ref Ro, .ref Ho, .ref De])), (ht, .inl (G.2.1, 4, .inl (fun _ => 0))), (hs, .inl (G.2.1, 4, .inl (upd (upd (upd (upd (fun _ => 0) 0 (-1)) 1 (-1)) 2 (-1)) 3 (-1)))), (hz, .inl (G.2.1, 4, .inl (fun _ => 0))), (B, .inr (0, [.ref bpersons, .ref bpapers, .ref bstamps, .ref bversions, .ref blines, .ref bsteps, .ref bsayings, .ref bfindings, .ref bwarnings, .ref bquestions, .int 0, .int (-1), .int 3, .int 24])), (bpapers, .inr (8, [.int 12, .int 6, .ref bpapersc, .int 0])), (bsayings, .inr (8, [.int 16, .int 8, .ref bsayingsc, .int 0])), (bfindings, .inr (8, [.int 12, .int 4, .ref bfindingsc, .int 0]))]) hC hK hl hP hD hS hA (c_hold_2 l G Ho w n hs hz hi hw hn ht) si_X11_324 [1, 2, 3] [0, 4, 5, 6, 7, 8, 9, 10] rfl rfl (by decide) rfl (by decide) (by decide) rfl rfl rfl rfl rfl (Nat.le_of_ble_eq_true rfl) ⟨Nat.le_of_ble_eq_true rfl, Nat.le_of_ble_eq_true rfl⟩ ⟨Nat.le_of_ble_eq_true rfl, Nat.le_of_ble_eq_true rfl⟩ dX11_shelf_130 (fun u1093 H locs hr1092 hP hD hS => ?_)
        have hP : va_P G.1 vwCl [(h0, .inr (11, [.ref B, .ref K, .int 0, .ref S, .ref D, .ref R, .ref Ta, .ref Tp, .ref Ro, .ref Ho, .ref De])), (ht, .inl (G.2.1, 4, .inl (fun _ => 0))), (hs, .inl (G.2.1, 4, .inl (upd (upd (upd (upd (fun _ => 0) 0 (-1)) 1 (-1)) 2 (-1)) 3 (-1)))), (hz, .inl (G.2.1, 4, .inl (fun _ => 0))), (B, .inr (0, [.ref bpersons, .ref bpapers, .ref bstamps, .ref bversions, .ref blines, .ref bsteps, .ref bsayings, .ref bfindings, .ref bwarnings, .ref bquestions, .int 0, .int (-1), .int 3, .int 24])), (bpapers, .inr (8, [.int 12, .int 6, .ref bpapersc, .int 0])), (bsayings, .inr (8, [.int 16, .int 8, .ref bsayingsc, .int 0])), (bfindings, .inr (8, [.int 12, .int 4, .ref bfindingsc, .int 0]))] H := hP
        have hD : va_D A [(h0, .inr (11, [.ref B, .ref K, .int 0, .ref S, .ref D, .ref R, .ref Ta, .ref Tp, .ref Ro, .ref Ho, .ref De])), (ht, .inl (G.2.1, 4, .inl (fun _ => 0))), (hs, .inl (G.2.1, 4, .inl (upd (upd (upd (upd (fun _ => 0) 0 (-1)) 1 (-1)) 2 (-1)) 3 (-1)))), (hz, .inl (G.2.1, 4, .inl (fun _ => 0))), (B, .inr (0, [.ref bpersons, .ref bpapers, .ref bstamps, .ref bversions, .ref blines, .ref bsteps, .ref bsayings, .ref bfindings, .ref bwarnings, .ref bquestions, .int 0, .int (-1), .int 3, .int 24])), (bpapers, .inr (8, [.int 12, .int 6, .ref bpapersc, .int 0])), (bsayings, .inr (8, [.int 16, .int 8, .ref bsayingsc, .int 0])), (bfindings, .inr (8, [.int 12, .int 4, .ref bfindingsc, .int 0]))] := hD
        refine lv_iconst (v := 1) hx hb dX11_shelf_133 (by decide) ?_
        exact RI (v := 1) hC hP hD hS [] () rfl rfl (by decide) ((by subst c_10_1091; unfold A_shelf; rw [ifc_t a1024, ifc_f (by decide), ifc_t rfl])) rfl dX11_shelf_134
      refine lv_tableOut (tgt := 104) hx hb dX11_shelf_10 (by have q9 := sw_0_4 (x := w); simp only [c_10_1071, c_10_1074, c_10_1077, c_10_1080, c_10_1091, not_false_eq_true, true_implies] at q9; exact q9) (by decide) ?_
      refine lv_iconst (v := (-1)) hx hb dX11_shelf_104 (by decide) ?_
      exact RI (v := (-1)) hC hP hD hS [] () rfl rfl (by decide) ((by unfold A_shelf; rw [ifc_t a1024, ifc_f c_10_1080, ifc_f c_10_1091])) rfl dX11_shelf_105
    · refine lv_if_ne (tgt := 9) hx hb dX11_shelf_4 (by decide) (fun _ => ?_) (fun c9 => absurd c9 (by decide))
      refine lv_iload_n hx hb dX11_shelf_9 rfl (lv_at hl 2 rfl) ?_
      by_cases c_10_1094 : w = 0
      · refine lv_tableIn (tgt := 44) hx hb dX11_shelf_10 (by rw [c_10_1094]; decide) (by rw [c_10_1094]; decide) (by rw [c_10_1094]; rfl) (by decide) ?_
        refine lv_aload_n hx hb dX11_shelf_44 rfl (lv_at hl 0 rfl) ?_
        refine gf_X11_15 hC rfl hK hP 0 rfl rfl dX11_shelf_45 ?_
        refine gf_X11_144 hC rfl hK hP 7 rfl rfl dX11_shelf_48 ?_
        refine lv_iload_n hx hb dX11_shelf_51 rfl (lv_at hl 3 rfl) ?_
        refine pV hC hK hl hP hD (c_T_has l G bpapers bpapersc 12 6 0 n) si_X11_124 [8] rfl rfl (by decide) rfl rfl rfl rfl rfl (Nat.le_of_ble_eq_true rfl) ⟨Nat.le_of_ble_eq_true rfl, Nat.le_of_ble_eq_true rfl⟩ ⟨by first | exact Nat.le_of_ble_eq_true rfl | exact Nat.zero_le _, by first | exact Nat.le_of_ble_eq_true rfl | exact Nat.zero_le _⟩ dX11_shelf_52 (fun r1095 hr1095 => ?_)
        rcases hr1095 with ⟨rfl, a1096⟩ | ⟨rfl, a1096⟩
        · exact absurd a1096 (Hs_none _)
        · refine lv_if_ne (tgt := 106) hx hb dX11_shelf_55 (by decide) (fun c9 => absurd (by decide) c9) (fun _ => ?_)
          refine lv_iconst (v := (-1)) hx hb dX11_shelf_58 (by decide) ?_
          exact RI (v := (-1)) hC hP hD hS [] () rfl rfl (by decide) ((by subst c_10_1094; unfold A_shelf; rw [ifc_t a1024, ifc_f (by decide), ifc_f (by decide)])) rfl dX11_shelf_59
      by_cases c_10_1097 : w = 1
      · refine lv_tableIn (tgt := 60) hx hb dX11_shelf_10 (by rw [c_10_1097]; decide) (by rw [c_10_1097]; decide) (by rw [c_10_1097]; rfl) (by decide) ?_
        refine lv_aload_n hx hb dX11_shelf_60 rfl (lv_at hl 0 rfl) ?_
        refine gf_X11_15 hC rfl hK hP 0 rfl rfl dX11_shelf_61 ?_
        refine gf_X11_256 hC rfl hK hP 7 rfl rfl dX11_shelf_64 ?_
        refine lv_iload_n hx hb dX11_shelf_67 rfl (lv_at hl 3 rfl) ?_
        refine pV hC hK hl hP hD (c_T_has l G bsayings bsayingsc 16 8 0 n) si_X11_124 [9] rfl rfl (by decide) rfl rfl rfl rfl rfl (Nat.le_of_ble_eq_true rfl) ⟨Nat.le_of_ble_eq_true rfl, Nat.le_of_ble_eq_true rfl⟩ ⟨by first | exact Nat.le_of_ble_eq_true rfl | exact Nat.zero_le _, by first | exact Nat.le_of_ble_eq_true rfl | exact Nat.zero_le _⟩ dX11_shelf_68 (fun r1098 hr1098 => ?_)
        rcases hr1098 with ⟨rfl, a1099⟩ | ⟨rfl, a1099⟩
        · exact absurd a1099 (Hs_none _)
        · refine lv_if_ne (tgt := 106) hx hb dX11_shelf_71 (by decide) (fun c9 => absurd (by decide) c9) (fun _ => ?_)
          refine lv_iconst (v := (-1)) hx hb dX11_shelf_74 (by decide) ?_
          exact RI (v := (-1)) hC hP hD hS [] () rfl rfl (by decide) ((by subst c_10_1097; unfold A_shelf; rw [ifc_t a1024, ifc_f (by decide), ifc_f (by decide)])) rfl dX11_shelf_75
      by_cases c_10_1100 : w = 2
      · refine lv_tableIn (tgt := 76) hx hb dX11_shelf_10 (by rw [c_10_1100]; decide) (by rw [c_10_1100]; decide) (by rw [c_10_1100]; rfl) (by decide) ?_
        refine lv_aload_n hx hb dX11_shelf_76 rfl (lv_at hl 0 rfl) ?_
        refine gf_X11_15 hC rfl hK hP 0 rfl rfl dX11_shelf_77 ?_
        refine gf_X11_271 hC rfl hK hP 7 rfl rfl dX11_shelf_80 ?_
        refine lv_iload_n hx hb dX11_shelf_83 rfl (lv_at hl 3 rfl) ?_
        refine pV hC hK hl hP hD (c_T_has l G bfindings bfindingsc 12 4 0 n) si_X11_124 [10] rfl rfl (by decide) rfl rfl rfl rfl rfl (Nat.le_of_ble_eq_true rfl) ⟨Nat.le_of_ble_eq_true rfl, Nat.le_of_ble_eq_true rfl⟩ ⟨by first | exact Nat.le_of_ble_eq_true rfl | exact Nat.zero_le _, by first | exact Nat.le_of_ble_eq_true rfl | exact Nat.zero_le _⟩ dX11_shelf_84 (fun r1101 hr1101 => ?_)
        rcases hr1101 with ⟨rfl, a1102⟩ | ⟨rfl, a1102⟩
        · exact absurd a1102 (Hs_none _)
        · refine lv_if_ne (tgt := 106) hx hb dX11_shelf_87 (by decide) (fun c9 => absurd (by decide) c9) (fun _ => ?_)
          refine lv_iconst (v := (-1)) hx hb dX11_shelf_90 (by decide) ?_
          exact RI (v := (-1)) hC hP hD hS [] () rfl rfl (by decide) ((by subst c_10_1100; unfold A_shelf; rw [ifc_t a1024, ifc_f (by decide), ifc_f (by decide)])) rfl dX11_shelf_91
      by_cases c_10_1103 : w = 3
      · refine lv_tableIn (tgt := 92) hx hb dX11_shelf_10 (by rw [c_10_1103]; decide) (by rw [c_10_1103]; decide) (by rw [c_10_1103]; rfl) (by decide) ?_
        refine lv_iload_n hx hb dX11_shelf_92 rfl (lv_at hl 3 rfl) ?_
        refine pS hC hK hl (c_isSheet l G n) si_X11_164 rfl rfl (Nat.le_of_ble_eq_true rfl) ⟨Nat.le_of_ble_eq_true rfl, Nat.le_of_ble_eq_true rfl⟩ ⟨by first | exact Nat.le_of_ble_eq_true rfl | exact Nat.zero_le _, by first | exact Nat.le_of_ble_eq_true rfl | exact Nat.zero_le _⟩ dX11_shelf_93 (fun r1104 hr1104 => ?_)
        rcases hr1104 with ⟨rfl, a1105⟩ | ⟨rfl, a1105⟩
        · rcases Wi_c3 a1105 with rfl | rfl | rfl | rfl
          · refine lv_if_ne (tgt := 106) hx hb dX11_shelf_96 (by decide) (fun _ => ?_) (fun c9 => absurd c9 (by decide))
            refine lv_iload_n hx hb dX11_shelf_106 rfl (lv_at hl 2 rfl) ?_
            refine lv_iconst (v := 3) hx hb dX11_shelf_107 (by decide) ?_
            refine lv_icmp_ne (tgt := 123) hx hb dX11_shelf_108 (by decide) (fun c9 => absurd (c_10_1103) c9) (fun _ => ?_)
            refine lv_aload_n hx hb dX11_shelf_111 rfl (lv_at hl 0 rfl) ?_
            refine gf_X11_72 hC rfl hK hP 0 rfl rfl dX11_shelf_112 ?_
            refine lv_iload_n hx hb dX11_shelf_115 rfl (lv_at hl 1 rfl) ?_
            refine lv_iload_n hx hb dX11_shelf_116 rfl (lv_at hl 3 rfl) ?_
            refine vV (wr := [(h0, .inr (11, [.ref B, .ref K, .int 0, .ref S, .ref D, .ref R, .ref Ta, .ref Tp, .ref Ro, .ref Ho, .ref De])), (B, .inr (0, [.ref bpersons, .ref bpapers, .ref bstamps, .ref bversions, .ref blines, .ref bsteps, .ref bsayings, .ref bfindings, .ref bwarnings, .ref bquestions, .int 0, .int (-1), .int 3, .int 24])), (bpapers, .inr (8, [.int 12, .int 6, .ref bpapersc, .int 0])), (bsayings, .inr (8, [.int 16, .int 8, .ref bsayingsc, .int 0])), (bfindings, .inr (8, [.int 12, .int 4, .ref bfindingsc, .int 0]))]) hC hK hl hP hD hS hA (c_holdRow_3_0 l G Ho hs hz hi hw hn ht) si_X11_321 [1, 2, 3, 4, 5, 6] [0, 7, 8, 9, 10] rfl rfl (by decide) rfl (by decide) (by decide) rfl rfl rfl rfl rfl (Nat.le_of_ble_eq_true rfl) ⟨Nat.le_of_ble_eq_true rfl, Nat.le_of_ble_eq_true rfl⟩ ⟨Nat.le_of_ble_eq_true rfl, Nat.le_of_ble_eq_true rfl⟩ dX11_shelf_117 (fun u1107 H locs hr1106 hP hD hS => ?_)
            have hP : va_P G.1 vwCl [(h0, .inr (11, [.ref B, .ref K, .int 0, .ref S, .ref D, .ref R, .ref Ta, .ref Tp, .ref Ro, .ref Ho, .ref De])), (B, .inr (0, [.ref bpersons, .ref bpapers, .ref bstamps, .ref bversions, .ref blines, .ref bsteps, .ref bsayings, .ref bfindings, .ref bwarnings, .ref bquestions, .int 0, .int (-1), .int 3, .int 24])), (bpapers, .inr (8, [.int 12, .int 6, .ref bpapersc, .int 0])), (bsayings, .inr (8, [.int 16, .int 8, .ref bsayingsc, .int 0])), (bfindings, .inr (8, [.int 12, .int 4, .ref bfindingsc, .int 0]))] H := hP
            have hD : va_D A [(h0, .inr (11, [.ref B, .ref K, .int 0, .ref S, .ref D, .ref R, .ref Ta, .ref Tp, .ref Ro, .ref Ho, .ref De])), (B, .inr (0, [.ref bpersons, .ref bpapers, .ref bstamps, .ref bversions, .ref blines, .ref bsteps, .ref bsayings, .ref bfindings, .ref bwarnings, .ref bquestions, .int 0, .int (-1), .int 3, .int 24])), (bpapers, .inr (8, [.int 12, .int 6, .ref bpapersc, .int 0])), (bsayings, .inr (8, [.int 16, .int 8, .ref bsayingsc, .int 0])), (bfindings, .inr (8, [.int 12, .int 4, .ref bfindingsc, .int 0]))] := hD
            refine lv_goto (tgt := 133) hx hb dX11_shelf_120 (by decide) ?_
            refine lv_iconst (v := 1) hx hb dX11_shelf_133 (by decide) ?_
            exact RI (v := 1) hC hP hD hS [] () rfl rfl (by decide) ((by subst c_10_1103; unfold A_shelf; rw [ifc_t a1024, ifc_t rfl, ifc_t a1105])) rfl dX11_shelf_134
          · refine lv_if_ne (tgt := 106) hx hb dX11_shelf_96 (by decide) (fun _ => ?_) (fun c9 => absurd c9 (by decide))
            refine lv_iload_n hx hb dX11_shelf_106 rfl (lv_at hl 2 rfl) ?_
            refine lv_iconst (v := 3) hx hb dX11_shelf_107 (by decide) ?_
            refine lv_icmp_ne (tgt := 123) hx hb dX11_shelf_108 (by decide) (fun c9 => absurd (c_10_1103) c9) (fun _ => ?_)
            refine lv_aload_n hx hb dX11_shelf_111 rfl (lv_at hl 0 rfl) ?_
            refine gf_X11_72 hC rfl hK hP 0 rfl rfl dX11_shelf_112 ?_
            refine lv_iload_n hx hb dX11_shelf_115 rfl (lv_at hl 1 rfl) ?_
            refine lv_iload_n hx hb dX11_shelf_116 rfl (lv_at hl 3 rfl) ?_
            refine vV (wr := [(h0, .inr (11, [.ref B, .ref K, .int 0, .ref S, .ref D, .ref R, .ref Ta, .ref Tp, .ref Ro, .ref Ho, .ref De])), (B, .inr (0, [.ref bpersons, .ref bpapers, .ref bstamps, .ref bversions, .ref blines, .ref bsteps, .ref bsayings, .ref bfindings, .ref bwarnings, .ref bquestions, .int 0, .int (-1), .int 3, .int 24])), (bpapers, .inr (8, [.int 12, .int 6, .ref bpapersc, .int 0])), (bsayings, .inr (8, [.int 16, .int 8, .ref bsayingsc, .int 0])), (bfindings, .inr (8, [.int 12, .int 4, .ref bfindingsc, .int 0]))]) hC hK hl hP hD hS hA (c_holdRow_3_1 l G Ho hs hz hi hw hn ht) si_X11_321 [1, 2, 3, 4, 5, 6] [0, 7, 8, 9, 10] rfl rfl (by decide) rfl (by decide) (by decide) rfl rfl rfl rfl rfl (Nat.le_of_ble_eq_true rfl) ⟨Nat.le_of_ble_eq_true rfl, Nat.le_of_ble_eq_true rfl⟩ ⟨Nat.le_of_ble_eq_true rfl, Nat.le_of_ble_eq_true rfl⟩ dX11_shelf_117 (fun u1109 H locs hr1108 hP hD hS => ?_)
            have hP : va_P G.1 vwCl [(h0, .inr (11, [.ref B, .ref K, .int 0, .ref S, .ref D, .ref R, .ref Ta, .ref Tp, .ref Ro, .ref Ho, .ref De])), (B, .inr (0, [.ref bpersons, .ref bpapers, .ref bstamps, .ref bversions, .ref blines, .ref bsteps, .ref bsayings, .ref bfindings, .ref bwarnings, .ref bquestions, .int 0, .int (-1), .int 3, .int 24])), (bpapers, .inr (8, [.int 12, .int 6, .ref bpapersc, .int 0])), (bsayings, .inr (8, [.int 16, .int 8, .ref bsayingsc, .int 0])), (bfindings, .inr (8, [.int 12, .int 4, .ref bfindingsc, .int 0]))] H := hP
            have hD : va_D A [(h0, .inr (11, [.ref B, .ref K, .int 0, .ref S, .ref D, .ref R, .ref Ta, .ref Tp, .ref Ro, .ref Ho, .ref De])), (B, .inr (0, [.ref bpersons, .ref bpapers, .ref bstamps, .ref bversions, .ref blines, .ref bsteps, .ref bsayings, .ref bfindings, .ref bwarnings, .ref bquestions, .int 0, .int (-1), .int 3, .int 24])), (bpapers, .inr (8, [.int 12, .int 6, .ref bpapersc, .int 0])), (bsayings, .inr (8, [.int 16, .int 8, .ref bsayingsc, .int 0])), (bfindings, .inr (8, [.int 12, .int 4, .ref bfindingsc, .int 0]))] := hD
            refine lv_goto (tgt := 133) hx hb dX11_shelf_120 (by decide) ?_
            refine lv_iconst (v := 1) hx hb dX11_shelf_133 (by decide) ?_
            exact RI (v := 1) hC hP hD hS [] () rfl rfl (by decide) ((by subst c_10_1103; unfold A_shelf; rw [ifc_t a1024, ifc_t rfl, ifc_t a1105])) rfl dX11_shelf_134
          · refine lv_if_ne (tgt := 106) hx hb dX11_shelf_96 (by decide) (fun _ => ?_) (fun c9 => absurd c9 (by decide))
            refine lv_iload_n hx hb dX11_shelf_106 rfl (lv_at hl 2 rfl) ?_
            refine lv_iconst (v := 3) hx hb dX11_shelf_107 (by decide) ?_
            refine lv_icmp_ne (tgt := 123) hx hb dX11_shelf_108 (by decide) (fun c9 => absurd (c_10_1103) c9) (fun _ => ?_)
            refine lv_aload_n hx hb dX11_shelf_111 rfl (lv_at hl 0 rfl) ?_
            refine gf_X11_72 hC rfl hK hP 0 rfl rfl dX11_shelf_112 ?_
            refine lv_iload_n hx hb dX11_shelf_115 rfl (lv_at hl 1 rfl) ?_
            refine lv_iload_n hx hb dX11_shelf_116 rfl (lv_at hl 3 rfl) ?_
            refine vV (wr := [(h0, .inr (11, [.ref B, .ref K, .int 0, .ref S, .ref D, .ref R, .ref Ta, .ref Tp, .ref Ro, .ref Ho, .ref De])), (B, .inr (0, [.ref bpersons, .ref bpapers, .ref bstamps, .ref bversions, .ref blines, .ref bsteps, .ref bsayings, .ref bfindings, .ref bwarnings, .ref bquestions, .int 0, .int (-1), .int 3, .int 24])), (bpapers, .inr (8, [.int 12, .int 6, .ref bpapersc, .int 0])), (bsayings, .inr (8, [.int 16, .int 8, .ref bsayingsc, .int 0])), (bfindings, .inr (8, [.int 12, .int 4, .ref bfindingsc, .int 0]))]) hC hK hl hP hD hS hA (c_holdRow_3_2 l G Ho hs hz hi hw hn ht) si_X11_321 [1, 2, 3, 4, 5, 6] [0, 7, 8, 9, 10] rfl rfl (by decide) rfl (by decide) (by decide) rfl rfl rfl rfl rfl (Nat.le_of_ble_eq_true rfl) ⟨Nat.le_of_ble_eq_true rfl, Nat.le_of_ble_eq_true rfl⟩ ⟨Nat.le_of_ble_eq_true rfl, Nat.le_of_ble_eq_true rfl⟩ dX11_shelf_117 (fun u1111 H locs hr1110 hP hD hS => ?_)
            have hP : va_P G.1 vwCl [(h0, .inr (11, [.ref B, .ref K, .int 0, .ref S, .ref D, .ref R, .ref Ta, .ref Tp, .ref Ro, .ref Ho, .ref De])), (B, .inr (0, [.ref bpersons, .ref bpapers, .ref bstamps, .ref bversions, .ref blines, .ref bsteps, .ref bsayings, .ref bfindings, .ref bwarnings, .ref bquestions, .int 0, .int (-1), .int 3, .int 24])), (bpapers, .inr (8, [.int 12, .int 6, .ref bpapersc, .int 0])), (bsayings, .inr (8, [.int 16, .int 8, .ref bsayingsc, .int 0])), (bfindings, .inr (8, [.int 12, .int 4, .ref bfindingsc, .int 0]))] H := hP
            have hD : va_D A [(h0, .inr (11, [.ref B, .ref K, .int 0, .ref S, .ref D, .ref R, .ref Ta, .ref Tp, .ref Ro, .ref Ho, .ref De])), (B, .inr (0, [.ref bpersons, .ref bpapers, .ref bstamps, .ref bversions, .ref blines, .ref bsteps, .ref bsayings, .ref bfindings, .ref bwarnings, .ref bquestions, .int 0, .int (-1), .int 3, .int 24])), (bpapers, .inr (8, [.int 12, .int 6, .ref bpapersc, .int 0])), (bsayings, .inr (8, [.int 16, .int 8, .ref bsayingsc, .int 0])), (bfindings, .inr (8, [.int 12, .int 4, .ref bfindingsc, .int 0]))] := hD
            refine lv_goto (tgt := 133) hx hb dX11_shelf_120 (by decide) ?_
            refine lv_iconst (v := 1) hx hb dX11_shelf_133 (by decide) ?_
            exact RI (v := 1) hC hP hD hS [] () rfl rfl (by decide) ((by subst c_10_1103; unfold A_shelf; rw [ifc_t a1024, ifc_t rfl, ifc_t a1105])) rfl dX11_shelf_134
          · refine lv_if_ne (tgt := 106) hx hb dX11_shelf_96 (by decide) (fun _ => ?_) (fun c9 => absurd c9 (by decide))
            refine lv_iload_n hx hb dX11_shelf_106 rfl (lv_at hl 2 rfl) ?_
            refine lv_iconst (v := 3) hx hb dX11_shelf_107 (by decide) ?_
            refine lv_icmp_ne (tgt := 123) hx hb dX11_shelf_108 (by decide) (fun c9 => absurd (c_10_1103) c9) (fun _ => ?_)
            refine lv_aload_n hx hb dX11_shelf_111 rfl (lv_at hl 0 rfl) ?_
            refine gf_X11_72 hC rfl hK hP 0 rfl rfl dX11_shelf_112 ?_
            refine lv_iload_n hx hb dX11_shelf_115 rfl (lv_at hl 1 rfl) ?_
            refine lv_iload_n hx hb dX11_shelf_116 rfl (lv_at hl 3 rfl) ?_
            refine vV (wr := [(h0, .inr (11, [.ref B, .ref K, .int 0, .ref S, .ref D, .ref R, .ref Ta, .ref Tp, .ref Ro, .ref Ho, .ref De])), (B, .inr (0, [.ref bpersons, .ref bpapers, .ref bstamps, .ref bversions, .ref blines, .ref bsteps, .ref bsayings, .ref bfindings, .ref bwarnings, .ref bquestions, .int 0, .int (-1), .int 3, .int 24])), (bpapers, .inr (8, [.int 12, .int 6, .ref bpapersc, .int 0])), (bsayings, .inr (8, [.int 16, .int 8, .ref bsayingsc, .int 0])), (bfindings, .inr (8, [.int 12, .int 4, .ref bfindingsc, .int 0]))]) hC hK hl hP hD hS hA (c_holdRow_3_3 l G Ho hs hz hi hw hn ht) si_X11_321 [1, 2, 3, 4, 5, 6] [0, 7, 8, 9, 10] rfl rfl (by decide) rfl (by decide) (by decide) rfl rfl rfl rfl rfl (Nat.le_of_ble_eq_true rfl) ⟨Nat.le_of_ble_eq_true rfl, Nat.le_of_ble_eq_true rfl⟩ ⟨Nat.le_of_ble_eq_true rfl, Nat.le_of_ble_eq_true rfl⟩ dX11_shelf_117 (fun u1113 H locs hr1112 hP hD hS => ?_)
            have hP : va_P G.1 vwCl [(h0, .inr (11, [.ref B, .ref K, .int 0, .ref S, .ref D, .ref R, .ref Ta, .ref Tp, .ref Ro, .ref Ho, .ref De])), (B, .inr (0, [.ref bpersons, .ref bpapers, .ref bstamps, .ref bversions, .ref blines, .ref bsteps, .ref bsayings, .ref bfindings, .ref bwarnings, .ref bquestions, .int 0, .int (-1), .int 3, .int 24])), (bpapers, .inr (8, [.int 12, .int 6, .ref bpapersc, .int 0])), (bsayings, .inr (8, [.int 16, .int 8, .ref bsayingsc, .int 0])), (bfindings, .inr (8, [.int 12, .int 4, .ref bfindingsc, .int 0]))] H := hP
            have hD : va_D A [(h0, .inr (11, [.ref B, .ref K, .int 0, .ref S, .ref D, .ref R, .ref Ta, .ref Tp, .ref Ro, .ref Ho, .ref De])), (B, .inr (0, [.ref bpersons, .ref bpapers, .ref bstamps, .ref bversions, .ref blines, .ref bsteps, .ref bsayings, .ref bfindings, .ref bwarnings, .ref bquestions, .int 0, .int (-1), .int 3, .int 24])), (bpapers, .inr (8, [.int 12, .int 6, .ref bpapersc, .int 0])), (bsayings, .inr (8, [.int 16, .int 8, .ref bsayingsc, .int 0])), (bfindings, .inr (8, [.int 12, .int 4, .ref bfindingsc, .int 0]))] := hD
            refine lv_goto (tgt := 133) hx hb dX11_shelf_120 (by decide) ?_
            refine lv_iconst (v := 1) hx hb dX11_shelf_133 (by decide) ?_
            exact RI (v := 1) hC hP hD hS [] () rfl rfl (by decide) ((by subst c_10_1103; unfold A_shelf; rw [ifc_t a1105, ifc_t rfl, ifc_t a1105])) rfl dX11_shelf_134
        · refine lv_if_ne (tgt := 106) hx hb dX11_shelf_96 (by decide) (fun c9 => absurd (by decide) c9) (fun _ => ?_)
          refine lv_iconst (v := (-1)) hx hb dX11_shelf_99 (by decide) ?_
          exact RI (v := (-1)) hC hP hD hS [] () rfl rfl (by decide) ((by subst c_10_1103; unfold A_shelf; rw [ifc_t a1024, ifc_t rfl, ifc_f a1105])) rfl dX11_shelf_100
      by_cases c_10_1114 : w = 4
      · refine lv_tableIn (tgt := 101) hx hb dX11_shelf_10 (by rw [c_10_1114]; decide) (by rw [c_10_1114]; decide) (by rw [c_10_1114]; rfl) (by decide) ?_
        refine lv_goto (tgt := 106) hx hb dX11_shelf_101 (by decide) ?_
        refine lv_iload_n hx hb dX11_shelf_106 rfl (lv_at hl 2 rfl) ?_
        refine lv_iconst (v := 3) hx hb dX11_shelf_107 (by decide) ?_
        refine lv_icmp_ne (tgt := 123) hx hb dX11_shelf_108 (by decide) (fun _ => ?_) (fun c9 => absurd c9 (c_10_1103))
        refine lv_aload_n hx hb dX11_shelf_123 rfl (lv_at hl 0 rfl) ?_
        refine gf_X11_72 hC rfl hK hP 0 rfl rfl dX11_shelf_124 ?_
        refine lv_iload_n hx hb dX11_shelf_127 rfl (lv_at hl 1 rfl) ?_
        refine lv_iload_n hx hb dX11_shelf_128 rfl (lv_at hl 2 rfl) ?_
        refine lv_iload_n hx hb dX11_shelf_129 rfl (lv_at hl 3 rfl) ?_
        refine vV (wr := [(h0, .inr (11, [.ref B, .ref K, .int 0, .ref S, .ref D, .ref R, .ref Ta, .ref Tp, .ref Ro, .ref Ho, .ref De])), (ht, .inl (G.2.1, 4, .inl (fun _ => 0))), (hs, .inl (G.2.1, 4, .inl (upd (upd (upd (upd (fun _ => 0) 0 (-1)) 1 (-1)) 2 (-1)) 3 (-1)))), (hz, .inl (G.2.1, 4, .inl (fun _ => 0))), (B, .inr (0, [.ref bpersons, .ref bpapers, .ref bstamps, .ref bversions, .ref blines, .ref bsteps, .ref bsayings, .ref bfindings, .ref bwarnings, .ref bquestions, .int 0, .int (-1), .int 3, .int 24])), (bpapers, .inr (8, [.int 12, .int 6, .ref bpapersc, .int 0])), (bsayings, .inr (8, [.int 16, .int 8, .ref bsayingsc, .int 0])), (bfindings, .inr (8, [.int 12, .int 4, .ref bfindingsc, .int 0]))]) hC hK hl hP hD hS hA (c_hold_3 l G Ho w n hs hz hi hw hn ht) si_X11_324 [1, 2, 3] [0, 4, 5, 6, 7, 8, 9, 10] rfl rfl (by decide) rfl (by decide) (by decide) rfl rfl rfl rfl rfl (Nat.le_of_ble_eq_true rfl) ⟨Nat.le_of_ble_eq_true rfl, Nat.le_of_ble_eq_true rfl⟩ ⟨Nat.le_of_ble_eq_true rfl, Nat.le_of_ble_eq_true rfl⟩ dX11_shelf_130 (fun u1116 H locs hr1115 hP hD hS => ?_)
        have hP : va_P G.1 vwCl [(h0, .inr (11, [.ref B, .ref K, .int 0, .ref S, .ref D, .ref R, .ref Ta, .ref Tp, .ref Ro, .ref Ho, .ref De])), (ht, .inl (G.2.1, 4, .inl (fun _ => 0))), (hs, .inl (G.2.1, 4, .inl (upd (upd (upd (upd (fun _ => 0) 0 (-1)) 1 (-1)) 2 (-1)) 3 (-1)))), (hz, .inl (G.2.1, 4, .inl (fun _ => 0))), (B, .inr (0, [.ref bpersons, .ref bpapers, .ref bstamps, .ref bversions, .ref blines, .ref bsteps, .ref bsayings, .ref bfindings, .ref bwarnings, .ref bquestions, .int 0, .int (-1), .int 3, .int 24])), (bpapers, .inr (8, [.int 12, .int 6, .ref bpapersc, .int 0])), (bsayings, .inr (8, [.int 16, .int 8, .ref bsayingsc, .int 0])), (bfindings, .inr (8, [.int 12, .int 4, .ref bfindingsc, .int 0]))] H := hP
        have hD : va_D A [(h0, .inr (11, [.ref B, .ref K, .int 0, .ref S, .ref D, .ref R, .ref Ta, .ref Tp, .ref Ro, .ref Ho, .ref De])), (ht, .inl (G.2.1, 4, .inl (fun _ => 0))), (hs, .inl (G.2.1, 4, .inl (upd (upd (upd (upd (fun _ => 0) 0 (-1)) 1 (-1)) 2 (-1)) 3 (-1)))), (hz, .inl (G.2.1, 4, .inl (fun _ => 0))), (B, .inr (0, [.ref bpersons, .ref bpapers, .ref bstamps, .ref bversions, .ref blines, .ref bsteps, .ref bsayings, .ref bfindings, .ref bwarnings, .ref bquestions, .int 0, .int (-1), .int 3, .int 24])), (bpapers, .inr (8, [.int 12, .int 6, .ref bpapersc, .int 0])), (bsayings, .inr (8, [.int 16, .int 8, .ref bsayingsc, .int 0])), (bfindings, .inr (8, [.int 12, .int 4, .ref bfindingsc, .int 0]))] := hD
        refine lv_iconst (v := 1) hx hb dX11_shelf_133 (by decide) ?_
        exact RI (v := 1) hC hP hD hS [] () rfl rfl (by decide) ((by subst c_10_1114; unfold A_shelf; rw [ifc_t a1024, ifc_f (by decide), ifc_t rfl])) rfl dX11_shelf_134
      refine lv_tableOut (tgt := 104) hx hb dX11_shelf_10 (by have q9 := sw_0_4 (x := w); simp only [c_10_1094, c_10_1097, c_10_1100, c_10_1103, c_10_1114, not_false_eq_true, true_implies] at q9; exact q9) (by decide) ?_
      refine lv_iconst (v := (-1)) hx hb dX11_shelf_104 (by decide) ?_
      exact RI (v := (-1)) hC hP hD hS [] () rfl rfl (by decide) ((by unfold A_shelf; rw [ifc_t a1024, ifc_f c_10_1103, ifc_f c_10_1114])) rfl dX11_shelf_105
  · refine lv_if_ne (tgt := 9) hx hb dX11_shelf_4 (by decide) (fun c9 => absurd (by decide) c9) (fun _ => ?_)
    refine lv_iconst (v := (-1)) hx hb dX11_shelf_7 (by decide) ?_
    exact RI (v := (-1)) hC hP hD hS [] () rfl rfl (by decide) ((by unfold A_shelf; rw [ifc_f a1024])) rfl dX11_shelf_8
set_option maxHeartbeats 4000000 in
set_option maxRecDepth 100000 in
theorem c_taken (l : Launch) (G : GG) (h0 : Nat) (s9 : Int32) (a9 : Int32) (B : Nat) (K : Nat) (S : Nat) (D : Nat) (R : Nat) (Ta : Nat) (Tp : Nat) (Ro : Nat) (Ho : Nat) (De : Nat) (hs : Nat) (hz : Nat) (hi : Nat) (hw : Nat) (hn : Nat) (ht : Nat) : MP l G yX11_taken cX11_taken 4 (some .int) 5 [.ref h0, .int s9, .int a9] [(h0, .inr (11, [.ref B, .ref K, .int 0, .ref S, .ref D, .ref R, .ref Ta, .ref Tp, .ref Ro, .ref Ho, .ref De])), (Ho, .inr (4, [.ref hs, .ref hz, .ref hi, .ref hw, .ref hn, .ref ht])), (hw, .inl (G.2.1, 4, .inl (upd (upd (upd (upd (fun _ => 0) 0 4) 1 4) 2 4) 3 4)))] (fun r : Int32 => r = A_taken s9 a9) := by
  refine MP.start (by decide +kernel) (Nat.le_of_ble_eq_true rfl) ?_
  intro p e s m below meth c ls hC hK hP hD hl
  have hl : lv_has ls 4 [(0, .ref h0), (1, .int s9), (2, .int a9)] := hl
  obtain ⟨hx, hb, hr, hml, hB, hown, hlocks, hnm⟩ := id hC
  refine lv_iload_n hx hb dX11_taken_0 rfl (lv_at hl 1 rfl) ?_
  refine pS hC hK hl (c_isShelf l G s9) si_X11_318 rfl rfl (Nat.le_of_ble_eq_true rfl) ⟨Nat.le_of_ble_eq_true rfl, Nat.le_of_ble_eq_true rfl⟩ ⟨by first | exact Nat.le_of_ble_eq_true rfl | exact Nat.zero_le _, by first | exact Nat.le_of_ble_eq_true rfl | exact Nat.zero_le _⟩ dX11_taken_1 (fun r1117 hr1117 => ?_)
  rcases hr1117 with ⟨rfl, a1118⟩ | ⟨rfl, a1118⟩
  · rcases Wi_c3 a1118 with rfl | rfl | rfl | rfl
    · refine lv_if_eq (tgt := 27) hx hb dX11_taken_4 (by decide) (fun c9 => absurd c9 (by decide)) (fun _ => ?_)
      refine lv_iload_n hx hb dX11_taken_7 rfl (lv_at hl 2 rfl) ?_
      refine lv_iconst (v := 0) hx hb dX11_taken_8 (by decide) ?_
      refine lv_bipush (v := 6) hx hb dX11_taken_9 (by decide) ?_
      refine pS hC hK hl (c_within l G a9 0 6) si_X11_83 rfl rfl (Nat.le_of_ble_eq_true rfl) ⟨Nat.le_of_ble_eq_true rfl, Nat.le_of_ble_eq_true rfl⟩ ⟨by first | exact Nat.le_of_ble_eq_true rfl | exact Nat.zero_le _, by first | exact Nat.le_of_ble_eq_true rfl | exact Nat.zero_le _⟩ dX11_taken_11 (fun r1119 hr1119 => ?_)
      rcases hr1119 with ⟨rfl, a1120⟩ | ⟨rfl, a1120⟩
      · refine lv_if_ne (tgt := 29) hx hb dX11_taken_14 (by decide) (fun _ => ?_) (fun c9 => absurd c9 (by decide))
        refine lv_aload_n hx hb dX11_taken_29 rfl (lv_at hl 0 rfl) ?_
        refine gf_X11_72 hC rfl hK hP 0 rfl rfl dX11_taken_30 ?_
        refine lv_iload_n hx hb dX11_taken_33 rfl (lv_at hl 1 rfl) ?_
        refine lv_aload_n hx hb dX11_taken_34 rfl (lv_at hl 0 rfl) ?_
        refine gf_X11_15 hC rfl hK hP 0 rfl rfl dX11_taken_35 ?_
        refine pV hC hK hl hP hD (c_held_0 l G Ho B hs hz hi hw hn ht) si_X11_327 [1, 2] rfl rfl (by decide) rfl rfl rfl rfl rfl (Nat.le_of_ble_eq_true rfl) ⟨Nat.le_of_ble_eq_true rfl, Nat.le_of_ble_eq_true rfl⟩ ⟨by first | exact Nat.le_of_ble_eq_true rfl | exact Nat.zero_le _, by first | exact Nat.le_of_ble_eq_true rfl | exact Nat.zero_le _⟩ dX11_taken_38 (fun r1121 hr1121 => ?_)
        obtain rfl := hr1121
        refine lv_istore_n (lv' := [(3, .int 4), (0, .ref h0), (1, .int 0), (2, .int a9)]) hx hb dX11_taken_41 rfl hl (by decide) rfl (fun ls hl => ?_)
        refine lv_iload_n hx hb dX11_taken_42 rfl (lv_at hl 0 rfl) ?_
        refine lv_iconst (v := 4) hx hb dX11_taken_43 (by decide) ?_
        refine lv_icmp_ne (tgt := 50) hx hb dX11_taken_44 (by decide) (fun c9 => absurd (by decide) c9) (fun _ => ?_)
        refine lv_bipush (v := (-11)) hx hb dX11_taken_47 (by decide) ?_
        exact RP (v := (-11)) hC ((by unfold A_taken; first | rfl | (simp only [ifc_t a1118, ifc_t a1120]; done) | (simp only [ifc_t a1118, ifc_t a1120]; rfl))) rfl dX11_taken_49
      · refine lv_if_ne (tgt := 29) hx hb dX11_taken_14 (by decide) (fun c9 => absurd (by decide) c9) (fun _ => ?_)
        refine lv_iload_n hx hb dX11_taken_17 rfl (lv_at hl 2 rfl) ?_
        refine lv_bipush (v := 10) hx hb dX11_taken_18 (by decide) ?_
        refine lv_isub hx hb dX11_taken_20 ?_
        refine pS hC hK hl (c_isSort l G (a9 - 10)) si_X11_315 rfl rfl (Nat.le_of_ble_eq_true rfl) ⟨Nat.le_of_ble_eq_true rfl, Nat.le_of_ble_eq_true rfl⟩ ⟨by first | exact Nat.le_of_ble_eq_true rfl | exact Nat.zero_le _, by first | exact Nat.le_of_ble_eq_true rfl | exact Nat.zero_le _⟩ dX11_taken_21 (fun r1123 hr1123 => ?_)
        rcases hr1123 with ⟨rfl, a1124⟩ | ⟨rfl, a1124⟩
        · refine lv_if_ne (tgt := 29) hx hb dX11_taken_24 (by decide) (fun _ => ?_) (fun c9 => absurd c9 (by decide))
          refine lv_aload_n hx hb dX11_taken_29 rfl (lv_at hl 0 rfl) ?_
          refine gf_X11_72 hC rfl hK hP 0 rfl rfl dX11_taken_30 ?_
          refine lv_iload_n hx hb dX11_taken_33 rfl (lv_at hl 1 rfl) ?_
          refine lv_aload_n hx hb dX11_taken_34 rfl (lv_at hl 0 rfl) ?_
          refine gf_X11_15 hC rfl hK hP 0 rfl rfl dX11_taken_35 ?_
          refine pV hC hK hl hP hD (c_held_0 l G Ho B hs hz hi hw hn ht) si_X11_327 [1, 2] rfl rfl (by decide) rfl rfl rfl rfl rfl (Nat.le_of_ble_eq_true rfl) ⟨Nat.le_of_ble_eq_true rfl, Nat.le_of_ble_eq_true rfl⟩ ⟨by first | exact Nat.le_of_ble_eq_true rfl | exact Nat.zero_le _, by first | exact Nat.le_of_ble_eq_true rfl | exact Nat.zero_le _⟩ dX11_taken_38 (fun r1125 hr1125 => ?_)
          obtain rfl := hr1125
          refine lv_istore_n (lv' := [(3, .int 4), (0, .ref h0), (1, .int 0), (2, .int a9)]) hx hb dX11_taken_41 rfl hl (by decide) rfl (fun ls hl => ?_)
          refine lv_iload_n hx hb dX11_taken_42 rfl (lv_at hl 0 rfl) ?_
          refine lv_iconst (v := 4) hx hb dX11_taken_43 (by decide) ?_
          refine lv_icmp_ne (tgt := 50) hx hb dX11_taken_44 (by decide) (fun c9 => absurd (by decide) c9) (fun _ => ?_)
          refine lv_bipush (v := (-11)) hx hb dX11_taken_47 (by decide) ?_
          exact RP (v := (-11)) hC ((by unfold A_taken; first | rfl | (simp only [ifc_t a1118, ifc_f a1120, ifc_t a1124]; done) | (simp only [ifc_t a1118, ifc_f a1120, ifc_t a1124]; rfl))) rfl dX11_taken_49
        · refine lv_if_ne (tgt := 29) hx hb dX11_taken_24 (by decide) (fun c9 => absurd (by decide) c9) (fun _ => ?_)
          refine lv_iconst (v := (-1)) hx hb dX11_taken_27 (by decide) ?_
          exact RP (v := (-1)) hC ((by unfold A_taken; first | rfl | (simp only [ifc_t a1118, ifc_f a1120, ifc_f a1124]; done) | (simp only [ifc_t a1118, ifc_f a1120, ifc_f a1124]; rfl))) rfl dX11_taken_28
    · refine lv_if_eq (tgt := 27) hx hb dX11_taken_4 (by decide) (fun c9 => absurd c9 (by decide)) (fun _ => ?_)
      refine lv_iload_n hx hb dX11_taken_7 rfl (lv_at hl 2 rfl) ?_
      refine lv_iconst (v := 0) hx hb dX11_taken_8 (by decide) ?_
      refine lv_bipush (v := 6) hx hb dX11_taken_9 (by decide) ?_
      refine pS hC hK hl (c_within l G a9 0 6) si_X11_83 rfl rfl (Nat.le_of_ble_eq_true rfl) ⟨Nat.le_of_ble_eq_true rfl, Nat.le_of_ble_eq_true rfl⟩ ⟨by first | exact Nat.le_of_ble_eq_true rfl | exact Nat.zero_le _, by first | exact Nat.le_of_ble_eq_true rfl | exact Nat.zero_le _⟩ dX11_taken_11 (fun r1127 hr1127 => ?_)
      rcases hr1127 with ⟨rfl, a1128⟩ | ⟨rfl, a1128⟩
      · refine lv_if_ne (tgt := 29) hx hb dX11_taken_14 (by decide) (fun _ => ?_) (fun c9 => absurd c9 (by decide))
        refine lv_aload_n hx hb dX11_taken_29 rfl (lv_at hl 0 rfl) ?_
        refine gf_X11_72 hC rfl hK hP 0 rfl rfl dX11_taken_30 ?_
        refine lv_iload_n hx hb dX11_taken_33 rfl (lv_at hl 1 rfl) ?_
        refine lv_aload_n hx hb dX11_taken_34 rfl (lv_at hl 0 rfl) ?_
        refine gf_X11_15 hC rfl hK hP 0 rfl rfl dX11_taken_35 ?_
        refine pV hC hK hl hP hD (c_held_1 l G Ho B hs hz hi hw hn ht) si_X11_327 [1, 2] rfl rfl (by decide) rfl rfl rfl rfl rfl (Nat.le_of_ble_eq_true rfl) ⟨Nat.le_of_ble_eq_true rfl, Nat.le_of_ble_eq_true rfl⟩ ⟨by first | exact Nat.le_of_ble_eq_true rfl | exact Nat.zero_le _, by first | exact Nat.le_of_ble_eq_true rfl | exact Nat.zero_le _⟩ dX11_taken_38 (fun r1129 hr1129 => ?_)
        obtain rfl := hr1129
        refine lv_istore_n (lv' := [(3, .int 4), (0, .ref h0), (1, .int 1), (2, .int a9)]) hx hb dX11_taken_41 rfl hl (by decide) rfl (fun ls hl => ?_)
        refine lv_iload_n hx hb dX11_taken_42 rfl (lv_at hl 0 rfl) ?_
        refine lv_iconst (v := 4) hx hb dX11_taken_43 (by decide) ?_
        refine lv_icmp_ne (tgt := 50) hx hb dX11_taken_44 (by decide) (fun c9 => absurd (by decide) c9) (fun _ => ?_)
        refine lv_bipush (v := (-11)) hx hb dX11_taken_47 (by decide) ?_
        exact RP (v := (-11)) hC ((by unfold A_taken; first | rfl | (simp only [ifc_t a1118, ifc_t a1128]; done) | (simp only [ifc_t a1118, ifc_t a1128]; rfl))) rfl dX11_taken_49
      · refine lv_if_ne (tgt := 29) hx hb dX11_taken_14 (by decide) (fun c9 => absurd (by decide) c9) (fun _ => ?_)
        refine lv_iload_n hx hb dX11_taken_17 rfl (lv_at hl 2 rfl) ?_
        refine lv_bipush (v := 10) hx hb dX11_taken_18 (by decide) ?_
        refine lv_isub hx hb dX11_taken_20 ?_
        refine pS hC hK hl (c_isSort l G (a9 - 10)) si_X11_315 rfl rfl (Nat.le_of_ble_eq_true rfl) ⟨Nat.le_of_ble_eq_true rfl, Nat.le_of_ble_eq_true rfl⟩ ⟨by first | exact Nat.le_of_ble_eq_true rfl | exact Nat.zero_le _, by first | exact Nat.le_of_ble_eq_true rfl | exact Nat.zero_le _⟩ dX11_taken_21 (fun r1131 hr1131 => ?_)
        rcases hr1131 with ⟨rfl, a1132⟩ | ⟨rfl, a1132⟩
        · refine lv_if_ne (tgt := 29) hx hb dX11_taken_24 (by decide) (fun _ => ?_) (fun c9 => absurd c9 (by decide))
          refine lv_aload_n hx hb dX11_taken_29 rfl (lv_at hl 0 rfl) ?_
          refine gf_X11_72 hC rfl hK hP 0 rfl rfl dX11_taken_30 ?_
          refine lv_iload_n hx hb dX11_taken_33 rfl (lv_at hl 1 rfl) ?_
          refine lv_aload_n hx hb dX11_taken_34 rfl (lv_at hl 0 rfl) ?_
          refine gf_X11_15 hC rfl hK hP 0 rfl rfl dX11_taken_35 ?_
          refine pV hC hK hl hP hD (c_held_1 l G Ho B hs hz hi hw hn ht) si_X11_327 [1, 2] rfl rfl (by decide) rfl rfl rfl rfl rfl (Nat.le_of_ble_eq_true rfl) ⟨Nat.le_of_ble_eq_true rfl, Nat.le_of_ble_eq_true rfl⟩ ⟨by first | exact Nat.le_of_ble_eq_true rfl | exact Nat.zero_le _, by first | exact Nat.le_of_ble_eq_true rfl | exact Nat.zero_le _⟩ dX11_taken_38 (fun r1133 hr1133 => ?_)
          obtain rfl := hr1133
          refine lv_istore_n (lv' := [(3, .int 4), (0, .ref h0), (1, .int 1), (2, .int a9)]) hx hb dX11_taken_41 rfl hl (by decide) rfl (fun ls hl => ?_)
          refine lv_iload_n hx hb dX11_taken_42 rfl (lv_at hl 0 rfl) ?_
          refine lv_iconst (v := 4) hx hb dX11_taken_43 (by decide) ?_
          refine lv_icmp_ne (tgt := 50) hx hb dX11_taken_44 (by decide) (fun c9 => absurd (by decide) c9) (fun _ => ?_)
          refine lv_bipush (v := (-11)) hx hb dX11_taken_47 (by decide) ?_
          exact RP (v := (-11)) hC ((by unfold A_taken; first | rfl | (simp only [ifc_t a1118, ifc_f a1128, ifc_t a1132]; done) | (simp only [ifc_t a1118, ifc_f a1128, ifc_t a1132]; rfl))) rfl dX11_taken_49
        · refine lv_if_ne (tgt := 29) hx hb dX11_taken_24 (by decide) (fun c9 => absurd (by decide) c9) (fun _ => ?_)
          refine lv_iconst (v := (-1)) hx hb dX11_taken_27 (by decide) ?_
          exact RP (v := (-1)) hC ((by unfold A_taken; first | rfl | (simp only [ifc_t a1118, ifc_f a1128, ifc_f a1132]; done) | (simp only [ifc_t a1118, ifc_f a1128, ifc_f a1132]; rfl))) rfl dX11_taken_28
    · refine lv_if_eq (tgt := 27) hx hb dX11_taken_4 (by decide) (fun c9 => absurd c9 (by decide)) (fun _ => ?_)
      refine lv_iload_n hx hb dX11_taken_7 rfl (lv_at hl 2 rfl) ?_
      refine lv_iconst (v := 0) hx hb dX11_taken_8 (by decide) ?_
      refine lv_bipush (v := 6) hx hb dX11_taken_9 (by decide) ?_
      refine pS hC hK hl (c_within l G a9 0 6) si_X11_83 rfl rfl (Nat.le_of_ble_eq_true rfl) ⟨Nat.le_of_ble_eq_true rfl, Nat.le_of_ble_eq_true rfl⟩ ⟨by first | exact Nat.le_of_ble_eq_true rfl | exact Nat.zero_le _, by first | exact Nat.le_of_ble_eq_true rfl | exact Nat.zero_le _⟩ dX11_taken_11 (fun r1135 hr1135 => ?_)
      rcases hr1135 with ⟨rfl, a1136⟩ | ⟨rfl, a1136⟩
      · refine lv_if_ne (tgt := 29) hx hb dX11_taken_14 (by decide) (fun _ => ?_) (fun c9 => absurd c9 (by decide))
        refine lv_aload_n hx hb dX11_taken_29 rfl (lv_at hl 0 rfl) ?_
        refine gf_X11_72 hC rfl hK hP 0 rfl rfl dX11_taken_30 ?_
        refine lv_iload_n hx hb dX11_taken_33 rfl (lv_at hl 1 rfl) ?_
        refine lv_aload_n hx hb dX11_taken_34 rfl (lv_at hl 0 rfl) ?_
        refine gf_X11_15 hC rfl hK hP 0 rfl rfl dX11_taken_35 ?_
        refine pV hC hK hl hP hD (c_held_2 l G Ho B hs hz hi hw hn ht) si_X11_327 [1, 2] rfl rfl (by decide) rfl rfl rfl rfl rfl (Nat.le_of_ble_eq_true rfl) ⟨Nat.le_of_ble_eq_true rfl, Nat.le_of_ble_eq_true rfl⟩ ⟨by first | exact Nat.le_of_ble_eq_true rfl | exact Nat.zero_le _, by first | exact Nat.le_of_ble_eq_true rfl | exact Nat.zero_le _⟩ dX11_taken_38 (fun r1137 hr1137 => ?_)
        obtain rfl := hr1137
        refine lv_istore_n (lv' := [(3, .int 4), (0, .ref h0), (1, .int 2), (2, .int a9)]) hx hb dX11_taken_41 rfl hl (by decide) rfl (fun ls hl => ?_)
        refine lv_iload_n hx hb dX11_taken_42 rfl (lv_at hl 0 rfl) ?_
        refine lv_iconst (v := 4) hx hb dX11_taken_43 (by decide) ?_
        refine lv_icmp_ne (tgt := 50) hx hb dX11_taken_44 (by decide) (fun c9 => absurd (by decide) c9) (fun _ => ?_)
        refine lv_bipush (v := (-11)) hx hb dX11_taken_47 (by decide) ?_
        exact RP (v := (-11)) hC ((by unfold A_taken; first | rfl | (simp only [ifc_t a1118, ifc_t a1136]; done) | (simp only [ifc_t a1118, ifc_t a1136]; rfl))) rfl dX11_taken_49
      · refine lv_if_ne (tgt := 29) hx hb dX11_taken_14 (by decide) (fun c9 => absurd (by decide) c9) (fun _ => ?_)
        refine lv_iload_n hx hb dX11_taken_17 rfl (lv_at hl 2 rfl) ?_
        refine lv_bipush (v := 10) hx hb dX11_taken_18 (by decide) ?_
        refine lv_isub hx hb dX11_taken_20 ?_
        refine pS hC hK hl (c_isSort l G (a9 - 10)) si_X11_315 rfl rfl (Nat.le_of_ble_eq_true rfl) ⟨Nat.le_of_ble_eq_true rfl, Nat.le_of_ble_eq_true rfl⟩ ⟨by first | exact Nat.le_of_ble_eq_true rfl | exact Nat.zero_le _, by first | exact Nat.le_of_ble_eq_true rfl | exact Nat.zero_le _⟩ dX11_taken_21 (fun r1139 hr1139 => ?_)
        rcases hr1139 with ⟨rfl, a1140⟩ | ⟨rfl, a1140⟩
        · refine lv_if_ne (tgt := 29) hx hb dX11_taken_24 (by decide) (fun _ => ?_) (fun c9 => absurd c9 (by decide))
          refine lv_aload_n hx hb dX11_taken_29 rfl (lv_at hl 0 rfl) ?_
          refine gf_X11_72 hC rfl hK hP 0 rfl rfl dX11_taken_30 ?_
          refine lv_iload_n hx hb dX11_taken_33 rfl (lv_at hl 1 rfl) ?_
          refine lv_aload_n hx hb dX11_taken_34 rfl (lv_at hl 0 rfl) ?_
          refine gf_X11_15 hC rfl hK hP 0 rfl rfl dX11_taken_35 ?_
          refine pV hC hK hl hP hD (c_held_2 l G Ho B hs hz hi hw hn ht) si_X11_327 [1, 2] rfl rfl (by decide) rfl rfl rfl rfl rfl (Nat.le_of_ble_eq_true rfl) ⟨Nat.le_of_ble_eq_true rfl, Nat.le_of_ble_eq_true rfl⟩ ⟨by first | exact Nat.le_of_ble_eq_true rfl | exact Nat.zero_le _, by first | exact Nat.le_of_ble_eq_true rfl | exact Nat.zero_le _⟩ dX11_taken_38 (fun r1141 hr1141 => ?_)
          obtain rfl := hr1141
          refine lv_istore_n (lv' := [(3, .int 4), (0, .ref h0), (1, .int 2), (2, .int a9)]) hx hb dX11_taken_41 rfl hl (by decide) rfl (fun ls hl => ?_)
          refine lv_iload_n hx hb dX11_taken_42 rfl (lv_at hl 0 rfl) ?_
          refine lv_iconst (v := 4) hx hb dX11_taken_43 (by decide) ?_
          refine lv_icmp_ne (tgt := 50) hx hb dX11_taken_44 (by decide) (fun c9 => absurd (by decide) c9) (fun _ => ?_)
          refine lv_bipush (v := (-11)) hx hb dX11_taken_47 (by decide) ?_
          exact RP (v := (-11)) hC ((by unfold A_taken; first | rfl | (simp only [ifc_t a1118, ifc_f a1136, ifc_t a1140]; done) | (simp only [ifc_t a1118, ifc_f a1136, ifc_t a1140]; rfl))) rfl dX11_taken_49
        · refine lv_if_ne (tgt := 29) hx hb dX11_taken_24 (by decide) (fun c9 => absurd (by decide) c9) (fun _ => ?_)
          refine lv_iconst (v := (-1)) hx hb dX11_taken_27 (by decide) ?_
          exact RP (v := (-1)) hC ((by unfold A_taken; first | rfl | (simp only [ifc_t a1118, ifc_f a1136, ifc_f a1140]; done) | (simp only [ifc_t a1118, ifc_f a1136, ifc_f a1140]; rfl))) rfl dX11_taken_28
    · refine lv_if_eq (tgt := 27) hx hb dX11_taken_4 (by decide) (fun c9 => absurd c9 (by decide)) (fun _ => ?_)
      refine lv_iload_n hx hb dX11_taken_7 rfl (lv_at hl 2 rfl) ?_
      refine lv_iconst (v := 0) hx hb dX11_taken_8 (by decide) ?_
      refine lv_bipush (v := 6) hx hb dX11_taken_9 (by decide) ?_
      refine pS hC hK hl (c_within l G a9 0 6) si_X11_83 rfl rfl (Nat.le_of_ble_eq_true rfl) ⟨Nat.le_of_ble_eq_true rfl, Nat.le_of_ble_eq_true rfl⟩ ⟨by first | exact Nat.le_of_ble_eq_true rfl | exact Nat.zero_le _, by first | exact Nat.le_of_ble_eq_true rfl | exact Nat.zero_le _⟩ dX11_taken_11 (fun r1143 hr1143 => ?_)
      rcases hr1143 with ⟨rfl, a1144⟩ | ⟨rfl, a1144⟩
      · refine lv_if_ne (tgt := 29) hx hb dX11_taken_14 (by decide) (fun _ => ?_) (fun c9 => absurd c9 (by decide))
        refine lv_aload_n hx hb dX11_taken_29 rfl (lv_at hl 0 rfl) ?_
        refine gf_X11_72 hC rfl hK hP 0 rfl rfl dX11_taken_30 ?_
        refine lv_iload_n hx hb dX11_taken_33 rfl (lv_at hl 1 rfl) ?_
        refine lv_aload_n hx hb dX11_taken_34 rfl (lv_at hl 0 rfl) ?_
        refine gf_X11_15 hC rfl hK hP 0 rfl rfl dX11_taken_35 ?_
        refine pV hC hK hl hP hD (c_held_3 l G Ho B hs hz hi hw hn ht) si_X11_327 [1, 2] rfl rfl (by decide) rfl rfl rfl rfl rfl (Nat.le_of_ble_eq_true rfl) ⟨Nat.le_of_ble_eq_true rfl, Nat.le_of_ble_eq_true rfl⟩ ⟨by first | exact Nat.le_of_ble_eq_true rfl | exact Nat.zero_le _, by first | exact Nat.le_of_ble_eq_true rfl | exact Nat.zero_le _⟩ dX11_taken_38 (fun r1145 hr1145 => ?_)
        obtain rfl := hr1145
        refine lv_istore_n (lv' := [(3, .int 4), (0, .ref h0), (1, .int 3), (2, .int a9)]) hx hb dX11_taken_41 rfl hl (by decide) rfl (fun ls hl => ?_)
        refine lv_iload_n hx hb dX11_taken_42 rfl (lv_at hl 0 rfl) ?_
        refine lv_iconst (v := 4) hx hb dX11_taken_43 (by decide) ?_
        refine lv_icmp_ne (tgt := 50) hx hb dX11_taken_44 (by decide) (fun c9 => absurd (by decide) c9) (fun _ => ?_)
        refine lv_bipush (v := (-11)) hx hb dX11_taken_47 (by decide) ?_
        exact RP (v := (-11)) hC ((by unfold A_taken; first | rfl | (simp only [ifc_t a1118, ifc_t a1144]; done) | (simp only [ifc_t a1118, ifc_t a1144]; rfl))) rfl dX11_taken_49
      · refine lv_if_ne (tgt := 29) hx hb dX11_taken_14 (by decide) (fun c9 => absurd (by decide) c9) (fun _ => ?_)
        refine lv_iload_n hx hb dX11_taken_17 rfl (lv_at hl 2 rfl) ?_
        refine lv_bipush (v := 10) hx hb dX11_taken_18 (by decide) ?_
        refine lv_isub hx hb dX11_taken_20 ?_
        refine pS hC hK hl (c_isSort l G (a9 - 10)) si_X11_315 rfl rfl (Nat.le_of_ble_eq_true rfl) ⟨Nat.le_of_ble_eq_true rfl, Nat.le_of_ble_eq_true rfl⟩ ⟨by first | exact Nat.le_of_ble_eq_true rfl | exact Nat.zero_le _, by first | exact Nat.le_of_ble_eq_true rfl | exact Nat.zero_le _⟩ dX11_taken_21 (fun r1147 hr1147 => ?_)
        rcases hr1147 with ⟨rfl, a1148⟩ | ⟨rfl, a1148⟩
        · refine lv_if_ne (tgt := 29) hx hb dX11_taken_24 (by decide) (fun _ => ?_) (fun c9 => absurd c9 (by decide))
          refine lv_aload_n hx hb dX11_taken_29 rfl (lv_at hl 0 rfl) ?_
          refine gf_X11_72 hC rfl hK hP 0 rfl rfl dX11_taken_30 ?_
          refine lv_iload_n hx hb dX11_taken_33 rfl (lv_at hl 1 rfl) ?_
          refine lv_aload_n hx hb dX11_taken_34 rfl (lv_at hl 0 rfl) ?_
          refine gf_X11_15 hC rfl hK hP 0 rfl rfl dX11_taken_35 ?_
          refine pV hC hK hl hP hD (c_held_3 l G Ho B hs hz hi hw hn ht) si_X11_327 [1, 2] rfl rfl (by decide) rfl rfl rfl rfl rfl (Nat.le_of_ble_eq_true rfl) ⟨Nat.le_of_ble_eq_true rfl, Nat.le_of_ble_eq_true rfl⟩ ⟨by first | exact Nat.le_of_ble_eq_true rfl | exact Nat.zero_le _, by first | exact Nat.le_of_ble_eq_true rfl | exact Nat.zero_le _⟩ dX11_taken_38 (fun r1149 hr1149 => ?_)
          obtain rfl := hr1149
          refine lv_istore_n (lv' := [(3, .int 4), (0, .ref h0), (1, .int 3), (2, .int a9)]) hx hb dX11_taken_41 rfl hl (by decide) rfl (fun ls hl => ?_)
          refine lv_iload_n hx hb dX11_taken_42 rfl (lv_at hl 0 rfl) ?_
          refine lv_iconst (v := 4) hx hb dX11_taken_43 (by decide) ?_
          refine lv_icmp_ne (tgt := 50) hx hb dX11_taken_44 (by decide) (fun c9 => absurd (by decide) c9) (fun _ => ?_)
          refine lv_bipush (v := (-11)) hx hb dX11_taken_47 (by decide) ?_
          exact RP (v := (-11)) hC ((by unfold A_taken; first | rfl | (simp only [ifc_t a1118, ifc_f a1144, ifc_t a1148]; done) | (simp only [ifc_t a1118, ifc_f a1144, ifc_t a1148]; rfl))) rfl dX11_taken_49
        · refine lv_if_ne (tgt := 29) hx hb dX11_taken_24 (by decide) (fun c9 => absurd (by decide) c9) (fun _ => ?_)
          refine lv_iconst (v := (-1)) hx hb dX11_taken_27 (by decide) ?_
          exact RP (v := (-1)) hC ((by unfold A_taken; first | rfl | (simp only [ifc_t a1118, ifc_f a1144, ifc_f a1148]; done) | (simp only [ifc_t a1118, ifc_f a1144, ifc_f a1148]; rfl))) rfl dX11_taken_28
  · refine lv_if_eq (tgt := 27) hx hb dX11_taken_4 (by decide) (fun _ => ?_) (fun c9 => absurd (by decide) c9)
    refine lv_iconst (v := (-1)) hx hb dX11_taken_27 (by decide) ?_
    exact RP (v := (-1)) hC ((by unfold A_taken; first | rfl | (simp only [ifc_f a1118]; done) | (simp only [ifc_f a1118]; rfl))) rfl dX11_taken_28
set_option maxHeartbeats 4000000 in
set_option maxRecDepth 100000 in
theorem c_clearTrace (l : Launch) (G : GG) (h0 : Nat) (B : Nat) (dt : Nat) : MV l G yX2_clearTrace cX2_clearTrace 1 1 0 0 [.ref h0] [(h0, .inr (2, [.ref B, .ref dt, .int 0, .int 0, .int 0, .int 0, .int 0, .int 0]))] (fun u : Unit => True) (fun u : Unit => [(h0, .inr (2, [.ref B, .ref dt, .int 0, .int 0, .int 0, .int 0, .int 0, .int 0]))]) := by
  refine MV.start (by decide +kernel) (Nat.le_of_ble_eq_true rfl) ?_
  intro p e s m below meth c A ls hC hK hP hD hS hA hl
  have hl : lv_has ls 1 [(0, .ref h0)] := hl
  obtain ⟨hx, hb, hr, hml, hB, hown, hlocks, hnm⟩ := id hC
  refine lv_aload_n hx hb dX2_clearTrace_0 rfl (lv_at hl 0 rfl) ?_
  refine lv_iconst (v := 0) hx hb dX2_clearTrace_1 (by decide) ?_
  refine pf_X2_19 hC rfl hK hP hD hS 0 (ws' := [(h0, .inr (2, [.ref B, .ref dt, .int 0, .int 0, .int 0, .int 0, .int 0, .int 0]))]) rfl (Nat.le_of_ble_eq_true rfl) rfl rfl rfl dX2_clearTrace_2 (fun H locs hP hD hS => ?_)
  exact RV hC hP hD hS [0] () rfl rfl (by decide) (trivial) dX2_clearTrace_5
set_option maxHeartbeats 4000000 in
set_option maxRecDepth 100000 in
theorem c_deal (l : Launch) (G : GG) (h0 : Nat) (s9 : Int32) (de : Int32) (xx : Int32) (B : Nat) (K : Nat) (S : Nat) (D : Nat) (R : Nat) (Ta : Nat) (Tp : Nat) (Ro : Nat) (Ho : Nat) (De : Nat) (hs : Nat) (hz : Nat) (hi : Nat) (hw : Nat) (hn : Nat) (ht : Nat) (dt : Nat) : MI l G yX11_deal cX11_deal 5 (some .int) 5 0 0 [.ref h0, .int s9, .int de, .int xx] [(h0, .inr (11, [.ref B, .ref K, .int 0, .ref S, .ref D, .ref R, .ref Ta, .ref Tp, .ref Ro, .ref Ho, .ref De])), (Ho, .inr (4, [.ref hs, .ref hz, .ref hi, .ref hw, .ref hn, .ref ht])), (hw, .inl (G.2.1, 4, .inl (upd (upd (upd (upd (fun _ => 0) 0 4) 1 4) 2 4) 3 4))), (De, .inr (2, [.ref B, .ref dt, .int 0, .int 0, .int 0, .int 0, .int 0, .int 0]))] (fun (r : Int32) (u : Unit) => (r = 0)) (fun u : Unit => []) := by
  refine MI.start (by decide +kernel) (Nat.le_of_ble_eq_true rfl) ?_
  intro p e s m below meth c A ls hC hK hP hD hS hA hl
  have hl : lv_has ls 5 [(0, .ref h0), (1, .int s9), (2, .int de), (3, .int xx)] := hl
  obtain ⟨hx, hb, hr, hml, hB, hown, hlocks, hnm⟩ := id hC
  refine lv_aload_n hx hb dX11_deal_0 rfl (lv_at hl 0 rfl) ?_
  refine gf_X11_79 hC rfl hK hP 0 rfl rfl dX11_deal_1 ?_
  refine vV (wr := [(h0, .inr (11, [.ref B, .ref K, .int 0, .ref S, .ref D, .ref R, .ref Ta, .ref Tp, .ref Ro, .ref Ho, .ref De])), (Ho, .inr (4, [.ref hs, .ref hz, .ref hi, .ref hw, .ref hn, .ref ht])), (hw, .inl (G.2.1, 4, .inl (upd (upd (upd (upd (fun _ => 0) 0 4) 1 4) 2 4) 3 4)))]) hC hK hl hP hD hS hA (c_clearTrace l G De B dt) si_X11_343 [3] [0, 1, 2] rfl rfl (by decide) rfl (by decide) (by decide) rfl rfl rfl rfl rfl (Nat.le_of_ble_eq_true rfl) ⟨Nat.le_of_ble_eq_true rfl, Nat.le_of_ble_eq_true rfl⟩ ⟨Nat.le_of_ble_eq_true rfl, Nat.le_of_ble_eq_true rfl⟩ dX11_deal_4 (fun u1152 H locs hr1151 hP hD hS => ?_)
  have hP : va_P G.1 vwCl [(h0, .inr (11, [.ref B, .ref K, .int 0, .ref S, .ref D, .ref R, .ref Ta, .ref Tp, .ref Ro, .ref Ho, .ref De])), (Ho, .inr (4, [.ref hs, .ref hz, .ref hi, .ref hw, .ref hn, .ref ht])), (hw, .inl (G.2.1, 4, .inl (upd (upd (upd (upd (fun _ => 0) 0 4) 1 4) 2 4) 3 4))), (De, .inr (2, [.ref B, .ref dt, .int 0, .int 0, .int 0, .int 0, .int 0, .int 0]))] H := hP
  have hD : va_D A [(h0, .inr (11, [.ref B, .ref K, .int 0, .ref S, .ref D, .ref R, .ref Ta, .ref Tp, .ref Ro, .ref Ho, .ref De])), (Ho, .inr (4, [.ref hs, .ref hz, .ref hi, .ref hw, .ref hn, .ref ht])), (hw, .inl (G.2.1, 4, .inl (upd (upd (upd (upd (fun _ => 0) 0 4) 1 4) 2 4) 3 4))), (De, .inr (2, [.ref B, .ref dt, .int 0, .int 0, .int 0, .int 0, .int 0, .int 0]))] := hD
  refine lv_iload_n hx hb dX11_deal_7 rfl (lv_at hl 1 rfl) ?_
  refine pS hC hK hl (c_isShelf l G s9) si_X11_318 rfl rfl (Nat.le_of_ble_eq_true rfl) ⟨Nat.le_of_ble_eq_true rfl, Nat.le_of_ble_eq_true rfl⟩ ⟨by first | exact Nat.le_of_ble_eq_true rfl | exact Nat.zero_le _, by first | exact Nat.le_of_ble_eq_true rfl | exact Nat.zero_le _⟩ dX11_deal_8 (fun r1153 hr1153 => ?_)
  rcases hr1153 with ⟨rfl, a1154⟩ | ⟨rfl, a1154⟩
  · rcases Wi_c3 a1154 with rfl | rfl | rfl | rfl
    · refine lv_if_eq (tgt := 23) hx hb dX11_deal_11 (by decide) (fun c9 => absurd c9 (by decide)) (fun _ => ?_)
      refine lv_iload_n hx hb dX11_deal_14 rfl (lv_at hl 2 rfl) ?_
      refine lv_iconst (v := 0) hx hb dX11_deal_15 (by decide) ?_
      refine lv_iconst (v := 3) hx hb dX11_deal_16 (by decide) ?_
      refine pS hC hK hl (c_within l G de 0 3) si_X11_83 rfl rfl (Nat.le_of_ble_eq_true rfl) ⟨Nat.le_of_ble_eq_true rfl, Nat.le_of_ble_eq_true rfl⟩ ⟨by first | exact Nat.le_of_ble_eq_true rfl | exact Nat.zero_le _, by first | exact Nat.le_of_ble_eq_true rfl | exact Nat.zero_le _⟩ dX11_deal_17 (fun r1155 hr1155 => ?_)
      rcases hr1155 with ⟨rfl, a1156⟩ | ⟨rfl, a1156⟩
      · refine lv_if_ne (tgt := 25) hx hb dX11_deal_20 (by decide) (fun _ => ?_) (fun c9 => absurd c9 (by decide))
        refine lv_aload_n hx hb dX11_deal_25 rfl (lv_at hl 0 rfl) ?_
        refine gf_X11_72 hC rfl hK hP 0 rfl rfl dX11_deal_26 ?_
        refine lv_iload_n hx hb dX11_deal_29 rfl (lv_at hl 1 rfl) ?_
        refine lv_aload_n hx hb dX11_deal_30 rfl (lv_at hl 0 rfl) ?_
        refine gf_X11_15 hC rfl hK hP 0 rfl rfl dX11_deal_31 ?_
        refine pV hC hK hl hP hD (c_held_0 l G Ho B hs hz hi hw hn ht) si_X11_327 [1, 2] rfl rfl (by decide) rfl rfl rfl rfl rfl (Nat.le_of_ble_eq_true rfl) ⟨Nat.le_of_ble_eq_true rfl, Nat.le_of_ble_eq_true rfl⟩ ⟨by first | exact Nat.le_of_ble_eq_true rfl | exact Nat.zero_le _, by first | exact Nat.le_of_ble_eq_true rfl | exact Nat.zero_le _⟩ dX11_deal_34 (fun r1157 hr1157 => ?_)
        obtain rfl := hr1157
        refine lv_istore (lv' := [(4, .int 4), (0, .ref h0), (1, .int 0), (2, .int de), (3, .int xx)]) hx hb dX11_deal_37 hl (by decide) rfl (fun ls hl => ?_)
        refine lv_iload hx hb dX11_deal_39 (lv_at hl 0 rfl) ?_
        refine lv_iconst (v := 4) hx hb dX11_deal_41 (by decide) ?_
        refine lv_icmp_eq (tgt := 51) hx hb dX11_deal_42 (by decide) (fun _ => ?_) (fun c9 => absurd (by decide) c9)
        refine lv_iconst (v := 0) hx hb dX11_deal_51 (by decide) ?_
        exact RI (v := 0) hC hP hD hS [] () rfl rfl (by decide) (rfl) rfl dX11_deal_52
      · refine lv_if_ne (tgt := 25) hx hb dX11_deal_20 (by decide) (fun c9 => absurd (by decide) c9) (fun _ => ?_)
        refine lv_iconst (v := 0) hx hb dX11_deal_23 (by decide) ?_
        exact RI (v := 0) hC hP hD hS [] () rfl rfl (by decide) (rfl) rfl dX11_deal_24
    · refine lv_if_eq (tgt := 23) hx hb dX11_deal_11 (by decide) (fun c9 => absurd c9 (by decide)) (fun _ => ?_)
      refine lv_iload_n hx hb dX11_deal_14 rfl (lv_at hl 2 rfl) ?_
      refine lv_iconst (v := 0) hx hb dX11_deal_15 (by decide) ?_
      refine lv_iconst (v := 3) hx hb dX11_deal_16 (by decide) ?_
      refine pS hC hK hl (c_within l G de 0 3) si_X11_83 rfl rfl (Nat.le_of_ble_eq_true rfl) ⟨Nat.le_of_ble_eq_true rfl, Nat.le_of_ble_eq_true rfl⟩ ⟨by first | exact Nat.le_of_ble_eq_true rfl | exact Nat.zero_le _, by first | exact Nat.le_of_ble_eq_true rfl | exact Nat.zero_le _⟩ dX11_deal_17 (fun r1159 hr1159 => ?_)
      rcases hr1159 with ⟨rfl, a1160⟩ | ⟨rfl, a1160⟩
      · refine lv_if_ne (tgt := 25) hx hb dX11_deal_20 (by decide) (fun _ => ?_) (fun c9 => absurd c9 (by decide))
        refine lv_aload_n hx hb dX11_deal_25 rfl (lv_at hl 0 rfl) ?_
        refine gf_X11_72 hC rfl hK hP 0 rfl rfl dX11_deal_26 ?_
        refine lv_iload_n hx hb dX11_deal_29 rfl (lv_at hl 1 rfl) ?_
        refine lv_aload_n hx hb dX11_deal_30 rfl (lv_at hl 0 rfl) ?_
        refine gf_X11_15 hC rfl hK hP 0 rfl rfl dX11_deal_31 ?_
        refine pV hC hK hl hP hD (c_held_1 l G Ho B hs hz hi hw hn ht) si_X11_327 [1, 2] rfl rfl (by decide) rfl rfl rfl rfl rfl (Nat.le_of_ble_eq_true rfl) ⟨Nat.le_of_ble_eq_true rfl, Nat.le_of_ble_eq_true rfl⟩ ⟨by first | exact Nat.le_of_ble_eq_true rfl | exact Nat.zero_le _, by first | exact Nat.le_of_ble_eq_true rfl | exact Nat.zero_le _⟩ dX11_deal_34 (fun r1161 hr1161 => ?_)
        obtain rfl := hr1161
        refine lv_istore (lv' := [(4, .int 4), (0, .ref h0), (1, .int 1), (2, .int de), (3, .int xx)]) hx hb dX11_deal_37 hl (by decide) rfl (fun ls hl => ?_)
        refine lv_iload hx hb dX11_deal_39 (lv_at hl 0 rfl) ?_
        refine lv_iconst (v := 4) hx hb dX11_deal_41 (by decide) ?_
        refine lv_icmp_eq (tgt := 51) hx hb dX11_deal_42 (by decide) (fun _ => ?_) (fun c9 => absurd (by decide) c9)
        refine lv_iconst (v := 0) hx hb dX11_deal_51 (by decide) ?_
        exact RI (v := 0) hC hP hD hS [] () rfl rfl (by decide) (rfl) rfl dX11_deal_52
      · refine lv_if_ne (tgt := 25) hx hb dX11_deal_20 (by decide) (fun c9 => absurd (by decide) c9) (fun _ => ?_)
        refine lv_iconst (v := 0) hx hb dX11_deal_23 (by decide) ?_
        exact RI (v := 0) hC hP hD hS [] () rfl rfl (by decide) (rfl) rfl dX11_deal_24
    · refine lv_if_eq (tgt := 23) hx hb dX11_deal_11 (by decide) (fun c9 => absurd c9 (by decide)) (fun _ => ?_)
      refine lv_iload_n hx hb dX11_deal_14 rfl (lv_at hl 2 rfl) ?_
      refine lv_iconst (v := 0) hx hb dX11_deal_15 (by decide) ?_
      refine lv_iconst (v := 3) hx hb dX11_deal_16 (by decide) ?_
      refine pS hC hK hl (c_within l G de 0 3) si_X11_83 rfl rfl (Nat.le_of_ble_eq_true rfl) ⟨Nat.le_of_ble_eq_true rfl, Nat.le_of_ble_eq_true rfl⟩ ⟨by first | exact Nat.le_of_ble_eq_true rfl | exact Nat.zero_le _, by first | exact Nat.le_of_ble_eq_true rfl | exact Nat.zero_le _⟩ dX11_deal_17 (fun r1163 hr1163 => ?_)
      rcases hr1163 with ⟨rfl, a1164⟩ | ⟨rfl, a1164⟩
      · refine lv_if_ne (tgt := 25) hx hb dX11_deal_20 (by decide) (fun _ => ?_) (fun c9 => absurd c9 (by decide))
        refine lv_aload_n hx hb dX11_deal_25 rfl (lv_at hl 0 rfl) ?_
        refine gf_X11_72 hC rfl hK hP 0 rfl rfl dX11_deal_26 ?_
        refine lv_iload_n hx hb dX11_deal_29 rfl (lv_at hl 1 rfl) ?_
        refine lv_aload_n hx hb dX11_deal_30 rfl (lv_at hl 0 rfl) ?_
        refine gf_X11_15 hC rfl hK hP 0 rfl rfl dX11_deal_31 ?_
        refine pV hC hK hl hP hD (c_held_2 l G Ho B hs hz hi hw hn ht) si_X11_327 [1, 2] rfl rfl (by decide) rfl rfl rfl rfl rfl (Nat.le_of_ble_eq_true rfl) ⟨Nat.le_of_ble_eq_true rfl, Nat.le_of_ble_eq_true rfl⟩ ⟨by first | exact Nat.le_of_ble_eq_true rfl | exact Nat.zero_le _, by first | exact Nat.le_of_ble_eq_true rfl | exact Nat.zero_le _⟩ dX11_deal_34 (fun r1165 hr1165 => ?_)
        obtain rfl := hr1165
        refine lv_istore (lv' := [(4, .int 4), (0, .ref h0), (1, .int 2), (2, .int de), (3, .int xx)]) hx hb dX11_deal_37 hl (by decide) rfl (fun ls hl => ?_)
        refine lv_iload hx hb dX11_deal_39 (lv_at hl 0 rfl) ?_
        refine lv_iconst (v := 4) hx hb dX11_deal_41 (by decide) ?_
        refine lv_icmp_eq (tgt := 51) hx hb dX11_deal_42 (by decide) (fun _ => ?_) (fun c9 => absurd (by decide) c9)
        refine lv_iconst (v := 0) hx hb dX11_deal_51 (by decide) ?_
        exact RI (v := 0) hC hP hD hS [] () rfl rfl (by decide) (rfl) rfl dX11_deal_52
      · refine lv_if_ne (tgt := 25) hx hb dX11_deal_20 (by decide) (fun c9 => absurd (by decide) c9) (fun _ => ?_)
        refine lv_iconst (v := 0) hx hb dX11_deal_23 (by decide) ?_
        exact RI (v := 0) hC hP hD hS [] () rfl rfl (by decide) (rfl) rfl dX11_deal_24
    · refine lv_if_eq (tgt := 23) hx hb dX11_deal_11 (by decide) (fun c9 => absurd c9 (by decide)) (fun _ => ?_)
      refine lv_iload_n hx hb dX11_deal_14 rfl (lv_at hl 2 rfl) ?_
      refine lv_iconst (v := 0) hx hb dX11_deal_15 (by decide) ?_
      refine lv_iconst (v := 3) hx hb dX11_deal_16 (by decide) ?_
      refine pS hC hK hl (c_within l G de 0 3) si_X11_83 rfl rfl (Nat.le_of_ble_eq_true rfl) ⟨Nat.le_of_ble_eq_true rfl, Nat.le_of_ble_eq_true rfl⟩ ⟨by first | exact Nat.le_of_ble_eq_true rfl | exact Nat.zero_le _, by first | exact Nat.le_of_ble_eq_true rfl | exact Nat.zero_le _⟩ dX11_deal_17 (fun r1167 hr1167 => ?_)
      rcases hr1167 with ⟨rfl, a1168⟩ | ⟨rfl, a1168⟩
      · refine lv_if_ne (tgt := 25) hx hb dX11_deal_20 (by decide) (fun _ => ?_) (fun c9 => absurd c9 (by decide))
        refine lv_aload_n hx hb dX11_deal_25 rfl (lv_at hl 0 rfl) ?_
        refine gf_X11_72 hC rfl hK hP 0 rfl rfl dX11_deal_26 ?_
        refine lv_iload_n hx hb dX11_deal_29 rfl (lv_at hl 1 rfl) ?_
        refine lv_aload_n hx hb dX11_deal_30 rfl (lv_at hl 0 rfl) ?_
        refine gf_X11_15 hC rfl hK hP 0 rfl rfl dX11_deal_31 ?_
        refine pV hC hK hl hP hD (c_held_3 l G Ho B hs hz hi hw hn ht) si_X11_327 [1, 2] rfl rfl (by decide) rfl rfl rfl rfl rfl (Nat.le_of_ble_eq_true rfl) ⟨Nat.le_of_ble_eq_true rfl, Nat.le_of_ble_eq_true rfl⟩ ⟨by first | exact Nat.le_of_ble_eq_true rfl | exact Nat.zero_le _, by first | exact Nat.le_of_ble_eq_true rfl | exact Nat.zero_le _⟩ dX11_deal_34 (fun r1169 hr1169 => ?_)
        obtain rfl := hr1169
        refine lv_istore (lv' := [(4, .int 4), (0, .ref h0), (1, .int 3), (2, .int de), (3, .int xx)]) hx hb dX11_deal_37 hl (by decide) rfl (fun ls hl => ?_)
        refine lv_iload hx hb dX11_deal_39 (lv_at hl 0 rfl) ?_
        refine lv_iconst (v := 4) hx hb dX11_deal_41 (by decide) ?_
        refine lv_icmp_eq (tgt := 51) hx hb dX11_deal_42 (by decide) (fun _ => ?_) (fun c9 => absurd (by decide) c9)
        refine lv_iconst (v := 0) hx hb dX11_deal_51 (by decide) ?_
        exact RI (v := 0) hC hP hD hS [] () rfl rfl (by decide) (rfl) rfl dX11_deal_52
      · refine lv_if_ne (tgt := 25) hx hb dX11_deal_20 (by decide) (fun c9 => absurd (by decide) c9) (fun _ => ?_)
        refine lv_iconst (v := 0) hx hb dX11_deal_23 (by decide) ?_
        exact RI (v := 0) hC hP hD hS [] () rfl rfl (by decide) (rfl) rfl dX11_deal_24
  · refine lv_if_eq (tgt := 23) hx hb dX11_deal_11 (by decide) (fun _ => ?_) (fun c9 => absurd (by decide) c9)
    refine lv_iconst (v := 0) hx hb dX11_deal_23 (by decide) ?_
    exact RI (v := 0) hC hP hD hS [] () rfl rfl (by decide) (rfl) rfl dX11_deal_24
set_option maxHeartbeats 4000000 in
set_option maxRecDepth 100000 in
theorem c_T_copy_10_2 (l : Launch) (G : GG) (h0 : Nat) (h1 : Nat) (ca : Nat) (f : Nat → Int32) (cb : Nat) (g : Nat → Int32) : MV l G yX8_copy cX8_copy 3 2 0 0 [.ref h0, .ref h1] [(h0, .inr (8, [.int 10, .int 2, .ref ca, .int 0])), (ca, .inl (G.2.1, 20, .inl f)), (h1, .inr (8, [.int 10, .int 2, .ref cb, .int 0])), (cb, .inl (G.2.1, 20, .inl g))] (fun u : (Nat → Int32) => True) (fun u : (Nat → Int32) => [(h0, .inr (8, [.int 10, .int 2, .ref ca, .int 0])), (ca, .inl (G.2.1, 20, .inl u)), (h1, .inr (8, [.int 10, .int 2, .ref cb, .int 0])), (cb, .inl (G.2.1, 20, .inl g))]) := by
  refine MV.start (by decide +kernel) (Nat.le_of_ble_eq_true rfl) ?_
  intro p e s m below meth c A ls hC hK hP hD hS hA hl
  have hl : lv_has ls 3 [(0, .ref h0), (1, .ref h1)] := hl
  obtain ⟨hx, hb, hr, hml, hB, hown, hlocks, hnm⟩ := id hC
  refine lv_aload_n hx hb dX8_copy_0 rfl (lv_at hl 0 rfl) ?_
  refine gf_X8_24 hC rfl hK hP 0 rfl rfl dX8_copy_1 ?_
  refine va_alen (v := 20) hx hb hK.1 hP 1 0 rfl rfl (show Int32.ofNat 20 = 20 by decide) dX8_copy_4 ?_
  refine lv_aload_n hx hb dX8_copy_5 rfl (lv_at hl 1 rfl) ?_
  refine gf_X8_24 hC rfl hK hP 2 rfl rfl dX8_copy_6 ?_
  refine va_alen (v := 20) hx hb hK.1 hP 3 0 rfl rfl (show Int32.ofNat 20 = 20 by decide) dX8_copy_9 ?_
  refine va_mmin hx hb (hml.trans hl.1.symm) hown (hB _ m_355) (hB _ m_356) (hB _ m_77) (hB _ m_357) (Nat.le_of_ble_eq_true rfl) (Nat.le_of_ble_eq_true rfl) (by first | exact Nat.le_of_ble_eq_true rfl | exact Nat.zero_le _)  (by first | exact Nat.le_of_ble_eq_true rfl | exact Nat.zero_le _) dX8_copy_10 ?_
  refine eqi (x1 := 20) (by decide) ?_
  refine lv_istore_n (lv' := [(2, .int 20), (0, .ref h0), (1, .ref h1)]) hx hb dX8_copy_13 rfl hl (by decide) rfl (fun ls hl => ?_)
  refine lv_aload_n hx hb dX8_copy_14 rfl (lv_at hl 2 rfl) ?_
  refine gf_X8_24 hC rfl hK hP 2 rfl rfl dX8_copy_15 ?_
  refine lv_iconst (v := 0) hx hb dX8_copy_18 (by decide) ?_
  refine lv_aload_n hx hb dX8_copy_19 rfl (lv_at hl 1 rfl) ?_
  refine gf_X8_24 hC rfl hK hP 0 rfl rfl dX8_copy_20 ?_
  refine lv_iconst (v := 0) hx hb dX8_copy_23 (by decide) ?_
  refine lv_iload_n hx hb dX8_copy_24 rfl (lv_at hl 0 rfl) ?_
  refine va_copyi hx hb (hml.trans hl.1.symm) hown (hB _ m_1415) (hB _ m_475) (hB _ m_476) (hB _ m_477) hK.1 hP hD hS 3 1 0 0 rfl rfl rfl rfl rfl (by decide) (by decide) (by decide) (by decide +kernel) (by decide +kernel) (fun _ _ => rfl) (Nat.le_of_ble_eq_true rfl) (by decide +kernel) dX8_copy_25 (fun H locs hP hD hS => ?_)
  have hP : va_P G.1 vwCl [(h0, .inr (8, [.int 10, .int 2, .ref ca, .int 0])), (ca, .inl (G.2.1, 20, .inl (va_cpy g f (0 : Int32).toNatClampNeg (0 : Int32).toNatClampNeg (20 : Int32).toNatClampNeg))), (h1, .inr (8, [.int 10, .int 2, .ref cb, .int 0])), (cb, .inl (G.2.1, 20, .inl g))] H := hP
  have hD : va_D A [(h0, .inr (8, [.int 10, .int 2, .ref ca, .int 0])), (ca, .inl (G.2.1, 20, .inl (va_cpy g f (0 : Int32).toNatClampNeg (0 : Int32).toNatClampNeg (20 : Int32).toNatClampNeg))), (h1, .inr (8, [.int 10, .int 2, .ref cb, .int 0])), (cb, .inl (G.2.1, 20, .inl g))] := hD
  refine lv_aload_n hx hb dX8_copy_28 rfl (lv_at hl 1 rfl) ?_
  refine lv_aload_n hx hb dX8_copy_29 rfl (lv_at hl 2 rfl) ?_
  refine gf_X8_28 hC rfl hK hP 2 rfl rfl dX8_copy_30 ?_
  refine lv_aload_n hx hb dX8_copy_33 rfl (lv_at hl 1 rfl) ?_
  refine gf_X8_15 hC rfl hK hP 0 rfl rfl dX8_copy_34 ?_
  refine va_mmin hx hb (hml.trans hl.1.symm) hown (hB _ m_355) (hB _ m_356) (hB _ m_77) (hB _ m_357) (Nat.le_of_ble_eq_true rfl) (Nat.le_of_ble_eq_true rfl) (by first | exact Nat.le_of_ble_eq_true rfl | exact Nat.zero_le _)  (by first | exact Nat.le_of_ble_eq_true rfl | exact Nat.zero_le _) dX8_copy_37 ?_
  refine eqi (x1 := 0) (by decide) ?_
  refine pf_X8_28 hC rfl hK hP hD hS 0 (ws' := [(h0, .inr (8, [.int 10, .int 2, .ref ca, .int 0])), (ca, .inl (G.2.1, 20, .inl (va_cpy g f (0 : Int32).toNatClampNeg (0 : Int32).toNatClampNeg (20 : Int32).toNatClampNeg))), (h1, .inr (8, [.int 10, .int 2, .ref cb, .int 0])), (cb, .inl (G.2.1, 20, .inl g))]) rfl (Nat.le_of_ble_eq_true rfl) rfl rfl rfl dX8_copy_40 (fun H locs hP hD hS => ?_)
  exact RV hC hP hD hS [0, 1, 2, 3] (va_cpy g f (0 : Int32).toNatClampNeg (0 : Int32).toNatClampNeg (20 : Int32).toNatClampNeg) rfl rfl (by decide) (trivial) dX8_copy_43
set_option maxHeartbeats 4000000 in
set_option maxRecDepth 100000 in
theorem c_T_copy_12_6 (l : Launch) (G : GG) (h0 : Nat) (h1 : Nat) (ca : Nat) (f : Nat → Int32) (cb : Nat) (g : Nat → Int32) : MV l G yX8_copy cX8_copy 3 2 0 0 [.ref h0, .ref h1] [(h0, .inr (8, [.int 12, .int 6, .ref ca, .int 0])), (ca, .inl (G.2.1, 72, .inl f)), (h1, .inr (8, [.int 12, .int 6, .ref cb, .int 0])), (cb, .inl (G.2.1, 72, .inl g))] (fun u : (Nat → Int32) => True) (fun u : (Nat → Int32) => [(h0, .inr (8, [.int 12, .int 6, .ref ca, .int 0])), (ca, .inl (G.2.1, 72, .inl u)), (h1, .inr (8, [.int 12, .int 6, .ref cb, .int 0])), (cb, .inl (G.2.1, 72, .inl g))]) := by
  refine MV.start (by decide +kernel) (Nat.le_of_ble_eq_true rfl) ?_
  intro p e s m below meth c A ls hC hK hP hD hS hA hl
  have hl : lv_has ls 3 [(0, .ref h0), (1, .ref h1)] := hl
  obtain ⟨hx, hb, hr, hml, hB, hown, hlocks, hnm⟩ := id hC
  refine lv_aload_n hx hb dX8_copy_0 rfl (lv_at hl 0 rfl) ?_
  refine gf_X8_24 hC rfl hK hP 0 rfl rfl dX8_copy_1 ?_
  refine va_alen (v := 72) hx hb hK.1 hP 1 0 rfl rfl (show Int32.ofNat 72 = 72 by decide) dX8_copy_4 ?_
  refine lv_aload_n hx hb dX8_copy_5 rfl (lv_at hl 1 rfl) ?_
  refine gf_X8_24 hC rfl hK hP 2 rfl rfl dX8_copy_6 ?_
  refine va_alen (v := 72) hx hb hK.1 hP 3 0 rfl rfl (show Int32.ofNat 72 = 72 by decide) dX8_copy_9 ?_
  refine va_mmin hx hb (hml.trans hl.1.symm) hown (hB _ m_355) (hB _ m_356) (hB _ m_77) (hB _ m_357) (Nat.le_of_ble_eq_true rfl) (Nat.le_of_ble_eq_true rfl) (by first | exact Nat.le_of_ble_eq_true rfl | exact Nat.zero_le _)  (by first | exact Nat.le_of_ble_eq_true rfl | exact Nat.zero_le _) dX8_copy_10 ?_
  refine eqi (x1 := 72) (by decide) ?_
  refine lv_istore_n (lv' := [(2, .int 72), (0, .ref h0), (1, .ref h1)]) hx hb dX8_copy_13 rfl hl (by decide) rfl (fun ls hl => ?_)
  refine lv_aload_n hx hb dX8_copy_14 rfl (lv_at hl 2 rfl) ?_
  refine gf_X8_24 hC rfl hK hP 2 rfl rfl dX8_copy_15 ?_
  refine lv_iconst (v := 0) hx hb dX8_copy_18 (by decide) ?_
  refine lv_aload_n hx hb dX8_copy_19 rfl (lv_at hl 1 rfl) ?_
  refine gf_X8_24 hC rfl hK hP 0 rfl rfl dX8_copy_20 ?_
  refine lv_iconst (v := 0) hx hb dX8_copy_23 (by decide) ?_
  refine lv_iload_n hx hb dX8_copy_24 rfl (lv_at hl 0 rfl) ?_
  refine va_copyi hx hb (hml.trans hl.1.symm) hown (hB _ m_1415) (hB _ m_475) (hB _ m_476) (hB _ m_477) hK.1 hP hD hS 3 1 0 0 rfl rfl rfl rfl rfl (by decide) (by decide) (by decide) (by decide +kernel) (by decide +kernel) (fun _ _ => rfl) (Nat.le_of_ble_eq_true rfl) (by decide +kernel) dX8_copy_25 (fun H locs hP hD hS => ?_)
  have hP : va_P G.1 vwCl [(h0, .inr (8, [.int 12, .int 6, .ref ca, .int 0])), (ca, .inl (G.2.1, 72, .inl (va_cpy g f (0 : Int32).toNatClampNeg (0 : Int32).toNatClampNeg (72 : Int32).toNatClampNeg))), (h1, .inr (8, [.int 12, .int 6, .ref cb, .int 0])), (cb, .inl (G.2.1, 72, .inl g))] H := hP
  have hD : va_D A [(h0, .inr (8, [.int 12, .int 6, .ref ca, .int 0])), (ca, .inl (G.2.1, 72, .inl (va_cpy g f (0 : Int32).toNatClampNeg (0 : Int32).toNatClampNeg (72 : Int32).toNatClampNeg))), (h1, .inr (8, [.int 12, .int 6, .ref cb, .int 0])), (cb, .inl (G.2.1, 72, .inl g))] := hD
  refine lv_aload_n hx hb dX8_copy_28 rfl (lv_at hl 1 rfl) ?_
  refine lv_aload_n hx hb dX8_copy_29 rfl (lv_at hl 2 rfl) ?_
  refine gf_X8_28 hC rfl hK hP 2 rfl rfl dX8_copy_30 ?_
  refine lv_aload_n hx hb dX8_copy_33 rfl (lv_at hl 1 rfl) ?_
  refine gf_X8_15 hC rfl hK hP 0 rfl rfl dX8_copy_34 ?_
  refine va_mmin hx hb (hml.trans hl.1.symm) hown (hB _ m_355) (hB _ m_356) (hB _ m_77) (hB _ m_357) (Nat.le_of_ble_eq_true rfl) (Nat.le_of_ble_eq_true rfl) (by first | exact Nat.le_of_ble_eq_true rfl | exact Nat.zero_le _)  (by first | exact Nat.le_of_ble_eq_true rfl | exact Nat.zero_le _) dX8_copy_37 ?_
  refine eqi (x1 := 0) (by decide) ?_
  refine pf_X8_28 hC rfl hK hP hD hS 0 (ws' := [(h0, .inr (8, [.int 12, .int 6, .ref ca, .int 0])), (ca, .inl (G.2.1, 72, .inl (va_cpy g f (0 : Int32).toNatClampNeg (0 : Int32).toNatClampNeg (72 : Int32).toNatClampNeg))), (h1, .inr (8, [.int 12, .int 6, .ref cb, .int 0])), (cb, .inl (G.2.1, 72, .inl g))]) rfl (Nat.le_of_ble_eq_true rfl) rfl rfl rfl dX8_copy_40 (fun H locs hP hD hS => ?_)
  exact RV hC hP hD hS [0, 1, 2, 3] (va_cpy g f (0 : Int32).toNatClampNeg (0 : Int32).toNatClampNeg (72 : Int32).toNatClampNeg) rfl rfl (by decide) (trivial) dX8_copy_43
set_option maxHeartbeats 4000000 in
set_option maxRecDepth 100000 in
theorem c_T_copy_24_3 (l : Launch) (G : GG) (h0 : Nat) (h1 : Nat) (ca : Nat) (f : Nat → Int32) (cb : Nat) (g : Nat → Int32) : MV l G yX8_copy cX8_copy 3 2 0 0 [.ref h0, .ref h1] [(h0, .inr (8, [.int 24, .int 3, .ref ca, .int 0])), (ca, .inl (G.2.1, 72, .inl f)), (h1, .inr (8, [.int 24, .int 3, .ref cb, .int 0])), (cb, .inl (G.2.1, 72, .inl g))] (fun u : (Nat → Int32) => True) (fun u : (Nat → Int32) => [(h0, .inr (8, [.int 24, .int 3, .ref ca, .int 0])), (ca, .inl (G.2.1, 72, .inl u)), (h1, .inr (8, [.int 24, .int 3, .ref cb, .int 0])), (cb, .inl (G.2.1, 72, .inl g))]) := by
  refine MV.start (by decide +kernel) (Nat.le_of_ble_eq_true rfl) ?_
  intro p e s m below meth c A ls hC hK hP hD hS hA hl
  have hl : lv_has ls 3 [(0, .ref h0), (1, .ref h1)] := hl
  obtain ⟨hx, hb, hr, hml, hB, hown, hlocks, hnm⟩ := id hC
  refine lv_aload_n hx hb dX8_copy_0 rfl (lv_at hl 0 rfl) ?_
  refine gf_X8_24 hC rfl hK hP 0 rfl rfl dX8_copy_1 ?_
  refine va_alen (v := 72) hx hb hK.1 hP 1 0 rfl rfl (show Int32.ofNat 72 = 72 by decide) dX8_copy_4 ?_
  refine lv_aload_n hx hb dX8_copy_5 rfl (lv_at hl 1 rfl) ?_
  refine gf_X8_24 hC rfl hK hP 2 rfl rfl dX8_copy_6 ?_
  refine va_alen (v := 72) hx hb hK.1 hP 3 0 rfl rfl (show Int32.ofNat 72 = 72 by decide) dX8_copy_9 ?_
  refine va_mmin hx hb (hml.trans hl.1.symm) hown (hB _ m_355) (hB _ m_356) (hB _ m_77) (hB _ m_357) (Nat.le_of_ble_eq_true rfl) (Nat.le_of_ble_eq_true rfl) (by first | exact Nat.le_of_ble_eq_true rfl | exact Nat.zero_le _)  (by first | exact Nat.le_of_ble_eq_true rfl | exact Nat.zero_le _) dX8_copy_10 ?_
  refine eqi (x1 := 72) (by decide) ?_
  refine lv_istore_n (lv' := [(2, .int 72), (0, .ref h0), (1, .ref h1)]) hx hb dX8_copy_13 rfl hl (by decide) rfl (fun ls hl => ?_)
  refine lv_aload_n hx hb dX8_copy_14 rfl (lv_at hl 2 rfl) ?_
  refine gf_X8_24 hC rfl hK hP 2 rfl rfl dX8_copy_15 ?_
  refine lv_iconst (v := 0) hx hb dX8_copy_18 (by decide) ?_
  refine lv_aload_n hx hb dX8_copy_19 rfl (lv_at hl 1 rfl) ?_
  refine gf_X8_24 hC rfl hK hP 0 rfl rfl dX8_copy_20 ?_
  refine lv_iconst (v := 0) hx hb dX8_copy_23 (by decide) ?_
  refine lv_iload_n hx hb dX8_copy_24 rfl (lv_at hl 0 rfl) ?_
  refine va_copyi hx hb (hml.trans hl.1.symm) hown (hB _ m_1415) (hB _ m_475) (hB _ m_476) (hB _ m_477) hK.1 hP hD hS 3 1 0 0 rfl rfl rfl rfl rfl (by decide) (by decide) (by decide) (by decide +kernel) (by decide +kernel) (fun _ _ => rfl) (Nat.le_of_ble_eq_true rfl) (by decide +kernel) dX8_copy_25 (fun H locs hP hD hS => ?_)
  have hP : va_P G.1 vwCl [(h0, .inr (8, [.int 24, .int 3, .ref ca, .int 0])), (ca, .inl (G.2.1, 72, .inl (va_cpy g f (0 : Int32).toNatClampNeg (0 : Int32).toNatClampNeg (72 : Int32).toNatClampNeg))), (h1, .inr (8, [.int 24, .int 3, .ref cb, .int 0])), (cb, .inl (G.2.1, 72, .inl g))] H := hP
  have hD : va_D A [(h0, .inr (8, [.int 24, .int 3, .ref ca, .int 0])), (ca, .inl (G.2.1, 72, .inl (va_cpy g f (0 : Int32).toNatClampNeg (0 : Int32).toNatClampNeg (72 : Int32).toNatClampNeg))), (h1, .inr (8, [.int 24, .int 3, .ref cb, .int 0])), (cb, .inl (G.2.1, 72, .inl g))] := hD
  refine lv_aload_n hx hb dX8_copy_28 rfl (lv_at hl 1 rfl) ?_
  refine lv_aload_n hx hb dX8_copy_29 rfl (lv_at hl 2 rfl) ?_
  refine gf_X8_28 hC rfl hK hP 2 rfl rfl dX8_copy_30 ?_
  refine lv_aload_n hx hb dX8_copy_33 rfl (lv_at hl 1 rfl) ?_
  refine gf_X8_15 hC rfl hK hP 0 rfl rfl dX8_copy_34 ?_
  refine va_mmin hx hb (hml.trans hl.1.symm) hown (hB _ m_355) (hB _ m_356) (hB _ m_77) (hB _ m_357) (Nat.le_of_ble_eq_true rfl) (Nat.le_of_ble_eq_true rfl) (by first | exact Nat.le_of_ble_eq_true rfl | exact Nat.zero_le _)  (by first | exact Nat.le_of_ble_eq_true rfl | exact Nat.zero_le _) dX8_copy_37 ?_
  refine eqi (x1 := 0) (by decide) ?_
  refine pf_X8_28 hC rfl hK hP hD hS 0 (ws' := [(h0, .inr (8, [.int 24, .int 3, .ref ca, .int 0])), (ca, .inl (G.2.1, 72, .inl (va_cpy g f (0 : Int32).toNatClampNeg (0 : Int32).toNatClampNeg (72 : Int32).toNatClampNeg))), (h1, .inr (8, [.int 24, .int 3, .ref cb, .int 0])), (cb, .inl (G.2.1, 72, .inl g))]) rfl (Nat.le_of_ble_eq_true rfl) rfl rfl rfl dX8_copy_40 (fun H locs hP hD hS => ?_)
  exact RV hC hP hD hS [0, 1, 2, 3] (va_cpy g f (0 : Int32).toNatClampNeg (0 : Int32).toNatClampNeg (72 : Int32).toNatClampNeg) rfl rfl (by decide) (trivial) dX8_copy_43
set_option maxHeartbeats 4000000 in
set_option maxRecDepth 100000 in
theorem c_T_copy_8_3 (l : Launch) (G : GG) (h0 : Nat) (h1 : Nat) (ca : Nat) (f : Nat → Int32) (cb : Nat) (g : Nat → Int32) : MV l G yX8_copy cX8_copy 3 2 0 0 [.ref h0, .ref h1] [(h0, .inr (8, [.int 8, .int 3, .ref ca, .int 0])), (ca, .inl (G.2.1, 24, .inl f)), (h1, .inr (8, [.int 8, .int 3, .ref cb, .int 0])), (cb, .inl (G.2.1, 24, .inl g))] (fun u : (Nat → Int32) => True) (fun u : (Nat → Int32) => [(h0, .inr (8, [.int 8, .int 3, .ref ca, .int 0])), (ca, .inl (G.2.1, 24, .inl u)), (h1, .inr (8, [.int 8, .int 3, .ref cb, .int 0])), (cb, .inl (G.2.1, 24, .inl g))]) := by
  refine MV.start (by decide +kernel) (Nat.le_of_ble_eq_true rfl) ?_
  intro p e s m below meth c A ls hC hK hP hD hS hA hl
  have hl : lv_has ls 3 [(0, .ref h0), (1, .ref h1)] := hl
  obtain ⟨hx, hb, hr, hml, hB, hown, hlocks, hnm⟩ := id hC
  refine lv_aload_n hx hb dX8_copy_0 rfl (lv_at hl 0 rfl) ?_
  refine gf_X8_24 hC rfl hK hP 0 rfl rfl dX8_copy_1 ?_
  refine va_alen (v := 24) hx hb hK.1 hP 1 0 rfl rfl (show Int32.ofNat 24 = 24 by decide) dX8_copy_4 ?_
  refine lv_aload_n hx hb dX8_copy_5 rfl (lv_at hl 1 rfl) ?_
  refine gf_X8_24 hC rfl hK hP 2 rfl rfl dX8_copy_6 ?_
  refine va_alen (v := 24) hx hb hK.1 hP 3 0 rfl rfl (show Int32.ofNat 24 = 24 by decide) dX8_copy_9 ?_
  refine va_mmin hx hb (hml.trans hl.1.symm) hown (hB _ m_355) (hB _ m_356) (hB _ m_77) (hB _ m_357) (Nat.le_of_ble_eq_true rfl) (Nat.le_of_ble_eq_true rfl) (by first | exact Nat.le_of_ble_eq_true rfl | exact Nat.zero_le _)  (by first | exact Nat.le_of_ble_eq_true rfl | exact Nat.zero_le _) dX8_copy_10 ?_
  refine eqi (x1 := 24) (by decide) ?_
  refine lv_istore_n (lv' := [(2, .int 24), (0, .ref h0), (1, .ref h1)]) hx hb dX8_copy_13 rfl hl (by decide) rfl (fun ls hl => ?_)
  refine lv_aload_n hx hb dX8_copy_14 rfl (lv_at hl 2 rfl) ?_
  refine gf_X8_24 hC rfl hK hP 2 rfl rfl dX8_copy_15 ?_
  refine lv_iconst (v := 0) hx hb dX8_copy_18 (by decide) ?_
  refine lv_aload_n hx hb dX8_copy_19 rfl (lv_at hl 1 rfl) ?_
  refine gf_X8_24 hC rfl hK hP 0 rfl rfl dX8_copy_20 ?_
  refine lv_iconst (v := 0) hx hb dX8_copy_23 (by decide) ?_
  refine lv_iload_n hx hb dX8_copy_24 rfl (lv_at hl 0 rfl) ?_
  refine va_copyi hx hb (hml.trans hl.1.symm) hown (hB _ m_1415) (hB _ m_475) (hB _ m_476) (hB _ m_477) hK.1 hP hD hS 3 1 0 0 rfl rfl rfl rfl rfl (by decide) (by decide) (by decide) (by decide +kernel) (by decide +kernel) (fun _ _ => rfl) (Nat.le_of_ble_eq_true rfl) (by decide +kernel) dX8_copy_25 (fun H locs hP hD hS => ?_)
  have hP : va_P G.1 vwCl [(h0, .inr (8, [.int 8, .int 3, .ref ca, .int 0])), (ca, .inl (G.2.1, 24, .inl (va_cpy g f (0 : Int32).toNatClampNeg (0 : Int32).toNatClampNeg (24 : Int32).toNatClampNeg))), (h1, .inr (8, [.int 8, .int 3, .ref cb, .int 0])), (cb, .inl (G.2.1, 24, .inl g))] H := hP
  have hD : va_D A [(h0, .inr (8, [.int 8, .int 3, .ref ca, .int 0])), (ca, .inl (G.2.1, 24, .inl (va_cpy g f (0 : Int32).toNatClampNeg (0 : Int32).toNatClampNeg (24 : Int32).toNatClampNeg))), (h1, .inr (8, [.int 8, .int 3, .ref cb, .int 0])), (cb, .inl (G.2.1, 24, .inl g))] := hD
  refine lv_aload_n hx hb dX8_copy_28 rfl (lv_at hl 1 rfl) ?_
  refine lv_aload_n hx hb dX8_copy_29 rfl (lv_at hl 2 rfl) ?_
  refine gf_X8_28 hC rfl hK hP 2 rfl rfl dX8_copy_30 ?_
  refine lv_aload_n hx hb dX8_copy_33 rfl (lv_at hl 1 rfl) ?_
  refine gf_X8_15 hC rfl hK hP 0 rfl rfl dX8_copy_34 ?_
  refine va_mmin hx hb (hml.trans hl.1.symm) hown (hB _ m_355) (hB _ m_356) (hB _ m_77) (hB _ m_357) (Nat.le_of_ble_eq_true rfl) (Nat.le_of_ble_eq_true rfl) (by first | exact Nat.le_of_ble_eq_true rfl | exact Nat.zero_le _)  (by first | exact Nat.le_of_ble_eq_true rfl | exact Nat.zero_le _) dX8_copy_37 ?_
  refine eqi (x1 := 0) (by decide) ?_
  refine pf_X8_28 hC rfl hK hP hD hS 0 (ws' := [(h0, .inr (8, [.int 8, .int 3, .ref ca, .int 0])), (ca, .inl (G.2.1, 24, .inl (va_cpy g f (0 : Int32).toNatClampNeg (0 : Int32).toNatClampNeg (24 : Int32).toNatClampNeg))), (h1, .inr (8, [.int 8, .int 3, .ref cb, .int 0])), (cb, .inl (G.2.1, 24, .inl g))]) rfl (Nat.le_of_ble_eq_true rfl) rfl rfl rfl dX8_copy_40 (fun H locs hP hD hS => ?_)
  exact RV hC hP hD hS [0, 1, 2, 3] (va_cpy g f (0 : Int32).toNatClampNeg (0 : Int32).toNatClampNeg (24 : Int32).toNatClampNeg) rfl rfl (by decide) (trivial) dX8_copy_43
set_option maxHeartbeats 4000000 in
set_option maxRecDepth 100000 in
theorem c_T_copy_72_7 (l : Launch) (G : GG) (h0 : Nat) (h1 : Nat) (ca : Nat) (f : Nat → Int32) (cb : Nat) (g : Nat → Int32) : MV l G yX8_copy cX8_copy 3 2 0 0 [.ref h0, .ref h1] [(h0, .inr (8, [.int 72, .int 7, .ref ca, .int 0])), (ca, .inl (G.2.1, 504, .inl f)), (h1, .inr (8, [.int 72, .int 7, .ref cb, .int 0])), (cb, .inl (G.2.1, 504, .inl g))] (fun u : (Nat → Int32) => True) (fun u : (Nat → Int32) => [(h0, .inr (8, [.int 72, .int 7, .ref ca, .int 0])), (ca, .inl (G.2.1, 504, .inl u)), (h1, .inr (8, [.int 72, .int 7, .ref cb, .int 0])), (cb, .inl (G.2.1, 504, .inl g))]) := by
  refine MV.start (by decide +kernel) (Nat.le_of_ble_eq_true rfl) ?_
  intro p e s m below meth c A ls hC hK hP hD hS hA hl
  have hl : lv_has ls 3 [(0, .ref h0), (1, .ref h1)] := hl
  obtain ⟨hx, hb, hr, hml, hB, hown, hlocks, hnm⟩ := id hC
  refine lv_aload_n hx hb dX8_copy_0 rfl (lv_at hl 0 rfl) ?_
  refine gf_X8_24 hC rfl hK hP 0 rfl rfl dX8_copy_1 ?_
  refine va_alen (v := 504) hx hb hK.1 hP 1 0 rfl rfl (show Int32.ofNat 504 = 504 by decide) dX8_copy_4 ?_
  refine lv_aload_n hx hb dX8_copy_5 rfl (lv_at hl 1 rfl) ?_
  refine gf_X8_24 hC rfl hK hP 2 rfl rfl dX8_copy_6 ?_
  refine va_alen (v := 504) hx hb hK.1 hP 3 0 rfl rfl (show Int32.ofNat 504 = 504 by decide) dX8_copy_9 ?_
  refine va_mmin hx hb (hml.trans hl.1.symm) hown (hB _ m_355) (hB _ m_356) (hB _ m_77) (hB _ m_357) (Nat.le_of_ble_eq_true rfl) (Nat.le_of_ble_eq_true rfl) (by first | exact Nat.le_of_ble_eq_true rfl | exact Nat.zero_le _)  (by first | exact Nat.le_of_ble_eq_true rfl | exact Nat.zero_le _) dX8_copy_10 ?_
  refine eqi (x1 := 504) (by decide) ?_
  refine lv_istore_n (lv' := [(2, .int 504), (0, .ref h0), (1, .ref h1)]) hx hb dX8_copy_13 rfl hl (by decide) rfl (fun ls hl => ?_)
  refine lv_aload_n hx hb dX8_copy_14 rfl (lv_at hl 2 rfl) ?_
  refine gf_X8_24 hC rfl hK hP 2 rfl rfl dX8_copy_15 ?_
  refine lv_iconst (v := 0) hx hb dX8_copy_18 (by decide) ?_
  refine lv_aload_n hx hb dX8_copy_19 rfl (lv_at hl 1 rfl) ?_
  refine gf_X8_24 hC rfl hK hP 0 rfl rfl dX8_copy_20 ?_
  refine lv_iconst (v := 0) hx hb dX8_copy_23 (by decide) ?_
  refine lv_iload_n hx hb dX8_copy_24 rfl (lv_at hl 0 rfl) ?_
  refine va_copyi hx hb (hml.trans hl.1.symm) hown (hB _ m_1415) (hB _ m_475) (hB _ m_476) (hB _ m_477) hK.1 hP hD hS 3 1 0 0 rfl rfl rfl rfl rfl (by decide) (by decide) (by decide) (by decide +kernel) (by decide +kernel) (fun _ _ => rfl) (Nat.le_of_ble_eq_true rfl) (by decide +kernel) dX8_copy_25 (fun H locs hP hD hS => ?_)
  have hP : va_P G.1 vwCl [(h0, .inr (8, [.int 72, .int 7, .ref ca, .int 0])), (ca, .inl (G.2.1, 504, .inl (va_cpy g f (0 : Int32).toNatClampNeg (0 : Int32).toNatClampNeg (504 : Int32).toNatClampNeg))), (h1, .inr (8, [.int 72, .int 7, .ref cb, .int 0])), (cb, .inl (G.2.1, 504, .inl g))] H := hP
  have hD : va_D A [(h0, .inr (8, [.int 72, .int 7, .ref ca, .int 0])), (ca, .inl (G.2.1, 504, .inl (va_cpy g f (0 : Int32).toNatClampNeg (0 : Int32).toNatClampNeg (504 : Int32).toNatClampNeg))), (h1, .inr (8, [.int 72, .int 7, .ref cb, .int 0])), (cb, .inl (G.2.1, 504, .inl g))] := hD
  refine lv_aload_n hx hb dX8_copy_28 rfl (lv_at hl 1 rfl) ?_
  refine lv_aload_n hx hb dX8_copy_29 rfl (lv_at hl 2 rfl) ?_
  refine gf_X8_28 hC rfl hK hP 2 rfl rfl dX8_copy_30 ?_
  refine lv_aload_n hx hb dX8_copy_33 rfl (lv_at hl 1 rfl) ?_
  refine gf_X8_15 hC rfl hK hP 0 rfl rfl dX8_copy_34 ?_
  refine va_mmin hx hb (hml.trans hl.1.symm) hown (hB _ m_355) (hB _ m_356) (hB _ m_77) (hB _ m_357) (Nat.le_of_ble_eq_true rfl) (Nat.le_of_ble_eq_true rfl) (by first | exact Nat.le_of_ble_eq_true rfl | exact Nat.zero_le _)  (by first | exact Nat.le_of_ble_eq_true rfl | exact Nat.zero_le _) dX8_copy_37 ?_
  refine eqi (x1 := 0) (by decide) ?_
  refine pf_X8_28 hC rfl hK hP hD hS 0 (ws' := [(h0, .inr (8, [.int 72, .int 7, .ref ca, .int 0])), (ca, .inl (G.2.1, 504, .inl (va_cpy g f (0 : Int32).toNatClampNeg (0 : Int32).toNatClampNeg (504 : Int32).toNatClampNeg))), (h1, .inr (8, [.int 72, .int 7, .ref cb, .int 0])), (cb, .inl (G.2.1, 504, .inl g))]) rfl (Nat.le_of_ble_eq_true rfl) rfl rfl rfl dX8_copy_40 (fun H locs hP hD hS => ?_)
  exact RV hC hP hD hS [0, 1, 2, 3] (va_cpy g f (0 : Int32).toNatClampNeg (0 : Int32).toNatClampNeg (504 : Int32).toNatClampNeg) rfl rfl (by decide) (trivial) dX8_copy_43
set_option maxHeartbeats 4000000 in
set_option maxRecDepth 100000 in
theorem c_T_copy_960_1 (l : Launch) (G : GG) (h0 : Nat) (h1 : Nat) (ca : Nat) (f : Nat → Int32) (cb : Nat) (g : Nat → Int32) : MV l G yX8_copy cX8_copy 3 2 0 0 [.ref h0, .ref h1] [(h0, .inr (8, [.int 960, .int 1, .ref ca, .int 0])), (ca, .inl (G.2.1, 960, .inl f)), (h1, .inr (8, [.int 960, .int 1, .ref cb, .int 0])), (cb, .inl (G.2.1, 960, .inl g))] (fun u : (Nat → Int32) => True) (fun u : (Nat → Int32) => [(h0, .inr (8, [.int 960, .int 1, .ref ca, .int 0])), (ca, .inl (G.2.1, 960, .inl u)), (h1, .inr (8, [.int 960, .int 1, .ref cb, .int 0])), (cb, .inl (G.2.1, 960, .inl g))]) := by
  refine MV.start (by decide +kernel) (Nat.le_of_ble_eq_true rfl) ?_
  intro p e s m below meth c A ls hC hK hP hD hS hA hl
  have hl : lv_has ls 3 [(0, .ref h0), (1, .ref h1)] := hl
  obtain ⟨hx, hb, hr, hml, hB, hown, hlocks, hnm⟩ := id hC
  refine lv_aload_n hx hb dX8_copy_0 rfl (lv_at hl 0 rfl) ?_
  refine gf_X8_24 hC rfl hK hP 0 rfl rfl dX8_copy_1 ?_
  refine va_alen (v := 960) hx hb hK.1 hP 1 0 rfl rfl (show Int32.ofNat 960 = 960 by decide) dX8_copy_4 ?_
  refine lv_aload_n hx hb dX8_copy_5 rfl (lv_at hl 1 rfl) ?_
  refine gf_X8_24 hC rfl hK hP 2 rfl rfl dX8_copy_6 ?_
  refine va_alen (v := 960) hx hb hK.1 hP 3 0 rfl rfl (show Int32.ofNat 960 = 960 by decide) dX8_copy_9 ?_
  refine va_mmin hx hb (hml.trans hl.1.symm) hown (hB _ m_355) (hB _ m_356) (hB _ m_77) (hB _ m_357) (Nat.le_of_ble_eq_true rfl) (Nat.le_of_ble_eq_true rfl) (by first | exact Nat.le_of_ble_eq_true rfl | exact Nat.zero_le _)  (by first | exact Nat.le_of_ble_eq_true rfl | exact Nat.zero_le _) dX8_copy_10 ?_
  refine eqi (x1 := 960) (by decide) ?_
  refine lv_istore_n (lv' := [(2, .int 960), (0, .ref h0), (1, .ref h1)]) hx hb dX8_copy_13 rfl hl (by decide) rfl (fun ls hl => ?_)
  refine lv_aload_n hx hb dX8_copy_14 rfl (lv_at hl 2 rfl) ?_
  refine gf_X8_24 hC rfl hK hP 2 rfl rfl dX8_copy_15 ?_
  refine lv_iconst (v := 0) hx hb dX8_copy_18 (by decide) ?_
  refine lv_aload_n hx hb dX8_copy_19 rfl (lv_at hl 1 rfl) ?_
  refine gf_X8_24 hC rfl hK hP 0 rfl rfl dX8_copy_20 ?_
  refine lv_iconst (v := 0) hx hb dX8_copy_23 (by decide) ?_
  refine lv_iload_n hx hb dX8_copy_24 rfl (lv_at hl 0 rfl) ?_
  refine va_copyi hx hb (hml.trans hl.1.symm) hown (hB _ m_1415) (hB _ m_475) (hB _ m_476) (hB _ m_477) hK.1 hP hD hS 3 1 0 0 rfl rfl rfl rfl rfl (by decide) (by decide) (by decide) (by decide +kernel) (by decide +kernel) (fun _ _ => rfl) (Nat.le_of_ble_eq_true rfl) (by decide +kernel) dX8_copy_25 (fun H locs hP hD hS => ?_)
  have hP : va_P G.1 vwCl [(h0, .inr (8, [.int 960, .int 1, .ref ca, .int 0])), (ca, .inl (G.2.1, 960, .inl (va_cpy g f (0 : Int32).toNatClampNeg (0 : Int32).toNatClampNeg (960 : Int32).toNatClampNeg))), (h1, .inr (8, [.int 960, .int 1, .ref cb, .int 0])), (cb, .inl (G.2.1, 960, .inl g))] H := hP
  have hD : va_D A [(h0, .inr (8, [.int 960, .int 1, .ref ca, .int 0])), (ca, .inl (G.2.1, 960, .inl (va_cpy g f (0 : Int32).toNatClampNeg (0 : Int32).toNatClampNeg (960 : Int32).toNatClampNeg))), (h1, .inr (8, [.int 960, .int 1, .ref cb, .int 0])), (cb, .inl (G.2.1, 960, .inl g))] := hD
  refine lv_aload_n hx hb dX8_copy_28 rfl (lv_at hl 1 rfl) ?_
  refine lv_aload_n hx hb dX8_copy_29 rfl (lv_at hl 2 rfl) ?_
  refine gf_X8_28 hC rfl hK hP 2 rfl rfl dX8_copy_30 ?_
  refine lv_aload_n hx hb dX8_copy_33 rfl (lv_at hl 1 rfl) ?_
  refine gf_X8_15 hC rfl hK hP 0 rfl rfl dX8_copy_34 ?_
  refine va_mmin hx hb (hml.trans hl.1.symm) hown (hB _ m_355) (hB _ m_356) (hB _ m_77) (hB _ m_357) (Nat.le_of_ble_eq_true rfl) (Nat.le_of_ble_eq_true rfl) (by first | exact Nat.le_of_ble_eq_true rfl | exact Nat.zero_le _)  (by first | exact Nat.le_of_ble_eq_true rfl | exact Nat.zero_le _) dX8_copy_37 ?_
  refine eqi (x1 := 0) (by decide) ?_
  refine pf_X8_28 hC rfl hK hP hD hS 0 (ws' := [(h0, .inr (8, [.int 960, .int 1, .ref ca, .int 0])), (ca, .inl (G.2.1, 960, .inl (va_cpy g f (0 : Int32).toNatClampNeg (0 : Int32).toNatClampNeg (960 : Int32).toNatClampNeg))), (h1, .inr (8, [.int 960, .int 1, .ref cb, .int 0])), (cb, .inl (G.2.1, 960, .inl g))]) rfl (Nat.le_of_ble_eq_true rfl) rfl rfl rfl dX8_copy_40 (fun H locs hP hD hS => ?_)
  exact RV hC hP hD hS [0, 1, 2, 3] (va_cpy g f (0 : Int32).toNatClampNeg (0 : Int32).toNatClampNeg (960 : Int32).toNatClampNeg) rfl rfl (by decide) (trivial) dX8_copy_43
set_option maxHeartbeats 4000000 in
set_option maxRecDepth 100000 in
theorem c_T_copy_16_8 (l : Launch) (G : GG) (h0 : Nat) (h1 : Nat) (ca : Nat) (f : Nat → Int32) (cb : Nat) (g : Nat → Int32) : MV l G yX8_copy cX8_copy 3 2 0 0 [.ref h0, .ref h1] [(h0, .inr (8, [.int 16, .int 8, .ref ca, .int 0])), (ca, .inl (G.2.1, 128, .inl f)), (h1, .inr (8, [.int 16, .int 8, .ref cb, .int 0])), (cb, .inl (G.2.1, 128, .inl g))] (fun u : (Nat → Int32) => True) (fun u : (Nat → Int32) => [(h0, .inr (8, [.int 16, .int 8, .ref ca, .int 0])), (ca, .inl (G.2.1, 128, .inl u)), (h1, .inr (8, [.int 16, .int 8, .ref cb, .int 0])), (cb, .inl (G.2.1, 128, .inl g))]) := by
  refine MV.start (by decide +kernel) (Nat.le_of_ble_eq_true rfl) ?_
  intro p e s m below meth c A ls hC hK hP hD hS hA hl
  have hl : lv_has ls 3 [(0, .ref h0), (1, .ref h1)] := hl
  obtain ⟨hx, hb, hr, hml, hB, hown, hlocks, hnm⟩ := id hC
  refine lv_aload_n hx hb dX8_copy_0 rfl (lv_at hl 0 rfl) ?_
  refine gf_X8_24 hC rfl hK hP 0 rfl rfl dX8_copy_1 ?_
  refine va_alen (v := 128) hx hb hK.1 hP 1 0 rfl rfl (show Int32.ofNat 128 = 128 by decide) dX8_copy_4 ?_
  refine lv_aload_n hx hb dX8_copy_5 rfl (lv_at hl 1 rfl) ?_
  refine gf_X8_24 hC rfl hK hP 2 rfl rfl dX8_copy_6 ?_
  refine va_alen (v := 128) hx hb hK.1 hP 3 0 rfl rfl (show Int32.ofNat 128 = 128 by decide) dX8_copy_9 ?_
  refine va_mmin hx hb (hml.trans hl.1.symm) hown (hB _ m_355) (hB _ m_356) (hB _ m_77) (hB _ m_357) (Nat.le_of_ble_eq_true rfl) (Nat.le_of_ble_eq_true rfl) (by first | exact Nat.le_of_ble_eq_true rfl | exact Nat.zero_le _)  (by first | exact Nat.le_of_ble_eq_true rfl | exact Nat.zero_le _) dX8_copy_10 ?_
  refine eqi (x1 := 128) (by decide) ?_
  refine lv_istore_n (lv' := [(2, .int 128), (0, .ref h0), (1, .ref h1)]) hx hb dX8_copy_13 rfl hl (by decide) rfl (fun ls hl => ?_)
  refine lv_aload_n hx hb dX8_copy_14 rfl (lv_at hl 2 rfl) ?_
  refine gf_X8_24 hC rfl hK hP 2 rfl rfl dX8_copy_15 ?_
  refine lv_iconst (v := 0) hx hb dX8_copy_18 (by decide) ?_
  refine lv_aload_n hx hb dX8_copy_19 rfl (lv_at hl 1 rfl) ?_
  refine gf_X8_24 hC rfl hK hP 0 rfl rfl dX8_copy_20 ?_
  refine lv_iconst (v := 0) hx hb dX8_copy_23 (by decide) ?_
  refine lv_iload_n hx hb dX8_copy_24 rfl (lv_at hl 0 rfl) ?_
  refine va_copyi hx hb (hml.trans hl.1.symm) hown (hB _ m_1415) (hB _ m_475) (hB _ m_476) (hB _ m_477) hK.1 hP hD hS 3 1 0 0 rfl rfl rfl rfl rfl (by decide) (by decide) (by decide) (by decide +kernel) (by decide +kernel) (fun _ _ => rfl) (Nat.le_of_ble_eq_true rfl) (by decide +kernel) dX8_copy_25 (fun H locs hP hD hS => ?_)
  have hP : va_P G.1 vwCl [(h0, .inr (8, [.int 16, .int 8, .ref ca, .int 0])), (ca, .inl (G.2.1, 128, .inl (va_cpy g f (0 : Int32).toNatClampNeg (0 : Int32).toNatClampNeg (128 : Int32).toNatClampNeg))), (h1, .inr (8, [.int 16, .int 8, .ref cb, .int 0])), (cb, .inl (G.2.1, 128, .inl g))] H := hP
  have hD : va_D A [(h0, .inr (8, [.int 16, .int 8, .ref ca, .int 0])), (ca, .inl (G.2.1, 128, .inl (va_cpy g f (0 : Int32).toNatClampNeg (0 : Int32).toNatClampNeg (128 : Int32).toNatClampNeg))), (h1, .inr (8, [.int 16, .int 8, .ref cb, .int 0])), (cb, .inl (G.2.1, 128, .inl g))] := hD
  refine lv_aload_n hx hb dX8_copy_28 rfl (lv_at hl 1 rfl) ?_
  refine lv_aload_n hx hb dX8_copy_29 rfl (lv_at hl 2 rfl) ?_
  refine gf_X8_28 hC rfl hK hP 2 rfl rfl dX8_copy_30 ?_
  refine lv_aload_n hx hb dX8_copy_33 rfl (lv_at hl 1 rfl) ?_
  refine gf_X8_15 hC rfl hK hP 0 rfl rfl dX8_copy_34 ?_
  refine va_mmin hx hb (hml.trans hl.1.symm) hown (hB _ m_355) (hB _ m_356) (hB _ m_77) (hB _ m_357) (Nat.le_of_ble_eq_true rfl) (Nat.le_of_ble_eq_true rfl) (by first | exact Nat.le_of_ble_eq_true rfl | exact Nat.zero_le _)  (by first | exact Nat.le_of_ble_eq_true rfl | exact Nat.zero_le _) dX8_copy_37 ?_
  refine eqi (x1 := 0) (by decide) ?_
  refine pf_X8_28 hC rfl hK hP hD hS 0 (ws' := [(h0, .inr (8, [.int 16, .int 8, .ref ca, .int 0])), (ca, .inl (G.2.1, 128, .inl (va_cpy g f (0 : Int32).toNatClampNeg (0 : Int32).toNatClampNeg (128 : Int32).toNatClampNeg))), (h1, .inr (8, [.int 16, .int 8, .ref cb, .int 0])), (cb, .inl (G.2.1, 128, .inl g))]) rfl (Nat.le_of_ble_eq_true rfl) rfl rfl rfl dX8_copy_40 (fun H locs hP hD hS => ?_)
  exact RV hC hP hD hS [0, 1, 2, 3] (va_cpy g f (0 : Int32).toNatClampNeg (0 : Int32).toNatClampNeg (128 : Int32).toNatClampNeg) rfl rfl (by decide) (trivial) dX8_copy_43
set_option maxHeartbeats 4000000 in
set_option maxRecDepth 100000 in
theorem c_T_copy_12_4 (l : Launch) (G : GG) (h0 : Nat) (h1 : Nat) (ca : Nat) (f : Nat → Int32) (cb : Nat) (g : Nat → Int32) : MV l G yX8_copy cX8_copy 3 2 0 0 [.ref h0, .ref h1] [(h0, .inr (8, [.int 12, .int 4, .ref ca, .int 0])), (ca, .inl (G.2.1, 48, .inl f)), (h1, .inr (8, [.int 12, .int 4, .ref cb, .int 0])), (cb, .inl (G.2.1, 48, .inl g))] (fun u : (Nat → Int32) => True) (fun u : (Nat → Int32) => [(h0, .inr (8, [.int 12, .int 4, .ref ca, .int 0])), (ca, .inl (G.2.1, 48, .inl u)), (h1, .inr (8, [.int 12, .int 4, .ref cb, .int 0])), (cb, .inl (G.2.1, 48, .inl g))]) := by
  refine MV.start (by decide +kernel) (Nat.le_of_ble_eq_true rfl) ?_
  intro p e s m below meth c A ls hC hK hP hD hS hA hl
  have hl : lv_has ls 3 [(0, .ref h0), (1, .ref h1)] := hl
  obtain ⟨hx, hb, hr, hml, hB, hown, hlocks, hnm⟩ := id hC
  refine lv_aload_n hx hb dX8_copy_0 rfl (lv_at hl 0 rfl) ?_
  refine gf_X8_24 hC rfl hK hP 0 rfl rfl dX8_copy_1 ?_
  refine va_alen (v := 48) hx hb hK.1 hP 1 0 rfl rfl (show Int32.ofNat 48 = 48 by decide) dX8_copy_4 ?_
  refine lv_aload_n hx hb dX8_copy_5 rfl (lv_at hl 1 rfl) ?_
  refine gf_X8_24 hC rfl hK hP 2 rfl rfl dX8_copy_6 ?_
  refine va_alen (v := 48) hx hb hK.1 hP 3 0 rfl rfl (show Int32.ofNat 48 = 48 by decide) dX8_copy_9 ?_
  refine va_mmin hx hb (hml.trans hl.1.symm) hown (hB _ m_355) (hB _ m_356) (hB _ m_77) (hB _ m_357) (Nat.le_of_ble_eq_true rfl) (Nat.le_of_ble_eq_true rfl) (by first | exact Nat.le_of_ble_eq_true rfl | exact Nat.zero_le _)  (by first | exact Nat.le_of_ble_eq_true rfl | exact Nat.zero_le _) dX8_copy_10 ?_
  refine eqi (x1 := 48) (by decide) ?_
  refine lv_istore_n (lv' := [(2, .int 48), (0, .ref h0), (1, .ref h1)]) hx hb dX8_copy_13 rfl hl (by decide) rfl (fun ls hl => ?_)
  refine lv_aload_n hx hb dX8_copy_14 rfl (lv_at hl 2 rfl) ?_
  refine gf_X8_24 hC rfl hK hP 2 rfl rfl dX8_copy_15 ?_
  refine lv_iconst (v := 0) hx hb dX8_copy_18 (by decide) ?_
  refine lv_aload_n hx hb dX8_copy_19 rfl (lv_at hl 1 rfl) ?_
  refine gf_X8_24 hC rfl hK hP 0 rfl rfl dX8_copy_20 ?_
  refine lv_iconst (v := 0) hx hb dX8_copy_23 (by decide) ?_
  refine lv_iload_n hx hb dX8_copy_24 rfl (lv_at hl 0 rfl) ?_
  refine va_copyi hx hb (hml.trans hl.1.symm) hown (hB _ m_1415) (hB _ m_475) (hB _ m_476) (hB _ m_477) hK.1 hP hD hS 3 1 0 0 rfl rfl rfl rfl rfl (by decide) (by decide) (by decide) (by decide +kernel) (by decide +kernel) (fun _ _ => rfl) (Nat.le_of_ble_eq_true rfl) (by decide +kernel) dX8_copy_25 (fun H locs hP hD hS => ?_)
  have hP : va_P G.1 vwCl [(h0, .inr (8, [.int 12, .int 4, .ref ca, .int 0])), (ca, .inl (G.2.1, 48, .inl (va_cpy g f (0 : Int32).toNatClampNeg (0 : Int32).toNatClampNeg (48 : Int32).toNatClampNeg))), (h1, .inr (8, [.int 12, .int 4, .ref cb, .int 0])), (cb, .inl (G.2.1, 48, .inl g))] H := hP
  have hD : va_D A [(h0, .inr (8, [.int 12, .int 4, .ref ca, .int 0])), (ca, .inl (G.2.1, 48, .inl (va_cpy g f (0 : Int32).toNatClampNeg (0 : Int32).toNatClampNeg (48 : Int32).toNatClampNeg))), (h1, .inr (8, [.int 12, .int 4, .ref cb, .int 0])), (cb, .inl (G.2.1, 48, .inl g))] := hD
  refine lv_aload_n hx hb dX8_copy_28 rfl (lv_at hl 1 rfl) ?_
  refine lv_aload_n hx hb dX8_copy_29 rfl (lv_at hl 2 rfl) ?_
  refine gf_X8_28 hC rfl hK hP 2 rfl rfl dX8_copy_30 ?_
  refine lv_aload_n hx hb dX8_copy_33 rfl (lv_at hl 1 rfl) ?_
  refine gf_X8_15 hC rfl hK hP 0 rfl rfl dX8_copy_34 ?_
  refine va_mmin hx hb (hml.trans hl.1.symm) hown (hB _ m_355) (hB _ m_356) (hB _ m_77) (hB _ m_357) (Nat.le_of_ble_eq_true rfl) (Nat.le_of_ble_eq_true rfl) (by first | exact Nat.le_of_ble_eq_true rfl | exact Nat.zero_le _)  (by first | exact Nat.le_of_ble_eq_true rfl | exact Nat.zero_le _) dX8_copy_37 ?_
  refine eqi (x1 := 0) (by decide) ?_
  refine pf_X8_28 hC rfl hK hP hD hS 0 (ws' := [(h0, .inr (8, [.int 12, .int 4, .ref ca, .int 0])), (ca, .inl (G.2.1, 48, .inl (va_cpy g f (0 : Int32).toNatClampNeg (0 : Int32).toNatClampNeg (48 : Int32).toNatClampNeg))), (h1, .inr (8, [.int 12, .int 4, .ref cb, .int 0])), (cb, .inl (G.2.1, 48, .inl g))]) rfl (Nat.le_of_ble_eq_true rfl) rfl rfl rfl dX8_copy_40 (fun H locs hP hD hS => ?_)
  exact RV hC hP hD hS [0, 1, 2, 3] (va_cpy g f (0 : Int32).toNatClampNeg (0 : Int32).toNatClampNeg (48 : Int32).toNatClampNeg) rfl rfl (by decide) (trivial) dX8_copy_43
set_option maxHeartbeats 4000000 in
set_option maxRecDepth 100000 in
theorem c_T_copy_16_3 (l : Launch) (G : GG) (h0 : Nat) (h1 : Nat) (ca : Nat) (f : Nat → Int32) (cb : Nat) (g : Nat → Int32) : MV l G yX8_copy cX8_copy 3 2 0 0 [.ref h0, .ref h1] [(h0, .inr (8, [.int 16, .int 3, .ref ca, .int 0])), (ca, .inl (G.2.1, 48, .inl f)), (h1, .inr (8, [.int 16, .int 3, .ref cb, .int 0])), (cb, .inl (G.2.1, 48, .inl g))] (fun u : (Nat → Int32) => True) (fun u : (Nat → Int32) => [(h0, .inr (8, [.int 16, .int 3, .ref ca, .int 0])), (ca, .inl (G.2.1, 48, .inl u)), (h1, .inr (8, [.int 16, .int 3, .ref cb, .int 0])), (cb, .inl (G.2.1, 48, .inl g))]) := by
  refine MV.start (by decide +kernel) (Nat.le_of_ble_eq_true rfl) ?_
  intro p e s m below meth c A ls hC hK hP hD hS hA hl
  have hl : lv_has ls 3 [(0, .ref h0), (1, .ref h1)] := hl
  obtain ⟨hx, hb, hr, hml, hB, hown, hlocks, hnm⟩ := id hC
  refine lv_aload_n hx hb dX8_copy_0 rfl (lv_at hl 0 rfl) ?_
  refine gf_X8_24 hC rfl hK hP 0 rfl rfl dX8_copy_1 ?_
  refine va_alen (v := 48) hx hb hK.1 hP 1 0 rfl rfl (show Int32.ofNat 48 = 48 by decide) dX8_copy_4 ?_
  refine lv_aload_n hx hb dX8_copy_5 rfl (lv_at hl 1 rfl) ?_
  refine gf_X8_24 hC rfl hK hP 2 rfl rfl dX8_copy_6 ?_
  refine va_alen (v := 48) hx hb hK.1 hP 3 0 rfl rfl (show Int32.ofNat 48 = 48 by decide) dX8_copy_9 ?_
  refine va_mmin hx hb (hml.trans hl.1.symm) hown (hB _ m_355) (hB _ m_356) (hB _ m_77) (hB _ m_357) (Nat.le_of_ble_eq_true rfl) (Nat.le_of_ble_eq_true rfl) (by first | exact Nat.le_of_ble_eq_true rfl | exact Nat.zero_le _)  (by first | exact Nat.le_of_ble_eq_true rfl | exact Nat.zero_le _) dX8_copy_10 ?_
  refine eqi (x1 := 48) (by decide) ?_
  refine lv_istore_n (lv' := [(2, .int 48), (0, .ref h0), (1, .ref h1)]) hx hb dX8_copy_13 rfl hl (by decide) rfl (fun ls hl => ?_)
  refine lv_aload_n hx hb dX8_copy_14 rfl (lv_at hl 2 rfl) ?_
  refine gf_X8_24 hC rfl hK hP 2 rfl rfl dX8_copy_15 ?_
  refine lv_iconst (v := 0) hx hb dX8_copy_18 (by decide) ?_
  refine lv_aload_n hx hb dX8_copy_19 rfl (lv_at hl 1 rfl) ?_
  refine gf_X8_24 hC rfl hK hP 0 rfl rfl dX8_copy_20 ?_
  refine lv_iconst (v := 0) hx hb dX8_copy_23 (by decide) ?_
  refine lv_iload_n hx hb dX8_copy_24 rfl (lv_at hl 0 rfl) ?_
  refine va_copyi hx hb (hml.trans hl.1.symm) hown (hB _ m_1415) (hB _ m_475) (hB _ m_476) (hB _ m_477) hK.1 hP hD hS 3 1 0 0 rfl rfl rfl rfl rfl (by decide) (by decide) (by decide) (by decide +kernel) (by decide +kernel) (fun _ _ => rfl) (Nat.le_of_ble_eq_true rfl) (by decide +kernel) dX8_copy_25 (fun H locs hP hD hS => ?_)
  have hP : va_P G.1 vwCl [(h0, .inr (8, [.int 16, .int 3, .ref ca, .int 0])), (ca, .inl (G.2.1, 48, .inl (va_cpy g f (0 : Int32).toNatClampNeg (0 : Int32).toNatClampNeg (48 : Int32).toNatClampNeg))), (h1, .inr (8, [.int 16, .int 3, .ref cb, .int 0])), (cb, .inl (G.2.1, 48, .inl g))] H := hP
  have hD : va_D A [(h0, .inr (8, [.int 16, .int 3, .ref ca, .int 0])), (ca, .inl (G.2.1, 48, .inl (va_cpy g f (0 : Int32).toNatClampNeg (0 : Int32).toNatClampNeg (48 : Int32).toNatClampNeg))), (h1, .inr (8, [.int 16, .int 3, .ref cb, .int 0])), (cb, .inl (G.2.1, 48, .inl g))] := hD
  refine lv_aload_n hx hb dX8_copy_28 rfl (lv_at hl 1 rfl) ?_
  refine lv_aload_n hx hb dX8_copy_29 rfl (lv_at hl 2 rfl) ?_
  refine gf_X8_28 hC rfl hK hP 2 rfl rfl dX8_copy_30 ?_
  refine lv_aload_n hx hb dX8_copy_33 rfl (lv_at hl 1 rfl) ?_
  refine gf_X8_15 hC rfl hK hP 0 rfl rfl dX8_copy_34 ?_
  refine va_mmin hx hb (hml.trans hl.1.symm) hown (hB _ m_355) (hB _ m_356) (hB _ m_77) (hB _ m_357) (Nat.le_of_ble_eq_true rfl) (Nat.le_of_ble_eq_true rfl) (by first | exact Nat.le_of_ble_eq_true rfl | exact Nat.zero_le _)  (by first | exact Nat.le_of_ble_eq_true rfl | exact Nat.zero_le _) dX8_copy_37 ?_
  refine eqi (x1 := 0) (by decide) ?_
  refine pf_X8_28 hC rfl hK hP hD hS 0 (ws' := [(h0, .inr (8, [.int 16, .int 3, .ref ca, .int 0])), (ca, .inl (G.2.1, 48, .inl (va_cpy g f (0 : Int32).toNatClampNeg (0 : Int32).toNatClampNeg (48 : Int32).toNatClampNeg))), (h1, .inr (8, [.int 16, .int 3, .ref cb, .int 0])), (cb, .inl (G.2.1, 48, .inl g))]) rfl (Nat.le_of_ble_eq_true rfl) rfl rfl rfl dX8_copy_40 (fun H locs hP hD hS => ?_)
  exact RV hC hP hD hS [0, 1, 2, 3] (va_cpy g f (0 : Int32).toNatClampNeg (0 : Int32).toNatClampNeg (48 : Int32).toNatClampNeg) rfl rfl (by decide) (trivial) dX8_copy_43
set_option maxHeartbeats 4000000 in
set_option maxRecDepth 100000 in
theorem c_T_copy_7_2 (l : Launch) (G : GG) (h0 : Nat) (h1 : Nat) (ca : Nat) (f : Nat → Int32) (cb : Nat) (g : Nat → Int32) : MV l G yX8_copy cX8_copy 3 2 0 0 [.ref h0, .ref h1] [(h0, .inr (8, [.int 7, .int 2, .ref ca, .int 0])), (ca, .inl (G.2.1, 14, .inl f)), (h1, .inr (8, [.int 7, .int 2, .ref cb, .int 0])), (cb, .inl (G.2.1, 14, .inl g))] (fun u : (Nat → Int32) => True) (fun u : (Nat → Int32) => [(h0, .inr (8, [.int 7, .int 2, .ref ca, .int 0])), (ca, .inl (G.2.1, 14, .inl u)), (h1, .inr (8, [.int 7, .int 2, .ref cb, .int 0])), (cb, .inl (G.2.1, 14, .inl g))]) := by
  refine MV.start (by decide +kernel) (Nat.le_of_ble_eq_true rfl) ?_
  intro p e s m below meth c A ls hC hK hP hD hS hA hl
  have hl : lv_has ls 3 [(0, .ref h0), (1, .ref h1)] := hl
  obtain ⟨hx, hb, hr, hml, hB, hown, hlocks, hnm⟩ := id hC
  refine lv_aload_n hx hb dX8_copy_0 rfl (lv_at hl 0 rfl) ?_
  refine gf_X8_24 hC rfl hK hP 0 rfl rfl dX8_copy_1 ?_
  refine va_alen (v := 14) hx hb hK.1 hP 1 0 rfl rfl (show Int32.ofNat 14 = 14 by decide) dX8_copy_4 ?_
  refine lv_aload_n hx hb dX8_copy_5 rfl (lv_at hl 1 rfl) ?_
  refine gf_X8_24 hC rfl hK hP 2 rfl rfl dX8_copy_6 ?_
  refine va_alen (v := 14) hx hb hK.1 hP 3 0 rfl rfl (show Int32.ofNat 14 = 14 by decide) dX8_copy_9 ?_
  refine va_mmin hx hb (hml.trans hl.1.symm) hown (hB _ m_355) (hB _ m_356) (hB _ m_77) (hB _ m_357) (Nat.le_of_ble_eq_true rfl) (Nat.le_of_ble_eq_true rfl) (by first | exact Nat.le_of_ble_eq_true rfl | exact Nat.zero_le _)  (by first | exact Nat.le_of_ble_eq_true rfl | exact Nat.zero_le _) dX8_copy_10 ?_
  refine eqi (x1 := 14) (by decide) ?_
  refine lv_istore_n (lv' := [(2, .int 14), (0, .ref h0), (1, .ref h1)]) hx hb dX8_copy_13 rfl hl (by decide) rfl (fun ls hl => ?_)
  refine lv_aload_n hx hb dX8_copy_14 rfl (lv_at hl 2 rfl) ?_
  refine gf_X8_24 hC rfl hK hP 2 rfl rfl dX8_copy_15 ?_
  refine lv_iconst (v := 0) hx hb dX8_copy_18 (by decide) ?_
  refine lv_aload_n hx hb dX8_copy_19 rfl (lv_at hl 1 rfl) ?_
  refine gf_X8_24 hC rfl hK hP 0 rfl rfl dX8_copy_20 ?_
  refine lv_iconst (v := 0) hx hb dX8_copy_23 (by decide) ?_
  refine lv_iload_n hx hb dX8_copy_24 rfl (lv_at hl 0 rfl) ?_
  refine va_copyi hx hb (hml.trans hl.1.symm) hown (hB _ m_1415) (hB _ m_475) (hB _ m_476) (hB _ m_477) hK.1 hP hD hS 3 1 0 0 rfl rfl rfl rfl rfl (by decide) (by decide) (by decide) (by decide +kernel) (by decide +kernel) (fun _ _ => rfl) (Nat.le_of_ble_eq_true rfl) (by decide +kernel) dX8_copy_25 (fun H locs hP hD hS => ?_)
  have hP : va_P G.1 vwCl [(h0, .inr (8, [.int 7, .int 2, .ref ca, .int 0])), (ca, .inl (G.2.1, 14, .inl (va_cpy g f (0 : Int32).toNatClampNeg (0 : Int32).toNatClampNeg (14 : Int32).toNatClampNeg))), (h1, .inr (8, [.int 7, .int 2, .ref cb, .int 0])), (cb, .inl (G.2.1, 14, .inl g))] H := hP
  have hD : va_D A [(h0, .inr (8, [.int 7, .int 2, .ref ca, .int 0])), (ca, .inl (G.2.1, 14, .inl (va_cpy g f (0 : Int32).toNatClampNeg (0 : Int32).toNatClampNeg (14 : Int32).toNatClampNeg))), (h1, .inr (8, [.int 7, .int 2, .ref cb, .int 0])), (cb, .inl (G.2.1, 14, .inl g))] := hD
  refine lv_aload_n hx hb dX8_copy_28 rfl (lv_at hl 1 rfl) ?_
  refine lv_aload_n hx hb dX8_copy_29 rfl (lv_at hl 2 rfl) ?_
  refine gf_X8_28 hC rfl hK hP 2 rfl rfl dX8_copy_30 ?_
  refine lv_aload_n hx hb dX8_copy_33 rfl (lv_at hl 1 rfl) ?_
  refine gf_X8_15 hC rfl hK hP 0 rfl rfl dX8_copy_34 ?_
  refine va_mmin hx hb (hml.trans hl.1.symm) hown (hB _ m_355) (hB _ m_356) (hB _ m_77) (hB _ m_357) (Nat.le_of_ble_eq_true rfl) (Nat.le_of_ble_eq_true rfl) (by first | exact Nat.le_of_ble_eq_true rfl | exact Nat.zero_le _)  (by first | exact Nat.le_of_ble_eq_true rfl | exact Nat.zero_le _) dX8_copy_37 ?_
  refine eqi (x1 := 0) (by decide) ?_
  refine pf_X8_28 hC rfl hK hP hD hS 0 (ws' := [(h0, .inr (8, [.int 7, .int 2, .ref ca, .int 0])), (ca, .inl (G.2.1, 14, .inl (va_cpy g f (0 : Int32).toNatClampNeg (0 : Int32).toNatClampNeg (14 : Int32).toNatClampNeg))), (h1, .inr (8, [.int 7, .int 2, .ref cb, .int 0])), (cb, .inl (G.2.1, 14, .inl g))]) rfl (Nat.le_of_ble_eq_true rfl) rfl rfl rfl dX8_copy_40 (fun H locs hP hD hS => ?_)
  exact RV hC hP hD hS [0, 1, 2, 3] (va_cpy g f (0 : Int32).toNatClampNeg (0 : Int32).toNatClampNeg (14 : Int32).toNatClampNeg) rfl rfl (by decide) (trivial) dX8_copy_43
set_option maxHeartbeats 4000000 in
set_option maxRecDepth 100000 in
theorem c_B_copy (l : Launch) (G : GG) (K : Nat) (B : Nat) (kpersons : Nat) (kpapers : Nat) (kstamps : Nat) (kversions : Nat) (klines : Nat) (ksteps : Nat) (ksayings : Nat) (kfindings : Nat) (kwarnings : Nat) (kquestions : Nat) (kpersonsc : Nat) (kpapersc : Nat) (kstampsc : Nat) (kversionsc : Nat) (klinesc : Nat) (kstepsc : Nat) (ksayingsc : Nat) (kfindingsc : Nat) (kwarningsc : Nat) (kquestionsc : Nat) (bpersons : Nat) (bpapers : Nat) (bstamps : Nat) (bversions : Nat) (blines : Nat) (bsteps : Nat) (bsayings : Nat) (bfindings : Nat) (bwarnings : Nat) (bquestions : Nat) (bpersonsc : Nat) (bpapersc : Nat) (bstampsc : Nat) (bversionsc : Nat) (blinesc : Nat) (bstepsc : Nat) (bsayingsc : Nat) (bfindingsc : Nat) (bwarningsc : Nat) (bquestionsc : Nat) : MV l G yX0_copy cX0_copy 2 3 0 0 [.ref K, .ref B] [(K, .inr (0, [.ref kpersons, .ref kpapers, .ref kstamps, .ref kversions, .ref klines, .ref ksteps, .ref ksayings, .ref kfindings, .ref kwarnings, .ref kquestions, .int 0, .int (-1), .int 3, .int 24])), (kpersons, .inr (8, [.int 10, .int 2, .ref kpersonsc, .int 0])), (kpersonsc, .inl (G.2.1, 20, .inl (fun _ => 0))), (kpapers, .inr (8, [.int 12, .int 6, .ref kpapersc, .int 0])), (kpapersc, .inl (G.2.1, 72, .inl (fun _ => 0))), (kstamps, .inr (8, [.int 24, .int 3, .ref kstampsc, .int 0])), (kstampsc, .inl (G.2.1, 72, .inl (fun _ => 0))), (kversions, .inr (8, [.int 8, .int 3, .ref kversionsc, .int 0])), (kversionsc, .inl (G.2.1, 24, .inl (fun _ => 0))), (klines, .inr (8, [.int 72, .int 7, .ref klinesc, .int 0])), (klinesc, .inl (G.2.1, 504, .inl (fun _ => 0))), (ksteps, .inr (8, [.int 960, .int 1, .ref kstepsc, .int 0])), (kstepsc, .inl (G.2.1, 960, .inl (fun _ => 0))), (ksayings, .inr (8, [.int 16, .int 8, .ref ksayingsc, .int 0])), (ksayingsc, .inl (G.2.1, 128, .inl (fun _ => 0))), (kfindings, .inr (8, [.int 12, .int 4, .ref kfindingsc, .int 0])), (kfindingsc, .inl (G.2.1, 48, .inl (fun _ => 0))), (kwarnings, .inr (8, [.int 16, .int 3, .ref kwarningsc, .int 0])), (kwarningsc, .inl (G.2.1, 48, .inl (fun _ => 0))), (kquestions, .inr (8, [.int 7, .int 2, .ref kquestionsc, .int 0])), (kquestionsc, .inl (G.2.1, 14, .inl (fun _ => 0))), (B, .inr (0, [.ref bpersons, .ref bpapers, .ref bstamps, .ref bversions, .ref blines, .ref bsteps, .ref bsayings, .ref bfindings, .ref bwarnings, .ref bquestions, .int 0, .int (-1), .int 3, .int 24])), (bpersons, .inr (8, [.int 10, .int 2, .ref bpersonsc, .int 0])), (bpersonsc, .inl (G.2.1, 20, .inl (fun _ => 0))), (bpapers, .inr (8, [.int 12, .int 6, .ref bpapersc, .int 0])), (bpapersc, .inl (G.2.1, 72, .inl (fun _ => 0))), (bstamps, .inr (8, [.int 24, .int 3, .ref bstampsc, .int 0])), (bstampsc, .inl (G.2.1, 72, .inl (fun _ => 0))), (bversions, .inr (8, [.int 8, .int 3, .ref bversionsc, .int 0])), (bversionsc, .inl (G.2.1, 24, .inl (fun _ => 0))), (blines, .inr (8, [.int 72, .int 7, .ref blinesc, .int 0])), (blinesc, .inl (G.2.1, 504, .inl (fun _ => 0))), (bsteps, .inr (8, [.int 960, .int 1, .ref bstepsc, .int 0])), (bstepsc, .inl (G.2.1, 960, .inl (fun _ => 0))), (bsayings, .inr (8, [.int 16, .int 8, .ref bsayingsc, .int 0])), (bsayingsc, .inl (G.2.1, 128, .inl (fun _ => 0))), (bfindings, .inr (8, [.int 12, .int 4, .ref bfindingsc, .int 0])), (bfindingsc, .inl (G.2.1, 48, .inl (fun _ => 0))), (bwarnings, .inr (8, [.int 16, .int 3, .ref bwarningsc, .int 0])), (bwarningsc, .inl (G.2.1, 48, .inl (fun _ => 0))), (bquestions, .inr (8, [.int 7, .int 2, .ref bquestionsc, .int 0])), (bquestionsc, .inl (G.2.1, 14, .inl (fun _ => 0)))] (fun u : Unit => True) (fun u : Unit => []) := by
  refine MV.start (by decide +kernel) (Nat.le_of_ble_eq_true rfl) ?_
  intro p e s m below meth c A ls hC hK hP hD hS hA hl
  have hl : lv_has ls 2 [(0, .ref K), (1, .ref B)] := hl
  obtain ⟨hx, hb, hr, hml, hB, hown, hlocks, hnm⟩ := id hC
  refine lv_aload_n hx hb dX0_copy_0 rfl (lv_at hl 0 rfl) ?_
  refine gf_X0_14 hC rfl hK hP 0 rfl rfl dX0_copy_1 ?_
  refine lv_aload_n hx hb dX0_copy_4 rfl (lv_at hl 1 rfl) ?_
  refine gf_X0_14 hC rfl hK hP 21 rfl rfl dX0_copy_5 ?_
  refine vV (wr := [(K, .inr (0, [.ref kpersons, .ref kpapers, .ref kstamps, .ref kversions, .ref klines, .ref ksteps, .ref ksayings, .ref kfindings, .ref kwarnings, .ref kquestions, .int 0, .int (-1), .int 3, .int 24])), (kpapers, .inr (8, [.int 12, .int 6, .ref kpapersc, .int 0])), (kpapersc, .inl (G.2.1, 72, .inl (fun _ => 0))), (kstamps, .inr (8, [.int 24, .int 3, .ref kstampsc, .int 0])), (kstampsc, .inl (G.2.1, 72, .inl (fun _ => 0))), (kversions, .inr (8, [.int 8, .int 3, .ref kversionsc, .int 0])), (kversionsc, .inl (G.2.1, 24, .inl (fun _ => 0))), (klines, .inr (8, [.int 72, .int 7, .ref klinesc, .int 0])), (klinesc, .inl (G.2.1, 504, .inl (fun _ => 0))), (ksteps, .inr (8, [.int 960, .int 1, .ref kstepsc, .int 0])), (kstepsc, .inl (G.2.1, 960, .inl (fun _ => 0))), (ksayings, .inr (8, [.int 16, .int 8, .ref ksayingsc, .int 0])), (ksayingsc, .inl (G.2.1, 128, .inl (fun _ => 0))), (kfindings, .inr (8, [.int 12, .int 4, .ref kfindingsc, .int 0])), (kfindingsc, .inl (G.2.1, 48, .inl (fun _ => 0))), (kwarnings, .inr (8, [.int 16, .int 3, .ref kwarningsc, .int 0])), (kwarningsc, .inl (G.2.1, 48, .inl (fun _ => 0))), (kquestions, .inr (8, [.int 7, .int 2, .ref kquestionsc, .int 0])), (kquestionsc, .inl (G.2.1, 14, .inl (fun _ => 0))), (B, .inr (0, [.ref bpersons, .ref bpapers, .ref bstamps, .ref bversions, .ref blines, .ref bsteps, .ref bsayings, .ref bfindings, .ref bwarnings, .ref bquestions, .int 0, .int (-1), .int 3, .int 24])), (bpapers, .inr (8, [.int 12, .int 6, .ref bpapersc, .int 0])), (bpapersc, .inl (G.2.1, 72, .inl (fun _ => 0))), (bstamps, .inr (8, [.int 24, .int 3, .ref bstampsc, .int 0])), (bstampsc, .inl (G.2.1, 72, .inl (fun _ => 0))), (bversions, .inr (8, [.int 8, .int 3, .ref bversionsc, .int 0])), (bversionsc, .inl (G.2.1, 24, .inl (fun _ => 0))), (blines, .inr (8, [.int 72, .int 7, .ref blinesc, .int 0])), (blinesc, .inl (G.2.1, 504, .inl (fun _ => 0))), (bsteps, .inr (8, [.int 960, .int 1, .ref bstepsc, .int 0])), (bstepsc, .inl (G.2.1, 960, .inl (fun _ => 0))), (bsayings, .inr (8, [.int 16, .int 8, .ref bsayingsc, .int 0])), (bsayingsc, .inl (G.2.1, 128, .inl (fun _ => 0))), (bfindings, .inr (8, [.int 12, .int 4, .ref bfindingsc, .int 0])), (bfindingsc, .inl (G.2.1, 48, .inl (fun _ => 0))), (bwarnings, .inr (8, [.int 16, .int 3, .ref bwarningsc, .int 0])), (bwarningsc, .inl (G.2.1, 48, .inl (fun _ => 0))), (bquestions, .inr (8, [.int 7, .int 2, .ref bquestionsc, .int 0])), (bquestionsc, .inl (G.2.1, 14, .inl (fun _ => 0)))]) hC hK hl hP hD hS hA (c_T_copy_10_2 l G kpersons bpersons kpersonsc (fun _ => 0) bpersonsc (fun _ => 0)) si_X0_60 [1, 2, 22, 23] [0, 3, 4, 5, 6, 7, 8, 9, 10, 11, 12, 13, 14, 15, 16, 17, 18, 19, 20, 21, 24, 25, 26, 27, 28, 29, 30, 31, 32, 33, 34, 35, 36, 37, 38, 39, 40, 41] rfl rfl (by decide) rfl (by decide) (by decide) rfl rfl rfl rfl rfl (Nat.le_of_ble_eq_true rfl) ⟨Nat.le_of_ble_eq_true rfl, Nat.le_of_ble_eq_true rfl⟩ ⟨Nat.le_of_ble_eq_true rfl, Nat.le_of_ble_eq_true rfl⟩ dX0_copy_8 (fun u1172 H locs hr1171 hP hD hS => ?_)
  obtain ⟨fx1173, rfl⟩ : ∃ z9, z9 = u1172 := ⟨_, rfl⟩
  have hP : va_P G.1 vwCl [(K, .inr (0, [.ref kpersons, .ref kpapers, .ref kstamps, .ref kversions, .ref klines, .ref ksteps, .ref ksayings, .ref kfindings, .ref kwarnings, .ref kquestions, .int 0, .int (-1), .int 3, .int 24])), (kpapers, .inr (8, [.int 12, .int 6, .ref kpapersc, .int 0])), (kpapersc, .inl (G.2.1, 72, .inl (fun _ => 0))), (kstamps, .inr (8, [.int 24, .int 3, .ref kstampsc, .int 0])), (kstampsc, .inl (G.2.1, 72, .inl (fun _ => 0))), (kversions, .inr (8, [.int 8, .int 3, .ref kversionsc, .int 0])), (kversionsc, .inl (G.2.1, 24, .inl (fun _ => 0))), (klines, .inr (8, [.int 72, .int 7, .ref klinesc, .int 0])), (klinesc, .inl (G.2.1, 504, .inl (fun _ => 0))), (ksteps, .inr (8, [.int 960, .int 1, .ref kstepsc, .int 0])), (kstepsc, .inl (G.2.1, 960, .inl (fun _ => 0))), (ksayings, .inr (8, [.int 16, .int 8, .ref ksayingsc, .int 0])), (ksayingsc, .inl (G.2.1, 128, .inl (fun _ => 0))), (kfindings, .inr (8, [.int 12, .int 4, .ref kfindingsc, .int 0])), (kfindingsc, .inl (G.2.1, 48, .inl (fun _ => 0))), (kwarnings, .inr (8, [.int 16, .int 3, .ref kwarningsc, .int 0])), (kwarningsc, .inl (G.2.1, 48, .inl (fun _ => 0))), (kquestions, .inr (8, [.int 7, .int 2, .ref kquestionsc, .int 0])), (kquestionsc, .inl (G.2.1, 14, .inl (fun _ => 0))), (B, .inr (0, [.ref bpersons, .ref bpapers, .ref bstamps, .ref bversions, .ref blines, .ref bsteps, .ref bsayings, .ref bfindings, .ref bwarnings, .ref bquestions, .int 0, .int (-1), .int 3, .int 24])), (bpapers, .inr (8, [.int 12, .int 6, .ref bpapersc, .int 0])), (bpapersc, .inl (G.2.1, 72, .inl (fun _ => 0))), (bstamps, .inr (8, [.int 24, .int 3, .ref bstampsc, .int 0])), (bstampsc, .inl (G.2.1, 72, .inl (fun _ => 0))), (bversions, .inr (8, [.int 8, .int 3, .ref bversionsc, .int 0])), (bversionsc, .inl (G.2.1, 24, .inl (fun _ => 0))), (blines, .inr (8, [.int 72, .int 7, .ref blinesc, .int 0])), (blinesc, .inl (G.2.1, 504, .inl (fun _ => 0))), (bsteps, .inr (8, [.int 960, .int 1, .ref bstepsc, .int 0])), (bstepsc, .inl (G.2.1, 960, .inl (fun _ => 0))), (bsayings, .inr (8, [.int 16, .int 8, .ref bsayingsc, .int 0])), (bsayingsc, .inl (G.2.1, 128, .inl (fun _ => 0))), (bfindings, .inr (8, [.int 12, .int 4, .ref bfindingsc, .int 0])), (bfindingsc, .inl (G.2.1, 48, .inl (fun _ => 0))), (bwarnings, .inr (8, [.int 16, .int 3, .ref bwarningsc, .int 0])), (bwarningsc, .inl (G.2.1, 48, .inl (fun _ => 0))), (bquestions, .inr (8, [.int 7, .int 2, .ref bquestionsc, .int 0])), (bquestionsc, .inl (G.2.1, 14, .inl (fun _ => 0))), (kpersons, .inr (8, [.int 10, .int 2, .ref kpersonsc, .int 0])), (kpersonsc, .inl (G.2.1, 20, .inl fx1173)), (bpersons, .inr (8, [.int 10, .int 2, .ref bpersonsc, .int 0])), (bpersonsc, .inl (G.2.1, 20, .inl (fun _ => 0)))] H := hP
  have hD : va_D A [(K, .inr (0, [.ref kpersons, .ref kpapers, .ref kstamps, .ref kversions, .ref klines, .ref ksteps, .ref ksayings, .ref kfindings, .ref kwarnings, .ref kquestions, .int 0, .int (-1), .int 3, .int 24])), (kpapers, .inr (8, [.int 12, .int 6, .ref kpapersc, .int 0])), (kpapersc, .inl (G.2.1, 72, .inl (fun _ => 0))), (kstamps, .inr (8, [.int 24, .int 3, .ref kstampsc, .int 0])), (kstampsc, .inl (G.2.1, 72, .inl (fun _ => 0))), (kversions, .inr (8, [.int 8, .int 3, .ref kversionsc, .int 0])), (kversionsc, .inl (G.2.1, 24, .inl (fun _ => 0))), (klines, .inr (8, [.int 72, .int 7, .ref klinesc, .int 0])), (klinesc, .inl (G.2.1, 504, .inl (fun _ => 0))), (ksteps, .inr (8, [.int 960, .int 1, .ref kstepsc, .int 0])), (kstepsc, .inl (G.2.1, 960, .inl (fun _ => 0))), (ksayings, .inr (8, [.int 16, .int 8, .ref ksayingsc, .int 0])), (ksayingsc, .inl (G.2.1, 128, .inl (fun _ => 0))), (kfindings, .inr (8, [.int 12, .int 4, .ref kfindingsc, .int 0])), (kfindingsc, .inl (G.2.1, 48, .inl (fun _ => 0))), (kwarnings, .inr (8, [.int 16, .int 3, .ref kwarningsc, .int 0])), (kwarningsc, .inl (G.2.1, 48, .inl (fun _ => 0))), (kquestions, .inr (8, [.int 7, .int 2, .ref kquestionsc, .int 0])), (kquestionsc, .inl (G.2.1, 14, .inl (fun _ => 0))), (B, .inr (0, [.ref bpersons, .ref bpapers, .ref bstamps, .ref bversions, .ref blines, .ref bsteps, .ref bsayings, .ref bfindings, .ref bwarnings, .ref bquestions, .int 0, .int (-1), .int 3, .int 24])), (bpapers, .inr (8, [.int 12, .int 6, .ref bpapersc, .int 0])), (bpapersc, .inl (G.2.1, 72, .inl (fun _ => 0))), (bstamps, .inr (8, [.int 24, .int 3, .ref bstampsc, .int 0])), (bstampsc, .inl (G.2.1, 72, .inl (fun _ => 0))), (bversions, .inr (8, [.int 8, .int 3, .ref bversionsc, .int 0])), (bversionsc, .inl (G.2.1, 24, .inl (fun _ => 0))), (blines, .inr (8, [.int 72, .int 7, .ref blinesc, .int 0])), (blinesc, .inl (G.2.1, 504, .inl (fun _ => 0))), (bsteps, .inr (8, [.int 960, .int 1, .ref bstepsc, .int 0])), (bstepsc, .inl (G.2.1, 960, .inl (fun _ => 0))), (bsayings, .inr (8, [.int 16, .int 8, .ref bsayingsc, .int 0])), (bsayingsc, .inl (G.2.1, 128, .inl (fun _ => 0))), (bfindings, .inr (8, [.int 12, .int 4, .ref bfindingsc, .int 0])), (bfindingsc, .inl (G.2.1, 48, .inl (fun _ => 0))), (bwarnings, .inr (8, [.int 16, .int 3, .ref bwarningsc, .int 0])), (bwarningsc, .inl (G.2.1, 48, .inl (fun _ => 0))), (bquestions, .inr (8, [.int 7, .int 2, .ref bquestionsc, .int 0])), (bquestionsc, .inl (G.2.1, 14, .inl (fun _ => 0))), (kpersons, .inr (8, [.int 10, .int 2, .ref kpersonsc, .int 0])), (kpersonsc, .inl (G.2.1, 20, .inl fx1173)), (bpersons, .inr (8, [.int 10, .int 2, .ref bpersonsc, .int 0])), (bpersonsc, .inl (G.2.1, 20, .inl (fun _ => 0)))] := hD
  refine lv_aload_n hx hb dX0_copy_11 rfl (lv_at hl 0 rfl) ?_
  refine gf_X0_20 hC rfl hK hP 0 rfl rfl dX0_copy_12 ?_
  refine lv_aload_n hx hb dX0_copy_15 rfl (lv_at hl 1 rfl) ?_
  refine gf_X0_20 hC rfl hK hP 19 rfl rfl dX0_copy_16 ?_
  refine vV (wr := [(K, .inr (0, [.ref kpersons, .ref kpapers, .ref kstamps, .ref kversions, .ref klines, .ref ksteps, .ref ksayings, .ref kfindings, .ref kwarnings, .ref kquestions, .int 0, .int (-1), .int 3, .int 24])), (kstamps, .inr (8, [.int 24, .int 3, .ref kstampsc, .int 0])), (kstampsc, .inl (G.2.1, 72, .inl (fun _ => 0))), (kversions, .inr (8, [.int 8, .int 3, .ref kversionsc, .int 0])), (kversionsc, .inl (G.2.1, 24, .inl (fun _ => 0))), (klines, .inr (8, [.int 72, .int 7, .ref klinesc, .int 0])), (klinesc, .inl (G.2.1, 504, .inl (fun _ => 0))), (ksteps, .inr (8, [.int 960, .int 1, .ref kstepsc, .int 0])), (kstepsc, .inl (G.2.1, 960, .inl (fun _ => 0))), (ksayings, .inr (8, [.int 16, .int 8, .ref ksayingsc, .int 0])), (ksayingsc, .inl (G.2.1, 128, .inl (fun _ => 0))), (kfindings, .inr (8, [.int 12, .int 4, .ref kfindingsc, .int 0])), (kfindingsc, .inl (G.2.1, 48, .inl (fun _ => 0))), (kwarnings, .inr (8, [.int 16, .int 3, .ref kwarningsc, .int 0])), (kwarningsc, .inl (G.2.1, 48, .inl (fun _ => 0))), (kquestions, .inr (8, [.int 7, .int 2, .ref kquestionsc, .int 0])), (kquestionsc, .inl (G.2.1, 14, .inl (fun _ => 0))), (B, .inr (0, [.ref bpersons, .ref bpapers, .ref bstamps, .ref bversions, .ref blines, .ref bsteps, .ref bsayings, .ref bfindings, .ref bwarnings, .ref bquestions, .int 0, .int (-1), .int 3, .int 24])), (bstamps, .inr (8, [.int 24, .int 3, .ref bstampsc, .int 0])), (bstampsc, .inl (G.2.1, 72, .inl (fun _ => 0))), (bversions, .inr (8, [.int 8, .int 3, .ref bversionsc, .int 0])), (bversionsc, .inl (G.2.1, 24, .inl (fun _ => 0))), (blines, .inr (8, [.int 72, .int 7, .ref blinesc, .int 0])), (blinesc, .inl (G.2.1, 504, .inl (fun _ => 0))), (bsteps, .inr (8, [.int 960, .int 1, .ref bstepsc, .int 0])), (bstepsc, .inl (G.2.1, 960, .inl (fun _ => 0))), (bsayings, .inr (8, [.int 16, .int 8, .ref bsayingsc, .int 0])), (bsayingsc, .inl (G.2.1, 128, .inl (fun _ => 0))), (bfindings, .inr (8, [.int 12, .int 4, .ref bfindingsc, .int 0])), (bfindingsc, .inl (G.2.1, 48, .inl (fun _ => 0))), (bwarnings, .inr (8, [.int 16, .int 3, .ref bwarningsc, .int 0])), (bwarningsc, .inl (G.2.1, 48, .inl (fun _ => 0))), (bquestions, .inr (8, [.int 7, .int 2, .ref bquestionsc, .int 0])), (bquestionsc, .inl (G.2.1, 14, .inl (fun _ => 0))), (kpersons, .inr (8, [.int 10, .int 2, .ref kpersonsc, .int 0])), (kpersonsc, .inl (G.2.1, 20, .inl fx1173)), (bpersons, .inr (8, [.int 10, .int 2, .ref bpersonsc, .int 0])), (bpersonsc, .inl (G.2.1, 20, .inl (fun _ => 0)))]) hC hK hl hP hD hS hA (c_T_copy_12_6 l G kpapers bpapers kpapersc (fun _ => 0) bpapersc (fun _ => 0)) si_X0_60 [1, 2, 20, 21] [0, 3, 4, 5, 6, 7, 8, 9, 10, 11, 12, 13, 14, 15, 16, 17, 18, 19, 22, 23, 24, 25, 26, 27, 28, 29, 30, 31, 32, 33, 34, 35, 36, 37, 38, 39, 40, 41] rfl rfl (by decide) rfl (by decide) (by decide) rfl rfl rfl rfl rfl (Nat.le_of_ble_eq_true rfl) ⟨Nat.le_of_ble_eq_true rfl, Nat.le_of_ble_eq_true rfl⟩ ⟨Nat.le_of_ble_eq_true rfl, Nat.le_of_ble_eq_true rfl⟩ dX0_copy_19 (fun u1175 H locs hr1174 hP hD hS => ?_)
  obtain ⟨fx1176, rfl⟩ : ∃ z9, z9 = u1175 := ⟨_, rfl⟩
  have hP : va_P G.1 vwCl [(K, .inr (0, [.ref kpersons, .ref kpapers, .ref kstamps, .ref kversions, .ref klines, .ref ksteps, .ref ksayings, .ref kfindings, .ref kwarnings, .ref kquestions, .int 0, .int (-1), .int 3, .int 24])), (kstamps, .inr (8, [.int 24, .int 3, .ref kstampsc, .int 0])), (kstampsc, .inl (G.2.1, 72, .inl (fun _ => 0))), (kversions, .inr (8, [.int 8, .int 3, .ref kversionsc, .int 0])), (kversionsc, .inl (G.2.1, 24, .inl (fun _ => 0))), (klines, .inr (8, [.int 72, .int 7, .ref klinesc, .int 0])), (klinesc, .inl (G.2.1, 504, .inl (fun _ => 0))), (ksteps, .inr (8, [.int 960, .int 1, .ref kstepsc, .int 0])), (kstepsc, .inl (G.2.1, 960, .inl (fun _ => 0))), (ksayings, .inr (8, [.int 16, .int 8, .ref ksayingsc, .int 0])), (ksayingsc, .inl (G.2.1, 128, .inl (fun _ => 0))), (kfindings, .inr (8, [.int 12, .int 4, .ref kfindingsc, .int 0])), (kfindingsc, .inl (G.2.1, 48, .inl (fun _ => 0))), (kwarnings, .inr (8, [.int 16, .int 3, .ref kwarningsc, .int 0])), (kwarningsc, .inl (G.2.1, 48, .inl (fun _ => 0))), (kquestions, .inr (8, [.int 7, .int 2, .ref kquestionsc, .int 0])), (kquestionsc, .inl (G.2.1, 14, .inl (fun _ => 0))), (B, .inr (0, [.ref bpersons, .ref bpapers, .ref bstamps, .ref bversions, .ref blines, .ref bsteps, .ref bsayings, .ref bfindings, .ref bwarnings, .ref bquestions, .int 0, .int (-1), .int 3, .int 24])), (bstamps, .inr (8, [.int 24, .int 3, .ref bstampsc, .int 0])), (bstampsc, .inl (G.2.1, 72, .inl (fun _ => 0))), (bversions, .inr (8, [.int 8, .int 3, .ref bversionsc, .int 0])), (bversionsc, .inl (G.2.1, 24, .inl (fun _ => 0))), (blines, .inr (8, [.int 72, .int 7, .ref blinesc, .int 0])), (blinesc, .inl (G.2.1, 504, .inl (fun _ => 0))), (bsteps, .inr (8, [.int 960, .int 1, .ref bstepsc, .int 0])), (bstepsc, .inl (G.2.1, 960, .inl (fun _ => 0))), (bsayings, .inr (8, [.int 16, .int 8, .ref bsayingsc, .int 0])), (bsayingsc, .inl (G.2.1, 128, .inl (fun _ => 0))), (bfindings, .inr (8, [.int 12, .int 4, .ref bfindingsc, .int 0])), (bfindingsc, .inl (G.2.1, 48, .inl (fun _ => 0))), (bwarnings, .inr (8, [.int 16, .int 3, .ref bwarningsc, .int 0])), (bwarningsc, .inl (G.2.1, 48, .inl (fun _ => 0))), (bquestions, .inr (8, [.int 7, .int 2, .ref bquestionsc, .int 0])), (bquestionsc, .inl (G.2.1, 14, .inl (fun _ => 0))), (kpersons, .inr (8, [.int 10, .int 2, .ref kpersonsc, .int 0])), (kpersonsc, .inl (G.2.1, 20, .inl fx1173)), (bpersons, .inr (8, [.int 10, .int 2, .ref bpersonsc, .int 0])), (bpersonsc, .inl (G.2.1, 20, .inl (fun _ => 0))), (kpapers, .inr (8, [.int 12, .int 6, .ref kpapersc, .int 0])), (kpapersc, .inl (G.2.1, 72, .inl fx1176)), (bpapers, .inr (8, [.int 12, .int 6, .ref bpapersc, .int 0])), (bpapersc, .inl (G.2.1, 72, .inl (fun _ => 0)))] H := hP
  have hD : va_D A [(K, .inr (0, [.ref kpersons, .ref kpapers, .ref kstamps, .ref kversions, .ref klines, .ref ksteps, .ref ksayings, .ref kfindings, .ref kwarnings, .ref kquestions, .int 0, .int (-1), .int 3, .int 24])), (kstamps, .inr (8, [.int 24, .int 3, .ref kstampsc, .int 0])), (kstampsc, .inl (G.2.1, 72, .inl (fun _ => 0))), (kversions, .inr (8, [.int 8, .int 3, .ref kversionsc, .int 0])), (kversionsc, .inl (G.2.1, 24, .inl (fun _ => 0))), (klines, .inr (8, [.int 72, .int 7, .ref klinesc, .int 0])), (klinesc, .inl (G.2.1, 504, .inl (fun _ => 0))), (ksteps, .inr (8, [.int 960, .int 1, .ref kstepsc, .int 0])), (kstepsc, .inl (G.2.1, 960, .inl (fun _ => 0))), (ksayings, .inr (8, [.int 16, .int 8, .ref ksayingsc, .int 0])), (ksayingsc, .inl (G.2.1, 128, .inl (fun _ => 0))), (kfindings, .inr (8, [.int 12, .int 4, .ref kfindingsc, .int 0])), (kfindingsc, .inl (G.2.1, 48, .inl (fun _ => 0))), (kwarnings, .inr (8, [.int 16, .int 3, .ref kwarningsc, .int 0])), (kwarningsc, .inl (G.2.1, 48, .inl (fun _ => 0))), (kquestions, .inr (8, [.int 7, .int 2, .ref kquestionsc, .int 0])), (kquestionsc, .inl (G.2.1, 14, .inl (fun _ => 0))), (B, .inr (0, [.ref bpersons, .ref bpapers, .ref bstamps, .ref bversions, .ref blines, .ref bsteps, .ref bsayings, .ref bfindings, .ref bwarnings, .ref bquestions, .int 0, .int (-1), .int 3, .int 24])), (bstamps, .inr (8, [.int 24, .int 3, .ref bstampsc, .int 0])), (bstampsc, .inl (G.2.1, 72, .inl (fun _ => 0))), (bversions, .inr (8, [.int 8, .int 3, .ref bversionsc, .int 0])), (bversionsc, .inl (G.2.1, 24, .inl (fun _ => 0))), (blines, .inr (8, [.int 72, .int 7, .ref blinesc, .int 0])), (blinesc, .inl (G.2.1, 504, .inl (fun _ => 0))), (bsteps, .inr (8, [.int 960, .int 1, .ref bstepsc, .int 0])), (bstepsc, .inl (G.2.1, 960, .inl (fun _ => 0))), (bsayings, .inr (8, [.int 16, .int 8, .ref bsayingsc, .int 0])), (bsayingsc, .inl (G.2.1, 128, .inl (fun _ => 0))), (bfindings, .inr (8, [.int 12, .int 4, .ref bfindingsc, .int 0])), (bfindingsc, .inl (G.2.1, 48, .inl (fun _ => 0))), (bwarnings, .inr (8, [.int 16, .int 3, .ref bwarningsc, .int 0])), (bwarningsc, .inl (G.2.1, 48, .inl (fun _ => 0))), (bquestions, .inr (8, [.int 7, .int 2, .ref bquestionsc, .int 0])), (bquestionsc, .inl (G.2.1, 14, .inl (fun _ => 0))), (kpersons, .inr (8, [.int 10, .int 2, .ref kpersonsc, .int 0])), (kpersonsc, .inl (G.2.1, 20, .inl fx1173)), (bpersons, .inr (8, [.int 10, .int 2, .ref bpersonsc, .int 0])), (bpersonsc, .inl (G.2.1, 20, .inl (fun _ => 0))), (kpapers, .inr (8, [.int 12, .int 6, .ref kpapersc, .int 0])), (kpapersc, .inl (G.2.1, 72, .inl fx1176)), (bpapers, .inr (8, [.int 12, .int 6, .ref bpapersc, .int 0])), (bpapersc, .inl (G.2.1, 72, .inl (fun _ => 0)))] := hD
  refine lv_aload_n hx hb dX0_copy_22 rfl (lv_at hl 0 rfl) ?_
  refine gf_X0_23 hC rfl hK hP 0 rfl rfl dX0_copy_23 ?_
  refine lv_aload_n hx hb dX0_copy_26 rfl (lv_at hl 1 rfl) ?_
  refine gf_X0_23 hC rfl hK hP 17 rfl rfl dX0_copy_27 ?_
  refine vV (wr := [(K, .inr (0, [.ref kpersons, .ref kpapers, .ref kstamps, .ref kversions, .ref klines, .ref ksteps, .ref ksayings, .ref kfindings, .ref kwarnings, .ref kquestions, .int 0, .int (-1), .int 3, .int 24])), (kversions, .inr (8, [.int 8, .int 3, .ref kversionsc, .int 0])), (kversionsc, .inl (G.2.1, 24, .inl (fun _ => 0))), (klines, .inr (8, [.int 72, .int 7, .ref klinesc, .int 0])), (klinesc, .inl (G.2.1, 504, .inl (fun _ => 0))), (ksteps, .inr (8, [.int 960, .int 1, .ref kstepsc, .int 0])), (kstepsc, .inl (G.2.1, 960, .inl (fun _ => 0))), (ksayings, .inr (8, [.int 16, .int 8, .ref ksayingsc, .int 0])), (ksayingsc, .inl (G.2.1, 128, .inl (fun _ => 0))), (kfindings, .inr (8, [.int 12, .int 4, .ref kfindingsc, .int 0])), (kfindingsc, .inl (G.2.1, 48, .inl (fun _ => 0))), (kwarnings, .inr (8, [.int 16, .int 3, .ref kwarningsc, .int 0])), (kwarningsc, .inl (G.2.1, 48, .inl (fun _ => 0))), (kquestions, .inr (8, [.int 7, .int 2, .ref kquestionsc, .int 0])), (kquestionsc, .inl (G.2.1, 14, .inl (fun _ => 0))), (B, .inr (0, [.ref bpersons, .ref bpapers, .ref bstamps, .ref bversions, .ref blines, .ref bsteps, .ref bsayings, .ref bfindings, .ref bwarnings, .ref bquestions, .int 0, .int (-1), .int 3, .int 24])), (bversions, .inr (8, [.int 8, .int 3, .ref bversionsc, .int 0])), (bversionsc, .inl (G.2.1, 24, .inl (fun _ => 0))), (blines, .inr (8, [.int 72, .int 7, .ref blinesc, .int 0])), (blinesc, .inl (G.2.1, 504, .inl (fun _ => 0))), (bsteps, .inr (8, [.int 960, .int 1, .ref bstepsc, .int 0])), (bstepsc, .inl (G.2.1, 960, .inl (fun _ => 0))), (bsayings, .inr (8, [.int 16, .int 8, .ref bsayingsc, .int 0])), (bsayingsc, .inl (G.2.1, 128, .inl (fun _ => 0))), (bfindings, .inr (8, [.int 12, .int 4, .ref bfindingsc, .int 0])), (bfindingsc, .inl (G.2.1, 48, .inl (fun _ => 0))), (bwarnings, .inr (8, [.int 16, .int 3, .ref bwarningsc, .int 0])), (bwarningsc, .inl (G.2.1, 48, .inl (fun _ => 0))), (bquestions, .inr (8, [.int 7, .int 2, .ref bquestionsc, .int 0])), (bquestionsc, .inl (G.2.1, 14, .inl (fun _ => 0))), (kpersons, .inr (8, [.int 10, .int 2, .ref kpersonsc, .int 0])), (kpersonsc, .inl (G.2.1, 20, .inl fx1173)), (bpersons, .inr (8, [.int 10, .int 2, .ref bpersonsc, .int 0])), (bpersonsc, .inl (G.2.1, 20, .inl (fun _ => 0))), (kpapers, .inr (8, [.int 12, .int 6, .ref kpapersc, .int 0])), (kpapersc, .inl (G.2.1, 72, .inl fx1176)), (bpapers, .inr (8, [.int 12, .int 6, .ref bpapersc, .int 0])), (bpapersc, .inl (G.2.1, 72, .inl (fun _ => 0)))]) hC hK hl hP hD hS hA (c_T_copy_24_3 l G kstamps bstamps kstampsc (fun _ => 0) bstampsc (fun _ => 0)) si_X0_60 [1, 2, 18, 19] [0, 3, 4, 5, 6, 7, 8, 9, 10, 11, 12, 13, 14, 15, 16, 17, 20, 21, 22, 23, 24, 25, 26, 27, 28, 29, 30, 31, 32, 33, 34, 35, 36, 37, 38, 39, 40, 41] rfl rfl (by decide) rfl (by decide) (by decide) rfl rfl rfl rfl rfl (Nat.le_of_ble_eq_true rfl) ⟨Nat.le_of_ble_eq_true rfl, Nat.le_of_ble_eq_true rfl⟩ ⟨Nat.le_of_ble_eq_true rfl, Nat.le_of_ble_eq_true rfl⟩ dX0_copy_30 (fun u1178 H locs hr1177 hP hD hS => ?_)
  obtain ⟨fx1179, rfl⟩ : ∃ z9, z9 = u1178 := ⟨_, rfl⟩
  have hP : va_P G.1 vwCl [(K, .inr (0, [.ref kpersons, .ref kpapers, .ref kstamps, .ref kversions, .ref klines, .ref ksteps, .ref ksayings, .ref kfindings, .ref kwarnings, .ref kquestions, .int 0, .int (-1), .int 3, .int 24])), (kversions, .inr (8, [.int 8, .int 3, .ref kversionsc, .int 0])), (kversionsc, .inl (G.2.1, 24, .inl (fun _ => 0))), (klines, .inr (8, [.int 72, .int 7, .ref klinesc, .int 0])), (klinesc, .inl (G.2.1, 504, .inl (fun _ => 0))), (ksteps, .inr (8, [.int 960, .int 1, .ref kstepsc, .int 0])), (kstepsc, .inl (G.2.1, 960, .inl (fun _ => 0))), (ksayings, .inr (8, [.int 16, .int 8, .ref ksayingsc, .int 0])), (ksayingsc, .inl (G.2.1, 128, .inl (fun _ => 0))), (kfindings, .inr (8, [.int 12, .int 4, .ref kfindingsc, .int 0])), (kfindingsc, .inl (G.2.1, 48, .inl (fun _ => 0))), (kwarnings, .inr (8, [.int 16, .int 3, .ref kwarningsc, .int 0])), (kwarningsc, .inl (G.2.1, 48, .inl (fun _ => 0))), (kquestions, .inr (8, [.int 7, .int 2, .ref kquestionsc, .int 0])), (kquestionsc, .inl (G.2.1, 14, .inl (fun _ => 0))), (B, .inr (0, [.ref bpersons, .ref bpapers, .ref bstamps, .ref bversions, .ref blines, .ref bsteps, .ref bsayings, .ref bfindings, .ref bwarnings, .ref bquestions, .int 0, .int (-1), .int 3, .int 24])), (bversions, .inr (8, [.int 8, .int 3, .ref bversionsc, .int 0])), (bversionsc, .inl (G.2.1, 24, .inl (fun _ => 0))), (blines, .inr (8, [.int 72, .int 7, .ref blinesc, .int 0])), (blinesc, .inl (G.2.1, 504, .inl (fun _ => 0))), (bsteps, .inr (8, [.int 960, .int 1, .ref bstepsc, .int 0])), (bstepsc, .inl (G.2.1, 960, .inl (fun _ => 0))), (bsayings, .inr (8, [.int 16, .int 8, .ref bsayingsc, .int 0])), (bsayingsc, .inl (G.2.1, 128, .inl (fun _ => 0))), (bfindings, .inr (8, [.int 12, .int 4, .ref bfindingsc, .int 0])), (bfindingsc, .inl (G.2.1, 48, .inl (fun _ => 0))), (bwarnings, .inr (8, [.int 16, .int 3, .ref bwarningsc, .int 0])), (bwarningsc, .inl (G.2.1, 48, .inl (fun _ => 0))), (bquestions, .inr (8, [.int 7, .int 2, .ref bquestionsc, .int 0])), (bquestionsc, .inl (G.2.1, 14, .inl (fun _ => 0))), (kpersons, .inr (8, [.int 10, .int 2, .ref kpersonsc, .int 0])), (kpersonsc, .inl (G.2.1, 20, .inl fx1173)), (bpersons, .inr (8, [.int 10, .int 2, .ref bpersonsc, .int 0])), (bpersonsc, .inl (G.2.1, 20, .inl (fun _ => 0))), (kpapers, .inr (8, [.int 12, .int 6, .ref kpapersc, .int 0])), (kpapersc, .inl (G.2.1, 72, .inl fx1176)), (bpapers, .inr (8, [.int 12, .int 6, .ref bpapersc, .int 0])), (bpapersc, .inl (G.2.1, 72, .inl (fun _ => 0))), (kstamps, .inr (8, [.int 24, .int 3, .ref kstampsc, .int 0])), (kstampsc, .inl (G.2.1, 72, .inl fx1179)), (bstamps, .inr (8, [.int 24, .int 3, .ref bstampsc, .int 0])), (bstampsc, .inl (G.2.1, 72, .inl (fun _ => 0)))] H := hP
  have hD : va_D A [(K, .inr (0, [.ref kpersons, .ref kpapers, .ref kstamps, .ref kversions, .ref klines, .ref ksteps, .ref ksayings, .ref kfindings, .ref kwarnings, .ref kquestions, .int 0, .int (-1), .int 3, .int 24])), (kversions, .inr (8, [.int 8, .int 3, .ref kversionsc, .int 0])), (kversionsc, .inl (G.2.1, 24, .inl (fun _ => 0))), (klines, .inr (8, [.int 72, .int 7, .ref klinesc, .int 0])), (klinesc, .inl (G.2.1, 504, .inl (fun _ => 0))), (ksteps, .inr (8, [.int 960, .int 1, .ref kstepsc, .int 0])), (kstepsc, .inl (G.2.1, 960, .inl (fun _ => 0))), (ksayings, .inr (8, [.int 16, .int 8, .ref ksayingsc, .int 0])), (ksayingsc, .inl (G.2.1, 128, .inl (fun _ => 0))), (kfindings, .inr (8, [.int 12, .int 4, .ref kfindingsc, .int 0])), (kfindingsc, .inl (G.2.1, 48, .inl (fun _ => 0))), (kwarnings, .inr (8, [.int 16, .int 3, .ref kwarningsc, .int 0])), (kwarningsc, .inl (G.2.1, 48, .inl (fun _ => 0))), (kquestions, .inr (8, [.int 7, .int 2, .ref kquestionsc, .int 0])), (kquestionsc, .inl (G.2.1, 14, .inl (fun _ => 0))), (B, .inr (0, [.ref bpersons, .ref bpapers, .ref bstamps, .ref bversions, .ref blines, .ref bsteps, .ref bsayings, .ref bfindings, .ref bwarnings, .ref bquestions, .int 0, .int (-1), .int 3, .int 24])), (bversions, .inr (8, [.int 8, .int 3, .ref bversionsc, .int 0])), (bversionsc, .inl (G.2.1, 24, .inl (fun _ => 0))), (blines, .inr (8, [.int 72, .int 7, .ref blinesc, .int 0])), (blinesc, .inl (G.2.1, 504, .inl (fun _ => 0))), (bsteps, .inr (8, [.int 960, .int 1, .ref bstepsc, .int 0])), (bstepsc, .inl (G.2.1, 960, .inl (fun _ => 0))), (bsayings, .inr (8, [.int 16, .int 8, .ref bsayingsc, .int 0])), (bsayingsc, .inl (G.2.1, 128, .inl (fun _ => 0))), (bfindings, .inr (8, [.int 12, .int 4, .ref bfindingsc, .int 0])), (bfindingsc, .inl (G.2.1, 48, .inl (fun _ => 0))), (bwarnings, .inr (8, [.int 16, .int 3, .ref bwarningsc, .int 0])), (bwarningsc, .inl (G.2.1, 48, .inl (fun _ => 0))), (bquestions, .inr (8, [.int 7, .int 2, .ref bquestionsc, .int 0])), (bquestionsc, .inl (G.2.1, 14, .inl (fun _ => 0))), (kpersons, .inr (8, [.int 10, .int 2, .ref kpersonsc, .int 0])), (kpersonsc, .inl (G.2.1, 20, .inl fx1173)), (bpersons, .inr (8, [.int 10, .int 2, .ref bpersonsc, .int 0])), (bpersonsc, .inl (G.2.1, 20, .inl (fun _ => 0))), (kpapers, .inr (8, [.int 12, .int 6, .ref kpapersc, .int 0])), (kpapersc, .inl (G.2.1, 72, .inl fx1176)), (bpapers, .inr (8, [.int 12, .int 6, .ref bpapersc, .int 0])), (bpapersc, .inl (G.2.1, 72, .inl (fun _ => 0))), (kstamps, .inr (8, [.int 24, .int 3, .ref kstampsc, .int 0])), (kstampsc, .inl (G.2.1, 72, .inl fx1179)), (bstamps, .inr (8, [.int 24, .int 3, .ref bstampsc, .int 0])), (bstampsc, .inl (G.2.1, 72, .inl (fun _ => 0)))] := hD
  refine lv_aload_n hx hb dX0_copy_33 rfl (lv_at hl 0 rfl) ?_
  refine gf_X0_26 hC rfl hK hP 0 rfl rfl dX0_copy_34 ?_
  refine lv_aload_n hx hb dX0_copy_37 rfl (lv_at hl 1 rfl) ?_
  refine gf_X0_26 hC rfl hK hP 15 rfl rfl dX0_copy_38 ?_
  refine vV (wr := [(K, .inr (0, [.ref kpersons, .ref kpapers, .ref kstamps, .ref kversions, .ref klines, .ref ksteps, .ref ksayings, .ref kfindings, .ref kwarnings, .ref kquestions, .int 0, .int (-1), .int 3, .int 24])), (klines, .inr (8, [.int 72, .int 7, .ref klinesc, .int 0])), (klinesc, .inl (G.2.1, 504, .inl (fun _ => 0))), (ksteps, .inr (8, [.int 960, .int 1, .ref kstepsc, .int 0])), (kstepsc, .inl (G.2.1, 960, .inl (fun _ => 0))), (ksayings, .inr (8, [.int 16, .int 8, .ref ksayingsc, .int 0])), (ksayingsc, .inl (G.2.1, 128, .inl (fun _ => 0))), (kfindings, .inr (8, [.int 12, .int 4, .ref kfindingsc, .int 0])), (kfindingsc, .inl (G.2.1, 48, .inl (fun _ => 0))), (kwarnings, .inr (8, [.int 16, .int 3, .ref kwarningsc, .int 0])), (kwarningsc, .inl (G.2.1, 48, .inl (fun _ => 0))), (kquestions, .inr (8, [.int 7, .int 2, .ref kquestionsc, .int 0])), (kquestionsc, .inl (G.2.1, 14, .inl (fun _ => 0))), (B, .inr (0, [.ref bpersons, .ref bpapers, .ref bstamps, .ref bversions, .ref blines, .ref bsteps, .ref bsayings, .ref bfindings, .ref bwarnings, .ref bquestions, .int 0, .int (-1), .int 3, .int 24])), (blines, .inr (8, [.int 72, .int 7, .ref blinesc, .int 0])), (blinesc, .inl (G.2.1, 504, .inl (fun _ => 0))), (bsteps, .inr (8, [.int 960, .int 1, .ref bstepsc, .int 0])), (bstepsc, .inl (G.2.1, 960, .inl (fun _ => 0))), (bsayings, .inr (8, [.int 16, .int 8, .ref bsayingsc, .int 0])), (bsayingsc, .inl (G.2.1, 128, .inl (fun _ => 0))), (bfindings, .inr (8, [.int 12, .int 4, .ref bfindingsc, .int 0])), (bfindingsc, .inl (G.2.1, 48, .inl (fun _ => 0))), (bwarnings, .inr (8, [.int 16, .int 3, .ref bwarningsc, .int 0])), (bwarningsc, .inl (G.2.1, 48, .inl (fun _ => 0))), (bquestions, .inr (8, [.int 7, .int 2, .ref bquestionsc, .int 0])), (bquestionsc, .inl (G.2.1, 14, .inl (fun _ => 0))), (kpersons, .inr (8, [.int 10, .int 2, .ref kpersonsc, .int 0])), (kpersonsc, .inl (G.2.1, 20, .inl fx1173)), (bpersons, .inr (8, [.int 10, .int 2, .ref bpersonsc, .int 0])), (bpersonsc, .inl (G.2.1, 20, .inl (fun _ => 0))), (kpapers, .inr (8, [.int 12, .int 6, .ref kpapersc, .int 0])), (kpapersc, .inl (G.2.1, 72, .inl fx1176)), (bpapers, .inr (8, [.int 12, .int 6, .ref bpapersc, .int 0])), (bpapersc, .inl (G.2.1, 72, .inl (fun _ => 0))), (kstamps, .inr (8, [.int 24, .int 3, .ref kstampsc, .int 0])), (kstampsc, .inl (G.2.1, 72, .inl fx1179)), (bstamps, .inr (8, [.int 24, .int 3, .ref bstampsc, .int 0])), (bstampsc, .inl (G.2.1, 72, .inl (fun _ => 0)))]) hC hK hl hP hD hS hA (c_T_copy_8_3 l G kversions bversions kversionsc (fun _ => 0) bversionsc (fun _ => 0)) si_X0_60 [1, 2, 16, 17] [0, 3, 4, 5, 6, 7, 8, 9, 10, 11, 12, 13, 14, 15, 18, 19, 20, 21, 22, 23, 24, 25, 26, 27, 28, 29, 30, 31, 32, 33, 34, 35, 36, 37, 38, 39, 40, 41] rfl rfl (by decide) rfl (by decide) (by decide) rfl rfl rfl rfl rfl (Nat.le_of_ble_eq_true rfl) ⟨Nat.le_of_ble_eq_true rfl, Nat.le_of_ble_eq_true rfl⟩ ⟨Nat.le_of_ble_eq_true rfl, Nat.le_of_ble_eq_true rfl⟩ dX0_copy_41 (fun u1181 H locs hr1180 hP hD hS => ?_)
  obtain ⟨fx1182, rfl⟩ : ∃ z9, z9 = u1181 := ⟨_, rfl⟩
  have hP : va_P G.1 vwCl [(K, .inr (0, [.ref kpersons, .ref kpapers, .ref kstamps, .ref kversions, .ref klines, .ref ksteps, .ref ksayings, .ref kfindings, .ref kwarnings, .ref kquestions, .int 0, .int (-1), .int 3, .int 24])), (klines, .inr (8, [.int 72, .int 7, .ref klinesc, .int 0])), (klinesc, .inl (G.2.1, 504, .inl (fun _ => 0))), (ksteps, .inr (8, [.int 960, .int 1, .ref kstepsc, .int 0])), (kstepsc, .inl (G.2.1, 960, .inl (fun _ => 0))), (ksayings, .inr (8, [.int 16, .int 8, .ref ksayingsc, .int 0])), (ksayingsc, .inl (G.2.1, 128, .inl (fun _ => 0))), (kfindings, .inr (8, [.int 12, .int 4, .ref kfindingsc, .int 0])), (kfindingsc, .inl (G.2.1, 48, .inl (fun _ => 0))), (kwarnings, .inr (8, [.int 16, .int 3, .ref kwarningsc, .int 0])), (kwarningsc, .inl (G.2.1, 48, .inl (fun _ => 0))), (kquestions, .inr (8, [.int 7, .int 2, .ref kquestionsc, .int 0])), (kquestionsc, .inl (G.2.1, 14, .inl (fun _ => 0))), (B, .inr (0, [.ref bpersons, .ref bpapers, .ref bstamps, .ref bversions, .ref blines, .ref bsteps, .ref bsayings, .ref bfindings, .ref bwarnings, .ref bquestions, .int 0, .int (-1), .int 3, .int 24])), (blines, .inr (8, [.int 72, .int 7, .ref blinesc, .int 0])), (blinesc, .inl (G.2.1, 504, .inl (fun _ => 0))), (bsteps, .inr (8, [.int 960, .int 1, .ref bstepsc, .int 0])), (bstepsc, .inl (G.2.1, 960, .inl (fun _ => 0))), (bsayings, .inr (8, [.int 16, .int 8, .ref bsayingsc, .int 0])), (bsayingsc, .inl (G.2.1, 128, .inl (fun _ => 0))), (bfindings, .inr (8, [.int 12, .int 4, .ref bfindingsc, .int 0])), (bfindingsc, .inl (G.2.1, 48, .inl (fun _ => 0))), (bwarnings, .inr (8, [.int 16, .int 3, .ref bwarningsc, .int 0])), (bwarningsc, .inl (G.2.1, 48, .inl (fun _ => 0))), (bquestions, .inr (8, [.int 7, .int 2, .ref bquestionsc, .int 0])), (bquestionsc, .inl (G.2.1, 14, .inl (fun _ => 0))), (kpersons, .inr (8, [.int 10, .int 2, .ref kpersonsc, .int 0])), (kpersonsc, .inl (G.2.1, 20, .inl fx1173)), (bpersons, .inr (8, [.int 10, .int 2, .ref bpersonsc, .int 0])), (bpersonsc, .inl (G.2.1, 20, .inl (fun _ => 0))), (kpapers, .inr (8, [.int 12, .int 6, .ref kpapersc, .int 0])), (kpapersc, .inl (G.2.1, 72, .inl fx1176)), (bpapers, .inr (8, [.int 12, .int 6, .ref bpapersc, .int 0])), (bpapersc, .inl (G.2.1, 72, .inl (fun _ => 0))), (kstamps, .inr (8, [.int 24, .int 3, .ref kstampsc, .int 0])), (kstampsc, .inl (G.2.1, 72, .inl fx1179)), (bstamps, .inr (8, [.int 24, .int 3, .ref bstampsc, .int 0])), (bstampsc, .inl (G.2.1, 72, .inl (fun _ => 0))), (kversions, .inr (8, [.int 8, .int 3, .ref kversionsc, .int 0])), (kversionsc, .inl (G.2.1, 24, .inl fx1182)), (bversions, .inr (8, [.int 8, .int 3, .ref bversionsc, .int 0])), (bversionsc, .inl (G.2.1, 24, .inl (fun _ => 0)))] H := hP
  have hD : va_D A [(K, .inr (0, [.ref kpersons, .ref kpapers, .ref kstamps, .ref kversions, .ref klines, .ref ksteps, .ref ksayings, .ref kfindings, .ref kwarnings, .ref kquestions, .int 0, .int (-1), .int 3, .int 24])), (klines, .inr (8, [.int 72, .int 7, .ref klinesc, .int 0])), (klinesc, .inl (G.2.1, 504, .inl (fun _ => 0))), (ksteps, .inr (8, [.int 960, .int 1, .ref kstepsc, .int 0])), (kstepsc, .inl (G.2.1, 960, .inl (fun _ => 0))), (ksayings, .inr (8, [.int 16, .int 8, .ref ksayingsc, .int 0])), (ksayingsc, .inl (G.2.1, 128, .inl (fun _ => 0))), (kfindings, .inr (8, [.int 12, .int 4, .ref kfindingsc, .int 0])), (kfindingsc, .inl (G.2.1, 48, .inl (fun _ => 0))), (kwarnings, .inr (8, [.int 16, .int 3, .ref kwarningsc, .int 0])), (kwarningsc, .inl (G.2.1, 48, .inl (fun _ => 0))), (kquestions, .inr (8, [.int 7, .int 2, .ref kquestionsc, .int 0])), (kquestionsc, .inl (G.2.1, 14, .inl (fun _ => 0))), (B, .inr (0, [.ref bpersons, .ref bpapers, .ref bstamps, .ref bversions, .ref blines, .ref bsteps, .ref bsayings, .ref bfindings, .ref bwarnings, .ref bquestions, .int 0, .int (-1), .int 3, .int 24])), (blines, .inr (8, [.int 72, .int 7, .ref blinesc, .int 0])), (blinesc, .inl (G.2.1, 504, .inl (fun _ => 0))), (bsteps, .inr (8, [.int 960, .int 1, .ref bstepsc, .int 0])), (bstepsc, .inl (G.2.1, 960, .inl (fun _ => 0))), (bsayings, .inr (8, [.int 16, .int 8, .ref bsayingsc, .int 0])), (bsayingsc, .inl (G.2.1, 128, .inl (fun _ => 0))), (bfindings, .inr (8, [.int 12, .int 4, .ref bfindingsc, .int 0])), (bfindingsc, .inl (G.2.1, 48, .inl (fun _ => 0))), (bwarnings, .inr (8, [.int 16, .int 3, .ref bwarningsc, .int 0])), (bwarningsc, .inl (G.2.1, 48, .inl (fun _ => 0))), (bquestions, .inr (8, [.int 7, .int 2, .ref bquestionsc, .int 0])), (bquestionsc, .inl (G.2.1, 14, .inl (fun _ => 0))), (kpersons, .inr (8, [.int 10, .int 2, .ref kpersonsc, .int 0])), (kpersonsc, .inl (G.2.1, 20, .inl fx1173)), (bpersons, .inr (8, [.int 10, .int 2, .ref bpersonsc, .int 0])), (bpersonsc, .inl (G.2.1, 20, .inl (fun _ => 0))), (kpapers, .inr (8, [.int 12, .int 6, .ref kpapersc, .int 0])), (kpapersc, .inl (G.2.1, 72, .inl fx1176)), (bpapers, .inr (8, [.int 12, .int 6, .ref bpapersc, .int 0])), (bpapersc, .inl (G.2.1, 72, .inl (fun _ => 0))), (kstamps, .inr (8, [.int 24, .int 3, .ref kstampsc, .int 0])), (kstampsc, .inl (G.2.1, 72, .inl fx1179)), (bstamps, .inr (8, [.int 24, .int 3, .ref bstampsc, .int 0])), (bstampsc, .inl (G.2.1, 72, .inl (fun _ => 0))), (kversions, .inr (8, [.int 8, .int 3, .ref kversionsc, .int 0])), (kversionsc, .inl (G.2.1, 24, .inl fx1182)), (bversions, .inr (8, [.int 8, .int 3, .ref bversionsc, .int 0])), (bversionsc, .inl (G.2.1, 24, .inl (fun _ => 0)))] := hD
  refine lv_aload_n hx hb dX0_copy_44 rfl (lv_at hl 0 rfl) ?_
  refine gf_X0_29 hC rfl hK hP 0 rfl rfl dX0_copy_45 ?_
  refine lv_aload_n hx hb dX0_copy_48 rfl (lv_at hl 1 rfl) ?_
  refine gf_X0_29 hC rfl hK hP 13 rfl rfl dX0_copy_49 ?_
  refine vV (wr := [(K, .inr (0, [.ref kpersons, .ref kpapers, .ref kstamps, .ref kversions, .ref klines, .ref ksteps, .ref ksayings, .ref kfindings, .ref kwarnings, .ref kquestions, .int 0, .int (-1), .int 3, .int 24])), (ksteps, .inr (8, [.int 960, .int 1, .ref kstepsc, .int 0])), (kstepsc, .inl (G.2.1, 960, .inl (fun _ => 0))), (ksayings, .inr (8, [.int 16, .int 8, .ref ksayingsc, .int 0])), (ksayingsc, .inl (G.2.1, 128, .inl (fun _ => 0))), (kfindings, .inr (8, [.int 12, .int 4, .ref kfindingsc, .int 0])), (kfindingsc, .inl (G.2.1, 48, .inl (fun _ => 0))), (kwarnings, .inr (8, [.int 16, .int 3, .ref kwarningsc, .int 0])), (kwarningsc, .inl (G.2.1, 48, .inl (fun _ => 0))), (kquestions, .inr (8, [.int 7, .int 2, .ref kquestionsc, .int 0])), (kquestionsc, .inl (G.2.1, 14, .inl (fun _ => 0))), (B, .inr (0, [.ref bpersons, .ref bpapers, .ref bstamps, .ref bversions, .ref blines, .ref bsteps, .ref bsayings, .ref bfindings, .ref bwarnings, .ref bquestions, .int 0, .int (-1), .int 3, .int 24])), (bsteps, .inr (8, [.int 960, .int 1, .ref bstepsc, .int 0])), (bstepsc, .inl (G.2.1, 960, .inl (fun _ => 0))), (bsayings, .inr (8, [.int 16, .int 8, .ref bsayingsc, .int 0])), (bsayingsc, .inl (G.2.1, 128, .inl (fun _ => 0))), (bfindings, .inr (8, [.int 12, .int 4, .ref bfindingsc, .int 0])), (bfindingsc, .inl (G.2.1, 48, .inl (fun _ => 0))), (bwarnings, .inr (8, [.int 16, .int 3, .ref bwarningsc, .int 0])), (bwarningsc, .inl (G.2.1, 48, .inl (fun _ => 0))), (bquestions, .inr (8, [.int 7, .int 2, .ref bquestionsc, .int 0])), (bquestionsc, .inl (G.2.1, 14, .inl (fun _ => 0))), (kpersons, .inr (8, [.int 10, .int 2, .ref kpersonsc, .int 0])), (kpersonsc, .inl (G.2.1, 20, .inl fx1173)), (bpersons, .inr (8, [.int 10, .int 2, .ref bpersonsc, .int 0])), (bpersonsc, .inl (G.2.1, 20, .inl (fun _ => 0))), (kpapers, .inr (8, [.int 12, .int 6, .ref kpapersc, .int 0])), (kpapersc, .inl (G.2.1, 72, .inl fx1176)), (bpapers, .inr (8, [.int 12, .int 6, .ref bpapersc, .int 0])), (bpapersc, .inl (G.2.1, 72, .inl (fun _ => 0))), (kstamps, .inr (8, [.int 24, .int 3, .ref kstampsc, .int 0])), (kstampsc, .inl (G.2.1, 72, .inl fx1179)), (bstamps, .inr (8, [.int 24, .int 3, .ref bstampsc, .int 0])), (bstampsc, .inl (G.2.1, 72, .inl (fun _ => 0))), (kversions, .inr (8, [.int 8, .int 3, .ref kversionsc, .int 0])), (kversionsc, .inl (G.2.1, 24, .inl fx1182)), (bversions, .inr (8, [.int 8, .int 3, .ref bversionsc, .int 0])), (bversionsc, .inl (G.2.1, 24, .inl (fun _ => 0)))]) hC hK hl hP hD hS hA (c_T_copy_72_7 l G klines blines klinesc (fun _ => 0) blinesc (fun _ => 0)) si_X0_60 [1, 2, 14, 15] [0, 3, 4, 5, 6, 7, 8, 9, 10, 11, 12, 13, 16, 17, 18, 19, 20, 21, 22, 23, 24, 25, 26, 27, 28, 29, 30, 31, 32, 33, 34, 35, 36, 37, 38, 39, 40, 41] rfl rfl (by decide) rfl (by decide) (by decide) rfl rfl rfl rfl rfl (Nat.le_of_ble_eq_true rfl) ⟨Nat.le_of_ble_eq_true rfl, Nat.le_of_ble_eq_true rfl⟩ ⟨Nat.le_of_ble_eq_true rfl, Nat.le_of_ble_eq_true rfl⟩ dX0_copy_52 (fun u1184 H locs hr1183 hP hD hS => ?_)
  obtain ⟨fx1185, rfl⟩ : ∃ z9, z9 = u1184 := ⟨_, rfl⟩
  have hP : va_P G.1 vwCl [(K, .inr (0, [.ref kpersons, .ref kpapers, .ref kstamps, .ref kversions, .ref klines, .ref ksteps, .ref ksayings, .ref kfindings, .ref kwarnings, .ref kquestions, .int 0, .int (-1), .int 3, .int 24])), (ksteps, .inr (8, [.int 960, .int 1, .ref kstepsc, .int 0])), (kstepsc, .inl (G.2.1, 960, .inl (fun _ => 0))), (ksayings, .inr (8, [.int 16, .int 8, .ref ksayingsc, .int 0])), (ksayingsc, .inl (G.2.1, 128, .inl (fun _ => 0))), (kfindings, .inr (8, [.int 12, .int 4, .ref kfindingsc, .int 0])), (kfindingsc, .inl (G.2.1, 48, .inl (fun _ => 0))), (kwarnings, .inr (8, [.int 16, .int 3, .ref kwarningsc, .int 0])), (kwarningsc, .inl (G.2.1, 48, .inl (fun _ => 0))), (kquestions, .inr (8, [.int 7, .int 2, .ref kquestionsc, .int 0])), (kquestionsc, .inl (G.2.1, 14, .inl (fun _ => 0))), (B, .inr (0, [.ref bpersons, .ref bpapers, .ref bstamps, .ref bversions, .ref blines, .ref bsteps, .ref bsayings, .ref bfindings, .ref bwarnings, .ref bquestions, .int 0, .int (-1), .int 3, .int 24])), (bsteps, .inr (8, [.int 960, .int 1, .ref bstepsc, .int 0])), (bstepsc, .inl (G.2.1, 960, .inl (fun _ => 0))), (bsayings, .inr (8, [.int 16, .int 8, .ref bsayingsc, .int 0])), (bsayingsc, .inl (G.2.1, 128, .inl (fun _ => 0))), (bfindings, .inr (8, [.int 12, .int 4, .ref bfindingsc, .int 0])), (bfindingsc, .inl (G.2.1, 48, .inl (fun _ => 0))), (bwarnings, .inr (8, [.int 16, .int 3, .ref bwarningsc, .int 0])), (bwarningsc, .inl (G.2.1, 48, .inl (fun _ => 0))), (bquestions, .inr (8, [.int 7, .int 2, .ref bquestionsc, .int 0])), (bquestionsc, .inl (G.2.1, 14, .inl (fun _ => 0))), (kpersons, .inr (8, [.int 10, .int 2, .ref kpersonsc, .int 0])), (kpersonsc, .inl (G.2.1, 20, .inl fx1173)), (bpersons, .inr (8, [.int 10, .int 2, .ref bpersonsc, .int 0])), (bpersonsc, .inl (G.2.1, 20, .inl (fun _ => 0))), (kpapers, .inr (8, [.int 12, .int 6, .ref kpapersc, .int 0])), (kpapersc, .inl (G.2.1, 72, .inl fx1176)), (bpapers, .inr (8, [.int 12, .int 6, .ref bpapersc, .int 0])), (bpapersc, .inl (G.2.1, 72, .inl (fun _ => 0))), (kstamps, .inr (8, [.int 24, .int 3, .ref kstampsc, .int 0])), (kstampsc, .inl (G.2.1, 72, .inl fx1179)), (bstamps, .inr (8, [.int 24, .int 3, .ref bstampsc, .int 0])), (bstampsc, .inl (G.2.1, 72, .inl (fun _ => 0))), (kversions, .inr (8, [.int 8, .int 3, .ref kversionsc, .int 0])), (kversionsc, .inl (G.2.1, 24, .inl fx1182)), (bversions, .inr (8, [.int 8, .int 3, .ref bversionsc, .int 0])), (bversionsc, .inl (G.2.1, 24, .inl (fun _ => 0))), (klines, .inr (8, [.int 72, .int 7, .ref klinesc, .int 0])), (klinesc, .inl (G.2.1, 504, .inl fx1185)), (blines, .inr (8, [.int 72, .int 7, .ref blinesc, .int 0])), (blinesc, .inl (G.2.1, 504, .inl (fun _ => 0)))] H := hP
  have hD : va_D A [(K, .inr (0, [.ref kpersons, .ref kpapers, .ref kstamps, .ref kversions, .ref klines, .ref ksteps, .ref ksayings, .ref kfindings, .ref kwarnings, .ref kquestions, .int 0, .int (-1), .int 3, .int 24])), (ksteps, .inr (8, [.int 960, .int 1, .ref kstepsc, .int 0])), (kstepsc, .inl (G.2.1, 960, .inl (fun _ => 0))), (ksayings, .inr (8, [.int 16, .int 8, .ref ksayingsc, .int 0])), (ksayingsc, .inl (G.2.1, 128, .inl (fun _ => 0))), (kfindings, .inr (8, [.int 12, .int 4, .ref kfindingsc, .int 0])), (kfindingsc, .inl (G.2.1, 48, .inl (fun _ => 0))), (kwarnings, .inr (8, [.int 16, .int 3, .ref kwarningsc, .int 0])), (kwarningsc, .inl (G.2.1, 48, .inl (fun _ => 0))), (kquestions, .inr (8, [.int 7, .int 2, .ref kquestionsc, .int 0])), (kquestionsc, .inl (G.2.1, 14, .inl (fun _ => 0))), (B, .inr (0, [.ref bpersons, .ref bpapers, .ref bstamps, .ref bversions, .ref blines, .ref bsteps, .ref bsayings, .ref bfindings, .ref bwarnings, .ref bquestions, .int 0, .int (-1), .int 3, .int 24])), (bsteps, .inr (8, [.int 960, .int 1, .ref bstepsc, .int 0])), (bstepsc, .inl (G.2.1, 960, .inl (fun _ => 0))), (bsayings, .inr (8, [.int 16, .int 8, .ref bsayingsc, .int 0])), (bsayingsc, .inl (G.2.1, 128, .inl (fun _ => 0))), (bfindings, .inr (8, [.int 12, .int 4, .ref bfindingsc, .int 0])), (bfindingsc, .inl (G.2.1, 48, .inl (fun _ => 0))), (bwarnings, .inr (8, [.int 16, .int 3, .ref bwarningsc, .int 0])), (bwarningsc, .inl (G.2.1, 48, .inl (fun _ => 0))), (bquestions, .inr (8, [.int 7, .int 2, .ref bquestionsc, .int 0])), (bquestionsc, .inl (G.2.1, 14, .inl (fun _ => 0))), (kpersons, .inr (8, [.int 10, .int 2, .ref kpersonsc, .int 0])), (kpersonsc, .inl (G.2.1, 20, .inl fx1173)), (bpersons, .inr (8, [.int 10, .int 2, .ref bpersonsc, .int 0])), (bpersonsc, .inl (G.2.1, 20, .inl (fun _ => 0))), (kpapers, .inr (8, [.int 12, .int 6, .ref kpapersc, .int 0])), (kpapersc, .inl (G.2.1, 72, .inl fx1176)), (bpapers, .inr (8, [.int 12, .int 6, .ref bpapersc, .int 0])), (bpapersc, .inl (G.2.1, 72, .inl (fun _ => 0))), (kstamps, .inr (8, [.int 24, .int 3, .ref kstampsc, .int 0])), (kstampsc, .inl (G.2.1, 72, .inl fx1179)), (bstamps, .inr (8, [.int 24, .int 3, .ref bstampsc, .int 0])), (bstampsc, .inl (G.2.1, 72, .inl (fun _ => 0))), (kversions, .inr (8, [.int 8, .int 3, .ref kversionsc, .int 0])), (kversionsc, .inl (G.2.1, 24, .inl fx1182)), (bversions, .inr (8, [.int 8, .int 3, .ref bversionsc, .int 0])), (bversionsc, .inl (G.2.1, 24, .inl (fun _ => 0))), (klines, .inr (8, [.int 72, .int 7, .ref klinesc, .int 0])), (klinesc, .inl (G.2.1, 504, .inl fx1185)), (blines, .inr (8, [.int 72, .int 7, .ref blinesc, .int 0])), (blinesc, .inl (G.2.1, 504, .inl (fun _ => 0)))] := hD
  refine lv_aload_n hx hb dX0_copy_55 rfl (lv_at hl 0 rfl) ?_
  refine gf_X0_32 hC rfl hK hP 0 rfl rfl dX0_copy_56 ?_
  refine lv_aload_n hx hb dX0_copy_59 rfl (lv_at hl 1 rfl) ?_
  refine gf_X0_32 hC rfl hK hP 11 rfl rfl dX0_copy_60 ?_
  refine vV (wr := [(K, .inr (0, [.ref kpersons, .ref kpapers, .ref kstamps, .ref kversions, .ref klines, .ref ksteps, .ref ksayings, .ref kfindings, .ref kwarnings, .ref kquestions, .int 0, .int (-1), .int 3, .int 24])), (ksayings, .inr (8, [.int 16, .int 8, .ref ksayingsc, .int 0])), (ksayingsc, .inl (G.2.1, 128, .inl (fun _ => 0))), (kfindings, .inr (8, [.int 12, .int 4, .ref kfindingsc, .int 0])), (kfindingsc, .inl (G.2.1, 48, .inl (fun _ => 0))), (kwarnings, .inr (8, [.int 16, .int 3, .ref kwarningsc, .int 0])), (kwarningsc, .inl (G.2.1, 48, .inl (fun _ => 0))), (kquestions, .inr (8, [.int 7, .int 2, .ref kquestionsc, .int 0])), (kquestionsc, .inl (G.2.1, 14, .inl (fun _ => 0))), (B, .inr (0, [.ref bpersons, .ref bpapers, .ref bstamps, .ref bversions, .ref blines, .ref bsteps, .ref bsayings, .ref bfindings, .ref bwarnings, .ref bquestions, .int 0, .int (-1), .int 3, .int 24])), (bsayings, .inr (8, [.int 16, .int 8, .ref bsayingsc, .int 0])), (bsayingsc, .inl (G.2.1, 128, .inl (fun _ => 0))), (bfindings, .inr (8, [.int 12, .int 4, .ref bfindingsc, .int 0])), (bfindingsc, .inl (G.2.1, 48, .inl (fun _ => 0))), (bwarnings, .inr (8, [.int 16, .int 3, .ref bwarningsc, .int 0])), (bwarningsc, .inl (G.2.1, 48, .inl (fun _ => 0))), (bquestions, .inr (8, [.int 7, .int 2, .ref bquestionsc, .int 0])), (bquestionsc, .inl (G.2.1, 14, .inl (fun _ => 0))), (kpersons, .inr (8, [.int 10, .int 2, .ref kpersonsc, .int 0])), (kpersonsc, .inl (G.2.1, 20, .inl fx1173)), (bpersons, .inr (8, [.int 10, .int 2, .ref bpersonsc, .int 0])), (bpersonsc, .inl (G.2.1, 20, .inl (fun _ => 0))), (kpapers, .inr (8, [.int 12, .int 6, .ref kpapersc, .int 0])), (kpapersc, .inl (G.2.1, 72, .inl fx1176)), (bpapers, .inr (8, [.int 12, .int 6, .ref bpapersc, .int 0])), (bpapersc, .inl (G.2.1, 72, .inl (fun _ => 0))), (kstamps, .inr (8, [.int 24, .int 3, .ref kstampsc, .int 0])), (kstampsc, .inl (G.2.1, 72, .inl fx1179)), (bstamps, .inr (8, [.int 24, .int 3, .ref bstampsc, .int 0])), (bstampsc, .inl (G.2.1, 72, .inl (fun _ => 0))), (kversions, .inr (8, [.int 8, .int 3, .ref kversionsc, .int 0])), (kversionsc, .inl (G.2.1, 24, .inl fx1182)), (bversions, .inr (8, [.int 8, .int 3, .ref bversionsc, .int 0])), (bversionsc, .inl (G.2.1, 24, .inl (fun _ => 0))), (klines, .inr (8, [.int 72, .int 7, .ref klinesc, .int 0])), (klinesc, .inl (G.2.1, 504, .inl fx1185)), (blines, .inr (8, [.int 72, .int 7, .ref blinesc, .int 0])), (blinesc, .inl (G.2.1, 504, .inl (fun _ => 0)))]) hC hK hl hP hD hS hA (c_T_copy_960_1 l G ksteps bsteps kstepsc (fun _ => 0) bstepsc (fun _ => 0)) si_X0_60 [1, 2, 12, 13] [0, 3, 4, 5, 6, 7, 8, 9, 10, 11, 14, 15, 16, 17, 18, 19, 20, 21, 22, 23, 24, 25, 26, 27, 28, 29, 30, 31, 32, 33, 34, 35, 36, 37, 38, 39, 40, 41] rfl rfl (by decide) rfl (by decide) (by decide) rfl rfl rfl rfl rfl (Nat.le_of_ble_eq_true rfl) ⟨Nat.le_of_ble_eq_true rfl, Nat.le_of_ble_eq_true rfl⟩ ⟨Nat.le_of_ble_eq_true rfl, Nat.le_of_ble_eq_true rfl⟩ dX0_copy_63 (fun u1187 H locs hr1186 hP hD hS => ?_)
  obtain ⟨fx1188, rfl⟩ : ∃ z9, z9 = u1187 := ⟨_, rfl⟩
  have hP : va_P G.1 vwCl [(K, .inr (0, [.ref kpersons, .ref kpapers, .ref kstamps, .ref kversions, .ref klines, .ref ksteps, .ref ksayings, .ref kfindings, .ref kwarnings, .ref kquestions, .int 0, .int (-1), .int 3, .int 24])), (ksayings, .inr (8, [.int 16, .int 8, .ref ksayingsc, .int 0])), (ksayingsc, .inl (G.2.1, 128, .inl (fun _ => 0))), (kfindings, .inr (8, [.int 12, .int 4, .ref kfindingsc, .int 0])), (kfindingsc, .inl (G.2.1, 48, .inl (fun _ => 0))), (kwarnings, .inr (8, [.int 16, .int 3, .ref kwarningsc, .int 0])), (kwarningsc, .inl (G.2.1, 48, .inl (fun _ => 0))), (kquestions, .inr (8, [.int 7, .int 2, .ref kquestionsc, .int 0])), (kquestionsc, .inl (G.2.1, 14, .inl (fun _ => 0))), (B, .inr (0, [.ref bpersons, .ref bpapers, .ref bstamps, .ref bversions, .ref blines, .ref bsteps, .ref bsayings, .ref bfindings, .ref bwarnings, .ref bquestions, .int 0, .int (-1), .int 3, .int 24])), (bsayings, .inr (8, [.int 16, .int 8, .ref bsayingsc, .int 0])), (bsayingsc, .inl (G.2.1, 128, .inl (fun _ => 0))), (bfindings, .inr (8, [.int 12, .int 4, .ref bfindingsc, .int 0])), (bfindingsc, .inl (G.2.1, 48, .inl (fun _ => 0))), (bwarnings, .inr (8, [.int 16, .int 3, .ref bwarningsc, .int 0])), (bwarningsc, .inl (G.2.1, 48, .inl (fun _ => 0))), (bquestions, .inr (8, [.int 7, .int 2, .ref bquestionsc, .int 0])), (bquestionsc, .inl (G.2.1, 14, .inl (fun _ => 0))), (kpersons, .inr (8, [.int 10, .int 2, .ref kpersonsc, .int 0])), (kpersonsc, .inl (G.2.1, 20, .inl fx1173)), (bpersons, .inr (8, [.int 10, .int 2, .ref bpersonsc, .int 0])), (bpersonsc, .inl (G.2.1, 20, .inl (fun _ => 0))), (kpapers, .inr (8, [.int 12, .int 6, .ref kpapersc, .int 0])), (kpapersc, .inl (G.2.1, 72, .inl fx1176)), (bpapers, .inr (8, [.int 12, .int 6, .ref bpapersc, .int 0])), (bpapersc, .inl (G.2.1, 72, .inl (fun _ => 0))), (kstamps, .inr (8, [.int 24, .int 3, .ref kstampsc, .int 0])), (kstampsc, .inl (G.2.1, 72, .inl fx1179)), (bstamps, .inr (8, [.int 24, .int 3, .ref bstampsc, .int 0])), (bstampsc, .inl (G.2.1, 72, .inl (fun _ => 0))), (kversions, .inr (8, [.int 8, .int 3, .ref kversionsc, .int 0])), (kversionsc, .inl (G.2.1, 24, .inl fx1182)), (bversions, .inr (8, [.int 8, .int 3, .ref bversionsc, .int 0])), (bversionsc, .inl (G.2.1, 24, .inl (fun _ => 0))), (klines, .inr (8, [.int 72, .int 7, .ref klinesc, .int 0])), (klinesc, .inl (G.2.1, 504, .inl fx1185)), (blines, .inr (8, [.int 72, .int 7, .ref blinesc, .int 0])), (blinesc, .inl (G.2.1, 504, .inl (fun _ => 0))), (ksteps, .inr (8, [.int 960, .int 1, .ref kstepsc, .int 0])), (kstepsc, .inl (G.2.1, 960, .inl fx1188)), (bsteps, .inr (8, [.int 960, .int 1, .ref bstepsc, .int 0])), (bstepsc, .inl (G.2.1, 960, .inl (fun _ => 0)))] H := hP
  have hD : va_D A [(K, .inr (0, [.ref kpersons, .ref kpapers, .ref kstamps, .ref kversions, .ref klines, .ref ksteps, .ref ksayings, .ref kfindings, .ref kwarnings, .ref kquestions, .int 0, .int (-1), .int 3, .int 24])), (ksayings, .inr (8, [.int 16, .int 8, .ref ksayingsc, .int 0])), (ksayingsc, .inl (G.2.1, 128, .inl (fun _ => 0))), (kfindings, .inr (8, [.int 12, .int 4, .ref kfindingsc, .int 0])), (kfindingsc, .inl (G.2.1, 48, .inl (fun _ => 0))), (kwarnings, .inr (8, [.int 16, .int 3, .ref kwarningsc, .int 0])), (kwarningsc, .inl (G.2.1, 48, .inl (fun _ => 0))), (kquestions, .inr (8, [.int 7, .int 2, .ref kquestionsc, .int 0])), (kquestionsc, .inl (G.2.1, 14, .inl (fun _ => 0))), (B, .inr (0, [.ref bpersons, .ref bpapers, .ref bstamps, .ref bversions, .ref blines, .ref bsteps, .ref bsayings, .ref bfindings, .ref bwarnings, .ref bquestions, .int 0, .int (-1), .int 3, .int 24])), (bsayings, .inr (8, [.int 16, .int 8, .ref bsayingsc, .int 0])), (bsayingsc, .inl (G.2.1, 128, .inl (fun _ => 0))), (bfindings, .inr (8, [.int 12, .int 4, .ref bfindingsc, .int 0])), (bfindingsc, .inl (G.2.1, 48, .inl (fun _ => 0))), (bwarnings, .inr (8, [.int 16, .int 3, .ref bwarningsc, .int 0])), (bwarningsc, .inl (G.2.1, 48, .inl (fun _ => 0))), (bquestions, .inr (8, [.int 7, .int 2, .ref bquestionsc, .int 0])), (bquestionsc, .inl (G.2.1, 14, .inl (fun _ => 0))), (kpersons, .inr (8, [.int 10, .int 2, .ref kpersonsc, .int 0])), (kpersonsc, .inl (G.2.1, 20, .inl fx1173)), (bpersons, .inr (8, [.int 10, .int 2, .ref bpersonsc, .int 0])), (bpersonsc, .inl (G.2.1, 20, .inl (fun _ => 0))), (kpapers, .inr (8, [.int 12, .int 6, .ref kpapersc, .int 0])), (kpapersc, .inl (G.2.1, 72, .inl fx1176)), (bpapers, .inr (8, [.int 12, .int 6, .ref bpapersc, .int 0])), (bpapersc, .inl (G.2.1, 72, .inl (fun _ => 0))), (kstamps, .inr (8, [.int 24, .int 3, .ref kstampsc, .int 0])), (kstampsc, .inl (G.2.1, 72, .inl fx1179)), (bstamps, .inr (8, [.int 24, .int 3, .ref bstampsc, .int 0])), (bstampsc, .inl (G.2.1, 72, .inl (fun _ => 0))), (kversions, .inr (8, [.int 8, .int 3, .ref kversionsc, .int 0])), (kversionsc, .inl (G.2.1, 24, .inl fx1182)), (bversions, .inr (8, [.int 8, .int 3, .ref bversionsc, .int 0])), (bversionsc, .inl (G.2.1, 24, .inl (fun _ => 0))), (klines, .inr (8, [.int 72, .int 7, .ref klinesc, .int 0])), (klinesc, .inl (G.2.1, 504, .inl fx1185)), (blines, .inr (8, [.int 72, .int 7, .ref blinesc, .int 0])), (blinesc, .inl (G.2.1, 504, .inl (fun _ => 0))), (ksteps, .inr (8, [.int 960, .int 1, .ref kstepsc, .int 0])), (kstepsc, .inl (G.2.1, 960, .inl fx1188)), (bsteps, .inr (8, [.int 960, .int 1, .ref bstepsc, .int 0])), (bstepsc, .inl (G.2.1, 960, .inl (fun _ => 0)))] := hD
  refine lv_aload_n hx hb dX0_copy_66 rfl (lv_at hl 0 rfl) ?_
  refine gf_X0_35 hC rfl hK hP 0 rfl rfl dX0_copy_67 ?_
  refine lv_aload_n hx hb dX0_copy_70 rfl (lv_at hl 1 rfl) ?_
  refine gf_X0_35 hC rfl hK hP 9 rfl rfl dX0_copy_71 ?_
  refine vV (wr := [(K, .inr (0, [.ref kpersons, .ref kpapers, .ref kstamps, .ref kversions, .ref klines, .ref ksteps, .ref ksayings, .ref kfindings, .ref kwarnings, .ref kquestions, .int 0, .int (-1), .int 3, .int 24])), (kfindings, .inr (8, [.int 12, .int 4, .ref kfindingsc, .int 0])), (kfindingsc, .inl (G.2.1, 48, .inl (fun _ => 0))), (kwarnings, .inr (8, [.int 16, .int 3, .ref kwarningsc, .int 0])), (kwarningsc, .inl (G.2.1, 48, .inl (fun _ => 0))), (kquestions, .inr (8, [.int 7, .int 2, .ref kquestionsc, .int 0])), (kquestionsc, .inl (G.2.1, 14, .inl (fun _ => 0))), (B, .inr (0, [.ref bpersons, .ref bpapers, .ref bstamps, .ref bversions, .ref blines, .ref bsteps, .ref bsayings, .ref bfindings, .ref bwarnings, .ref bquestions, .int 0, .int (-1), .int 3, .int 24])), (bfindings, .inr (8, [.int 12, .int 4, .ref bfindingsc, .int 0])), (bfindingsc, .inl (G.2.1, 48, .inl (fun _ => 0))), (bwarnings, .inr (8, [.int 16, .int 3, .ref bwarningsc, .int 0])), (bwarningsc, .inl (G.2.1, 48, .inl (fun _ => 0))), (bquestions, .inr (8, [.int 7, .int 2, .ref bquestionsc, .int 0])), (bquestionsc, .inl (G.2.1, 14, .inl (fun _ => 0))), (kpersons, .inr (8, [.int 10, .int 2, .ref kpersonsc, .int 0])), (kpersonsc, .inl (G.2.1, 20, .inl fx1173)), (bpersons, .inr (8, [.int 10, .int 2, .ref bpersonsc, .int 0])), (bpersonsc, .inl (G.2.1, 20, .inl (fun _ => 0))), (kpapers, .inr (8, [.int 12, .int 6, .ref kpapersc, .int 0])), (kpapersc, .inl (G.2.1, 72, .inl fx1176)), (bpapers, .inr (8, [.int 12, .int 6, .ref bpapersc, .int 0])), (bpapersc, .inl (G.2.1, 72, .inl (fun _ => 0))), (kstamps, .inr (8, [.int 24, .int 3, .ref kstampsc, .int 0])), (kstampsc, .inl (G.2.1, 72, .inl fx1179)), (bstamps, .inr (8, [.int 24, .int 3, .ref bstampsc, .int 0])), (bstampsc, .inl (G.2.1, 72, .inl (fun _ => 0))), (kversions, .inr (8, [.int 8, .int 3, .ref kversionsc, .int 0])), (kversionsc, .inl (G.2.1, 24, .inl fx1182)), (bversions, .inr (8, [.int 8, .int 3, .ref bversionsc, .int 0])), (bversionsc, .inl (G.2.1, 24, .inl (fun _ => 0))), (klines, .inr (8, [.int 72, .int 7, .ref klinesc, .int 0])), (klinesc, .inl (G.2.1, 504, .inl fx1185)), (blines, .inr (8, [.int 72, .int 7, .ref blinesc, .int 0])), (blinesc, .inl (G.2.1, 504, .inl (fun _ => 0))), (ksteps, .inr (8, [.int 960, .int 1, .ref kstepsc, .int 0])), (kstepsc, .inl (G.2.1, 960, .inl fx1188)), (bsteps, .inr (8, [.int 960, .int 1, .ref bstepsc, .int 0])), (bstepsc, .inl (G.2.1, 960, .inl (fun _ => 0)))]) hC hK hl hP hD hS hA (c_T_copy_16_8 l G ksayings bsayings ksayingsc (fun _ => 0) bsayingsc (fun _ => 0)) si_X0_60 [1, 2, 10, 11] [0, 3, 4, 5, 6, 7, 8, 9, 12, 13, 14, 15, 16, 17, 18, 19, 20, 21, 22, 23, 24, 25, 26, 27, 28, 29, 30, 31, 32, 33, 34, 35, 36, 37, 38, 39, 40, 41] rfl rfl (by decide) rfl (by decide) (by decide) rfl rfl rfl rfl rfl (Nat.le_of_ble_eq_true rfl) ⟨Nat.le_of_ble_eq_true rfl, Nat.le_of_ble_eq_true rfl⟩ ⟨Nat.le_of_ble_eq_true rfl, Nat.le_of_ble_eq_true rfl⟩ dX0_copy_74 (fun u1190 H locs hr1189 hP hD hS => ?_)
  obtain ⟨fx1191, rfl⟩ : ∃ z9, z9 = u1190 := ⟨_, rfl⟩
  have hP : va_P G.1 vwCl [(K, .inr (0, [.ref kpersons, .ref kpapers, .ref kstamps, .ref kversions, .ref klines, .ref ksteps, .ref ksayings, .ref kfindings, .ref kwarnings, .ref kquestions, .int 0, .int (-1), .int 3, .int 24])), (kfindings, .inr (8, [.int 12, .int 4, .ref kfindingsc, .int 0])), (kfindingsc, .inl (G.2.1, 48, .inl (fun _ => 0))), (kwarnings, .inr (8, [.int 16, .int 3, .ref kwarningsc, .int 0])), (kwarningsc, .inl (G.2.1, 48, .inl (fun _ => 0))), (kquestions, .inr (8, [.int 7, .int 2, .ref kquestionsc, .int 0])), (kquestionsc, .inl (G.2.1, 14, .inl (fun _ => 0))), (B, .inr (0, [.ref bpersons, .ref bpapers, .ref bstamps, .ref bversions, .ref blines, .ref bsteps, .ref bsayings, .ref bfindings, .ref bwarnings, .ref bquestions, .int 0, .int (-1), .int 3, .int 24])), (bfindings, .inr (8, [.int 12, .int 4, .ref bfindingsc, .int 0])), (bfindingsc, .inl (G.2.1, 48, .inl (fun _ => 0))), (bwarnings, .inr (8, [.int 16, .int 3, .ref bwarningsc, .int 0])), (bwarningsc, .inl (G.2.1, 48, .inl (fun _ => 0))), (bquestions, .inr (8, [.int 7, .int 2, .ref bquestionsc, .int 0])), (bquestionsc, .inl (G.2.1, 14, .inl (fun _ => 0))), (kpersons, .inr (8, [.int 10, .int 2, .ref kpersonsc, .int 0])), (kpersonsc, .inl (G.2.1, 20, .inl fx1173)), (bpersons, .inr (8, [.int 10, .int 2, .ref bpersonsc, .int 0])), (bpersonsc, .inl (G.2.1, 20, .inl (fun _ => 0))), (kpapers, .inr (8, [.int 12, .int 6, .ref kpapersc, .int 0])), (kpapersc, .inl (G.2.1, 72, .inl fx1176)), (bpapers, .inr (8, [.int 12, .int 6, .ref bpapersc, .int 0])), (bpapersc, .inl (G.2.1, 72, .inl (fun _ => 0))), (kstamps, .inr (8, [.int 24, .int 3, .ref kstampsc, .int 0])), (kstampsc, .inl (G.2.1, 72, .inl fx1179)), (bstamps, .inr (8, [.int 24, .int 3, .ref bstampsc, .int 0])), (bstampsc, .inl (G.2.1, 72, .inl (fun _ => 0))), (kversions, .inr (8, [.int 8, .int 3, .ref kversionsc, .int 0])), (kversionsc, .inl (G.2.1, 24, .inl fx1182)), (bversions, .inr (8, [.int 8, .int 3, .ref bversionsc, .int 0])), (bversionsc, .inl (G.2.1, 24, .inl (fun _ => 0))), (klines, .inr (8, [.int 72, .int 7, .ref klinesc, .int 0])), (klinesc, .inl (G.2.1, 504, .inl fx1185)), (blines, .inr (8, [.int 72, .int 7, .ref blinesc, .int 0])), (blinesc, .inl (G.2.1, 504, .inl (fun _ => 0))), (ksteps, .inr (8, [.int 960, .int 1, .ref kstepsc, .int 0])), (kstepsc, .inl (G.2.1, 960, .inl fx1188)), (bsteps, .inr (8, [.int 960, .int 1, .ref bstepsc, .int 0])), (bstepsc, .inl (G.2.1, 960, .inl (fun _ => 0))), (ksayings, .inr (8, [.int 16, .int 8, .ref ksayingsc, .int 0])), (ksayingsc, .inl (G.2.1, 128, .inl fx1191)), (bsayings, .inr (8, [.int 16, .int 8, .ref bsayingsc, .int 0])), (bsayingsc, .inl (G.2.1, 128, .inl (fun _ => 0)))] H := hP
  have hD : va_D A [(K, .inr (0, [.ref kpersons, .ref kpapers, .ref kstamps, .ref kversions, .ref klines, .ref ksteps, .ref ksayings, .ref kfindings, .ref kwarnings, .ref kquestions, .int 0, .int (-1), .int 3, .int 24])), (kfindings, .inr (8, [.int 12, .int 4, .ref kfindingsc, .int 0])), (kfindingsc, .inl (G.2.1, 48, .inl (fun _ => 0))), (kwarnings, .inr (8, [.int 16, .int 3, .ref kwarningsc, .int 0])), (kwarningsc, .inl (G.2.1, 48, .inl (fun _ => 0))), (kquestions, .inr (8, [.int 7, .int 2, .ref kquestionsc, .int 0])), (kquestionsc, .inl (G.2.1, 14, .inl (fun _ => 0))), (B, .inr (0, [.ref bpersons, .ref bpapers, .ref bstamps, .ref bversions, .ref blines, .ref bsteps, .ref bsayings, .ref bfindings, .ref bwarnings, .ref bquestions, .int 0, .int (-1), .int 3, .int 24])), (bfindings, .inr (8, [.int 12, .int 4, .ref bfindingsc, .int 0])), (bfindingsc, .inl (G.2.1, 48, .inl (fun _ => 0))), (bwarnings, .inr (8, [.int 16, .int 3, .ref bwarningsc, .int 0])), (bwarningsc, .inl (G.2.1, 48, .inl (fun _ => 0))), (bquestions, .inr (8, [.int 7, .int 2, .ref bquestionsc, .int 0])), (bquestionsc, .inl (G.2.1, 14, .inl (fun _ => 0))), (kpersons, .inr (8, [.int 10, .int 2, .ref kpersonsc, .int 0])), (kpersonsc, .inl (G.2.1, 20, .inl fx1173)), (bpersons, .inr (8, [.int 10, .int 2, .ref bpersonsc, .int 0])), (bpersonsc, .inl (G.2.1, 20, .inl (fun _ => 0))), (kpapers, .inr (8, [.int 12, .int 6, .ref kpapersc, .int 0])), (kpapersc, .inl (G.2.1, 72, .inl fx1176)), (bpapers, .inr (8, [.int 12, .int 6, .ref bpapersc, .int 0])), (bpapersc, .inl (G.2.1, 72, .inl (fun _ => 0))), (kstamps, .inr (8, [.int 24, .int 3, .ref kstampsc, .int 0])), (kstampsc, .inl (G.2.1, 72, .inl fx1179)), (bstamps, .inr (8, [.int 24, .int 3, .ref bstampsc, .int 0])), (bstampsc, .inl (G.2.1, 72, .inl (fun _ => 0))), (kversions, .inr (8, [.int 8, .int 3, .ref kversionsc, .int 0])), (kversionsc, .inl (G.2.1, 24, .inl fx1182)), (bversions, .inr (8, [.int 8, .int 3, .ref bversionsc, .int 0])), (bversionsc, .inl (G.2.1, 24, .inl (fun _ => 0))), (klines, .inr (8, [.int 72, .int 7, .ref klinesc, .int 0])), (klinesc, .inl (G.2.1, 504, .inl fx1185)), (blines, .inr (8, [.int 72, .int 7, .ref blinesc, .int 0])), (blinesc, .inl (G.2.1, 504, .inl (fun _ => 0))), (ksteps, .inr (8, [.int 960, .int 1, .ref kstepsc, .int 0])), (kstepsc, .inl (G.2.1, 960, .inl fx1188)), (bsteps, .inr (8, [.int 960, .int 1, .ref bstepsc, .int 0])), (bstepsc, .inl (G.2.1, 960, .inl (fun _ => 0))), (ksayings, .inr (8, [.int 16, .int 8, .ref ksayingsc, .int 0])), (ksayingsc, .inl (G.2.1, 128, .inl fx1191)), (bsayings, .inr (8, [.int 16, .int 8, .ref bsayingsc, .int 0])), (bsayingsc, .inl (G.2.1, 128, .inl (fun _ => 0)))] := hD
  refine lv_aload_n hx hb dX0_copy_77 rfl (lv_at hl 0 rfl) ?_
  refine gf_X0_38 hC rfl hK hP 0 rfl rfl dX0_copy_78 ?_
  refine lv_aload_n hx hb dX0_copy_81 rfl (lv_at hl 1 rfl) ?_
  refine gf_X0_38 hC rfl hK hP 7 rfl rfl dX0_copy_82 ?_
  refine vV (wr := [(K, .inr (0, [.ref kpersons, .ref kpapers, .ref kstamps, .ref kversions, .ref klines, .ref ksteps, .ref ksayings, .ref kfindings, .ref kwarnings, .ref kquestions, .int 0, .int (-1), .int 3, .int 24])), (kwarnings, .inr (8, [.int 16, .int 3, .ref kwarningsc, .int 0])), (kwarningsc, .inl (G.2.1, 48, .inl (fun _ => 0))), (kquestions, .inr (8, [.int 7, .int 2, .ref kquestionsc, .int 0])), (kquestionsc, .inl (G.2.1, 14, .inl (fun _ => 0))), (B, .inr (0, [.ref bpersons, .ref bpapers, .ref bstamps, .ref bversions, .ref blines, .ref bsteps, .ref bsayings, .ref bfindings, .ref bwarnings, .ref bquestions, .int 0, .int (-1), .int 3, .int 24])), (bwarnings, .inr (8, [.int 16, .int 3, .ref bwarningsc, .int 0])), (bwarningsc, .inl (G.2.1, 48, .inl (fun _ => 0))), (bquestions, .inr (8, [.int 7, .int 2, .ref bquestionsc, .int 0])), (bquestionsc, .inl (G.2.1, 14, .inl (fun _ => 0))), (kpersons, .inr (8, [.int 10, .int 2, .ref kpersonsc, .int 0])), (kpersonsc, .inl (G.2.1, 20, .inl fx1173)), (bpersons, .inr (8, [.int 10, .int 2, .ref bpersonsc, .int 0])), (bpersonsc, .inl (G.2.1, 20, .inl (fun _ => 0))), (kpapers, .inr (8, [.int 12, .int 6, .ref kpapersc, .int 0])), (kpapersc, .inl (G.2.1, 72, .inl fx1176)), (bpapers, .inr (8, [.int 12, .int 6, .ref bpapersc, .int 0])), (bpapersc, .inl (G.2.1, 72, .inl (fun _ => 0))), (kstamps, .inr (8, [.int 24, .int 3, .ref kstampsc, .int 0])), (kstampsc, .inl (G.2.1, 72, .inl fx1179)), (bstamps, .inr (8, [.int 24, .int 3, .ref bstampsc, .int 0])), (bstampsc, .inl (G.2.1, 72, .inl (fun _ => 0))), (kversions, .inr (8, [.int 8, .int 3, .ref kversionsc, .int 0])), (kversionsc, .inl (G.2.1, 24, .inl fx1182)), (bversions, .inr (8, [.int 8, .int 3, .ref bversionsc, .int 0])), (bversionsc, .inl (G.2.1, 24, .inl (fun _ => 0))), (klines, .inr (8, [.int 72, .int 7, .ref klinesc, .int 0])), (klinesc, .inl (G.2.1, 504, .inl fx1185)), (blines, .inr (8, [.int 72, .int 7, .ref blinesc, .int 0])), (blinesc, .inl (G.2.1, 504, .inl (fun _ => 0))), (ksteps, .inr (8, [.int 960, .int 1, .ref kstepsc, .int 0])), (kstepsc, .inl (G.2.1, 960, .inl fx1188)), (bsteps, .inr (8, [.int 960, .int 1, .ref bstepsc, .int 0])), (bstepsc, .inl (G.2.1, 960, .inl (fun _ => 0))), (ksayings, .inr (8, [.int 16, .int 8, .ref ksayingsc, .int 0])), (ksayingsc, .inl (G.2.1, 128, .inl fx1191)), (bsayings, .inr (8, [.int 16, .int 8, .ref bsayingsc, .int 0])), (bsayingsc, .inl (G.2.1, 128, .inl (fun _ => 0)))]) hC hK hl hP hD hS hA (c_T_copy_12_4 l G kfindings bfindings kfindingsc (fun _ => 0) bfindingsc (fun _ => 0)) si_X0_60 [1, 2, 8, 9] [0, 3, 4, 5, 6, 7, 10, 11, 12, 13, 14, 15, 16, 17, 18, 19, 20, 21, 22, 23, 24, 25, 26, 27, 28, 29, 30, 31, 32, 33, 34, 35, 36, 37, 38, 39, 40, 41] rfl rfl (by decide) rfl (by decide) (by decide) rfl rfl rfl rfl rfl (Nat.le_of_ble_eq_true rfl) ⟨Nat.le_of_ble_eq_true rfl, Nat.le_of_ble_eq_true rfl⟩ ⟨Nat.le_of_ble_eq_true rfl, Nat.le_of_ble_eq_true rfl⟩ dX0_copy_85 (fun u1193 H locs hr1192 hP hD hS => ?_)
  obtain ⟨fx1194, rfl⟩ : ∃ z9, z9 = u1193 := ⟨_, rfl⟩
  have hP : va_P G.1 vwCl [(K, .inr (0, [.ref kpersons, .ref kpapers, .ref kstamps, .ref kversions, .ref klines, .ref ksteps, .ref ksayings, .ref kfindings, .ref kwarnings, .ref kquestions, .int 0, .int (-1), .int 3, .int 24])), (kwarnings, .inr (8, [.int 16, .int 3, .ref kwarningsc, .int 0])), (kwarningsc, .inl (G.2.1, 48, .inl (fun _ => 0))), (kquestions, .inr (8, [.int 7, .int 2, .ref kquestionsc, .int 0])), (kquestionsc, .inl (G.2.1, 14, .inl (fun _ => 0))), (B, .inr (0, [.ref bpersons, .ref bpapers, .ref bstamps, .ref bversions, .ref blines, .ref bsteps, .ref bsayings, .ref bfindings, .ref bwarnings, .ref bquestions, .int 0, .int (-1), .int 3, .int 24])), (bwarnings, .inr (8, [.int 16, .int 3, .ref bwarningsc, .int 0])), (bwarningsc, .inl (G.2.1, 48, .inl (fun _ => 0))), (bquestions, .inr (8, [.int 7, .int 2, .ref bquestionsc, .int 0])), (bquestionsc, .inl (G.2.1, 14, .inl (fun _ => 0))), (kpersons, .inr (8, [.int 10, .int 2, .ref kpersonsc, .int 0])), (kpersonsc, .inl (G.2.1, 20, .inl fx1173)), (bpersons, .inr (8, [.int 10, .int 2, .ref bpersonsc, .int 0])), (bpersonsc, .inl (G.2.1, 20, .inl (fun _ => 0))), (kpapers, .inr (8, [.int 12, .int 6, .ref kpapersc, .int 0])), (kpapersc, .inl (G.2.1, 72, .inl fx1176)), (bpapers, .inr (8, [.int 12, .int 6, .ref bpapersc, .int 0])), (bpapersc, .inl (G.2.1, 72, .inl (fun _ => 0))), (kstamps, .inr (8, [.int 24, .int 3, .ref kstampsc, .int 0])), (kstampsc, .inl (G.2.1, 72, .inl fx1179)), (bstamps, .inr (8, [.int 24, .int 3, .ref bstampsc, .int 0])), (bstampsc, .inl (G.2.1, 72, .inl (fun _ => 0))), (kversions, .inr (8, [.int 8, .int 3, .ref kversionsc, .int 0])), (kversionsc, .inl (G.2.1, 24, .inl fx1182)), (bversions, .inr (8, [.int 8, .int 3, .ref bversionsc, .int 0])), (bversionsc, .inl (G.2.1, 24, .inl (fun _ => 0))), (klines, .inr (8, [.int 72, .int 7, .ref klinesc, .int 0])), (klinesc, .inl (G.2.1, 504, .inl fx1185)), (blines, .inr (8, [.int 72, .int 7, .ref blinesc, .int 0])), (blinesc, .inl (G.2.1, 504, .inl (fun _ => 0))), (ksteps, .inr (8, [.int 960, .int 1, .ref kstepsc, .int 0])), (kstepsc, .inl (G.2.1, 960, .inl fx1188)), (bsteps, .inr (8, [.int 960, .int 1, .ref bstepsc, .int 0])), (bstepsc, .inl (G.2.1, 960, .inl (fun _ => 0))), (ksayings, .inr (8, [.int 16, .int 8, .ref ksayingsc, .int 0])), (ksayingsc, .inl (G.2.1, 128, .inl fx1191)), (bsayings, .inr (8, [.int 16, .int 8, .ref bsayingsc, .int 0])), (bsayingsc, .inl (G.2.1, 128, .inl (fun _ => 0))), (kfindings, .inr (8, [.int 12, .int 4, .ref kfindingsc, .int 0])), (kfindingsc, .inl (G.2.1, 48, .inl fx1194)), (bfindings, .inr (8, [.int 12, .int 4, .ref bfindingsc, .int 0])), (bfindingsc, .inl (G.2.1, 48, .inl (fun _ => 0)))] H := hP
  have hD : va_D A [(K, .inr (0, [.ref kpersons, .ref kpapers, .ref kstamps, .ref kversions, .ref klines, .ref ksteps, .ref ksayings, .ref kfindings, .ref kwarnings, .ref kquestions, .int 0, .int (-1), .int 3, .int 24])), (kwarnings, .inr (8, [.int 16, .int 3, .ref kwarningsc, .int 0])), (kwarningsc, .inl (G.2.1, 48, .inl (fun _ => 0))), (kquestions, .inr (8, [.int 7, .int 2, .ref kquestionsc, .int 0])), (kquestionsc, .inl (G.2.1, 14, .inl (fun _ => 0))), (B, .inr (0, [.ref bpersons, .ref bpapers, .ref bstamps, .ref bversions, .ref blines, .ref bsteps, .ref bsayings, .ref bfindings, .ref bwarnings, .ref bquestions, .int 0, .int (-1), .int 3, .int 24])), (bwarnings, .inr (8, [.int 16, .int 3, .ref bwarningsc, .int 0])), (bwarningsc, .inl (G.2.1, 48, .inl (fun _ => 0))), (bquestions, .inr (8, [.int 7, .int 2, .ref bquestionsc, .int 0])), (bquestionsc, .inl (G.2.1, 14, .inl (fun _ => 0))), (kpersons, .inr (8, [.int 10, .int 2, .ref kpersonsc, .int 0])), (kpersonsc, .inl (G.2.1, 20, .inl fx1173)), (bpersons, .inr (8, [.int 10, .int 2, .ref bpersonsc, .int 0])), (bpersonsc, .inl (G.2.1, 20, .inl (fun _ => 0))), (kpapers, .inr (8, [.int 12, .int 6, .ref kpapersc, .int 0])), (kpapersc, .inl (G.2.1, 72, .inl fx1176)), (bpapers, .inr (8, [.int 12, .int 6, .ref bpapersc, .int 0])), (bpapersc, .inl (G.2.1, 72, .inl (fun _ => 0))), (kstamps, .inr (8, [.int 24, .int 3, .ref kstampsc, .int 0])), (kstampsc, .inl (G.2.1, 72, .inl fx1179)), (bstamps, .inr (8, [.int 24, .int 3, .ref bstampsc, .int 0])), (bstampsc, .inl (G.2.1, 72, .inl (fun _ => 0))), (kversions, .inr (8, [.int 8, .int 3, .ref kversionsc, .int 0])), (kversionsc, .inl (G.2.1, 24, .inl fx1182)), (bversions, .inr (8, [.int 8, .int 3, .ref bversionsc, .int 0])), (bversionsc, .inl (G.2.1, 24, .inl (fun _ => 0))), (klines, .inr (8, [.int 72, .int 7, .ref klinesc, .int 0])), (klinesc, .inl (G.2.1, 504, .inl fx1185)), (blines, .inr (8, [.int 72, .int 7, .ref blinesc, .int 0])), (blinesc, .inl (G.2.1, 504, .inl (fun _ => 0))), (ksteps, .inr (8, [.int 960, .int 1, .ref kstepsc, .int 0])), (kstepsc, .inl (G.2.1, 960, .inl fx1188)), (bsteps, .inr (8, [.int 960, .int 1, .ref bstepsc, .int 0])), (bstepsc, .inl (G.2.1, 960, .inl (fun _ => 0))), (ksayings, .inr (8, [.int 16, .int 8, .ref ksayingsc, .int 0])), (ksayingsc, .inl (G.2.1, 128, .inl fx1191)), (bsayings, .inr (8, [.int 16, .int 8, .ref bsayingsc, .int 0])), (bsayingsc, .inl (G.2.1, 128, .inl (fun _ => 0))), (kfindings, .inr (8, [.int 12, .int 4, .ref kfindingsc, .int 0])), (kfindingsc, .inl (G.2.1, 48, .inl fx1194)), (bfindings, .inr (8, [.int 12, .int 4, .ref bfindingsc, .int 0])), (bfindingsc, .inl (G.2.1, 48, .inl (fun _ => 0)))] := hD
  refine lv_aload_n hx hb dX0_copy_88 rfl (lv_at hl 0 rfl) ?_
  refine gf_X0_41 hC rfl hK hP 0 rfl rfl dX0_copy_89 ?_
  refine lv_aload_n hx hb dX0_copy_92 rfl (lv_at hl 1 rfl) ?_
  refine gf_X0_41 hC rfl hK hP 5 rfl rfl dX0_copy_93 ?_
  refine vV (wr := [(K, .inr (0, [.ref kpersons, .ref kpapers, .ref kstamps, .ref kversions, .ref klines, .ref ksteps, .ref ksayings, .ref kfindings, .ref kwarnings, .ref kquestions, .int 0, .int (-1), .int 3, .int 24])), (kquestions, .inr (8, [.int 7, .int 2, .ref kquestionsc, .int 0])), (kquestionsc, .inl (G.2.1, 14, .inl (fun _ => 0))), (B, .inr (0, [.ref bpersons, .ref bpapers, .ref bstamps, .ref bversions, .ref blines, .ref bsteps, .ref bsayings, .ref bfindings, .ref bwarnings, .ref bquestions, .int 0, .int (-1), .int 3, .int 24])), (bquestions, .inr (8, [.int 7, .int 2, .ref bquestionsc, .int 0])), (bquestionsc, .inl (G.2.1, 14, .inl (fun _ => 0))), (kpersons, .inr (8, [.int 10, .int 2, .ref kpersonsc, .int 0])), (kpersonsc, .inl (G.2.1, 20, .inl fx1173)), (bpersons, .inr (8, [.int 10, .int 2, .ref bpersonsc, .int 0])), (bpersonsc, .inl (G.2.1, 20, .inl (fun _ => 0))), (kpapers, .inr (8, [.int 12, .int 6, .ref kpapersc, .int 0])), (kpapersc, .inl (G.2.1, 72, .inl fx1176)), (bpapers, .inr (8, [.int 12, .int 6, .ref bpapersc, .int 0])), (bpapersc, .inl (G.2.1, 72, .inl (fun _ => 0))), (kstamps, .inr (8, [.int 24, .int 3, .ref kstampsc, .int 0])), (kstampsc, .inl (G.2.1, 72, .inl fx1179)), (bstamps, .inr (8, [.int 24, .int 3, .ref bstampsc, .int 0])), (bstampsc, .inl (G.2.1, 72, .inl (fun _ => 0))), (kversions, .inr (8, [.int 8, .int 3, .ref kversionsc, .int 0])), (kversionsc, .inl (G.2.1, 24, .inl fx1182)), (bversions, .inr (8, [.int 8, .int 3, .ref bversionsc, .int 0])), (bversionsc, .inl (G.2.1, 24, .inl (fun _ => 0))), (klines, .inr (8, [.int 72, .int 7, .ref klinesc, .int 0])), (klinesc, .inl (G.2.1, 504, .inl fx1185)), (blines, .inr (8, [.int 72, .int 7, .ref blinesc, .int 0])), (blinesc, .inl (G.2.1, 504, .inl (fun _ => 0))), (ksteps, .inr (8, [.int 960, .int 1, .ref kstepsc, .int 0])), (kstepsc, .inl (G.2.1, 960, .inl fx1188)), (bsteps, .inr (8, [.int 960, .int 1, .ref bstepsc, .int 0])), (bstepsc, .inl (G.2.1, 960, .inl (fun _ => 0))), (ksayings, .inr (8, [.int 16, .int 8, .ref ksayingsc, .int 0])), (ksayingsc, .inl (G.2.1, 128, .inl fx1191)), (bsayings, .inr (8, [.int 16, .int 8, .ref bsayingsc, .int 0])), (bsayingsc, .inl (G.2.1, 128, .inl (fun _ => 0))), (kfindings, .inr (8, [.int 12, .int 4, .ref kfindingsc, .int 0])), (kfindingsc, .inl (G.2.1, 48, .inl fx1194)), (bfindings, .inr (8, [.int 12, .int 4, .ref bfindingsc, .int 0])), (bfindingsc, .inl (G.2.1, 48, .inl (fun _ => 0)))]) hC hK hl hP hD hS hA (c_T_copy_16_3 l G kwarnings bwarnings kwarningsc (fun _ => 0) bwarningsc (fun _ => 0)) si_X0_60 [1, 2, 6, 7] [0, 3, 4, 5, 8, 9, 10, 11, 12, 13, 14, 15, 16, 17, 18, 19, 20, 21, 22, 23, 24, 25, 26, 27, 28, 29, 30, 31, 32, 33, 34, 35, 36, 37, 38, 39, 40, 41] rfl rfl (by decide) rfl (by decide) (by decide) rfl rfl rfl rfl rfl (Nat.le_of_ble_eq_true rfl) ⟨Nat.le_of_ble_eq_true rfl, Nat.le_of_ble_eq_true rfl⟩ ⟨Nat.le_of_ble_eq_true rfl, Nat.le_of_ble_eq_true rfl⟩ dX0_copy_96 (fun u1196 H locs hr1195 hP hD hS => ?_)
  obtain ⟨fx1197, rfl⟩ : ∃ z9, z9 = u1196 := ⟨_, rfl⟩
  have hP : va_P G.1 vwCl [(K, .inr (0, [.ref kpersons, .ref kpapers, .ref kstamps, .ref kversions, .ref klines, .ref ksteps, .ref ksayings, .ref kfindings, .ref kwarnings, .ref kquestions, .int 0, .int (-1), .int 3, .int 24])), (kquestions, .inr (8, [.int 7, .int 2, .ref kquestionsc, .int 0])), (kquestionsc, .inl (G.2.1, 14, .inl (fun _ => 0))), (B, .inr (0, [.ref bpersons, .ref bpapers, .ref bstamps, .ref bversions, .ref blines, .ref bsteps, .ref bsayings, .ref bfindings, .ref bwarnings, .ref bquestions, .int 0, .int (-1), .int 3, .int 24])), (bquestions, .inr (8, [.int 7, .int 2, .ref bquestionsc, .int 0])), (bquestionsc, .inl (G.2.1, 14, .inl (fun _ => 0))), (kpersons, .inr (8, [.int 10, .int 2, .ref kpersonsc, .int 0])), (kpersonsc, .inl (G.2.1, 20, .inl fx1173)), (bpersons, .inr (8, [.int 10, .int 2, .ref bpersonsc, .int 0])), (bpersonsc, .inl (G.2.1, 20, .inl (fun _ => 0))), (kpapers, .inr (8, [.int 12, .int 6, .ref kpapersc, .int 0])), (kpapersc, .inl (G.2.1, 72, .inl fx1176)), (bpapers, .inr (8, [.int 12, .int 6, .ref bpapersc, .int 0])), (bpapersc, .inl (G.2.1, 72, .inl (fun _ => 0))), (kstamps, .inr (8, [.int 24, .int 3, .ref kstampsc, .int 0])), (kstampsc, .inl (G.2.1, 72, .inl fx1179)), (bstamps, .inr (8, [.int 24, .int 3, .ref bstampsc, .int 0])), (bstampsc, .inl (G.2.1, 72, .inl (fun _ => 0))), (kversions, .inr (8, [.int 8, .int 3, .ref kversionsc, .int 0])), (kversionsc, .inl (G.2.1, 24, .inl fx1182)), (bversions, .inr (8, [.int 8, .int 3, .ref bversionsc, .int 0])), (bversionsc, .inl (G.2.1, 24, .inl (fun _ => 0))), (klines, .inr (8, [.int 72, .int 7, .ref klinesc, .int 0])), (klinesc, .inl (G.2.1, 504, .inl fx1185)), (blines, .inr (8, [.int 72, .int 7, .ref blinesc, .int 0])), (blinesc, .inl (G.2.1, 504, .inl (fun _ => 0))), (ksteps, .inr (8, [.int 960, .int 1, .ref kstepsc, .int 0])), (kstepsc, .inl (G.2.1, 960, .inl fx1188)), (bsteps, .inr (8, [.int 960, .int 1, .ref bstepsc, .int 0])), (bstepsc, .inl (G.2.1, 960, .inl (fun _ => 0))), (ksayings, .inr (8, [.int 16, .int 8, .ref ksayingsc, .int 0])), (ksayingsc, .inl (G.2.1, 128, .inl fx1191)), (bsayings, .inr (8, [.int 16, .int 8, .ref bsayingsc, .int 0])), (bsayingsc, .inl (G.2.1, 128, .inl (fun _ => 0))), (kfindings, .inr (8, [.int 12, .int 4, .ref kfindingsc, .int 0])), (kfindingsc, .inl (G.2.1, 48, .inl fx1194)), (bfindings, .inr (8, [.int 12, .int 4, .ref bfindingsc, .int 0])), (bfindingsc, .inl (G.2.1, 48, .inl (fun _ => 0))), (kwarnings, .inr (8, [.int 16, .int 3, .ref kwarningsc, .int 0])), (kwarningsc, .inl (G.2.1, 48, .inl fx1197)), (bwarnings, .inr (8, [.int 16, .int 3, .ref bwarningsc, .int 0])), (bwarningsc, .inl (G.2.1, 48, .inl (fun _ => 0)))] H := hP
  have hD : va_D A [(K, .inr (0, [.ref kpersons, .ref kpapers, .ref kstamps, .ref kversions, .ref klines, .ref ksteps, .ref ksayings, .ref kfindings, .ref kwarnings, .ref kquestions, .int 0, .int (-1), .int 3, .int 24])), (kquestions, .inr (8, [.int 7, .int 2, .ref kquestionsc, .int 0])), (kquestionsc, .inl (G.2.1, 14, .inl (fun _ => 0))), (B, .inr (0, [.ref bpersons, .ref bpapers, .ref bstamps, .ref bversions, .ref blines, .ref bsteps, .ref bsayings, .ref bfindings, .ref bwarnings, .ref bquestions, .int 0, .int (-1), .int 3, .int 24])), (bquestions, .inr (8, [.int 7, .int 2, .ref bquestionsc, .int 0])), (bquestionsc, .inl (G.2.1, 14, .inl (fun _ => 0))), (kpersons, .inr (8, [.int 10, .int 2, .ref kpersonsc, .int 0])), (kpersonsc, .inl (G.2.1, 20, .inl fx1173)), (bpersons, .inr (8, [.int 10, .int 2, .ref bpersonsc, .int 0])), (bpersonsc, .inl (G.2.1, 20, .inl (fun _ => 0))), (kpapers, .inr (8, [.int 12, .int 6, .ref kpapersc, .int 0])), (kpapersc, .inl (G.2.1, 72, .inl fx1176)), (bpapers, .inr (8, [.int 12, .int 6, .ref bpapersc, .int 0])), (bpapersc, .inl (G.2.1, 72, .inl (fun _ => 0))), (kstamps, .inr (8, [.int 24, .int 3, .ref kstampsc, .int 0])), (kstampsc, .inl (G.2.1, 72, .inl fx1179)), (bstamps, .inr (8, [.int 24, .int 3, .ref bstampsc, .int 0])), (bstampsc, .inl (G.2.1, 72, .inl (fun _ => 0))), (kversions, .inr (8, [.int 8, .int 3, .ref kversionsc, .int 0])), (kversionsc, .inl (G.2.1, 24, .inl fx1182)), (bversions, .inr (8, [.int 8, .int 3, .ref bversionsc, .int 0])), (bversionsc, .inl (G.2.1, 24, .inl (fun _ => 0))), (klines, .inr (8, [.int 72, .int 7, .ref klinesc, .int 0])), (klinesc, .inl (G.2.1, 504, .inl fx1185)), (blines, .inr (8, [.int 72, .int 7, .ref blinesc, .int 0])), (blinesc, .inl (G.2.1, 504, .inl (fun _ => 0))), (ksteps, .inr (8, [.int 960, .int 1, .ref kstepsc, .int 0])), (kstepsc, .inl (G.2.1, 960, .inl fx1188)), (bsteps, .inr (8, [.int 960, .int 1, .ref bstepsc, .int 0])), (bstepsc, .inl (G.2.1, 960, .inl (fun _ => 0))), (ksayings, .inr (8, [.int 16, .int 8, .ref ksayingsc, .int 0])), (ksayingsc, .inl (G.2.1, 128, .inl fx1191)), (bsayings, .inr (8, [.int 16, .int 8, .ref bsayingsc, .int 0])), (bsayingsc, .inl (G.2.1, 128, .inl (fun _ => 0))), (kfindings, .inr (8, [.int 12, .int 4, .ref kfindingsc, .int 0])), (kfindingsc, .inl (G.2.1, 48, .inl fx1194)), (bfindings, .inr (8, [.int 12, .int 4, .ref bfindingsc, .int 0])), (bfindingsc, .inl (G.2.1, 48, .inl (fun _ => 0))), (kwarnings, .inr (8, [.int 16, .int 3, .ref kwarningsc, .int 0])), (kwarningsc, .inl (G.2.1, 48, .inl fx1197)), (bwarnings, .inr (8, [.int 16, .int 3, .ref bwarningsc, .int 0])), (bwarningsc, .inl (G.2.1, 48, .inl (fun _ => 0)))] := hD
  refine lv_aload_n hx hb dX0_copy_99 rfl (lv_at hl 0 rfl) ?_
  refine gf_X0_44 hC rfl hK hP 0 rfl rfl dX0_copy_100 ?_
  refine lv_aload_n hx hb dX0_copy_103 rfl (lv_at hl 1 rfl) ?_
  refine gf_X0_44 hC rfl hK hP 3 rfl rfl dX0_copy_104 ?_
  refine vV (wr := [(K, .inr (0, [.ref kpersons, .ref kpapers, .ref kstamps, .ref kversions, .ref klines, .ref ksteps, .ref ksayings, .ref kfindings, .ref kwarnings, .ref kquestions, .int 0, .int (-1), .int 3, .int 24])), (B, .inr (0, [.ref bpersons, .ref bpapers, .ref bstamps, .ref bversions, .ref blines, .ref bsteps, .ref bsayings, .ref bfindings, .ref bwarnings, .ref bquestions, .int 0, .int (-1), .int 3, .int 24])), (kpersons, .inr (8, [.int 10, .int 2, .ref kpersonsc, .int 0])), (kpersonsc, .inl (G.2.1, 20, .inl fx1173)), (bpersons, .inr (8, [.int 10, .int 2, .ref bpersonsc, .int 0])), (bpersonsc, .inl (G.2.1, 20, .inl (fun _ => 0))), (kpapers, .inr (8, [.int 12, .int 6, .ref kpapersc, .int 0])), (kpapersc, .inl (G.2.1, 72, .inl fx1176)), (bpapers, .inr (8, [.int 12, .int 6, .ref bpapersc, .int 0])), (bpapersc, .inl (G.2.1, 72, .inl (fun _ => 0))), (kstamps, .inr (8, [.int 24, .int 3, .ref kstampsc, .int 0])), (kstampsc, .inl (G.2.1, 72, .inl fx1179)), (bstamps, .inr (8, [.int 24, .int 3, .ref bstampsc, .int 0])), (bstampsc, .inl (G.2.1, 72, .inl (fun _ => 0))), (kversions, .inr (8, [.int 8, .int 3, .ref kversionsc, .int 0])), (kversionsc, .inl (G.2.1, 24, .inl fx1182)), (bversions, .inr (8, [.int 8, .int 3, .ref bversionsc, .int 0])), (bversionsc, .inl (G.2.1, 24, .inl (fun _ => 0))), (klines, .inr (8, [.int 72, .int 7, .ref klinesc, .int 0])), (klinesc, .inl (G.2.1, 504, .inl fx1185)), (blines, .inr (8, [.int 72, .int 7, .ref blinesc, .int 0])), (blinesc, .inl (G.2.1, 504, .inl (fun _ => 0))), (ksteps, .inr (8, [.int 960, .int 1, .ref kstepsc, .int 0])), (kstepsc, .inl (G.2.1, 960, .inl fx1188)), (bsteps, .inr (8, [.int 960, .int 1, .ref bstepsc, .int 0])), (bstepsc, .inl (G.2.1, 960, .inl (fun _ => 0))), (ksayings, .inr (8, [.int 16, .int 8, .ref ksayingsc, .int 0])), (ksayingsc, .inl (G.2.1, 128, .inl fx1191)), (bsayings, .inr (8, [.int 16, .int 8, .ref bsayingsc, .int 0])), (bsayingsc, .inl (G.2.1, 128, .inl (fun _ => 0))), (kfindings, .inr (8, [.int 12, .int 4, .ref kfindingsc, .int 0])), (kfindingsc, .inl (G.2.1, 48, .inl fx1194)), (bfindings, .inr (8, [.int 12, .int 4, .ref bfindingsc, .int 0])), (bfindingsc, .inl (G.2.1, 48, .inl (fun _ => 0))), (kwarnings, .inr (8, [.int 16, .int 3, .ref kwarningsc, .int 0])), (kwarningsc, .inl (G.2.1, 48, .inl fx1197)), (bwarnings, .inr (8, [.int 16, .int 3, .ref bwarningsc, .int 0])), (bwarningsc, .inl (G.2.1, 48, .inl (fun _ => 0)))]) hC hK hl hP hD hS hA (c_T_copy_7_2 l G kquestions bquestions kquestionsc (fun _ => 0) bquestionsc (fun _ => 0)) si_X0_60 [1, 2, 4, 5] [0, 3, 6, 7, 8, 9, 10, 11, 12, 13, 14, 15, 16, 17, 18, 19, 20, 21, 22, 23, 24, 25, 26, 27, 28, 29, 30, 31, 32, 33, 34, 35, 36, 37, 38, 39, 40, 41] rfl rfl (by decide) rfl (by decide) (by decide) rfl rfl rfl rfl rfl (Nat.le_of_ble_eq_true rfl) ⟨Nat.le_of_ble_eq_true rfl, Nat.le_of_ble_eq_true rfl⟩ ⟨Nat.le_of_ble_eq_true rfl, Nat.le_of_ble_eq_true rfl⟩ dX0_copy_107 (fun u1199 H locs hr1198 hP hD hS => ?_)
  obtain ⟨fx1200, rfl⟩ : ∃ z9, z9 = u1199 := ⟨_, rfl⟩
  have hP : va_P G.1 vwCl [(K, .inr (0, [.ref kpersons, .ref kpapers, .ref kstamps, .ref kversions, .ref klines, .ref ksteps, .ref ksayings, .ref kfindings, .ref kwarnings, .ref kquestions, .int 0, .int (-1), .int 3, .int 24])), (B, .inr (0, [.ref bpersons, .ref bpapers, .ref bstamps, .ref bversions, .ref blines, .ref bsteps, .ref bsayings, .ref bfindings, .ref bwarnings, .ref bquestions, .int 0, .int (-1), .int 3, .int 24])), (kpersons, .inr (8, [.int 10, .int 2, .ref kpersonsc, .int 0])), (kpersonsc, .inl (G.2.1, 20, .inl fx1173)), (bpersons, .inr (8, [.int 10, .int 2, .ref bpersonsc, .int 0])), (bpersonsc, .inl (G.2.1, 20, .inl (fun _ => 0))), (kpapers, .inr (8, [.int 12, .int 6, .ref kpapersc, .int 0])), (kpapersc, .inl (G.2.1, 72, .inl fx1176)), (bpapers, .inr (8, [.int 12, .int 6, .ref bpapersc, .int 0])), (bpapersc, .inl (G.2.1, 72, .inl (fun _ => 0))), (kstamps, .inr (8, [.int 24, .int 3, .ref kstampsc, .int 0])), (kstampsc, .inl (G.2.1, 72, .inl fx1179)), (bstamps, .inr (8, [.int 24, .int 3, .ref bstampsc, .int 0])), (bstampsc, .inl (G.2.1, 72, .inl (fun _ => 0))), (kversions, .inr (8, [.int 8, .int 3, .ref kversionsc, .int 0])), (kversionsc, .inl (G.2.1, 24, .inl fx1182)), (bversions, .inr (8, [.int 8, .int 3, .ref bversionsc, .int 0])), (bversionsc, .inl (G.2.1, 24, .inl (fun _ => 0))), (klines, .inr (8, [.int 72, .int 7, .ref klinesc, .int 0])), (klinesc, .inl (G.2.1, 504, .inl fx1185)), (blines, .inr (8, [.int 72, .int 7, .ref blinesc, .int 0])), (blinesc, .inl (G.2.1, 504, .inl (fun _ => 0))), (ksteps, .inr (8, [.int 960, .int 1, .ref kstepsc, .int 0])), (kstepsc, .inl (G.2.1, 960, .inl fx1188)), (bsteps, .inr (8, [.int 960, .int 1, .ref bstepsc, .int 0])), (bstepsc, .inl (G.2.1, 960, .inl (fun _ => 0))), (ksayings, .inr (8, [.int 16, .int 8, .ref ksayingsc, .int 0])), (ksayingsc, .inl (G.2.1, 128, .inl fx1191)), (bsayings, .inr (8, [.int 16, .int 8, .ref bsayingsc, .int 0])), (bsayingsc, .inl (G.2.1, 128, .inl (fun _ => 0))), (kfindings, .inr (8, [.int 12, .int 4, .ref kfindingsc, .int 0])), (kfindingsc, .inl (G.2.1, 48, .inl fx1194)), (bfindings, .inr (8, [.int 12, .int 4, .ref bfindingsc, .int 0])), (bfindingsc, .inl (G.2.1, 48, .inl (fun _ => 0))), (kwarnings, .inr (8, [.int 16, .int 3, .ref kwarningsc, .int 0])), (kwarningsc, .inl (G.2.1, 48, .inl fx1197)), (bwarnings, .inr (8, [.int 16, .int 3, .ref bwarningsc, .int 0])), (bwarningsc, .inl (G.2.1, 48, .inl (fun _ => 0))), (kquestions, .inr (8, [.int 7, .int 2, .ref kquestionsc, .int 0])), (kquestionsc, .inl (G.2.1, 14, .inl fx1200)), (bquestions, .inr (8, [.int 7, .int 2, .ref bquestionsc, .int 0])), (bquestionsc, .inl (G.2.1, 14, .inl (fun _ => 0)))] H := hP
  have hD : va_D A [(K, .inr (0, [.ref kpersons, .ref kpapers, .ref kstamps, .ref kversions, .ref klines, .ref ksteps, .ref ksayings, .ref kfindings, .ref kwarnings, .ref kquestions, .int 0, .int (-1), .int 3, .int 24])), (B, .inr (0, [.ref bpersons, .ref bpapers, .ref bstamps, .ref bversions, .ref blines, .ref bsteps, .ref bsayings, .ref bfindings, .ref bwarnings, .ref bquestions, .int 0, .int (-1), .int 3, .int 24])), (kpersons, .inr (8, [.int 10, .int 2, .ref kpersonsc, .int 0])), (kpersonsc, .inl (G.2.1, 20, .inl fx1173)), (bpersons, .inr (8, [.int 10, .int 2, .ref bpersonsc, .int 0])), (bpersonsc, .inl (G.2.1, 20, .inl (fun _ => 0))), (kpapers, .inr (8, [.int 12, .int 6, .ref kpapersc, .int 0])), (kpapersc, .inl (G.2.1, 72, .inl fx1176)), (bpapers, .inr (8, [.int 12, .int 6, .ref bpapersc, .int 0])), (bpapersc, .inl (G.2.1, 72, .inl (fun _ => 0))), (kstamps, .inr (8, [.int 24, .int 3, .ref kstampsc, .int 0])), (kstampsc, .inl (G.2.1, 72, .inl fx1179)), (bstamps, .inr (8, [.int 24, .int 3, .ref bstampsc, .int 0])), (bstampsc, .inl (G.2.1, 72, .inl (fun _ => 0))), (kversions, .inr (8, [.int 8, .int 3, .ref kversionsc, .int 0])), (kversionsc, .inl (G.2.1, 24, .inl fx1182)), (bversions, .inr (8, [.int 8, .int 3, .ref bversionsc, .int 0])), (bversionsc, .inl (G.2.1, 24, .inl (fun _ => 0))), (klines, .inr (8, [.int 72, .int 7, .ref klinesc, .int 0])), (klinesc, .inl (G.2.1, 504, .inl fx1185)), (blines, .inr (8, [.int 72, .int 7, .ref blinesc, .int 0])), (blinesc, .inl (G.2.1, 504, .inl (fun _ => 0))), (ksteps, .inr (8, [.int 960, .int 1, .ref kstepsc, .int 0])), (kstepsc, .inl (G.2.1, 960, .inl fx1188)), (bsteps, .inr (8, [.int 960, .int 1, .ref bstepsc, .int 0])), (bstepsc, .inl (G.2.1, 960, .inl (fun _ => 0))), (ksayings, .inr (8, [.int 16, .int 8, .ref ksayingsc, .int 0])), (ksayingsc, .inl (G.2.1, 128, .inl fx1191)), (bsayings, .inr (8, [.int 16, .int 8, .ref bsayingsc, .int 0])), (bsayingsc, .inl (G.2.1, 128, .inl (fun _ => 0))), (kfindings, .inr (8, [.int 12, .int 4, .ref kfindingsc, .int 0])), (kfindingsc, .inl (G.2.1, 48, .inl fx1194)), (bfindings, .inr (8, [.int 12, .int 4, .ref bfindingsc, .int 0])), (bfindingsc, .inl (G.2.1, 48, .inl (fun _ => 0))), (kwarnings, .inr (8, [.int 16, .int 3, .ref kwarningsc, .int 0])), (kwarningsc, .inl (G.2.1, 48, .inl fx1197)), (bwarnings, .inr (8, [.int 16, .int 3, .ref bwarningsc, .int 0])), (bwarningsc, .inl (G.2.1, 48, .inl (fun _ => 0))), (kquestions, .inr (8, [.int 7, .int 2, .ref kquestionsc, .int 0])), (kquestionsc, .inl (G.2.1, 14, .inl fx1200)), (bquestions, .inr (8, [.int 7, .int 2, .ref bquestionsc, .int 0])), (bquestionsc, .inl (G.2.1, 14, .inl (fun _ => 0)))] := hD
  refine lv_aload_n hx hb dX0_copy_110 rfl (lv_at hl 0 rfl) ?_
  refine lv_aload_n hx hb dX0_copy_111 rfl (lv_at hl 1 rfl) ?_
  refine gf_X0_47 hC rfl hK hP 1 rfl rfl dX0_copy_112 ?_
  refine pf_X0_47 hC rfl hK hP hD hS 0 (ws' := [(K, .inr (0, [.ref kpersons, .ref kpapers, .ref kstamps, .ref kversions, .ref klines, .ref ksteps, .ref ksayings, .ref kfindings, .ref kwarnings, .ref kquestions, .int 0, .int (-1), .int 3, .int 24])), (B, .inr (0, [.ref bpersons, .ref bpapers, .ref bstamps, .ref bversions, .ref blines, .ref bsteps, .ref bsayings, .ref bfindings, .ref bwarnings, .ref bquestions, .int 0, .int (-1), .int 3, .int 24])), (kpersons, .inr (8, [.int 10, .int 2, .ref kpersonsc, .int 0])), (kpersonsc, .inl (G.2.1, 20, .inl fx1173)), (bpersons, .inr (8, [.int 10, .int 2, .ref bpersonsc, .int 0])), (bpersonsc, .inl (G.2.1, 20, .inl (fun _ => 0))), (kpapers, .inr (8, [.int 12, .int 6, .ref kpapersc, .int 0])), (kpapersc, .inl (G.2.1, 72, .inl fx1176)), (bpapers, .inr (8, [.int 12, .int 6, .ref bpapersc, .int 0])), (bpapersc, .inl (G.2.1, 72, .inl (fun _ => 0))), (kstamps, .inr (8, [.int 24, .int 3, .ref kstampsc, .int 0])), (kstampsc, .inl (G.2.1, 72, .inl fx1179)), (bstamps, .inr (8, [.int 24, .int 3, .ref bstampsc, .int 0])), (bstampsc, .inl (G.2.1, 72, .inl (fun _ => 0))), (kversions, .inr (8, [.int 8, .int 3, .ref kversionsc, .int 0])), (kversionsc, .inl (G.2.1, 24, .inl fx1182)), (bversions, .inr (8, [.int 8, .int 3, .ref bversionsc, .int 0])), (bversionsc, .inl (G.2.1, 24, .inl (fun _ => 0))), (klines, .inr (8, [.int 72, .int 7, .ref klinesc, .int 0])), (klinesc, .inl (G.2.1, 504, .inl fx1185)), (blines, .inr (8, [.int 72, .int 7, .ref blinesc, .int 0])), (blinesc, .inl (G.2.1, 504, .inl (fun _ => 0))), (ksteps, .inr (8, [.int 960, .int 1, .ref kstepsc, .int 0])), (kstepsc, .inl (G.2.1, 960, .inl fx1188)), (bsteps, .inr (8, [.int 960, .int 1, .ref bstepsc, .int 0])), (bstepsc, .inl (G.2.1, 960, .inl (fun _ => 0))), (ksayings, .inr (8, [.int 16, .int 8, .ref ksayingsc, .int 0])), (ksayingsc, .inl (G.2.1, 128, .inl fx1191)), (bsayings, .inr (8, [.int 16, .int 8, .ref bsayingsc, .int 0])), (bsayingsc, .inl (G.2.1, 128, .inl (fun _ => 0))), (kfindings, .inr (8, [.int 12, .int 4, .ref kfindingsc, .int 0])), (kfindingsc, .inl (G.2.1, 48, .inl fx1194)), (bfindings, .inr (8, [.int 12, .int 4, .ref bfindingsc, .int 0])), (bfindingsc, .inl (G.2.1, 48, .inl (fun _ => 0))), (kwarnings, .inr (8, [.int 16, .int 3, .ref kwarningsc, .int 0])), (kwarningsc, .inl (G.2.1, 48, .inl fx1197)), (bwarnings, .inr (8, [.int 16, .int 3, .ref bwarningsc, .int 0])), (bwarningsc, .inl (G.2.1, 48, .inl (fun _ => 0))), (kquestions, .inr (8, [.int 7, .int 2, .ref kquestionsc, .int 0])), (kquestionsc, .inl (G.2.1, 14, .inl fx1200)), (bquestions, .inr (8, [.int 7, .int 2, .ref bquestionsc, .int 0])), (bquestionsc, .inl (G.2.1, 14, .inl (fun _ => 0)))]) rfl (Nat.le_of_ble_eq_true rfl) rfl rfl rfl dX0_copy_115 (fun H locs hP hD hS => ?_)
  refine lv_aload_n hx hb dX0_copy_118 rfl (lv_at hl 0 rfl) ?_
  refine lv_aload_n hx hb dX0_copy_119 rfl (lv_at hl 1 rfl) ?_
  refine gf_X0_51 hC rfl hK hP 1 rfl rfl dX0_copy_120 ?_
  refine pf_X0_51 hC rfl hK hP hD hS 0 (ws' := [(K, .inr (0, [.ref kpersons, .ref kpapers, .ref kstamps, .ref kversions, .ref klines, .ref ksteps, .ref ksayings, .ref kfindings, .ref kwarnings, .ref kquestions, .int 0, .int (-1), .int 3, .int 24])), (B, .inr (0, [.ref bpersons, .ref bpapers, .ref bstamps, .ref bversions, .ref blines, .ref bsteps, .ref bsayings, .ref bfindings, .ref bwarnings, .ref bquestions, .int 0, .int (-1), .int 3, .int 24])), (kpersons, .inr (8, [.int 10, .int 2, .ref kpersonsc, .int 0])), (kpersonsc, .inl (G.2.1, 20, .inl fx1173)), (bpersons, .inr (8, [.int 10, .int 2, .ref bpersonsc, .int 0])), (bpersonsc, .inl (G.2.1, 20, .inl (fun _ => 0))), (kpapers, .inr (8, [.int 12, .int 6, .ref kpapersc, .int 0])), (kpapersc, .inl (G.2.1, 72, .inl fx1176)), (bpapers, .inr (8, [.int 12, .int 6, .ref bpapersc, .int 0])), (bpapersc, .inl (G.2.1, 72, .inl (fun _ => 0))), (kstamps, .inr (8, [.int 24, .int 3, .ref kstampsc, .int 0])), (kstampsc, .inl (G.2.1, 72, .inl fx1179)), (bstamps, .inr (8, [.int 24, .int 3, .ref bstampsc, .int 0])), (bstampsc, .inl (G.2.1, 72, .inl (fun _ => 0))), (kversions, .inr (8, [.int 8, .int 3, .ref kversionsc, .int 0])), (kversionsc, .inl (G.2.1, 24, .inl fx1182)), (bversions, .inr (8, [.int 8, .int 3, .ref bversionsc, .int 0])), (bversionsc, .inl (G.2.1, 24, .inl (fun _ => 0))), (klines, .inr (8, [.int 72, .int 7, .ref klinesc, .int 0])), (klinesc, .inl (G.2.1, 504, .inl fx1185)), (blines, .inr (8, [.int 72, .int 7, .ref blinesc, .int 0])), (blinesc, .inl (G.2.1, 504, .inl (fun _ => 0))), (ksteps, .inr (8, [.int 960, .int 1, .ref kstepsc, .int 0])), (kstepsc, .inl (G.2.1, 960, .inl fx1188)), (bsteps, .inr (8, [.int 960, .int 1, .ref bstepsc, .int 0])), (bstepsc, .inl (G.2.1, 960, .inl (fun _ => 0))), (ksayings, .inr (8, [.int 16, .int 8, .ref ksayingsc, .int 0])), (ksayingsc, .inl (G.2.1, 128, .inl fx1191)), (bsayings, .inr (8, [.int 16, .int 8, .ref bsayingsc, .int 0])), (bsayingsc, .inl (G.2.1, 128, .inl (fun _ => 0))), (kfindings, .inr (8, [.int 12, .int 4, .ref kfindingsc, .int 0])), (kfindingsc, .inl (G.2.1, 48, .inl fx1194)), (bfindings, .inr (8, [.int 12, .int 4, .ref bfindingsc, .int 0])), (bfindingsc, .inl (G.2.1, 48, .inl (fun _ => 0))), (kwarnings, .inr (8, [.int 16, .int 3, .ref kwarningsc, .int 0])), (kwarningsc, .inl (G.2.1, 48, .inl fx1197)), (bwarnings, .inr (8, [.int 16, .int 3, .ref bwarningsc, .int 0])), (bwarningsc, .inl (G.2.1, 48, .inl (fun _ => 0))), (kquestions, .inr (8, [.int 7, .int 2, .ref kquestionsc, .int 0])), (kquestionsc, .inl (G.2.1, 14, .inl fx1200)), (bquestions, .inr (8, [.int 7, .int 2, .ref bquestionsc, .int 0])), (bquestionsc, .inl (G.2.1, 14, .inl (fun _ => 0)))]) rfl (Nat.le_of_ble_eq_true rfl) rfl rfl rfl dX0_copy_123 (fun H locs hP hD hS => ?_)
  refine lv_aload_n hx hb dX0_copy_126 rfl (lv_at hl 0 rfl) ?_
  refine lv_aload_n hx hb dX0_copy_127 rfl (lv_at hl 1 rfl) ?_
  refine gf_X0_54 hC rfl hK hP 1 rfl rfl dX0_copy_128 ?_
  refine pf_X0_54 hC rfl hK hP hD hS 0 (ws' := [(K, .inr (0, [.ref kpersons, .ref kpapers, .ref kstamps, .ref kversions, .ref klines, .ref ksteps, .ref ksayings, .ref kfindings, .ref kwarnings, .ref kquestions, .int 0, .int (-1), .int 3, .int 24])), (B, .inr (0, [.ref bpersons, .ref bpapers, .ref bstamps, .ref bversions, .ref blines, .ref bsteps, .ref bsayings, .ref bfindings, .ref bwarnings, .ref bquestions, .int 0, .int (-1), .int 3, .int 24])), (kpersons, .inr (8, [.int 10, .int 2, .ref kpersonsc, .int 0])), (kpersonsc, .inl (G.2.1, 20, .inl fx1173)), (bpersons, .inr (8, [.int 10, .int 2, .ref bpersonsc, .int 0])), (bpersonsc, .inl (G.2.1, 20, .inl (fun _ => 0))), (kpapers, .inr (8, [.int 12, .int 6, .ref kpapersc, .int 0])), (kpapersc, .inl (G.2.1, 72, .inl fx1176)), (bpapers, .inr (8, [.int 12, .int 6, .ref bpapersc, .int 0])), (bpapersc, .inl (G.2.1, 72, .inl (fun _ => 0))), (kstamps, .inr (8, [.int 24, .int 3, .ref kstampsc, .int 0])), (kstampsc, .inl (G.2.1, 72, .inl fx1179)), (bstamps, .inr (8, [.int 24, .int 3, .ref bstampsc, .int 0])), (bstampsc, .inl (G.2.1, 72, .inl (fun _ => 0))), (kversions, .inr (8, [.int 8, .int 3, .ref kversionsc, .int 0])), (kversionsc, .inl (G.2.1, 24, .inl fx1182)), (bversions, .inr (8, [.int 8, .int 3, .ref bversionsc, .int 0])), (bversionsc, .inl (G.2.1, 24, .inl (fun _ => 0))), (klines, .inr (8, [.int 72, .int 7, .ref klinesc, .int 0])), (klinesc, .inl (G.2.1, 504, .inl fx1185)), (blines, .inr (8, [.int 72, .int 7, .ref blinesc, .int 0])), (blinesc, .inl (G.2.1, 504, .inl (fun _ => 0))), (ksteps, .inr (8, [.int 960, .int 1, .ref kstepsc, .int 0])), (kstepsc, .inl (G.2.1, 960, .inl fx1188)), (bsteps, .inr (8, [.int 960, .int 1, .ref bstepsc, .int 0])), (bstepsc, .inl (G.2.1, 960, .inl (fun _ => 0))), (ksayings, .inr (8, [.int 16, .int 8, .ref ksayingsc, .int 0])), (ksayingsc, .inl (G.2.1, 128, .inl fx1191)), (bsayings, .inr (8, [.int 16, .int 8, .ref bsayingsc, .int 0])), (bsayingsc, .inl (G.2.1, 128, .inl (fun _ => 0))), (kfindings, .inr (8, [.int 12, .int 4, .ref kfindingsc, .int 0])), (kfindingsc, .inl (G.2.1, 48, .inl fx1194)), (bfindings, .inr (8, [.int 12, .int 4, .ref bfindingsc, .int 0])), (bfindingsc, .inl (G.2.1, 48, .inl (fun _ => 0))), (kwarnings, .inr (8, [.int 16, .int 3, .ref kwarningsc, .int 0])), (kwarningsc, .inl (G.2.1, 48, .inl fx1197)), (bwarnings, .inr (8, [.int 16, .int 3, .ref bwarningsc, .int 0])), (bwarningsc, .inl (G.2.1, 48, .inl (fun _ => 0))), (kquestions, .inr (8, [.int 7, .int 2, .ref kquestionsc, .int 0])), (kquestionsc, .inl (G.2.1, 14, .inl fx1200)), (bquestions, .inr (8, [.int 7, .int 2, .ref bquestionsc, .int 0])), (bquestionsc, .inl (G.2.1, 14, .inl (fun _ => 0)))]) rfl (Nat.le_of_ble_eq_true rfl) rfl rfl rfl dX0_copy_131 (fun H locs hP hD hS => ?_)
  refine lv_aload_n hx hb dX0_copy_134 rfl (lv_at hl 0 rfl) ?_
  refine lv_aload_n hx hb dX0_copy_135 rfl (lv_at hl 1 rfl) ?_
  refine gf_X0_57 hC rfl hK hP 1 rfl rfl dX0_copy_136 ?_
  refine pf_X0_57 hC rfl hK hP hD hS 0 (ws' := [(K, .inr (0, [.ref kpersons, .ref kpapers, .ref kstamps, .ref kversions, .ref klines, .ref ksteps, .ref ksayings, .ref kfindings, .ref kwarnings, .ref kquestions, .int 0, .int (-1), .int 3, .int 24])), (B, .inr (0, [.ref bpersons, .ref bpapers, .ref bstamps, .ref bversions, .ref blines, .ref bsteps, .ref bsayings, .ref bfindings, .ref bwarnings, .ref bquestions, .int 0, .int (-1), .int 3, .int 24])), (kpersons, .inr (8, [.int 10, .int 2, .ref kpersonsc, .int 0])), (kpersonsc, .inl (G.2.1, 20, .inl fx1173)), (bpersons, .inr (8, [.int 10, .int 2, .ref bpersonsc, .int 0])), (bpersonsc, .inl (G.2.1, 20, .inl (fun _ => 0))), (kpapers, .inr (8, [.int 12, .int 6, .ref kpapersc, .int 0])), (kpapersc, .inl (G.2.1, 72, .inl fx1176)), (bpapers, .inr (8, [.int 12, .int 6, .ref bpapersc, .int 0])), (bpapersc, .inl (G.2.1, 72, .inl (fun _ => 0))), (kstamps, .inr (8, [.int 24, .int 3, .ref kstampsc, .int 0])), (kstampsc, .inl (G.2.1, 72, .inl fx1179)), (bstamps, .inr (8, [.int 24, .int 3, .ref bstampsc, .int 0])), (bstampsc, .inl (G.2.1, 72, .inl (fun _ => 0))), (kversions, .inr (8, [.int 8, .int 3, .ref kversionsc, .int 0])), (kversionsc, .inl (G.2.1, 24, .inl fx1182)), (bversions, .inr (8, [.int 8, .int 3, .ref bversionsc, .int 0])), (bversionsc, .inl (G.2.1, 24, .inl (fun _ => 0))), (klines, .inr (8, [.int 72, .int 7, .ref klinesc, .int 0])), (klinesc, .inl (G.2.1, 504, .inl fx1185)), (blines, .inr (8, [.int 72, .int 7, .ref blinesc, .int 0])), (blinesc, .inl (G.2.1, 504, .inl (fun _ => 0))), (ksteps, .inr (8, [.int 960, .int 1, .ref kstepsc, .int 0])), (kstepsc, .inl (G.2.1, 960, .inl fx1188)), (bsteps, .inr (8, [.int 960, .int 1, .ref bstepsc, .int 0])), (bstepsc, .inl (G.2.1, 960, .inl (fun _ => 0))), (ksayings, .inr (8, [.int 16, .int 8, .ref ksayingsc, .int 0])), (ksayingsc, .inl (G.2.1, 128, .inl fx1191)), (bsayings, .inr (8, [.int 16, .int 8, .ref bsayingsc, .int 0])), (bsayingsc, .inl (G.2.1, 128, .inl (fun _ => 0))), (kfindings, .inr (8, [.int 12, .int 4, .ref kfindingsc, .int 0])), (kfindingsc, .inl (G.2.1, 48, .inl fx1194)), (bfindings, .inr (8, [.int 12, .int 4, .ref bfindingsc, .int 0])), (bfindingsc, .inl (G.2.1, 48, .inl (fun _ => 0))), (kwarnings, .inr (8, [.int 16, .int 3, .ref kwarningsc, .int 0])), (kwarningsc, .inl (G.2.1, 48, .inl fx1197)), (bwarnings, .inr (8, [.int 16, .int 3, .ref bwarningsc, .int 0])), (bwarningsc, .inl (G.2.1, 48, .inl (fun _ => 0))), (kquestions, .inr (8, [.int 7, .int 2, .ref kquestionsc, .int 0])), (kquestionsc, .inl (G.2.1, 14, .inl fx1200)), (bquestions, .inr (8, [.int 7, .int 2, .ref bquestionsc, .int 0])), (bquestionsc, .inl (G.2.1, 14, .inl (fun _ => 0)))]) rfl (Nat.le_of_ble_eq_true rfl) rfl rfl rfl dX0_copy_139 (fun H locs hP hD hS => ?_)
  exact RV hC hP hD hS [] () rfl rfl (by decide) (trivial) dX0_copy_142
set_option maxHeartbeats 4000000 in
set_option maxRecDepth 100000 in
theorem c_keep (l : Launch) (G : GG) (h0 : Nat) (B : Nat) (K : Nat) (S : Nat) (D : Nat) (R : Nat) (Ta : Nat) (Tp : Nat) (Ro : Nat) (Ho : Nat) (De : Nat) (kpersons : Nat) (kpapers : Nat) (kstamps : Nat) (kversions : Nat) (klines : Nat) (ksteps : Nat) (ksayings : Nat) (kfindings : Nat) (kwarnings : Nat) (kquestions : Nat) (kpersonsc : Nat) (kpapersc : Nat) (kstampsc : Nat) (kversionsc : Nat) (klinesc : Nat) (kstepsc : Nat) (ksayingsc : Nat) (kfindingsc : Nat) (kwarningsc : Nat) (kquestionsc : Nat) (bpersons : Nat) (bpapers : Nat) (bstamps : Nat) (bversions : Nat) (blines : Nat) (bsteps : Nat) (bsayings : Nat) (bfindings : Nat) (bwarnings : Nat) (bquestions : Nat) (bpersonsc : Nat) (bpapersc : Nat) (bstampsc : Nat) (bversionsc : Nat) (blinesc : Nat) (bstepsc : Nat) (bsayingsc : Nat) (bfindingsc : Nat) (bwarningsc : Nat) (bquestionsc : Nat) : MI l G yX11_keep cX11_keep 1 (some .int) 4 0 0 [.ref h0] [(h0, .inr (11, [.ref B, .ref K, .int 0, .ref S, .ref D, .ref R, .ref Ta, .ref Tp, .ref Ro, .ref Ho, .ref De])), (K, .inr (0, [.ref kpersons, .ref kpapers, .ref kstamps, .ref kversions, .ref klines, .ref ksteps, .ref ksayings, .ref kfindings, .ref kwarnings, .ref kquestions, .int 0, .int (-1), .int 3, .int 24])), (kpersons, .inr (8, [.int 10, .int 2, .ref kpersonsc, .int 0])), (kpersonsc, .inl (G.2.1, 20, .inl (fun _ => 0))), (kpapers, .inr (8, [.int 12, .int 6, .ref kpapersc, .int 0])), (kpapersc, .inl (G.2.1, 72, .inl (fun _ => 0))), (kstamps, .inr (8, [.int 24, .int 3, .ref kstampsc, .int 0])), (kstampsc, .inl (G.2.1, 72, .inl (fun _ => 0))), (kversions, .inr (8, [.int 8, .int 3, .ref kversionsc, .int 0])), (kversionsc, .inl (G.2.1, 24, .inl (fun _ => 0))), (klines, .inr (8, [.int 72, .int 7, .ref klinesc, .int 0])), (klinesc, .inl (G.2.1, 504, .inl (fun _ => 0))), (ksteps, .inr (8, [.int 960, .int 1, .ref kstepsc, .int 0])), (kstepsc, .inl (G.2.1, 960, .inl (fun _ => 0))), (ksayings, .inr (8, [.int 16, .int 8, .ref ksayingsc, .int 0])), (ksayingsc, .inl (G.2.1, 128, .inl (fun _ => 0))), (kfindings, .inr (8, [.int 12, .int 4, .ref kfindingsc, .int 0])), (kfindingsc, .inl (G.2.1, 48, .inl (fun _ => 0))), (kwarnings, .inr (8, [.int 16, .int 3, .ref kwarningsc, .int 0])), (kwarningsc, .inl (G.2.1, 48, .inl (fun _ => 0))), (kquestions, .inr (8, [.int 7, .int 2, .ref kquestionsc, .int 0])), (kquestionsc, .inl (G.2.1, 14, .inl (fun _ => 0))), (B, .inr (0, [.ref bpersons, .ref bpapers, .ref bstamps, .ref bversions, .ref blines, .ref bsteps, .ref bsayings, .ref bfindings, .ref bwarnings, .ref bquestions, .int 0, .int (-1), .int 3, .int 24])), (bpersons, .inr (8, [.int 10, .int 2, .ref bpersonsc, .int 0])), (bpersonsc, .inl (G.2.1, 20, .inl (fun _ => 0))), (bpapers, .inr (8, [.int 12, .int 6, .ref bpapersc, .int 0])), (bpapersc, .inl (G.2.1, 72, .inl (fun _ => 0))), (bstamps, .inr (8, [.int 24, .int 3, .ref bstampsc, .int 0])), (bstampsc, .inl (G.2.1, 72, .inl (fun _ => 0))), (bversions, .inr (8, [.int 8, .int 3, .ref bversionsc, .int 0])), (bversionsc, .inl (G.2.1, 24, .inl (fun _ => 0))), (blines, .inr (8, [.int 72, .int 7, .ref blinesc, .int 0])), (blinesc, .inl (G.2.1, 504, .inl (fun _ => 0))), (bsteps, .inr (8, [.int 960, .int 1, .ref bstepsc, .int 0])), (bstepsc, .inl (G.2.1, 960, .inl (fun _ => 0))), (bsayings, .inr (8, [.int 16, .int 8, .ref bsayingsc, .int 0])), (bsayingsc, .inl (G.2.1, 128, .inl (fun _ => 0))), (bfindings, .inr (8, [.int 12, .int 4, .ref bfindingsc, .int 0])), (bfindingsc, .inl (G.2.1, 48, .inl (fun _ => 0))), (bwarnings, .inr (8, [.int 16, .int 3, .ref bwarningsc, .int 0])), (bwarningsc, .inl (G.2.1, 48, .inl (fun _ => 0))), (bquestions, .inr (8, [.int 7, .int 2, .ref bquestionsc, .int 0])), (bquestionsc, .inl (G.2.1, 14, .inl (fun _ => 0)))] (fun (r : Int32) (u : Unit) => (r = 1)) (fun u : Unit => []) := by
  refine MI.start (by decide +kernel) (Nat.le_of_ble_eq_true rfl) ?_
  intro p e s m below meth c A ls hC hK hP hD hS hA hl
  have hl : lv_has ls 1 [(0, .ref h0)] := hl
  obtain ⟨hx, hb, hr, hml, hB, hown, hlocks, hnm⟩ := id hC
  refine lv_aload_n hx hb dX11_keep_0 rfl (lv_at hl 0 rfl) ?_
  refine gf_X11_21 hC rfl hK hP 0 rfl rfl dX11_keep_1 ?_
  refine lv_aload_n hx hb dX11_keep_4 rfl (lv_at hl 0 rfl) ?_
  refine gf_X11_15 hC rfl hK hP 0 rfl rfl dX11_keep_5 ?_
  refine vV (wr := [(h0, .inr (11, [.ref B, .ref K, .int 0, .ref S, .ref D, .ref R, .ref Ta, .ref Tp, .ref Ro, .ref Ho, .ref De]))]) hC hK hl hP hD hS hA (c_B_copy l G K B kpersons kpapers kstamps kversions klines ksteps ksayings kfindings kwarnings kquestions kpersonsc kpapersc kstampsc kversionsc klinesc kstepsc ksayingsc kfindingsc kwarningsc kquestionsc bpersons bpapers bstamps bversions blines bsteps bsayings bfindings bwarnings bquestions bpersonsc bpapersc bstampsc bversionsc blinesc bstepsc bsayingsc bfindingsc bwarningsc bquestionsc) si_X11_361 [1, 2, 3, 4, 5, 6, 7, 8, 9, 10, 11, 12, 13, 14, 15, 16, 17, 18, 19, 20, 21, 22, 23, 24, 25, 26, 27, 28, 29, 30, 31, 32, 33, 34, 35, 36, 37, 38, 39, 40, 41, 42] [0] rfl rfl (by decide) rfl (by decide) (by decide) rfl rfl rfl rfl rfl (Nat.le_of_ble_eq_true rfl) ⟨Nat.le_of_ble_eq_true rfl, Nat.le_of_ble_eq_true rfl⟩ ⟨Nat.le_of_ble_eq_true rfl, Nat.le_of_ble_eq_true rfl⟩ dX11_keep_8 (fun u1202 H locs hr1201 hP hD hS => ?_)
  have hP : va_P G.1 vwCl [(h0, .inr (11, [.ref B, .ref K, .int 0, .ref S, .ref D, .ref R, .ref Ta, .ref Tp, .ref Ro, .ref Ho, .ref De]))] H := hP
  have hD : va_D A [(h0, .inr (11, [.ref B, .ref K, .int 0, .ref S, .ref D, .ref R, .ref Ta, .ref Tp, .ref Ro, .ref Ho, .ref De]))] := hD
  refine lv_aload_n hx hb dX11_keep_11 rfl (lv_at hl 0 rfl) ?_
  refine lv_iconst (v := 1) hx hb dX11_keep_12 (by decide) ?_
  refine pf_X11_24 hC rfl hK hP hD hS 0 (ws' := [(h0, .inr (11, [.ref B, .ref K, .int 1, .ref S, .ref D, .ref R, .ref Ta, .ref Tp, .ref Ro, .ref Ho, .ref De]))]) rfl (Nat.le_of_ble_eq_true rfl) rfl (by decide +kernel) (by decide +kernel) dX11_keep_13 (fun H locs hP hD hS => ?_)
  refine lv_iconst (v := 1) hx hb dX11_keep_16 (by decide) ?_
  exact RI (v := 1) hC hP hD hS [] () rfl rfl (by decide) (rfl) rfl dX11_keep_17
