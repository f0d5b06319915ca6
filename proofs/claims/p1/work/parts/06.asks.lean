section WR
variable {p : Program} {l : Launch} {e : Env} {R : Room} {s : State} {m : MethodId} {args : Array Value} {below : List Frame} {meth : Method} {c : Code} {H : Heap} {locs : List Loc} {cells slots : Nat} {Q : State → Prop}
variable {pc : Nat} {ls : Array Slot} {rest : List Value} {G : GG} {ws : va_W} {A : Nat → Prop} {y0 : MethodName} {b0 : ByteArray} {mL0 : Nat} {rt0 : Option FieldType} {a : Nat} {H0 : Heap}
end WR
/-- a bit that is there -/
def HB (bits i : Int32) : Prop := ¬ i < 0 ∧ ¬ 31 ≤ i ∧ (bits >>> (i &&& 31)) &&& 1 = 1
theorem HB_0 {i : Int32} : ¬ HB 0 i := by
  unfold HB
  intro h
  have e : (0 : Int32) >>> (i &&& 31) = 0 := by
    apply Int32.toBitVec_inj.mp
    simp [Int32.toBitVec_shiftRight]
  rw [e] at h
  exact absurd h.2.2 (by decide)
theorem Wi_c3 {v : Int32} (h : Wi v 0 3) : v = 0 ∨ v = 1 ∨ v = 2 ∨ v = 3 := by
  rw [Wi_iff] at h
  have h0 : (0 : Int32).toInt = 0 := by decide
  have h1 : (1 : Int32).toInt = 1 := by decide
  have h2 : (2 : Int32).toInt = 2 := by decide
  have h3 : (3 : Int32).toInt = 3 := by decide
  rw [← Int32.toInt_inj, ← Int32.toInt_inj, ← Int32.toInt_inj, ← Int32.toInt_inj]
  omega
theorem Wi_c5 {v : Int32} (h : Wi v 0 5) : v = 0 ∨ v = 1 ∨ v = 2 ∨ v = 3 ∨ v = 4 ∨ v = 5 := by
  rw [Wi_iff] at h
  have h0 : (0 : Int32).toInt = 0 := by decide
  have h1 : (1 : Int32).toInt = 1 := by decide
  have h2 : (2 : Int32).toInt = 2 := by decide
  have h3 : (3 : Int32).toInt = 3 := by decide
  have h4 : (4 : Int32).toInt = 4 := by decide
  have h5 : (5 : Int32).toInt = 5 := by decide
  rw [← Int32.toInt_inj, ← Int32.toInt_inj, ← Int32.toInt_inj, ← Int32.toInt_inj, ← Int32.toInt_inj, ← Int32.toInt_inj]
  omega
section WR
variable {p : Program} {l : Launch} {e : Env} {R : Room} {s : State} {m : MethodId} {args : Array Value} {below : List Frame} {meth : Method} {c : Code} {H : Heap} {locs : List Loc} {cells slots : Nat} {Q : State → Prop}
variable {pc : Nat} {ls : Array Slot} {rest : List Value} {G : GG} {ws : va_W} {A : Nat → Prop} {y0 : MethodName} {b0 : ByteArray} {mL0 : Nat} {rt0 : Option FieldType} {a : Nat} {H0 : Heap}
theorem dX11_hasBit_0 : decode cX11_hasBit 0 = .ok (.iload_n 1, 1) := by decide +kernel
theorem dX11_hasBit_1 : decode cX11_hasBit 1 = .ok (.ifCond .lt 22, 3) := by decide +kernel
theorem dX11_hasBit_23 : decode cX11_hasBit 23 = .ok (.iconst 0, 1) := by decide +kernel
theorem dX11_hasBit_24 : decode cX11_hasBit 24 = .ok (.ireturn, 1) := by decide +kernel
theorem dX11_hasBit_4 : decode cX11_hasBit 4 = .ok (.iload_n 1, 1) := by decide +kernel
theorem dX11_hasBit_5 : decode cX11_hasBit 5 = .ok (.bipush 31, 2) := by decide +kernel
theorem dX11_hasBit_7 : decode cX11_hasBit 7 = .ok (.if_icmp .ge 16, 3) := by decide +kernel
theorem dX11_hasBit_10 : decode cX11_hasBit 10 = .ok (.iload_n 0, 1) := by decide +kernel
theorem dX11_hasBit_11 : decode cX11_hasBit 11 = .ok (.iload_n 1, 1) := by decide +kernel
theorem dX11_hasBit_12 : decode cX11_hasBit 12 = .ok (.ishr, 1) := by decide +kernel
theorem dX11_hasBit_13 : decode cX11_hasBit 13 = .ok (.iconst 1, 1) := by decide +kernel
theorem dX11_hasBit_14 : decode cX11_hasBit 14 = .ok (.iand, 1) := by decide +kernel
theorem dX11_hasBit_15 : decode cX11_hasBit 15 = .ok (.iconst 1, 1) := by decide +kernel
theorem dX11_hasBit_16 : decode cX11_hasBit 16 = .ok (.if_icmp .ne 7, 3) := by decide +kernel
theorem dX11_hasBit_19 : decode cX11_hasBit 19 = .ok (.iconst 1, 1) := by decide +kernel
theorem dX11_hasBit_20 : decode cX11_hasBit 20 = .ok (.goto 4, 3) := by decide +kernel
theorem dX11_isStamp_0 : decode cX11_isStamp 0 = .ok (.iload_n 0, 1) := by decide +kernel
theorem dX11_isStamp_1 : decode cX11_isStamp 1 = .ok (.iconst 0, 1) := by decide +kernel
theorem dX11_isStamp_2 : decode cX11_isStamp 2 = .ok (.iconst 5, 1) := by decide +kernel
theorem dX11_isStamp_3 : decode cX11_isStamp 3 = .ok (.invokestatic 83, 3) := by decide +kernel
theorem dX11_isStamp_6 : decode cX11_isStamp 6 = .ok (.ifCond .eq 18, 3) := by decide +kernel
theorem dX11_isStamp_9 : decode cX11_isStamp 9 = .ok (.iload_n 1, 1) := by decide +kernel
theorem dX11_isStamp_10 : decode cX11_isStamp 10 = .ok (.iconst 0, 1) := by decide +kernel
theorem dX11_isStamp_11 : decode cX11_isStamp 11 = .ok (.sipush 999, 3) := by decide +kernel
theorem dX11_isStamp_14 : decode cX11_isStamp 14 = .ok (.invokestatic 83, 3) := by decide +kernel
theorem dX11_isStamp_17 : decode cX11_isStamp 17 = .ok (.ifCond .eq 7, 3) := by decide +kernel
theorem dX11_isStamp_20 : decode cX11_isStamp 20 = .ok (.iconst 1, 1) := by decide +kernel
theorem dX11_isStamp_21 : decode cX11_isStamp 21 = .ok (.goto 4, 3) := by decide +kernel
theorem dX11_isStamp_25 : decode cX11_isStamp 25 = .ok (.ireturn, 1) := by decide +kernel
theorem dX11_isStamp_24 : decode cX11_isStamp 24 = .ok (.iconst 0, 1) := by decide +kernel
theorem dX8_append_0 : decode cX8_append 0 = .ok (.aload_n 0, 1) := by decide +kernel
theorem dX8_append_1 : decode cX8_append 1 = .ok (.getfield 28, 3) := by decide +kernel
theorem dX8_append_4 : decode cX8_append 4 = .ok (.aload_n 0, 1) := by decide +kernel
theorem dX8_append_5 : decode cX8_append 5 = .ok (.getfield 15, 3) := by decide +kernel
theorem dX8_append_8 : decode cX8_append 8 = .ok (.if_icmp .lt 6, 3) := by decide +kernel
theorem dX8_append_14 : decode cX8_append 14 = .ok (.aload_n 0, 1) := by decide +kernel
theorem dX8_append_15 : decode cX8_append 15 = .ok (.dup, 1) := by decide +kernel
theorem dX8_append_16 : decode cX8_append 16 = .ok (.getfield 28, 3) := by decide +kernel
theorem dX8_append_19 : decode cX8_append 19 = .ok (.iconst 1, 1) := by decide +kernel
theorem dX8_append_20 : decode cX8_append 20 = .ok (.iadd, 1) := by decide +kernel
theorem dX8_append_21 : decode cX8_append 21 = .ok (.putfield 28, 3) := by decide +kernel
theorem dX8_append_24 : decode cX8_append 24 = .ok (.aload_n 0, 1) := by decide +kernel
theorem dX8_append_25 : decode cX8_append 25 = .ok (.getfield 28, 3) := by decide +kernel
theorem dX8_append_28 : decode cX8_append 28 = .ok (.iconst 1, 1) := by decide +kernel
theorem dX8_append_29 : decode cX8_append 29 = .ok (.isub, 1) := by decide +kernel
theorem dX8_append_30 : decode cX8_append 30 = .ok (.ireturn, 1) := by decide +kernel
theorem dX8_cut_0 : decode cX8_cut 0 = .ok (.iload_n 1, 1) := by decide +kernel
theorem dX8_cut_1 : decode cX8_cut 1 = .ok (.ifCond .lt 16, 3) := by decide +kernel
theorem dX8_cut_4 : decode cX8_cut 4 = .ok (.iload_n 1, 1) := by decide +kernel
theorem dX8_cut_5 : decode cX8_cut 5 = .ok (.aload_n 0, 1) := by decide +kernel
theorem dX8_cut_6 : decode cX8_cut 6 = .ok (.getfield 28, 3) := by decide +kernel
theorem dX8_cut_9 : decode cX8_cut 9 = .ok (.if_icmp .ge 8, 3) := by decide +kernel
theorem dX8_cut_17 : decode cX8_cut 17 = .ok (.return_, 1) := by decide +kernel
theorem dX8_set_0 : decode cX8_set 0 = .ok (.iload_n 1, 1) := by decide +kernel
theorem dX8_set_1 : decode cX8_set 1 = .ok (.ifCond .lt 23, 3) := by decide +kernel
theorem dX8_set_4 : decode cX8_set 4 = .ok (.iload_n 1, 1) := by decide +kernel
theorem dX8_set_5 : decode cX8_set 5 = .ok (.aload_n 0, 1) := by decide +kernel
theorem dX8_set_6 : decode cX8_set 6 = .ok (.getfield 28, 3) := by decide +kernel
theorem dX8_set_9 : decode cX8_set 9 = .ok (.if_icmp .ge 15, 3) := by decide +kernel
theorem dX8_set_12 : decode cX8_set 12 = .ok (.iload_n 2, 1) := by decide +kernel
theorem dX8_set_13 : decode cX8_set 13 = .ok (.ifCond .lt 11, 3) := by decide +kernel
theorem dX8_set_16 : decode cX8_set 16 = .ok (.iload_n 2, 1) := by decide +kernel
theorem dX8_set_17 : decode cX8_set 17 = .ok (.aload_n 0, 1) := by decide +kernel
theorem dX8_set_18 : decode cX8_set 18 = .ok (.getfield 21, 3) := by decide +kernel
theorem dX8_set_21 : decode cX8_set 21 = .ok (.if_icmp .lt 4, 3) := by decide +kernel
theorem dX8_set_25 : decode cX8_set 25 = .ok (.aload_n 0, 1) := by decide +kernel
theorem dX8_set_26 : decode cX8_set 26 = .ok (.getfield 24, 3) := by decide +kernel
theorem gf_X8_24 (hC : CX p s m meth c y0 b0 mL0 rt0 args) (hy0 : y0.cls = RX8) (hK : KK G s) (hP : va_P G.1 vwCl ws H) (q0 : Nat) {fs : List Value} {v : Value} (he : ws[q0]? = some (a, .inr (8, fs))) (hv : fs[2]? = some v) (hdg : decode b0 pc = .ok (.getfield 24, 3)) (kk : W p l e R s m args below meth c H locs cells slots Q (F0 m (pc + 3) ls (v :: rest))) : W p l e R s m args below meth c H locs cells slots Q (F0 m pc ls (.ref a :: rest)) := by
  obtain ⟨hx, hb, hr, hml, hB, hown, hlocks, hnm⟩ := hC
  rw [hy0] at hown
  exact va_get (ci := 8) (C := RX8) (T := TX8) (N := 4) hx hb hB in_X8 hown hK.1 hP q0 he rfl 2 (by decide) (hB _ m_82) (fun _ h => h) hv hdg kk
theorem dX8_set_29 : decode cX8_set 29 = .ok (.iload_n 1, 1) := by decide +kernel
theorem dX8_set_30 : decode cX8_set 30 = .ok (.aload_n 0, 1) := by decide +kernel
theorem dX8_set_31 : decode cX8_set 31 = .ok (.getfield 21, 3) := by decide +kernel
theorem dX8_set_34 : decode cX8_set 34 = .ok (.imul, 1) := by decide +kernel
theorem dX8_set_35 : decode cX8_set 35 = .ok (.iload_n 2, 1) := by decide +kernel
theorem dX8_set_36 : decode cX8_set 36 = .ok (.iadd, 1) := by decide +kernel
theorem dX8_set_37 : decode cX8_set 37 = .ok (.iload_n 3, 1) := by decide +kernel
theorem dX8_set_38 : decode cX8_set 38 = .ok (.iastore, 1) := by decide +kernel
theorem dX8_set_39 : decode cX8_set 39 = .ok (.return_, 1) := by decide +kernel
theorem dX8_hasAll_0 : decode cX8_hasAll 0 = .ok (.iload_n 1, 1) := by decide +kernel
theorem dX8_hasAll_1 : decode cX8_hasAll 1 = .ok (.ifCond .lt 21, 3) := by decide +kernel
theorem dX8_hasAll_22 : decode cX8_hasAll 22 = .ok (.iconst 0, 1) := by decide +kernel
theorem dX8_hasAll_23 : decode cX8_hasAll 23 = .ok (.ireturn, 1) := by decide +kernel
theorem dX8_hasAll_4 : decode cX8_hasAll 4 = .ok (.iload_n 1, 1) := by decide +kernel
theorem dX8_hasAll_5 : decode cX8_hasAll 5 = .ok (.aload_n 0, 1) := by decide +kernel
theorem dX8_hasAll_6 : decode cX8_hasAll 6 = .ok (.getfield 28, 3) := by decide +kernel
theorem dX8_hasAll_9 : decode cX8_hasAll 9 = .ok (.bipush 31, 2) := by decide +kernel
theorem dX8_hasAll_11 : decode cX8_hasAll 11 = .ok (.invokestatic 31, 3) := by decide +kernel
theorem m_355 : Cond.methodLink RX8 31 Lib.Math.min.name ∈ BW := List.mem_of_getElem? (i := 355) (by decide +kernel)
theorem m_356 : Cond.static Lib.Math.min.name ∈ BW := List.mem_of_getElem? (i := 356) (by decide +kernel)
theorem m_357 : Cond.code Lib.Math.min.name Lib.Math.min.code 2 (some .int) ∈ BW := List.mem_of_getElem? (i := 357) (by decide +kernel)
theorem dX8_hasAll_14 : decode cX8_hasAll 14 = .ok (.ishr, 1) := by decide +kernel
theorem dX8_hasAll_15 : decode cX8_hasAll 15 = .ok (.ifCond .ne 7, 3) := by decide +kernel
theorem dX8_hasAll_18 : decode cX8_hasAll 18 = .ok (.iconst 1, 1) := by decide +kernel
theorem dX8_hasAll_19 : decode cX8_hasAll 19 = .ok (.goto 4, 3) := by decide +kernel
end WR
theorem ne_of_neg {x : Int32} (h : x < 0) : ¬ x = 0 := fun e => absurd (by rw [e] at h; exact h : (0 : Int32) < 0) (by decide)
theorem shr_0 {x : Int32} : x >>> (0 &&& 31 : Int32) = x := by
  apply Int32.toBitVec_inj.mp
  have e : (0 &&& 31 : Int32) = 0 := by decide
  rw [e]
  simp [Int32.toBitVec_shiftRight]
section WR
variable {p : Program} {l : Launch} {e : Env} {R : Room} {s : State} {m : MethodId} {args : Array Value} {below : List Frame} {meth : Method} {c : Code} {H : Heap} {locs : List Loc} {cells slots : Nat} {Q : State → Prop}
variable {pc : Nat} {ls : Array Slot} {rest : List Value} {G : GG} {ws : va_W} {A : Nat → Prop} {y0 : MethodName} {b0 : ByteArray} {mL0 : Nat} {rt0 : Option FieldType} {a : Nat} {H0 : Heap}
theorem dX0_viewedDay_0 : decode cX0_viewedDay 0 = .ok (.aload_n 0, 1) := by decide +kernel
theorem dX0_viewedDay_1 : decode cX0_viewedDay 1 = .ok (.getfield 51, 3) := by decide +kernel
theorem gf_X0_51 (hC : CX p s m meth c y0 b0 mL0 rt0 args) (hy0 : y0.cls = RX0) (hK : KK G s) (hP : va_P G.1 vwCl ws H) (q0 : Nat) {fs : List Value} {v : Value} (he : ws[q0]? = some (a, .inr (0, fs))) (hv : fs[11]? = some v) (hdg : decode b0 pc = .ok (.getfield 51, 3)) (kk : W p l e R s m args below meth c H locs cells slots Q (F0 m (pc + 3) ls (v :: rest))) : W p l e R s m args below meth c H locs cells slots Q (F0 m pc ls (.ref a :: rest)) := by
  obtain ⟨hx, hb, hr, hml, hB, hown, hlocks, hnm⟩ := hC
  rw [hy0] at hown
  exact va_get (ci := 0) (C := RX0) (T := TX0) (N := 14) hx hb hB in_X0 hown hK.1 hP q0 he rfl 11 (by decide) (hB _ m_68) (fun _ h => h) hv hdg kk
theorem dX0_viewedDay_4 : decode cX0_viewedDay 4 = .ok (.ifCond .ge 10, 3) := by decide +kernel
theorem dX0_viewedDay_14 : decode cX0_viewedDay 14 = .ok (.aload_n 0, 1) := by decide +kernel
theorem dX0_viewedDay_15 : decode cX0_viewedDay 15 = .ok (.getfield 51, 3) := by decide +kernel
theorem dX0_viewedDay_18 : decode cX0_viewedDay 18 = .ok (.ireturn, 1) := by decide +kernel
theorem dX0_viewedDay_7 : decode cX0_viewedDay 7 = .ok (.aload_n 0, 1) := by decide +kernel
theorem dX0_viewedDay_8 : decode cX0_viewedDay 8 = .ok (.getfield 47, 3) := by decide +kernel
theorem gf_X0_47 (hC : CX p s m meth c y0 b0 mL0 rt0 args) (hy0 : y0.cls = RX0) (hK : KK G s) (hP : va_P G.1 vwCl ws H) (q0 : Nat) {fs : List Value} {v : Value} (he : ws[q0]? = some (a, .inr (0, fs))) (hv : fs[10]? = some v) (hdg : decode b0 pc = .ok (.getfield 47, 3)) (kk : W p l e R s m args below meth c H locs cells slots Q (F0 m (pc + 3) ls (v :: rest))) : W p l e R s m args below meth c H locs cells slots Q (F0 m pc ls (.ref a :: rest)) := by
  obtain ⟨hx, hb, hr, hml, hB, hown, hlocks, hnm⟩ := hC
  rw [hy0] at hown
  exact va_get (ci := 0) (C := RX0) (T := TX0) (N := 14) hx hb hB in_X0 hown hK.1 hP q0 he rfl 10 (by decide) (hB _ m_67) (fun _ h => h) hv hdg kk
theorem dX0_viewedDay_11 : decode cX0_viewedDay 11 = .ok (.goto 7, 3) := by decide +kernel
theorem dX0_inView_0 : decode cX0_inView 0 = .ok (.iconst 0, 1) := by decide +kernel
theorem dX0_inView_1 : decode cX0_inView 1 = .ok (.istore_n 1, 1) := by decide +kernel
theorem dX0_inView_2 : decode cX0_inView 2 = .ok (.aload_n 0, 1) := by decide +kernel
theorem dX0_inView_3 : decode cX0_inView 3 = .ok (.invokevirtual 64, 3) := by decide +kernel
theorem m_233 : Cond.code yX0_viewedDay cX0_viewedDay 1 (some .int) ∈ BW := List.mem_of_getElem? (i := 233) (by decide +kernel)
theorem m_230 : Cond.methodLink RX0 64 yX0_viewedDay ∈ BW := List.mem_of_getElem? (i := 230) (by decide +kernel)
theorem m_231 : Cond.instanceMethod yX0_viewedDay ∈ BW := List.mem_of_getElem? (i := 231) (by decide +kernel)
theorem m_232 : Cond.selects RX0 yX0_viewedDay yX0_viewedDay ∈ BW := List.mem_of_getElem? (i := 232) (by decide +kernel)
theorem si_X0_64 : SV RX0 RX0 64 yX0_viewedDay cX0_viewedDay 1 (some .int) 0 := ⟨⟨m_230, m_231, m_232, m_15, m_233⟩, rfl, by decide +kernel, by decide +kernel, by decide +kernel⟩
theorem dX0_inView_6 : decode cX0_inView 6 = .ok (.istore_n 2, 1) := by decide +kernel
theorem dX0_inView_7 : decode cX0_inView 7 = .ok (.iconst 0, 1) := by decide +kernel
theorem dX0_inView_8 : decode cX0_inView 8 = .ok (.istore_n 3, 1) := by decide +kernel
theorem dX0_inView_9 : decode cX0_inView 9 = .ok (.iload_n 3, 1) := by decide +kernel
theorem dX0_inView_10 : decode cX0_inView 10 = .ok (.aload_n 0, 1) := by decide +kernel
theorem dX0_inView_11 : decode cX0_inView 11 = .ok (.getfield 20, 3) := by decide +kernel
theorem gf_X0_20 (hC : CX p s m meth c y0 b0 mL0 rt0 args) (hy0 : y0.cls = RX0) (hK : KK G s) (hP : va_P G.1 vwCl ws H) (q0 : Nat) {fs : List Value} {v : Value} (he : ws[q0]? = some (a, .inr (0, fs))) (hv : fs[1]? = some v) (hdg : decode b0 pc = .ok (.getfield 20, 3)) (kk : W p l e R s m args below meth c H locs cells slots Q (F0 m (pc + 3) ls (v :: rest))) : W p l e R s m args below meth c H locs cells slots Q (F0 m pc ls (.ref a :: rest)) := by
  obtain ⟨hx, hb, hr, hml, hB, hown, hlocks, hnm⟩ := hC
  rw [hy0] at hown
  exact va_get (ci := 0) (C := RX0) (T := TX0) (N := 14) hx hb hB in_X0 hown hK.1 hP q0 he rfl 1 (by decide) (hB _ m_58) (fun _ h => h) hv hdg kk
theorem dX0_inView_14 : decode cX0_inView 14 = .ok (.invokevirtual 68, 3) := by decide +kernel
theorem m_237 : Cond.code yX8_count cX8_count 1 (some .int) ∈ BW := List.mem_of_getElem? (i := 237) (by decide +kernel)
theorem m_234 : Cond.methodLink RX0 68 yX8_count ∈ BW := List.mem_of_getElem? (i := 234) (by decide +kernel)
theorem m_235 : Cond.instanceMethod yX8_count ∈ BW := List.mem_of_getElem? (i := 235) (by decide +kernel)
theorem m_236 : Cond.selects RX8 yX8_count yX8_count ∈ BW := List.mem_of_getElem? (i := 236) (by decide +kernel)
theorem si_X0_68 : SV RX0 RX8 68 yX8_count cX8_count 1 (some .int) 0 := ⟨⟨m_234, m_235, m_236, m_56, m_237⟩, rfl, by decide +kernel, by decide +kernel, by decide +kernel⟩
theorem dX0_inView_17 : decode cX0_inView 17 = .ok (.if_icmp .ge 78, 3) := by decide +kernel
theorem dX0_inView_95 : decode cX0_inView 95 = .ok (.iload_n 1, 1) := by decide +kernel
theorem dX0_inView_96 : decode cX0_inView 96 = .ok (.ireturn, 1) := by decide +kernel
theorem dX0_countSayings_0 : decode cX0_countSayings 0 = .ok (.iconst 0, 1) := by decide +kernel
theorem dX0_countSayings_1 : decode cX0_countSayings 1 = .ok (.istore_n 2, 1) := by decide +kernel
theorem dX0_countSayings_2 : decode cX0_countSayings 2 = .ok (.iconst 0, 1) := by decide +kernel
theorem dX0_countSayings_3 : decode cX0_countSayings 3 = .ok (.istore_n 3, 1) := by decide +kernel
theorem dX0_countSayings_4 : decode cX0_countSayings 4 = .ok (.iload_n 3, 1) := by decide +kernel
theorem dX0_countSayings_5 : decode cX0_countSayings 5 = .ok (.aload_n 0, 1) := by decide +kernel
theorem dX0_countSayings_6 : decode cX0_countSayings 6 = .ok (.getfield 35, 3) := by decide +kernel
theorem gf_X0_35 (hC : CX p s m meth c y0 b0 mL0 rt0 args) (hy0 : y0.cls = RX0) (hK : KK G s) (hP : va_P G.1 vwCl ws H) (q0 : Nat) {fs : List Value} {v : Value} (he : ws[q0]? = some (a, .inr (0, fs))) (hv : fs[6]? = some v) (hdg : decode b0 pc = .ok (.getfield 35, 3)) (kk : W p l e R s m args below meth c H locs cells slots Q (F0 m (pc + 3) ls (v :: rest))) : W p l e R s m args below meth c H locs cells slots Q (F0 m pc ls (.ref a :: rest)) := by
  obtain ⟨hx, hb, hr, hml, hB, hown, hlocks, hnm⟩ := hC
  rw [hy0] at hown
  exact va_get (ci := 0) (C := RX0) (T := TX0) (N := 14) hx hb hB in_X0 hown hK.1 hP q0 he rfl 6 (by decide) (hB _ m_63) (fun _ h => h) hv hdg kk
theorem dX0_countSayings_9 : decode cX0_countSayings 9 = .ok (.invokevirtual 68, 3) := by decide +kernel
theorem dX0_countSayings_12 : decode cX0_countSayings 12 = .ok (.if_icmp .ge 21, 3) := by decide +kernel
theorem dX0_countSayings_33 : decode cX0_countSayings 33 = .ok (.iload_n 2, 1) := by decide +kernel
theorem dX0_countSayings_34 : decode cX0_countSayings 34 = .ok (.ireturn, 1) := by decide +kernel
theorem dX11_countStanding_0 : decode cX11_countStanding 0 = .ok (.iconst 0, 1) := by decide +kernel
theorem dX11_countStanding_1 : decode cX11_countStanding 1 = .ok (.istore_n 2, 1) := by decide +kernel
theorem dX11_countStanding_2 : decode cX11_countStanding 2 = .ok (.iconst 0, 1) := by decide +kernel
theorem dX11_countStanding_3 : decode cX11_countStanding 3 = .ok (.istore_n 3, 1) := by decide +kernel
theorem dX11_countStanding_4 : decode cX11_countStanding 4 = .ok (.iload_n 3, 1) := by decide +kernel
theorem dX11_countStanding_5 : decode cX11_countStanding 5 = .ok (.aload_n 0, 1) := by decide +kernel
theorem dX11_countStanding_6 : decode cX11_countStanding 6 = .ok (.getfield 15, 3) := by decide +kernel
theorem gf_X11_15 (hC : CX p s m meth c y0 b0 mL0 rt0 args) (hy0 : y0.cls = RX11) (hK : KK G s) (hP : va_P G.1 vwCl ws H) (q0 : Nat) {fs : List Value} {v : Value} (he : ws[q0]? = some (a, .inr (11, fs))) (hv : fs[0]? = some v) (hdg : decode b0 pc = .ok (.getfield 15, 3)) (kk : W p l e R s m args below meth c H locs cells slots Q (F0 m (pc + 3) ls (v :: rest))) : W p l e R s m args below meth c H locs cells slots Q (F0 m pc ls (.ref a :: rest)) := by
  obtain ⟨hx, hb, hr, hml, hB, hown, hlocks, hnm⟩ := hC
  rw [hy0] at hown
  exact va_get (ci := 11) (C := RX11) (T := TX11) (N := 11) hx hb hB in_X11 hown hK.1 hP q0 he rfl 0 (by decide) (hB _ m_19) (fun _ h => h) hv hdg kk
theorem dX11_countStanding_9 : decode cX11_countStanding 9 = .ok (.getfield 271, 3) := by decide +kernel
theorem nm_26 : Cond.fieldLinkNest RX11 271 RX0 "findings" "LInquiryBench$Table;" RX11 ∈ NestW := List.mem_of_getElem? (i := 26) (by decide +kernel)
theorem gf_X11_271 (hC : CX p s m meth c y0 b0 mL0 rt0 args) (hy0 : y0.cls = RX11) (hK : KK G s) (hP : va_P G.1 vwCl ws H) (q0 : Nat) {fs : List Value} {v : Value} (he : ws[q0]? = some (a, .inr (0, fs))) (hv : fs[7]? = some v) (hdg : decode b0 pc = .ok (.getfield 271, 3)) (kk : W p l e R s m args below meth c H locs cells slots Q (F0 m (pc + 3) ls (v :: rest))) : W p l e R s m args below meth c H locs cells slots Q (F0 m pc ls (.ref a :: rest)) := by
  obtain ⟨hx, hb, hr, hml, hB, hown, hlocks, hnm⟩ := hC
  rw [hy0] at hown
  exact va_getN (ci := 0) (C := RX0) (T := TX0) (N := 14) hx hb hB in_X0 hown hK.1 hP q0 he rfl 7 (by decide) (va_Nw.use rfl (hK.2.1 _ nm_26)) (fun _ h => h) hv hdg kk
theorem dX11_countStanding_12 : decode cX11_countStanding 12 = .ok (.invokevirtual 174, 3) := by decide +kernel
theorem m_431 : Cond.methodLink RX11 174 yX8_count ∈ BW := List.mem_of_getElem? (i := 431) (by decide +kernel)
theorem si_X11_174 : SV RX11 RX8 174 yX8_count cX8_count 1 (some .int) 0 := ⟨⟨m_431, m_235, m_236, m_56, m_237⟩, rfl, by decide +kernel, by decide +kernel, by decide +kernel⟩
theorem dX11_countStanding_15 : decode cX11_countStanding 15 = .ok (.if_icmp .ge 21, 3) := by decide +kernel
theorem dX11_countStanding_36 : decode cX11_countStanding 36 = .ok (.iload_n 2, 1) := by decide +kernel
theorem dX11_countStanding_37 : decode cX11_countStanding 37 = .ok (.ireturn, 1) := by decide +kernel
theorem dJ6_bitCount_0f7a4_0 : decode cJ6_bitCount_0f7a4 0 = .ok (.iload_n 0, 1) := by decide +kernel
theorem dJ6_bitCount_0f7a4_1 : decode cJ6_bitCount_0f7a4 1 = .ok (.iload_n 0, 1) := by decide +kernel
theorem dJ6_bitCount_0f7a4_2 : decode cJ6_bitCount_0f7a4 2 = .ok (.iconst 1, 1) := by decide +kernel
theorem dJ6_bitCount_0f7a4_3 : decode cJ6_bitCount_0f7a4 3 = .ok (.iushr, 1) := by decide +kernel
theorem dJ6_bitCount_0f7a4_4 : decode cJ6_bitCount_0f7a4 4 = .ok (.ldc_w 265, 3) := by decide +kernel
theorem m_246 : Cond.constant RJ6 265 (1431655765) ∈ BW := List.mem_of_getElem? (i := 246) (by decide +kernel)
theorem dJ6_bitCount_0f7a4_7 : decode cJ6_bitCount_0f7a4 7 = .ok (.iand, 1) := by decide +kernel
theorem dJ6_bitCount_0f7a4_8 : decode cJ6_bitCount_0f7a4 8 = .ok (.isub, 1) := by decide +kernel
theorem dJ6_bitCount_0f7a4_9 : decode cJ6_bitCount_0f7a4 9 = .ok (.istore_n 0, 1) := by decide +kernel
theorem dJ6_bitCount_0f7a4_10 : decode cJ6_bitCount_0f7a4 10 = .ok (.iload_n 0, 1) := by decide +kernel
theorem dJ6_bitCount_0f7a4_11 : decode cJ6_bitCount_0f7a4 11 = .ok (.ldc_w 266, 3) := by decide +kernel
theorem m_247 : Cond.constant RJ6 266 (858993459) ∈ BW := List.mem_of_getElem? (i := 247) (by decide +kernel)
theorem dJ6_bitCount_0f7a4_14 : decode cJ6_bitCount_0f7a4 14 = .ok (.iand, 1) := by decide +kernel
theorem dJ6_bitCount_0f7a4_15 : decode cJ6_bitCount_0f7a4 15 = .ok (.iload_n 0, 1) := by decide +kernel
theorem dJ6_bitCount_0f7a4_16 : decode cJ6_bitCount_0f7a4 16 = .ok (.iconst 2, 1) := by decide +kernel
theorem dJ6_bitCount_0f7a4_17 : decode cJ6_bitCount_0f7a4 17 = .ok (.iushr, 1) := by decide +kernel
theorem dJ6_bitCount_0f7a4_18 : decode cJ6_bitCount_0f7a4 18 = .ok (.ldc_w 266, 3) := by decide +kernel
theorem dJ6_bitCount_0f7a4_21 : decode cJ6_bitCount_0f7a4 21 = .ok (.iand, 1) := by decide +kernel
theorem dJ6_bitCount_0f7a4_22 : decode cJ6_bitCount_0f7a4 22 = .ok (.iadd, 1) := by decide +kernel
theorem dJ6_bitCount_0f7a4_23 : decode cJ6_bitCount_0f7a4 23 = .ok (.istore_n 0, 1) := by decide +kernel
theorem dJ6_bitCount_0f7a4_24 : decode cJ6_bitCount_0f7a4 24 = .ok (.iload_n 0, 1) := by decide +kernel
theorem dJ6_bitCount_0f7a4_25 : decode cJ6_bitCount_0f7a4 25 = .ok (.iload_n 0, 1) := by decide +kernel
theorem dJ6_bitCount_0f7a4_26 : decode cJ6_bitCount_0f7a4 26 = .ok (.iconst 4, 1) := by decide +kernel
theorem dJ6_bitCount_0f7a4_27 : decode cJ6_bitCount_0f7a4 27 = .ok (.iushr, 1) := by decide +kernel
theorem dJ6_bitCount_0f7a4_28 : decode cJ6_bitCount_0f7a4 28 = .ok (.iadd, 1) := by decide +kernel
theorem dJ6_bitCount_0f7a4_29 : decode cJ6_bitCount_0f7a4 29 = .ok (.ldc_w 267, 3) := by decide +kernel
theorem m_248 : Cond.constant RJ6 267 (252645135) ∈ BW := List.mem_of_getElem? (i := 248) (by decide +kernel)
theorem dJ6_bitCount_0f7a4_32 : decode cJ6_bitCount_0f7a4 32 = .ok (.iand, 1) := by decide +kernel
theorem dJ6_bitCount_0f7a4_33 : decode cJ6_bitCount_0f7a4 33 = .ok (.istore_n 0, 1) := by decide +kernel
theorem dJ6_bitCount_0f7a4_34 : decode cJ6_bitCount_0f7a4 34 = .ok (.iload_n 0, 1) := by decide +kernel
theorem dJ6_bitCount_0f7a4_35 : decode cJ6_bitCount_0f7a4 35 = .ok (.iload_n 0, 1) := by decide +kernel
theorem dJ6_bitCount_0f7a4_36 : decode cJ6_bitCount_0f7a4 36 = .ok (.bipush 8, 2) := by decide +kernel
theorem dJ6_bitCount_0f7a4_38 : decode cJ6_bitCount_0f7a4 38 = .ok (.iushr, 1) := by decide +kernel
theorem dJ6_bitCount_0f7a4_39 : decode cJ6_bitCount_0f7a4 39 = .ok (.iadd, 1) := by decide +kernel
theorem dJ6_bitCount_0f7a4_40 : decode cJ6_bitCount_0f7a4 40 = .ok (.istore_n 0, 1) := by decide +kernel
theorem dJ6_bitCount_0f7a4_41 : decode cJ6_bitCount_0f7a4 41 = .ok (.iload_n 0, 1) := by decide +kernel
theorem dJ6_bitCount_0f7a4_42 : decode cJ6_bitCount_0f7a4 42 = .ok (.iload_n 0, 1) := by decide +kernel
theorem dJ6_bitCount_0f7a4_43 : decode cJ6_bitCount_0f7a4 43 = .ok (.bipush 16, 2) := by decide +kernel
theorem dJ6_bitCount_0f7a4_45 : decode cJ6_bitCount_0f7a4 45 = .ok (.iushr, 1) := by decide +kernel
theorem dJ6_bitCount_0f7a4_46 : decode cJ6_bitCount_0f7a4 46 = .ok (.iadd, 1) := by decide +kernel
theorem dJ6_bitCount_0f7a4_47 : decode cJ6_bitCount_0f7a4 47 = .ok (.istore_n 0, 1) := by decide +kernel
theorem dJ6_bitCount_0f7a4_48 : decode cJ6_bitCount_0f7a4 48 = .ok (.iload_n 0, 1) := by decide +kernel
theorem dJ6_bitCount_0f7a4_49 : decode cJ6_bitCount_0f7a4 49 = .ok (.bipush 63, 2) := by decide +kernel
theorem dJ6_bitCount_0f7a4_51 : decode cJ6_bitCount_0f7a4 51 = .ok (.iand, 1) := by decide +kernel
theorem dJ6_bitCount_0f7a4_52 : decode cJ6_bitCount_0f7a4 52 = .ok (.ireturn, 1) := by decide +kernel
end WR
noncomputable def A_days (n : Int32) : Int32 := ifc (Wi n 1 99) (ifc (0 + n ≤ 499) (0 + n) (-4)) (-1)
section WR
variable {p : Program} {l : Launch} {e : Env} {R : Room} {s : State} {m : MethodId} {args : Array Value} {below : List Frame} {meth : Method} {c : Code} {H : Heap} {locs : List Loc} {cells slots : Nat} {Q : State → Prop}
variable {pc : Nat} {ls : Array Slot} {rest : List Value} {G : GG} {ws : va_W} {A : Nat → Prop} {y0 : MethodName} {b0 : ByteArray} {mL0 : Nat} {rt0 : Option FieldType} {a : Nat} {H0 : Heap}
theorem dX11_days_0 : decode cX11_days 0 = .ok (.iload_n 1, 1) := by decide +kernel
theorem dX11_days_1 : decode cX11_days 1 = .ok (.iconst 1, 1) := by decide +kernel
theorem dX11_days_2 : decode cX11_days 2 = .ok (.bipush 99, 2) := by decide +kernel
theorem dX11_days_4 : decode cX11_days 4 = .ok (.invokestatic 83, 3) := by decide +kernel
theorem dX11_days_7 : decode cX11_days 7 = .ok (.ifCond .ne 5, 3) := by decide +kernel
theorem dX11_days_12 : decode cX11_days 12 = .ok (.aload_n 0, 1) := by decide +kernel
theorem dX11_days_13 : decode cX11_days 13 = .ok (.getfield 15, 3) := by decide +kernel
theorem dX11_days_16 : decode cX11_days 16 = .ok (.getfield 87, 3) := by decide +kernel
theorem nm_30 : Cond.fieldLinkNest RX11 87 RX0 "today" "I" RX11 ∈ NestW := List.mem_of_getElem? (i := 30) (by decide +kernel)
theorem gf_X11_87 (hC : CX p s m meth c y0 b0 mL0 rt0 args) (hy0 : y0.cls = RX11) (hK : KK G s) (hP : va_P G.1 vwCl ws H) (q0 : Nat) {fs : List Value} {v : Value} (he : ws[q0]? = some (a, .inr (0, fs))) (hv : fs[10]? = some v) (hdg : decode b0 pc = .ok (.getfield 87, 3)) (kk : W p l e R s m args below meth c H locs cells slots Q (F0 m (pc + 3) ls (v :: rest))) : W p l e R s m args below meth c H locs cells slots Q (F0 m pc ls (.ref a :: rest)) := by
  obtain ⟨hx, hb, hr, hml, hB, hown, hlocks, hnm⟩ := hC
  rw [hy0] at hown
  exact va_getN (ci := 0) (C := RX0) (T := TX0) (N := 14) hx hb hB in_X0 hown hK.1 hP q0 he rfl 10 (by decide) (va_Nw.use rfl (hK.2.1 _ nm_30)) (fun _ h => h) hv hdg kk
theorem dX11_days_19 : decode cX11_days 19 = .ok (.iload_n 1, 1) := by decide +kernel
theorem dX11_days_20 : decode cX11_days 20 = .ok (.iadd, 1) := by decide +kernel
theorem dX11_days_21 : decode cX11_days 21 = .ok (.sipush 499, 3) := by decide +kernel
theorem dX11_days_24 : decode cX11_days 24 = .ok (.if_icmp .le 6, 3) := by decide +kernel
theorem dX11_days_30 : decode cX11_days 30 = .ok (.aload_n 0, 1) := by decide +kernel
theorem dX11_days_31 : decode cX11_days 31 = .ok (.getfield 15, 3) := by decide +kernel
theorem dX11_days_34 : decode cX11_days 34 = .ok (.dup, 1) := by decide +kernel
theorem dX11_days_35 : decode cX11_days 35 = .ok (.getfield 87, 3) := by decide +kernel
theorem dX11_days_38 : decode cX11_days 38 = .ok (.iload_n 1, 1) := by decide +kernel
theorem dX11_days_39 : decode cX11_days 39 = .ok (.iadd, 1) := by decide +kernel
theorem dX11_days_40 : decode cX11_days 40 = .ok (.putfield 87, 3) := by decide +kernel
theorem pf_X11_87 (hC : CX p s m meth c y0 b0 mL0 rt0 args) (hy0 : y0.cls = RX11) (hK : KK G s) (hP : va_P G.1 vwCl ws H) (hD : va_D A ws) (hS : va_S A H0 H locs) (q0 : Nat) {fs : List Value} {v : Value} {ws' : va_W} (he : ws[q0]? = some (a, .inr (0, fs))) (hl : 10 < fs.length) (hws : ws.set q0 (a, .inr (0, fs.set 10 v)) = ws') (hn : narrow .int v = v) (hfit : fits .int v = true) (hdg : decode b0 pc = .ok (.putfield 87, 3)) (kk : ∀ (H1 : Heap) (locs1 : List Loc), va_P G.1 vwCl ws' H1 → va_D A ws' → va_S A H0 H1 locs1 → W p l e R s m args below meth c H1 locs1 cells slots Q (F0 m (pc + 3) ls rest)) : W p l e R s m args below meth c H locs cells slots Q (F0 m pc ls (v :: .ref a :: rest)) := by
  obtain ⟨hx, hb, hr, hml, hB, hown, hlocks, hnm⟩ := hC
  rw [hy0] at hown
  subst hws
  exact va_putN (ci := 0) (ty := .int) (C := RX0) (T := TX0) (N := 14) hx hb hB in_X0 tyX0 tyX0_ok nmX0 hown hK.1 hP hD hS q0 he rfl 10 (by decide) (va_Nw.use rfl (hK.2.1 _ nm_30)) (fun _ h => h) rfl (by decide +kernel) hn hfit hl hdg kk
theorem dX11_days_43 : decode cX11_days 43 = .ok (.aload_n 0, 1) := by decide +kernel
theorem dX11_days_44 : decode cX11_days 44 = .ok (.getfield 15, 3) := by decide +kernel
theorem dX11_days_47 : decode cX11_days 47 = .ok (.getfield 87, 3) := by decide +kernel
theorem dX11_days_50 : decode cX11_days 50 = .ok (.ireturn, 1) := by decide +kernel
theorem dX11_days_27 : decode cX11_days 27 = .ok (.bipush (-4), 2) := by decide +kernel
theorem dX11_days_29 : decode cX11_days 29 = .ok (.ireturn, 1) := by decide +kernel
theorem dX11_days_10 : decode cX11_days 10 = .ok (.iconst (-1), 1) := by decide +kernel
theorem dX11_days_11 : decode cX11_days 11 = .ok (.ireturn, 1) := by decide +kernel
end WR
noncomputable def A_view (dy lv : Int32) : Int32 := ifc (Wi dy (-1) 499) (ifc (Wi lv 0 3) 0 (-1)) (-1)
section WR
variable {p : Program} {l : Launch} {e : Env} {R : Room} {s : State} {m : MethodId} {args : Array Value} {below : List Frame} {meth : Method} {c : Code} {H : Heap} {locs : List Loc} {cells slots : Nat} {Q : State → Prop}
variable {pc : Nat} {ls : Array Slot} {rest : List Value} {G : GG} {ws : va_W} {A : Nat → Prop} {y0 : MethodName} {b0 : ByteArray} {mL0 : Nat} {rt0 : Option FieldType} {a : Nat} {H0 : Heap}
theorem dX11_view_0 : decode cX11_view 0 = .ok (.iload_n 1, 1) := by decide +kernel
theorem dX11_view_1 : decode cX11_view 1 = .ok (.iconst (-1), 1) := by decide +kernel
theorem dX11_view_2 : decode cX11_view 2 = .ok (.sipush 499, 3) := by decide +kernel
theorem dX11_view_5 : decode cX11_view 5 = .ok (.invokestatic 83, 3) := by decide +kernel
theorem dX11_view_8 : decode cX11_view 8 = .ok (.ifCond .eq 12, 3) := by decide +kernel
theorem dX11_view_11 : decode cX11_view 11 = .ok (.iload_n 2, 1) := by decide +kernel
theorem dX11_view_12 : decode cX11_view 12 = .ok (.iconst 0, 1) := by decide +kernel
theorem dX11_view_13 : decode cX11_view 13 = .ok (.iconst 3, 1) := by decide +kernel
theorem dX11_view_14 : decode cX11_view 14 = .ok (.invokestatic 83, 3) := by decide +kernel
theorem dX11_view_17 : decode cX11_view 17 = .ok (.ifCond .ne 5, 3) := by decide +kernel
theorem dX11_view_22 : decode cX11_view 22 = .ok (.aload_n 0, 1) := by decide +kernel
theorem dX11_view_23 : decode cX11_view 23 = .ok (.getfield 15, 3) := by decide +kernel
theorem dX11_view_26 : decode cX11_view 26 = .ok (.iload_n 1, 1) := by decide +kernel
theorem dX11_view_27 : decode cX11_view 27 = .ok (.putfield 91, 3) := by decide +kernel
theorem nm_33 : Cond.fieldLinkNest RX11 91 RX0 "viewDay" "I" RX11 ∈ NestW := List.mem_of_getElem? (i := 33) (by decide +kernel)
theorem pf_X11_91 (hC : CX p s m meth c y0 b0 mL0 rt0 args) (hy0 : y0.cls = RX11) (hK : KK G s) (hP : va_P G.1 vwCl ws H) (hD : va_D A ws) (hS : va_S A H0 H locs) (q0 : Nat) {fs : List Value} {v : Value} {ws' : va_W} (he : ws[q0]? = some (a, .inr (0, fs))) (hl : 11 < fs.length) (hws : ws.set q0 (a, .inr (0, fs.set 11 v)) = ws') (hn : narrow .int v = v) (hfit : fits .int v = true) (hdg : decode b0 pc = .ok (.putfield 91, 3)) (kk : ∀ (H1 : Heap) (locs1 : List Loc), va_P G.1 vwCl ws' H1 → va_D A ws' → va_S A H0 H1 locs1 → W p l e R s m args below meth c H1 locs1 cells slots Q (F0 m (pc + 3) ls rest)) : W p l e R s m args below meth c H locs cells slots Q (F0 m pc ls (v :: .ref a :: rest)) := by
  obtain ⟨hx, hb, hr, hml, hB, hown, hlocks, hnm⟩ := hC
  rw [hy0] at hown
  subst hws
  exact va_putN (ci := 0) (ty := .int) (C := RX0) (T := TX0) (N := 14) hx hb hB in_X0 tyX0 tyX0_ok nmX0 hown hK.1 hP hD hS q0 he rfl 11 (by decide) (va_Nw.use rfl (hK.2.1 _ nm_33)) (fun _ h => h) rfl (by decide +kernel) hn hfit hl hdg kk
theorem dX11_view_30 : decode cX11_view 30 = .ok (.aload_n 0, 1) := by decide +kernel
theorem dX11_view_31 : decode cX11_view 31 = .ok (.getfield 15, 3) := by decide +kernel
theorem dX11_view_34 : decode cX11_view 34 = .ok (.iload_n 2, 1) := by decide +kernel
theorem dX11_view_35 : decode cX11_view 35 = .ok (.putfield 94, 3) := by decide +kernel
theorem nm_34 : Cond.fieldLinkNest RX11 94 RX0 "viewLevel" "I" RX11 ∈ NestW := List.mem_of_getElem? (i := 34) (by decide +kernel)
theorem pf_X11_94 (hC : CX p s m meth c y0 b0 mL0 rt0 args) (hy0 : y0.cls = RX11) (hK : KK G s) (hP : va_P G.1 vwCl ws H) (hD : va_D A ws) (hS : va_S A H0 H locs) (q0 : Nat) {fs : List Value} {v : Value} {ws' : va_W} (he : ws[q0]? = some (a, .inr (0, fs))) (hl : 12 < fs.length) (hws : ws.set q0 (a, .inr (0, fs.set 12 v)) = ws') (hn : narrow .int v = v) (hfit : fits .int v = true) (hdg : decode b0 pc = .ok (.putfield 94, 3)) (kk : ∀ (H1 : Heap) (locs1 : List Loc), va_P G.1 vwCl ws' H1 → va_D A ws' → va_S A H0 H1 locs1 → W p l e R s m args below meth c H1 locs1 cells slots Q (F0 m (pc + 3) ls rest)) : W p l e R s m args below meth c H locs cells slots Q (F0 m pc ls (v :: .ref a :: rest)) := by
  obtain ⟨hx, hb, hr, hml, hB, hown, hlocks, hnm⟩ := hC
  rw [hy0] at hown
  subst hws
  exact va_putN (ci := 0) (ty := .int) (C := RX0) (T := TX0) (N := 14) hx hb hB in_X0 tyX0 tyX0_ok nmX0 hown hK.1 hP hD hS q0 he rfl 12 (by decide) (va_Nw.use rfl (hK.2.1 _ nm_34)) (fun _ h => h) rfl (by decide +kernel) hn hfit hl hdg kk
theorem dX11_view_38 : decode cX11_view 38 = .ok (.aload_n 0, 1) := by decide +kernel
theorem dX11_view_39 : decode cX11_view 39 = .ok (.getfield 15, 3) := by decide +kernel
theorem dX11_view_42 : decode cX11_view 42 = .ok (.invokevirtual 97, 3) := by decide +kernel
theorem m_229 : Cond.code yX0_inView cX0_inView 6 (some .int) ∈ BW := List.mem_of_getElem? (i := 229) (by decide +kernel)
theorem m_226 : Cond.methodLink RX11 97 yX0_inView ∈ BW := List.mem_of_getElem? (i := 226) (by decide +kernel)
theorem m_227 : Cond.instanceMethod yX0_inView ∈ BW := List.mem_of_getElem? (i := 227) (by decide +kernel)
theorem m_228 : Cond.selects RX0 yX0_inView yX0_inView ∈ BW := List.mem_of_getElem? (i := 228) (by decide +kernel)
theorem si_X11_97 : SV RX11 RX0 97 yX0_inView cX0_inView 6 (some .int) 0 := ⟨⟨m_226, m_227, m_228, m_15, m_229⟩, rfl, by decide +kernel, by decide +kernel, by decide +kernel⟩
theorem dX11_view_45 : decode cX11_view 45 = .ok (.invokestatic 101, 3) := by decide +kernel
theorem m_245 : Cond.code yJ6_bitCount_0f7a4 cJ6_bitCount_0f7a4 1 (some .int) ∈ BW := List.mem_of_getElem? (i := 245) (by decide +kernel)
theorem m_244 : Cond.initialized RJ6 ∈ BW := List.mem_of_getElem? (i := 244) (by decide +kernel)
theorem m_242 : Cond.methodLink RX11 101 yJ6_bitCount_0f7a4 ∈ BW := List.mem_of_getElem? (i := 242) (by decide +kernel)
theorem m_243 : Cond.static yJ6_bitCount_0f7a4 ∈ BW := List.mem_of_getElem? (i := 243) (by decide +kernel)
theorem si_X11_101 : SS RX11 101 yJ6_bitCount_0f7a4 cJ6_bitCount_0f7a4 1 (some .int) 1 := ⟨⟨m_242, m_243, m_244, m_245⟩, ⟨by decide +kernel, by decide +kernel, by decide +kernel⟩⟩
theorem dX11_view_48 : decode cX11_view 48 = .ok (.ireturn, 1) := by decide +kernel
theorem dX11_view_20 : decode cX11_view 20 = .ok (.iconst (-1), 1) := by decide +kernel
theorem dX11_view_21 : decode cX11_view 21 = .ok (.ireturn, 1) := by decide +kernel
end WR
noncomputable def A_person (po sl : Int32) : Int32 := ifc (Wi po 0 9) (ifc (Wi sl 0 48) 0 (-1)) (-1)
section WR
variable {p : Program} {l : Launch} {e : Env} {R : Room} {s : State} {m : MethodId} {args : Array Value} {below : List Frame} {meth : Method} {c : Code} {H : Heap} {locs : List Loc} {cells slots : Nat} {Q : State → Prop}
variable {pc : Nat} {ls : Array Slot} {rest : List Value} {G : GG} {ws : va_W} {A : Nat → Prop} {y0 : MethodName} {b0 : ByteArray} {mL0 : Nat} {rt0 : Option FieldType} {a : Nat} {H0 : Heap}
theorem dX11_person_0 : decode cX11_person 0 = .ok (.iload_n 1, 1) := by decide +kernel
theorem dX11_person_1 : decode cX11_person 1 = .ok (.iconst 0, 1) := by decide +kernel
theorem dX11_person_2 : decode cX11_person 2 = .ok (.bipush 9, 2) := by decide +kernel
theorem dX11_person_4 : decode cX11_person 4 = .ok (.invokestatic 83, 3) := by decide +kernel
theorem dX11_person_7 : decode cX11_person 7 = .ok (.ifCond .eq 13, 3) := by decide +kernel
theorem dX11_person_10 : decode cX11_person 10 = .ok (.iload_n 2, 1) := by decide +kernel
theorem dX11_person_11 : decode cX11_person 11 = .ok (.iconst 0, 1) := by decide +kernel
theorem dX11_person_12 : decode cX11_person 12 = .ok (.bipush 48, 2) := by decide +kernel
theorem dX11_person_14 : decode cX11_person 14 = .ok (.invokestatic 83, 3) := by decide +kernel
theorem dX11_person_17 : decode cX11_person 17 = .ok (.ifCond .ne 5, 3) := by decide +kernel
theorem dX11_person_22 : decode cX11_person 22 = .ok (.aload_n 0, 1) := by decide +kernel
theorem dX11_person_23 : decode cX11_person 23 = .ok (.getfield 15, 3) := by decide +kernel
theorem dX11_person_26 : decode cX11_person 26 = .ok (.getfield 107, 3) := by decide +kernel
theorem nm_2 : Cond.fieldLinkNest RX11 107 RX0 "persons" "LInquiryBench$Table;" RX11 ∈ NestW := List.mem_of_getElem? (i := 2) (by decide +kernel)
theorem gf_X11_107 (hC : CX p s m meth c y0 b0 mL0 rt0 args) (hy0 : y0.cls = RX11) (hK : KK G s) (hP : va_P G.1 vwCl ws H) (q0 : Nat) {fs : List Value} {v : Value} (he : ws[q0]? = some (a, .inr (0, fs))) (hv : fs[0]? = some v) (hdg : decode b0 pc = .ok (.getfield 107, 3)) (kk : W p l e R s m args below meth c H locs cells slots Q (F0 m (pc + 3) ls (v :: rest))) : W p l e R s m args below meth c H locs cells slots Q (F0 m pc ls (.ref a :: rest)) := by
  obtain ⟨hx, hb, hr, hml, hB, hown, hlocks, hnm⟩ := hC
  rw [hy0] at hown
  exact va_getN (ci := 0) (C := RX0) (T := TX0) (N := 14) hx hb hB in_X0 hown hK.1 hP q0 he rfl 0 (by decide) (va_Nw.use rfl (hK.2.1 _ nm_2)) (fun _ h => h) hv hdg kk
theorem dX11_person_29 : decode cX11_person 29 = .ok (.invokevirtual 111, 3) := by decide +kernel
theorem m_283 : Cond.code yX8_isFull cX8_isFull 1 (some .boolean) ∈ BW := List.mem_of_getElem? (i := 283) (by decide +kernel)
theorem m_280 : Cond.methodLink RX11 111 yX8_isFull ∈ BW := List.mem_of_getElem? (i := 280) (by decide +kernel)
theorem m_281 : Cond.instanceMethod yX8_isFull ∈ BW := List.mem_of_getElem? (i := 281) (by decide +kernel)
theorem m_282 : Cond.selects RX8 yX8_isFull yX8_isFull ∈ BW := List.mem_of_getElem? (i := 282) (by decide +kernel)
theorem si_X11_111 : SV RX11 RX8 111 yX8_isFull cX8_isFull 1 (some .boolean) 0 := ⟨⟨m_280, m_281, m_282, m_56, m_283⟩, rfl, by decide +kernel, by decide +kernel, by decide +kernel⟩
theorem dX11_person_32 : decode cX11_person 32 = .ok (.ifCond .eq 6, 3) := by decide +kernel
theorem dX11_person_38 : decode cX11_person 38 = .ok (.aload_n 0, 1) := by decide +kernel
theorem dX11_person_39 : decode cX11_person 39 = .ok (.getfield 15, 3) := by decide +kernel
theorem dX11_person_42 : decode cX11_person 42 = .ok (.getfield 107, 3) := by decide +kernel
theorem dX11_person_45 : decode cX11_person 45 = .ok (.invokevirtual 117, 3) := by decide +kernel
theorem m_287 : Cond.code yX8_append cX8_append 1 (some .int) ∈ BW := List.mem_of_getElem? (i := 287) (by decide +kernel)
theorem m_284 : Cond.methodLink RX11 117 yX8_append ∈ BW := List.mem_of_getElem? (i := 284) (by decide +kernel)
theorem m_285 : Cond.instanceMethod yX8_append ∈ BW := List.mem_of_getElem? (i := 285) (by decide +kernel)
theorem m_286 : Cond.selects RX8 yX8_append yX8_append ∈ BW := List.mem_of_getElem? (i := 286) (by decide +kernel)
theorem si_X11_117 : SV RX11 RX8 117 yX8_append cX8_append 1 (some .int) 0 := ⟨⟨m_284, m_285, m_286, m_56, m_287⟩, rfl, by decide +kernel, by decide +kernel, by decide +kernel⟩
theorem dX11_person_48 : decode cX11_person 48 = .ok (.istore_n 3, 1) := by decide +kernel
theorem dX11_person_49 : decode cX11_person 49 = .ok (.aload_n 0, 1) := by decide +kernel
theorem dX11_person_50 : decode cX11_person 50 = .ok (.getfield 15, 3) := by decide +kernel
theorem dX11_person_53 : decode cX11_person 53 = .ok (.getfield 107, 3) := by decide +kernel
theorem dX11_person_56 : decode cX11_person 56 = .ok (.iload_n 3, 1) := by decide +kernel
theorem dX11_person_57 : decode cX11_person 57 = .ok (.iconst 0, 1) := by decide +kernel
theorem dX11_person_58 : decode cX11_person 58 = .ok (.iload_n 1, 1) := by decide +kernel
theorem dX11_person_59 : decode cX11_person 59 = .ok (.invokevirtual 120, 3) := by decide +kernel
theorem m_291 : Cond.code yX8_set cX8_set 4 none ∈ BW := List.mem_of_getElem? (i := 291) (by decide +kernel)
theorem m_288 : Cond.methodLink RX11 120 yX8_set ∈ BW := List.mem_of_getElem? (i := 288) (by decide +kernel)
theorem m_289 : Cond.instanceMethod yX8_set ∈ BW := List.mem_of_getElem? (i := 289) (by decide +kernel)
theorem m_290 : Cond.selects RX8 yX8_set yX8_set ∈ BW := List.mem_of_getElem? (i := 290) (by decide +kernel)
theorem si_X11_120 : SV RX11 RX8 120 yX8_set cX8_set 4 none 3 := ⟨⟨m_288, m_289, m_290, m_56, m_291⟩, rfl, by decide +kernel, by decide +kernel, by decide +kernel⟩
theorem dX11_person_62 : decode cX11_person 62 = .ok (.aload_n 0, 1) := by decide +kernel
theorem dX11_person_63 : decode cX11_person 63 = .ok (.getfield 15, 3) := by decide +kernel
theorem dX11_person_66 : decode cX11_person 66 = .ok (.getfield 107, 3) := by decide +kernel
theorem dX11_person_69 : decode cX11_person 69 = .ok (.iload_n 3, 1) := by decide +kernel
theorem dX11_person_70 : decode cX11_person 70 = .ok (.iconst 1, 1) := by decide +kernel
theorem dX11_person_71 : decode cX11_person 71 = .ok (.iload_n 2, 1) := by decide +kernel
theorem dX11_person_72 : decode cX11_person 72 = .ok (.invokevirtual 120, 3) := by decide +kernel
theorem dX11_person_75 : decode cX11_person 75 = .ok (.iload_n 3, 1) := by decide +kernel
theorem dX11_person_76 : decode cX11_person 76 = .ok (.ireturn, 1) := by decide +kernel
theorem dX11_person_20 : decode cX11_person 20 = .ok (.iconst (-1), 1) := by decide +kernel
theorem dX11_person_21 : decode cX11_person 21 = .ok (.ireturn, 1) := by decide +kernel
theorem dX11_personOf_0 : decode cX11_personOf 0 = .ok (.aload_n 0, 1) := by decide +kernel
theorem dX11_personOf_1 : decode cX11_personOf 1 = .ok (.getfield 15, 3) := by decide +kernel
theorem dX11_personOf_4 : decode cX11_personOf 4 = .ok (.getfield 107, 3) := by decide +kernel
theorem dX11_personOf_7 : decode cX11_personOf 7 = .ok (.iload_n 1, 1) := by decide +kernel
theorem dX11_personOf_8 : decode cX11_personOf 8 = .ok (.invokevirtual 124, 3) := by decide +kernel
theorem m_303 : Cond.code yX8_has cX8_has 2 (some .boolean) ∈ BW := List.mem_of_getElem? (i := 303) (by decide +kernel)
theorem m_300 : Cond.methodLink RX11 124 yX8_has ∈ BW := List.mem_of_getElem? (i := 300) (by decide +kernel)
theorem m_301 : Cond.instanceMethod yX8_has ∈ BW := List.mem_of_getElem? (i := 301) (by decide +kernel)
theorem m_302 : Cond.selects RX8 yX8_has yX8_has ∈ BW := List.mem_of_getElem? (i := 302) (by decide +kernel)
theorem si_X11_124 : SV RX11 RX8 124 yX8_has cX8_has 2 (some .boolean) 1 := ⟨⟨m_300, m_301, m_302, m_56, m_303⟩, rfl, by decide +kernel, by decide +kernel, by decide +kernel⟩
theorem dX11_personOf_11 : decode cX11_personOf 11 = .ok (.ifCond .ne 5, 3) := by decide +kernel
theorem dX11_personOf_14 : decode cX11_personOf 14 = .ok (.iconst (-1), 1) := by decide +kernel
theorem dX11_personOf_15 : decode cX11_personOf 15 = .ok (.ireturn, 1) := by decide +kernel
theorem dX11_paper_0 : decode cX11_paper 0 = .ok (.aload_n 0, 1) := by decide +kernel
theorem dX11_paper_1 : decode cX11_paper 1 = .ok (.getfield 15, 3) := by decide +kernel
theorem dX11_paper_4 : decode cX11_paper 4 = .ok (.getfield 107, 3) := by decide +kernel
theorem dX11_paper_7 : decode cX11_paper 7 = .ok (.iload_n 1, 1) := by decide +kernel
theorem dX11_paper_8 : decode cX11_paper 8 = .ok (.invokevirtual 124, 3) := by decide +kernel
theorem dX11_paper_11 : decode cX11_paper 11 = .ok (.ifCond .eq 17, 3) := by decide +kernel
theorem dX11_paper_28 : decode cX11_paper 28 = .ok (.iconst (-1), 1) := by decide +kernel
theorem dX11_paper_29 : decode cX11_paper 29 = .ok (.ireturn, 1) := by decide +kernel
theorem dX11_lose_0 : decode cX11_lose 0 = .ok (.aload_n 0, 1) := by decide +kernel
theorem dX11_lose_1 : decode cX11_lose 1 = .ok (.getfield 15, 3) := by decide +kernel
theorem dX11_lose_4 : decode cX11_lose 4 = .ok (.getfield 144, 3) := by decide +kernel
theorem nm_6 : Cond.fieldLinkNest RX11 144 RX0 "papers" "LInquiryBench$Table;" RX11 ∈ NestW := List.mem_of_getElem? (i := 6) (by decide +kernel)
theorem gf_X11_144 (hC : CX p s m meth c y0 b0 mL0 rt0 args) (hy0 : y0.cls = RX11) (hK : KK G s) (hP : va_P G.1 vwCl ws H) (q0 : Nat) {fs : List Value} {v : Value} (he : ws[q0]? = some (a, .inr (0, fs))) (hv : fs[1]? = some v) (hdg : decode b0 pc = .ok (.getfield 144, 3)) (kk : W p l e R s m args below meth c H locs cells slots Q (F0 m (pc + 3) ls (v :: rest))) : W p l e R s m args below meth c H locs cells slots Q (F0 m pc ls (.ref a :: rest)) := by
  obtain ⟨hx, hb, hr, hml, hB, hown, hlocks, hnm⟩ := hC
  rw [hy0] at hown
  exact va_getN (ci := 0) (C := RX0) (T := TX0) (N := 14) hx hb hB in_X0 hown hK.1 hP q0 he rfl 1 (by decide) (va_Nw.use rfl (hK.2.1 _ nm_6)) (fun _ h => h) hv hdg kk
theorem dX11_lose_7 : decode cX11_lose 7 = .ok (.iload_n 1, 1) := by decide +kernel
theorem dX11_lose_8 : decode cX11_lose 8 = .ok (.invokevirtual 124, 3) := by decide +kernel
theorem dX11_lose_11 : decode cX11_lose 11 = .ok (.ifCond .ne 5, 3) := by decide +kernel
theorem dX11_lose_14 : decode cX11_lose 14 = .ok (.iconst (-1), 1) := by decide +kernel
theorem dX11_lose_15 : decode cX11_lose 15 = .ok (.ireturn, 1) := by decide +kernel
theorem dX11_paperOf_0 : decode cX11_paperOf 0 = .ok (.aload_n 0, 1) := by decide +kernel
theorem dX11_paperOf_1 : decode cX11_paperOf 1 = .ok (.getfield 15, 3) := by decide +kernel
theorem dX11_paperOf_4 : decode cX11_paperOf 4 = .ok (.getfield 144, 3) := by decide +kernel
theorem dX11_paperOf_7 : decode cX11_paperOf 7 = .ok (.iload_n 1, 1) := by decide +kernel
theorem dX11_paperOf_8 : decode cX11_paperOf 8 = .ok (.invokevirtual 124, 3) := by decide +kernel
theorem dX11_paperOf_11 : decode cX11_paperOf 11 = .ok (.ifCond .ne 5, 3) := by decide +kernel
theorem dX11_paperOf_14 : decode cX11_paperOf 14 = .ok (.iconst (-1), 1) := by decide +kernel
theorem dX11_paperOf_15 : decode cX11_paperOf 15 = .ok (.ireturn, 1) := by decide +kernel
theorem dX11_stamp_0 : decode cX11_stamp 0 = .ok (.aload_n 0, 1) := by decide +kernel
theorem dX11_stamp_1 : decode cX11_stamp 1 = .ok (.getfield 15, 3) := by decide +kernel
theorem dX11_stamp_4 : decode cX11_stamp 4 = .ok (.getfield 144, 3) := by decide +kernel
theorem dX11_stamp_7 : decode cX11_stamp 7 = .ok (.iload_n 1, 1) := by decide +kernel
theorem dX11_stamp_8 : decode cX11_stamp 8 = .ok (.invokevirtual 124, 3) := by decide +kernel
theorem dX11_stamp_11 : decode cX11_stamp 11 = .ok (.ifCond .eq 11, 3) := by decide +kernel
theorem dX11_stamp_22 : decode cX11_stamp 22 = .ok (.iconst (-1), 1) := by decide +kernel
theorem dX11_stamp_23 : decode cX11_stamp 23 = .ok (.ireturn, 1) := by decide +kernel
theorem dX11_stamps_0 : decode cX11_stamps 0 = .ok (.aload_n 0, 1) := by decide +kernel
theorem dX11_stamps_1 : decode cX11_stamps 1 = .ok (.getfield 15, 3) := by decide +kernel
theorem dX11_stamps_4 : decode cX11_stamps 4 = .ok (.getfield 144, 3) := by decide +kernel
theorem dX11_stamps_7 : decode cX11_stamps 7 = .ok (.iload_n 1, 1) := by decide +kernel
theorem dX11_stamps_8 : decode cX11_stamps 8 = .ok (.invokevirtual 124, 3) := by decide +kernel
theorem dX11_stamps_11 : decode cX11_stamps 11 = .ok (.ifCond .eq 21, 3) := by decide +kernel
theorem dX11_stamps_32 : decode cX11_stamps 32 = .ok (.iconst (-1), 1) := by decide +kernel
theorem dX11_stamps_33 : decode cX11_stamps 33 = .ok (.ireturn, 1) := by decide +kernel
theorem dX11_sent_0 : decode cX11_sent 0 = .ok (.aload_n 0, 1) := by decide +kernel
theorem dX11_sent_1 : decode cX11_sent 1 = .ok (.getfield 15, 3) := by decide +kernel
theorem dX11_sent_4 : decode cX11_sent 4 = .ok (.getfield 144, 3) := by decide +kernel
theorem dX11_sent_7 : decode cX11_sent 7 = .ok (.iload_n 1, 1) := by decide +kernel
theorem dX11_sent_8 : decode cX11_sent 8 = .ok (.invokevirtual 124, 3) := by decide +kernel
theorem dX11_sent_11 : decode cX11_sent 11 = .ok (.ifCond .ne 5, 3) := by decide +kernel
theorem dX11_sent_14 : decode cX11_sent 14 = .ok (.iconst (-1), 1) := by decide +kernel
theorem dX11_sent_15 : decode cX11_sent 15 = .ok (.ireturn, 1) := by decide +kernel
theorem dX11_hand_0 : decode cX11_hand 0 = .ok (.aload_n 0, 1) := by decide +kernel
theorem dX11_hand_1 : decode cX11_hand 1 = .ok (.getfield 15, 3) := by decide +kernel
theorem dX11_hand_4 : decode cX11_hand 4 = .ok (.getfield 144, 3) := by decide +kernel
theorem dX11_hand_7 : decode cX11_hand 7 = .ok (.iload_n 1, 1) := by decide +kernel
theorem dX11_hand_8 : decode cX11_hand 8 = .ok (.invokevirtual 124, 3) := by decide +kernel
theorem dX11_hand_11 : decode cX11_hand 11 = .ok (.ifCond .eq 17, 3) := by decide +kernel
theorem dX11_hand_28 : decode cX11_hand 28 = .ok (.iconst (-1), 1) := by decide +kernel
theorem dX11_hand_29 : decode cX11_hand 29 = .ok (.ireturn, 1) := by decide +kernel
theorem dX11_before_0 : decode cX11_before 0 = .ok (.aload_n 0, 1) := by decide +kernel
theorem dX11_before_1 : decode cX11_before 1 = .ok (.getfield 15, 3) := by decide +kernel
theorem dX11_before_4 : decode cX11_before 4 = .ok (.getfield 144, 3) := by decide +kernel
theorem dX11_before_7 : decode cX11_before 7 = .ok (.iload_n 1, 1) := by decide +kernel
theorem dX11_before_8 : decode cX11_before 8 = .ok (.invokevirtual 124, 3) := by decide +kernel
theorem dX11_before_11 : decode cX11_before 11 = .ok (.ifCond .eq 22, 3) := by decide +kernel
theorem dX11_before_33 : decode cX11_before 33 = .ok (.iconst (-1), 1) := by decide +kernel
theorem dX11_before_34 : decode cX11_before 34 = .ok (.ireturn, 1) := by decide +kernel
theorem dX11_knew_0 : decode cX11_knew 0 = .ok (.aload_n 0, 1) := by decide +kernel
theorem dX11_knew_1 : decode cX11_knew 1 = .ok (.getfield 15, 3) := by decide +kernel
theorem dX11_knew_4 : decode cX11_knew 4 = .ok (.getfield 107, 3) := by decide +kernel
theorem dX11_knew_7 : decode cX11_knew 7 = .ok (.iload_n 1, 1) := by decide +kernel
theorem dX11_knew_8 : decode cX11_knew 8 = .ok (.invokevirtual 124, 3) := by decide +kernel
theorem dX11_knew_11 : decode cX11_knew 11 = .ok (.ifCond .eq 17, 3) := by decide +kernel
theorem dX11_knew_28 : decode cX11_knew 28 = .ok (.iconst (-1), 1) := by decide +kernel
theorem dX11_knew_29 : decode cX11_knew 29 = .ok (.ireturn, 1) := by decide +kernel
theorem dX11_line_0 : decode cX11_line 0 = .ok (.aload_n 0, 1) := by decide +kernel
theorem dX11_line_1 : decode cX11_line 1 = .ok (.getfield 15, 3) := by decide +kernel
theorem dX11_line_4 : decode cX11_line 4 = .ok (.getfield 233, 3) := by decide +kernel
theorem nm_14 : Cond.fieldLinkNest RX11 233 RX0 "versions" "LInquiryBench$Table;" RX11 ∈ NestW := List.mem_of_getElem? (i := 14) (by decide +kernel)
theorem gf_X11_233 (hC : CX p s m meth c y0 b0 mL0 rt0 args) (hy0 : y0.cls = RX11) (hK : KK G s) (hP : va_P G.1 vwCl ws H) (q0 : Nat) {fs : List Value} {v : Value} (he : ws[q0]? = some (a, .inr (0, fs))) (hv : fs[3]? = some v) (hdg : decode b0 pc = .ok (.getfield 233, 3)) (kk : W p l e R s m args below meth c H locs cells slots Q (F0 m (pc + 3) ls (v :: rest))) : W p l e R s m args below meth c H locs cells slots Q (F0 m pc ls (.ref a :: rest)) := by
  obtain ⟨hx, hb, hr, hml, hB, hown, hlocks, hnm⟩ := hC
  rw [hy0] at hown
  exact va_getN (ci := 0) (C := RX0) (T := TX0) (N := 14) hx hb hB in_X0 hown hK.1 hP q0 he rfl 3 (by decide) (va_Nw.use rfl (hK.2.1 _ nm_14)) (fun _ h => h) hv hdg kk
theorem dX11_line_7 : decode cX11_line 7 = .ok (.iload_n 1, 1) := by decide +kernel
theorem dX11_line_8 : decode cX11_line 8 = .ok (.invokevirtual 124, 3) := by decide +kernel
theorem dX11_line_11 : decode cX11_line 11 = .ok (.ifCond .eq 25, 3) := by decide +kernel
theorem dX11_line_36 : decode cX11_line 36 = .ok (.bipush (-9), 2) := by decide +kernel
theorem dX11_line_38 : decode cX11_line 38 = .ok (.ireturn, 1) := by decide +kernel
theorem dX11_why_0 : decode cX11_why 0 = .ok (.aload_n 0, 1) := by decide +kernel
theorem dX11_why_1 : decode cX11_why 1 = .ok (.getfield 15, 3) := by decide +kernel
theorem dX11_why_4 : decode cX11_why 4 = .ok (.getfield 107, 3) := by decide +kernel
theorem dX11_why_7 : decode cX11_why 7 = .ok (.iload_n 1, 1) := by decide +kernel
theorem dX11_why_8 : decode cX11_why 8 = .ok (.invokevirtual 124, 3) := by decide +kernel
theorem dX11_why_11 : decode cX11_why 11 = .ok (.ifCond .eq 10, 3) := by decide +kernel
theorem dX11_why_21 : decode cX11_why 21 = .ok (.iconst (-1), 1) := by decide +kernel
theorem dX11_why_22 : decode cX11_why 22 = .ok (.ireturn, 1) := by decide +kernel
theorem dX11_saying_0 : decode cX11_saying 0 = .ok (.aload_n 0, 1) := by decide +kernel
theorem dX11_saying_1 : decode cX11_saying 1 = .ok (.getfield 15, 3) := by decide +kernel
theorem dX11_saying_4 : decode cX11_saying 4 = .ok (.getfield 107, 3) := by decide +kernel
theorem dX11_saying_7 : decode cX11_saying 7 = .ok (.iload_n 1, 1) := by decide +kernel
theorem dX11_saying_8 : decode cX11_saying 8 = .ok (.invokevirtual 124, 3) := by decide +kernel
theorem dX11_saying_11 : decode cX11_saying 11 = .ok (.ifCond .eq 31, 3) := by decide +kernel
theorem dX11_saying_42 : decode cX11_saying 42 = .ok (.iconst (-1), 1) := by decide +kernel
theorem dX11_saying_43 : decode cX11_saying 43 = .ok (.ireturn, 1) := by decide +kernel
theorem dX11_quarrel_0 : decode cX11_quarrel 0 = .ok (.aload_n 0, 1) := by decide +kernel
theorem dX11_quarrel_1 : decode cX11_quarrel 1 = .ok (.getfield 15, 3) := by decide +kernel
theorem dX11_quarrel_4 : decode cX11_quarrel 4 = .ok (.getfield 107, 3) := by decide +kernel
theorem dX11_quarrel_7 : decode cX11_quarrel 7 = .ok (.iload_n 1, 1) := by decide +kernel
theorem dX11_quarrel_8 : decode cX11_quarrel 8 = .ok (.invokevirtual 124, 3) := by decide +kernel
theorem dX11_quarrel_11 : decode cX11_quarrel 11 = .ok (.ifCond .eq 26, 3) := by decide +kernel
theorem dX11_quarrel_37 : decode cX11_quarrel 37 = .ok (.iconst (-1), 1) := by decide +kernel
theorem dX11_quarrel_38 : decode cX11_quarrel 38 = .ok (.ireturn, 1) := by decide +kernel
theorem dX11_finding_0 : decode cX11_finding 0 = .ok (.aload_n 0, 1) := by decide +kernel
theorem dX11_finding_1 : decode cX11_finding 1 = .ok (.getfield 15, 3) := by decide +kernel
theorem dX11_finding_4 : decode cX11_finding 4 = .ok (.getfield 107, 3) := by decide +kernel
theorem dX11_finding_7 : decode cX11_finding 7 = .ok (.iload_n 1, 1) := by decide +kernel
theorem dX11_finding_8 : decode cX11_finding 8 = .ok (.invokevirtual 124, 3) := by decide +kernel
theorem dX11_finding_11 : decode cX11_finding 11 = .ok (.ifCond .eq 29, 3) := by decide +kernel
theorem dX11_finding_40 : decode cX11_finding 40 = .ok (.iconst (-1), 1) := by decide +kernel
theorem dX11_finding_41 : decode cX11_finding 41 = .ok (.ireturn, 1) := by decide +kernel
theorem dX11_findingOf_0 : decode cX11_findingOf 0 = .ok (.aload_n 0, 1) := by decide +kernel
theorem dX11_findingOf_1 : decode cX11_findingOf 1 = .ok (.getfield 15, 3) := by decide +kernel
theorem dX11_findingOf_4 : decode cX11_findingOf 4 = .ok (.getfield 271, 3) := by decide +kernel
theorem dX11_findingOf_7 : decode cX11_findingOf 7 = .ok (.iload_n 1, 1) := by decide +kernel
theorem dX11_findingOf_8 : decode cX11_findingOf 8 = .ok (.invokevirtual 124, 3) := by decide +kernel
theorem dX11_findingOf_11 : decode cX11_findingOf 11 = .ok (.ifCond .ne 5, 3) := by decide +kernel
theorem dX11_findingOf_14 : decode cX11_findingOf 14 = .ok (.iconst (-1), 1) := by decide +kernel
theorem dX11_findingOf_15 : decode cX11_findingOf 15 = .ok (.ireturn, 1) := by decide +kernel
theorem dX11_warn_0 : decode cX11_warn 0 = .ok (.aload_n 0, 1) := by decide +kernel
theorem dX11_warn_1 : decode cX11_warn 1 = .ok (.getfield 15, 3) := by decide +kernel
theorem dX11_warn_4 : decode cX11_warn 4 = .ok (.getfield 107, 3) := by decide +kernel
theorem dX11_warn_7 : decode cX11_warn 7 = .ok (.iload_n 1, 1) := by decide +kernel
theorem dX11_warn_8 : decode cX11_warn 8 = .ok (.invokevirtual 124, 3) := by decide +kernel
theorem dX11_warn_11 : decode cX11_warn 11 = .ok (.ifCond .eq 17, 3) := by decide +kernel
theorem dX11_warn_28 : decode cX11_warn 28 = .ok (.iconst (-1), 1) := by decide +kernel
theorem dX11_warn_29 : decode cX11_warn 29 = .ok (.ireturn, 1) := by decide +kernel
end WR
noncomputable def A_gap (n : Int32) : Int32 := ifc (Wi n 0 99) 24 (-1)
section WR
variable {p : Program} {l : Launch} {e : Env} {R : Room} {s : State} {m : MethodId} {args : Array Value} {below : List Frame} {meth : Method} {c : Code} {H : Heap} {locs : List Loc} {cells slots : Nat} {Q : State → Prop}
variable {pc : Nat} {ls : Array Slot} {rest : List Value} {G : GG} {ws : va_W} {A : Nat → Prop} {y0 : MethodName} {b0 : ByteArray} {mL0 : Nat} {rt0 : Option FieldType} {a : Nat} {H0 : Heap}
theorem dX11_gap_0 : decode cX11_gap 0 = .ok (.iload_n 1, 1) := by decide +kernel
theorem dX11_gap_1 : decode cX11_gap 1 = .ok (.iconst 0, 1) := by decide +kernel
theorem dX11_gap_2 : decode cX11_gap 2 = .ok (.bipush 99, 2) := by decide +kernel
theorem dX11_gap_4 : decode cX11_gap 4 = .ok (.invokestatic 83, 3) := by decide +kernel
theorem dX11_gap_7 : decode cX11_gap 7 = .ok (.ifCond .ne 5, 3) := by decide +kernel
theorem dX11_gap_12 : decode cX11_gap 12 = .ok (.aload_n 0, 1) := by decide +kernel
theorem dX11_gap_13 : decode cX11_gap 13 = .ok (.getfield 15, 3) := by decide +kernel
theorem dX11_gap_16 : decode cX11_gap 16 = .ok (.getfield 177, 3) := by decide +kernel
theorem nm_37 : Cond.fieldLinkNest RX11 177 RX0 "gap" "I" RX11 ∈ NestW := List.mem_of_getElem? (i := 37) (by decide +kernel)
theorem gf_X11_177 (hC : CX p s m meth c y0 b0 mL0 rt0 args) (hy0 : y0.cls = RX11) (hK : KK G s) (hP : va_P G.1 vwCl ws H) (q0 : Nat) {fs : List Value} {v : Value} (he : ws[q0]? = some (a, .inr (0, fs))) (hv : fs[13]? = some v) (hdg : decode b0 pc = .ok (.getfield 177, 3)) (kk : W p l e R s m args below meth c H locs cells slots Q (F0 m (pc + 3) ls (v :: rest))) : W p l e R s m args below meth c H locs cells slots Q (F0 m pc ls (.ref a :: rest)) := by
  obtain ⟨hx, hb, hr, hml, hB, hown, hlocks, hnm⟩ := hC
  rw [hy0] at hown
  exact va_getN (ci := 0) (C := RX0) (T := TX0) (N := 14) hx hb hB in_X0 hown hK.1 hP q0 he rfl 13 (by decide) (va_Nw.use rfl (hK.2.1 _ nm_37)) (fun _ h => h) hv hdg kk
theorem dX11_gap_19 : decode cX11_gap 19 = .ok (.istore_n 2, 1) := by decide +kernel
theorem dX11_gap_20 : decode cX11_gap 20 = .ok (.aload_n 0, 1) := by decide +kernel
theorem dX11_gap_21 : decode cX11_gap 21 = .ok (.getfield 15, 3) := by decide +kernel
theorem dX11_gap_24 : decode cX11_gap 24 = .ok (.iload_n 1, 1) := by decide +kernel
theorem dX11_gap_25 : decode cX11_gap 25 = .ok (.putfield 177, 3) := by decide +kernel
theorem pf_X11_177 (hC : CX p s m meth c y0 b0 mL0 rt0 args) (hy0 : y0.cls = RX11) (hK : KK G s) (hP : va_P G.1 vwCl ws H) (hD : va_D A ws) (hS : va_S A H0 H locs) (q0 : Nat) {fs : List Value} {v : Value} {ws' : va_W} (he : ws[q0]? = some (a, .inr (0, fs))) (hl : 13 < fs.length) (hws : ws.set q0 (a, .inr (0, fs.set 13 v)) = ws') (hn : narrow .int v = v) (hfit : fits .int v = true) (hdg : decode b0 pc = .ok (.putfield 177, 3)) (kk : ∀ (H1 : Heap) (locs1 : List Loc), va_P G.1 vwCl ws' H1 → va_D A ws' → va_S A H0 H1 locs1 → W p l e R s m args below meth c H1 locs1 cells slots Q (F0 m (pc + 3) ls rest)) : W p l e R s m args below meth c H locs cells slots Q (F0 m pc ls (v :: .ref a :: rest)) := by
  obtain ⟨hx, hb, hr, hml, hB, hown, hlocks, hnm⟩ := hC
  rw [hy0] at hown
  subst hws
  exact va_putN (ci := 0) (ty := .int) (C := RX0) (T := TX0) (N := 14) hx hb hB in_X0 tyX0 tyX0_ok nmX0 hown hK.1 hP hD hS q0 he rfl 13 (by decide) (va_Nw.use rfl (hK.2.1 _ nm_37)) (fun _ h => h) rfl (by decide +kernel) hn hfit hl hdg kk
theorem dX11_gap_28 : decode cX11_gap 28 = .ok (.iload_n 2, 1) := by decide +kernel
theorem dX11_gap_29 : decode cX11_gap 29 = .ok (.ireturn, 1) := by decide +kernel
theorem dX11_gap_10 : decode cX11_gap 10 = .ok (.iconst (-1), 1) := by decide +kernel
theorem dX11_gap_11 : decode cX11_gap 11 = .ok (.ireturn, 1) := by decide +kernel
end WR
noncomputable def A_question (dy th : Int32) : Int32 := ifc (Wi dy 1 9) (ifc (Wi th 0 255) 0 (-1)) (-1)
section WR
variable {p : Program} {l : Launch} {e : Env} {R : Room} {s : State} {m : MethodId} {args : Array Value} {below : List Frame} {meth : Method} {c : Code} {H : Heap} {locs : List Loc} {cells slots : Nat} {Q : State → Prop}
variable {pc : Nat} {ls : Array Slot} {rest : List Value} {G : GG} {ws : va_W} {A : Nat → Prop} {y0 : MethodName} {b0 : ByteArray} {mL0 : Nat} {rt0 : Option FieldType} {a : Nat} {H0 : Heap}
theorem dX11_question_0 : decode cX11_question 0 = .ok (.iload_n 1, 1) := by decide +kernel
theorem dX11_question_1 : decode cX11_question 1 = .ok (.iconst 1, 1) := by decide +kernel
theorem dX11_question_2 : decode cX11_question 2 = .ok (.bipush 9, 2) := by decide +kernel
theorem dX11_question_4 : decode cX11_question 4 = .ok (.invokestatic 83, 3) := by decide +kernel
theorem dX11_question_7 : decode cX11_question 7 = .ok (.ifCond .eq 14, 3) := by decide +kernel
theorem dX11_question_10 : decode cX11_question 10 = .ok (.iload_n 2, 1) := by decide +kernel
theorem dX11_question_11 : decode cX11_question 11 = .ok (.iconst 0, 1) := by decide +kernel
theorem dX11_question_12 : decode cX11_question 12 = .ok (.sipush 255, 3) := by decide +kernel
theorem dX11_question_15 : decode cX11_question 15 = .ok (.invokestatic 83, 3) := by decide +kernel
theorem dX11_question_18 : decode cX11_question 18 = .ok (.ifCond .ne 5, 3) := by decide +kernel
theorem dX11_question_23 : decode cX11_question 23 = .ok (.aload_n 0, 1) := by decide +kernel
theorem dX11_question_24 : decode cX11_question 24 = .ok (.getfield 15, 3) := by decide +kernel
theorem dX11_question_27 : decode cX11_question 27 = .ok (.getfield 286, 3) := by decide +kernel
theorem nm_29 : Cond.fieldLinkNest RX11 286 RX0 "questions" "LInquiryBench$Table;" RX11 ∈ NestW := List.mem_of_getElem? (i := 29) (by decide +kernel)
theorem gf_X11_286 (hC : CX p s m meth c y0 b0 mL0 rt0 args) (hy0 : y0.cls = RX11) (hK : KK G s) (hP : va_P G.1 vwCl ws H) (q0 : Nat) {fs : List Value} {v : Value} (he : ws[q0]? = some (a, .inr (0, fs))) (hv : fs[9]? = some v) (hdg : decode b0 pc = .ok (.getfield 286, 3)) (kk : W p l e R s m args below meth c H locs cells slots Q (F0 m (pc + 3) ls (v :: rest))) : W p l e R s m args below meth c H locs cells slots Q (F0 m pc ls (.ref a :: rest)) := by
  obtain ⟨hx, hb, hr, hml, hB, hown, hlocks, hnm⟩ := hC
  rw [hy0] at hown
  exact va_getN (ci := 0) (C := RX0) (T := TX0) (N := 14) hx hb hB in_X0 hown hK.1 hP q0 he rfl 9 (by decide) (va_Nw.use rfl (hK.2.1 _ nm_29)) (fun _ h => h) hv hdg kk
theorem dX11_question_30 : decode cX11_question 30 = .ok (.invokevirtual 111, 3) := by decide +kernel
theorem dX11_question_33 : decode cX11_question 33 = .ok (.ifCond .eq 6, 3) := by decide +kernel
theorem dX11_question_39 : decode cX11_question 39 = .ok (.aload_n 0, 1) := by decide +kernel
theorem dX11_question_40 : decode cX11_question 40 = .ok (.getfield 15, 3) := by decide +kernel
theorem dX11_question_43 : decode cX11_question 43 = .ok (.getfield 286, 3) := by decide +kernel
theorem dX11_question_46 : decode cX11_question 46 = .ok (.invokevirtual 117, 3) := by decide +kernel
theorem dX11_question_49 : decode cX11_question 49 = .ok (.istore_n 3, 1) := by decide +kernel
theorem dX11_question_50 : decode cX11_question 50 = .ok (.aload_n 0, 1) := by decide +kernel
theorem dX11_question_51 : decode cX11_question 51 = .ok (.getfield 15, 3) := by decide +kernel
theorem dX11_question_54 : decode cX11_question 54 = .ok (.getfield 286, 3) := by decide +kernel
theorem dX11_question_57 : decode cX11_question 57 = .ok (.iload_n 3, 1) := by decide +kernel
theorem dX11_question_58 : decode cX11_question 58 = .ok (.iconst 0, 1) := by decide +kernel
theorem dX11_question_59 : decode cX11_question 59 = .ok (.iload_n 1, 1) := by decide +kernel
theorem dX11_question_60 : decode cX11_question 60 = .ok (.invokevirtual 120, 3) := by decide +kernel
theorem dX11_question_63 : decode cX11_question 63 = .ok (.aload_n 0, 1) := by decide +kernel
theorem dX11_question_64 : decode cX11_question 64 = .ok (.getfield 15, 3) := by decide +kernel
theorem dX11_question_67 : decode cX11_question 67 = .ok (.getfield 286, 3) := by decide +kernel
theorem dX11_question_70 : decode cX11_question 70 = .ok (.iload_n 3, 1) := by decide +kernel
theorem dX11_question_71 : decode cX11_question 71 = .ok (.iconst 1, 1) := by decide +kernel
theorem dX11_question_72 : decode cX11_question 72 = .ok (.iload_n 2, 1) := by decide +kernel
theorem dX11_question_73 : decode cX11_question 73 = .ok (.invokevirtual 120, 3) := by decide +kernel
theorem dX11_question_76 : decode cX11_question 76 = .ok (.iload_n 3, 1) := by decide +kernel
theorem dX11_question_77 : decode cX11_question 77 = .ok (.ireturn, 1) := by decide +kernel
theorem dX11_question_21 : decode cX11_question 21 = .ok (.iconst (-1), 1) := by decide +kernel
theorem dX11_question_22 : decode cX11_question 22 = .ok (.ireturn, 1) := by decide +kernel
end WR
noncomputable def A_round (q : Int32) : Int32 := ifc (q = 0) (-3) (-1)
section WR
variable {p : Program} {l : Launch} {e : Env} {R : Room} {s : State} {m : MethodId} {args : Array Value} {below : List Frame} {meth : Method} {c : Code} {H : Heap} {locs : List Loc} {cells slots : Nat} {Q : State → Prop}
variable {pc : Nat} {ls : Array Slot} {rest : List Value} {G : GG} {ws : va_W} {A : Nat → Prop} {y0 : MethodName} {b0 : ByteArray} {mL0 : Nat} {rt0 : Option FieldType} {a : Nat} {H0 : Heap}
theorem dX11_round_0 : decode cX11_round 0 = .ok (.aload_n 0, 1) := by decide +kernel
theorem dX11_round_1 : decode cX11_round 1 = .ok (.getfield 15, 3) := by decide +kernel
theorem dX11_round_4 : decode cX11_round 4 = .ok (.getfield 286, 3) := by decide +kernel
theorem dX11_round_7 : decode cX11_round 7 = .ok (.iload_n 1, 1) := by decide +kernel
theorem dX11_round_8 : decode cX11_round 8 = .ok (.invokevirtual 141, 3) := by decide +kernel
theorem m_354 : Cond.code yX8_hasAll cX8_hasAll 2 (some .boolean) ∈ BW := List.mem_of_getElem? (i := 354) (by decide +kernel)
theorem m_351 : Cond.methodLink RX11 141 yX8_hasAll ∈ BW := List.mem_of_getElem? (i := 351) (by decide +kernel)
theorem m_352 : Cond.instanceMethod yX8_hasAll ∈ BW := List.mem_of_getElem? (i := 352) (by decide +kernel)
theorem m_353 : Cond.selects RX8 yX8_hasAll yX8_hasAll ∈ BW := List.mem_of_getElem? (i := 353) (by decide +kernel)
theorem si_X11_141 : SV RX11 RX8 141 yX8_hasAll cX8_hasAll 2 (some .boolean) 1 := ⟨⟨m_351, m_352, m_353, m_56, m_354⟩, rfl, by decide +kernel, by decide +kernel, by decide +kernel⟩
theorem dX11_round_11 : decode cX11_round 11 = .ok (.ifCond .ne 5, 3) := by decide +kernel
theorem dX11_round_16 : decode cX11_round 16 = .ok (.iload_n 1, 1) := by decide +kernel
theorem dX11_round_17 : decode cX11_round 17 = .ok (.ifCond .ne 6, 3) := by decide +kernel
theorem dX11_round_20 : decode cX11_round 20 = .ok (.bipush (-3), 2) := by decide +kernel
theorem dX11_round_22 : decode cX11_round 22 = .ok (.ireturn, 1) := by decide +kernel
theorem dX11_round_14 : decode cX11_round 14 = .ok (.iconst (-1), 1) := by decide +kernel
theorem dX11_round_15 : decode cX11_round 15 = .ok (.ireturn, 1) := by decide +kernel
theorem dX11_row_0 : decode cX11_row 0 = .ok (.aload_n 0, 1) := by decide +kernel
theorem dX11_row_1 : decode cX11_row 1 = .ok (.getfield 65, 3) := by decide +kernel
theorem gf_X11_65 (hC : CX p s m meth c y0 b0 mL0 rt0 args) (hy0 : y0.cls = RX11) (hK : KK G s) (hP : va_P G.1 vwCl ws H) (q0 : Nat) {fs : List Value} {v : Value} (he : ws[q0]? = some (a, .inr (11, fs))) (hv : fs[8]? = some v) (hdg : decode b0 pc = .ok (.getfield 65, 3)) (kk : W p l e R s m args below meth c H locs cells slots Q (F0 m (pc + 3) ls (v :: rest))) : W p l e R s m args below meth c H locs cells slots Q (F0 m pc ls (.ref a :: rest)) := by
  obtain ⟨hx, hb, hr, hml, hB, hown, hlocks, hnm⟩ := hC
  rw [hy0] at hown
  exact va_get (ci := 11) (C := RX11) (T := TX11) (N := 11) hx hb hB in_X11 hown hK.1 hP q0 he rfl 8 (by decide) (hB _ m_42) (fun _ h => h) hv hdg kk
theorem dX11_row_4 : decode cX11_row 4 = .ok (.getfield 292, 3) := by decide +kernel
theorem nm_40 : Cond.fieldLinkNest RX11 292 RX5 "rows" "LInquiryBench$Table;" RX11 ∈ NestW := List.mem_of_getElem? (i := 40) (by decide +kernel)
theorem gf_X11_292 (hC : CX p s m meth c y0 b0 mL0 rt0 args) (hy0 : y0.cls = RX11) (hK : KK G s) (hP : va_P G.1 vwCl ws H) (q0 : Nat) {fs : List Value} {v : Value} (he : ws[q0]? = some (a, .inr (5, fs))) (hv : fs[1]? = some v) (hdg : decode b0 pc = .ok (.getfield 292, 3)) (kk : W p l e R s m args below meth c H locs cells slots Q (F0 m (pc + 3) ls (v :: rest))) : W p l e R s m args below meth c H locs cells slots Q (F0 m pc ls (.ref a :: rest)) := by
  obtain ⟨hx, hb, hr, hml, hB, hown, hlocks, hnm⟩ := hC
  rw [hy0] at hown
  exact va_getN (ci := 5) (C := RX5) (T := TX5) (N := 6) hx hb hB in_X5 hown hK.1 hP q0 he rfl 1 (by decide) (va_Nw.use rfl (hK.2.1 _ nm_40)) (fun _ h => h) hv hdg kk
theorem dX11_row_7 : decode cX11_row 7 = .ok (.iload_n 1, 1) := by decide +kernel
theorem dX11_row_8 : decode cX11_row 8 = .ok (.invokevirtual 124, 3) := by decide +kernel
theorem dX11_row_11 : decode cX11_row 11 = .ok (.ifCond .eq 12, 3) := by decide +kernel
theorem dX11_row_23 : decode cX11_row 23 = .ok (.bipush (-9), 2) := by decide +kernel
theorem dX11_row_25 : decode cX11_row 25 = .ok (.ireturn, 1) := by decide +kernel
theorem dX11_alterRow_0 : decode cX11_alterRow 0 = .ok (.aload_n 0, 1) := by decide +kernel
theorem dX11_alterRow_1 : decode cX11_alterRow 1 = .ok (.getfield 65, 3) := by decide +kernel
theorem dX11_alterRow_4 : decode cX11_alterRow 4 = .ok (.getfield 292, 3) := by decide +kernel
theorem dX11_alterRow_7 : decode cX11_alterRow 7 = .ok (.iload_n 1, 1) := by decide +kernel
theorem dX11_alterRow_8 : decode cX11_alterRow 8 = .ok (.invokevirtual 124, 3) := by decide +kernel
theorem dX11_alterRow_11 : decode cX11_alterRow 11 = .ok (.ifCond .eq 12, 3) := by decide +kernel
theorem dX11_alterRow_23 : decode cX11_alterRow 23 = .ok (.bipush (-9), 2) := by decide +kernel
theorem dX11_alterRow_25 : decode cX11_alterRow 25 = .ok (.ireturn, 1) := by decide +kernel
theorem dX11_dropRow_0 : decode cX11_dropRow 0 = .ok (.aload_n 0, 1) := by decide +kernel
theorem dX11_dropRow_1 : decode cX11_dropRow 1 = .ok (.getfield 65, 3) := by decide +kernel
theorem dX11_dropRow_4 : decode cX11_dropRow 4 = .ok (.getfield 292, 3) := by decide +kernel
theorem dX11_dropRow_7 : decode cX11_dropRow 7 = .ok (.invokevirtual 174, 3) := by decide +kernel
theorem dX11_dropRow_10 : decode cX11_dropRow 10 = .ok (.ifCond .ne 6, 3) := by decide +kernel
theorem dX11_dropRow_13 : decode cX11_dropRow 13 = .ok (.bipush (-3), 2) := by decide +kernel
theorem dX11_dropRow_15 : decode cX11_dropRow 15 = .ok (.ireturn, 1) := by decide +kernel
theorem dX5_isTold_0 : decode cX5_isTold 0 = .ok (.aload_n 0, 1) := by decide +kernel
theorem dX5_isTold_1 : decode cX5_isTold 1 = .ok (.getfield 35, 3) := by decide +kernel
theorem gf_X5_35 (hC : CX p s m meth c y0 b0 mL0 rt0 args) (hy0 : y0.cls = RX5) (hK : KK G s) (hP : va_P G.1 vwCl ws H) (q0 : Nat) {fs : List Value} {v : Value} (he : ws[q0]? = some (a, .inr (5, fs))) (hv : fs[5]? = some v) (hdg : decode b0 pc = .ok (.getfield 35, 3)) (kk : W p l e R s m args below meth c H locs cells slots Q (F0 m (pc + 3) ls (v :: rest))) : W p l e R s m args below meth c H locs cells slots Q (F0 m pc ls (.ref a :: rest)) := by
  obtain ⟨hx, hb, hr, hml, hB, hown, hlocks, hnm⟩ := hC
  rw [hy0] at hown
  exact va_get (ci := 5) (C := RX5) (T := TX5) (N := 6) hx hb hB in_X5 hown hK.1 hP q0 he rfl 5 (by decide) (hB _ m_159) (fun _ h => h) hv hdg kk
theorem dX5_isTold_4 : decode cX5_isTold 4 = .ok (.ireturn, 1) := by decide +kernel
theorem dX11_judge_0 : decode cX11_judge 0 = .ok (.aload_n 0, 1) := by decide +kernel
theorem dX11_judge_1 : decode cX11_judge 1 = .ok (.getfield 65, 3) := by decide +kernel
theorem dX11_judge_4 : decode cX11_judge 4 = .ok (.invokevirtual 298, 3) := by decide +kernel
theorem m_1197 : Cond.code yX5_isTold cX5_isTold 1 (some .boolean) ∈ BW := List.mem_of_getElem? (i := 1197) (by decide +kernel)
theorem m_1194 : Cond.methodLink RX11 298 yX5_isTold ∈ BW := List.mem_of_getElem? (i := 1194) (by decide +kernel)
theorem m_1195 : Cond.instanceMethod yX5_isTold ∈ BW := List.mem_of_getElem? (i := 1195) (by decide +kernel)
theorem m_1196 : Cond.selects RX5 yX5_isTold yX5_isTold ∈ BW := List.mem_of_getElem? (i := 1196) (by decide +kernel)
theorem si_X11_298 : SV RX11 RX5 298 yX5_isTold cX5_isTold 1 (some .boolean) 0 := ⟨⟨m_1194, m_1195, m_1196, m_41, m_1197⟩, rfl, by decide +kernel, by decide +kernel, by decide +kernel⟩
theorem dX11_judge_7 : decode cX11_judge 7 = .ok (.ifCond .ne 6, 3) := by decide +kernel
theorem dX11_judge_10 : decode cX11_judge 10 = .ok (.bipush (-3), 2) := by decide +kernel
theorem dX11_judge_12 : decode cX11_judge 12 = .ok (.ireturn, 1) := by decide +kernel
theorem dX11_again_0 : decode cX11_again 0 = .ok (.aload_n 0, 1) := by decide +kernel
theorem dX11_again_1 : decode cX11_again 1 = .ok (.getfield 24, 3) := by decide +kernel
theorem gf_X11_24 (hC : CX p s m meth c y0 b0 mL0 rt0 args) (hy0 : y0.cls = RX11) (hK : KK G s) (hP : va_P G.1 vwCl ws H) (q0 : Nat) {fs : List Value} {v : Value} (he : ws[q0]? = some (a, .inr (11, fs))) (hv : fs[2]? = some v) (hdg : decode b0 pc = .ok (.getfield 24, 3)) (kk : W p l e R s m args below meth c H locs cells slots Q (F0 m (pc + 3) ls (v :: rest))) : W p l e R s m args below meth c H locs cells slots Q (F0 m pc ls (.ref a :: rest)) := by
  obtain ⟨hx, hb, hr, hml, hB, hown, hlocks, hnm⟩ := hC
  rw [hy0] at hown
  exact va_get (ci := 11) (C := RX11) (T := TX11) (N := 11) hx hb hB in_X11 hown hK.1 hP q0 he rfl 2 (by decide) (hB _ m_21) (fun _ h => h) hv hdg kk
theorem dX11_again_4 : decode cX11_again 4 = .ok (.ifCond .ne 6, 3) := by decide +kernel
theorem dX11_again_7 : decode cX11_again 7 = .ok (.bipush (-3), 2) := by decide +kernel
theorem dX11_again_9 : decode cX11_again 9 = .ok (.ireturn, 1) := by decide +kernel
theorem dX2_ran_0 : decode cX2_ran 0 = .ok (.aload_n 0, 1) := by decide +kernel
theorem dX2_ran_1 : decode cX2_ran 1 = .ok (.getfield 19, 3) := by decide +kernel
theorem gf_X2_19 (hC : CX p s m meth c y0 b0 mL0 rt0 args) (hy0 : y0.cls = RX2) (hK : KK G s) (hP : va_P G.1 vwCl ws H) (q0 : Nat) {fs : List Value} {v : Value} (he : ws[q0]? = some (a, .inr (2, fs))) (hv : fs[2]? = some v) (hdg : decode b0 pc = .ok (.getfield 19, 3)) (kk : W p l e R s m args below meth c H locs cells slots Q (F0 m (pc + 3) ls (v :: rest))) : W p l e R s m args below meth c H locs cells slots Q (F0 m pc ls (.ref a :: rest)) := by
  obtain ⟨hx, hb, hr, hml, hB, hown, hlocks, hnm⟩ := hC
  rw [hy0] at hown
  exact va_get (ci := 2) (C := RX2) (T := TX2) (N := 8) hx hb hB in_X2 hown hK.1 hP q0 he rfl 2 (by decide) (hB _ m_177) (fun _ h => h) hv hdg kk
theorem dX2_ran_4 : decode cX2_ran 4 = .ok (.ireturn, 1) := by decide +kernel
theorem dX11_trace_0 : decode cX11_trace 0 = .ok (.iload_n 1, 1) := by decide +kernel
theorem dX11_trace_1 : decode cX11_trace 1 = .ok (.iconst 0, 1) := by decide +kernel
theorem dX11_trace_2 : decode cX11_trace 2 = .ok (.aload_n 0, 1) := by decide +kernel
theorem dX11_trace_3 : decode cX11_trace 3 = .ok (.getfield 79, 3) := by decide +kernel
theorem gf_X11_79 (hC : CX p s m meth c y0 b0 mL0 rt0 args) (hy0 : y0.cls = RX11) (hK : KK G s) (hP : va_P G.1 vwCl ws H) (q0 : Nat) {fs : List Value} {v : Value} (he : ws[q0]? = some (a, .inr (11, fs))) (hv : fs[10]? = some v) (hdg : decode b0 pc = .ok (.getfield 79, 3)) (kk : W p l e R s m args below meth c H locs cells slots Q (F0 m (pc + 3) ls (v :: rest))) : W p l e R s m args below meth c H locs cells slots Q (F0 m pc ls (.ref a :: rest)) := by
  obtain ⟨hx, hb, hr, hml, hB, hown, hlocks, hnm⟩ := hC
  rw [hy0] at hown
  exact va_get (ci := 11) (C := RX11) (T := TX11) (N := 11) hx hb hB in_X11 hown hK.1 hP q0 he rfl 10 (by decide) (hB _ m_50) (fun _ h => h) hv hdg kk
theorem dX11_trace_6 : decode cX11_trace 6 = .ok (.invokevirtual 349, 3) := by decide +kernel
theorem m_1378 : Cond.code yX2_ran cX2_ran 1 (some .int) ∈ BW := List.mem_of_getElem? (i := 1378) (by decide +kernel)
theorem m_1375 : Cond.methodLink RX11 349 yX2_ran ∈ BW := List.mem_of_getElem? (i := 1375) (by decide +kernel)
theorem m_1376 : Cond.instanceMethod yX2_ran ∈ BW := List.mem_of_getElem? (i := 1376) (by decide +kernel)
theorem m_1377 : Cond.selects RX2 yX2_ran yX2_ran ∈ BW := List.mem_of_getElem? (i := 1377) (by decide +kernel)
theorem si_X11_349 : SV RX11 RX2 349 yX2_ran cX2_ran 1 (some .int) 0 := ⟨⟨m_1375, m_1376, m_1377, m_49, m_1378⟩, rfl, by decide +kernel, by decide +kernel, by decide +kernel⟩
theorem dX11_trace_9 : decode cX11_trace 9 = .ok (.iconst 1, 1) := by decide +kernel
theorem dX11_trace_10 : decode cX11_trace 10 = .ok (.isub, 1) := by decide +kernel
theorem dX11_trace_11 : decode cX11_trace 11 = .ok (.invokestatic 83, 3) := by decide +kernel
theorem dX11_trace_14 : decode cX11_trace 14 = .ok (.ifCond .eq 14, 3) := by decide +kernel
theorem dX11_trace_28 : decode cX11_trace 28 = .ok (.bipush (-3), 2) := by decide +kernel
theorem dX11_trace_30 : decode cX11_trace 30 = .ok (.ireturn, 1) := by decide +kernel
theorem dX10_count_0 : decode cX10_count 0 = .ok (.aload_n 0, 1) := by decide +kernel
theorem dX10_count_1 : decode cX10_count 1 = .ok (.getfield 27, 3) := by decide +kernel
theorem gf_X10_27 (hC : CX p s m meth c y0 b0 mL0 rt0 args) (hy0 : y0.cls = RX10) (hK : KK G s) (hP : va_P G.1 vwCl ws H) (q0 : Nat) {fs : List Value} {v : Value} (he : ws[q0]? = some (a, .inr (10, fs))) (hv : fs[1]? = some v) (hdg : decode b0 pc = .ok (.getfield 27, 3)) (kk : W p l e R s m args below meth c H locs cells slots Q (F0 m (pc + 3) ls (v :: rest))) : W p l e R s m args below meth c H locs cells slots Q (F0 m pc ls (.ref a :: rest)) := by
  obtain ⟨hx, hb, hr, hml, hB, hown, hlocks, hnm⟩ := hC
  rw [hy0] at hown
  exact va_get (ci := 10) (C := RX10) (T := TX10) (N := 8) hx hb hB in_X10 hown hK.1 hP q0 he rfl 1 (by decide) (hB _ m_143) (fun _ h => h) hv hdg kk
theorem dX10_count_4 : decode cX10_count 4 = .ok (.ireturn, 1) := by decide +kernel
end WR
noncomputable def A_many (w : Int32) : Int32 := ifc (w = 0) 0 (ifc (w = 1) 0 (ifc (w = 2) 0 (ifc (w = 3) 0 (ifc (w = 4) 0 (ifc (w = 5) 0 (ifc (w = 6) 0 (ifc (w = 7) 0 (ifc (w = 8) 0 (ifc (w = 9) 0 (ifc (w = 10) 0 (ifc (w = 11) 0 (ifc (w = 12) 0 (ifc (w = 13) 0 (ifc (w = 14) 0 (-1)))))))))))))))
section WR
variable {p : Program} {l : Launch} {e : Env} {R : Room} {s : State} {m : MethodId} {args : Array Value} {below : List Frame} {meth : Method} {c : Code} {H : Heap} {locs : List Loc} {cells slots : Nat} {Q : State → Prop}
variable {pc : Nat} {ls : Array Slot} {rest : List Value} {G : GG} {ws : va_W} {A : Nat → Prop} {y0 : MethodName} {b0 : ByteArray} {mL0 : Nat} {rt0 : Option FieldType} {a : Nat} {H0 : Heap}
theorem dX11_many_0 : decode cX11_many 0 = .ok (.iload_n 1, 1) := by decide +kernel
theorem dX11_many_1 : decode cX11_many 1 = .ok (.tableswitch 236 0 14 #[75, 83, 94, 105, 116, 127, 138, 149, 164, 175, 187, 198, 209, 220, 228], 75) := by decide +kernel
theorem dX11_many_76 : decode cX11_many 76 = .ok (.aload_n 0, 1) := by decide +kernel
theorem dX11_many_77 : decode cX11_many 77 = .ok (.getfield 15, 3) := by decide +kernel
theorem dX11_many_80 : decode cX11_many 80 = .ok (.getfield 87, 3) := by decide +kernel
theorem dX11_many_83 : decode cX11_many 83 = .ok (.ireturn, 1) := by decide +kernel
theorem dX11_many_84 : decode cX11_many 84 = .ok (.aload_n 0, 1) := by decide +kernel
theorem dX11_many_85 : decode cX11_many 85 = .ok (.getfield 15, 3) := by decide +kernel
theorem dX11_many_88 : decode cX11_many 88 = .ok (.getfield 107, 3) := by decide +kernel
theorem dX11_many_91 : decode cX11_many 91 = .ok (.invokevirtual 174, 3) := by decide +kernel
theorem dX11_many_94 : decode cX11_many 94 = .ok (.ireturn, 1) := by decide +kernel
theorem dX11_many_95 : decode cX11_many 95 = .ok (.aload_n 0, 1) := by decide +kernel
theorem dX11_many_96 : decode cX11_many 96 = .ok (.getfield 15, 3) := by decide +kernel
theorem dX11_many_99 : decode cX11_many 99 = .ok (.getfield 144, 3) := by decide +kernel
theorem dX11_many_102 : decode cX11_many 102 = .ok (.invokevirtual 174, 3) := by decide +kernel
theorem dX11_many_105 : decode cX11_many 105 = .ok (.ireturn, 1) := by decide +kernel
theorem dX11_many_106 : decode cX11_many 106 = .ok (.aload_n 0, 1) := by decide +kernel
theorem dX11_many_107 : decode cX11_many 107 = .ok (.getfield 15, 3) := by decide +kernel
theorem dX11_many_110 : decode cX11_many 110 = .ok (.invokevirtual 97, 3) := by decide +kernel
theorem dX11_many_113 : decode cX11_many 113 = .ok (.invokestatic 101, 3) := by decide +kernel
theorem dX11_many_116 : decode cX11_many 116 = .ok (.ireturn, 1) := by decide +kernel
theorem dX11_many_117 : decode cX11_many 117 = .ok (.aload_n 0, 1) := by decide +kernel
theorem dX11_many_118 : decode cX11_many 118 = .ok (.getfield 15, 3) := by decide +kernel
theorem dX11_many_121 : decode cX11_many 121 = .ok (.getfield 157, 3) := by decide +kernel
theorem nm_11 : Cond.fieldLinkNest RX11 157 RX0 "stamps" "LInquiryBench$Table;" RX11 ∈ NestW := List.mem_of_getElem? (i := 11) (by decide +kernel)
theorem gf_X11_157 (hC : CX p s m meth c y0 b0 mL0 rt0 args) (hy0 : y0.cls = RX11) (hK : KK G s) (hP : va_P G.1 vwCl ws H) (q0 : Nat) {fs : List Value} {v : Value} (he : ws[q0]? = some (a, .inr (0, fs))) (hv : fs[2]? = some v) (hdg : decode b0 pc = .ok (.getfield 157, 3)) (kk : W p l e R s m args below meth c H locs cells slots Q (F0 m (pc + 3) ls (v :: rest))) : W p l e R s m args below meth c H locs cells slots Q (F0 m pc ls (.ref a :: rest)) := by
  obtain ⟨hx, hb, hr, hml, hB, hown, hlocks, hnm⟩ := hC
  rw [hy0] at hown
  exact va_getN (ci := 0) (C := RX0) (T := TX0) (N := 14) hx hb hB in_X0 hown hK.1 hP q0 he rfl 2 (by decide) (va_Nw.use rfl (hK.2.1 _ nm_11)) (fun _ h => h) hv hdg kk
theorem dX11_many_124 : decode cX11_many 124 = .ok (.invokevirtual 174, 3) := by decide +kernel
theorem dX11_many_127 : decode cX11_many 127 = .ok (.ireturn, 1) := by decide +kernel
theorem dX11_many_128 : decode cX11_many 128 = .ok (.aload_n 0, 1) := by decide +kernel
theorem dX11_many_129 : decode cX11_many 129 = .ok (.getfield 15, 3) := by decide +kernel
theorem dX11_many_132 : decode cX11_many 132 = .ok (.getfield 233, 3) := by decide +kernel
theorem dX11_many_135 : decode cX11_many 135 = .ok (.invokevirtual 174, 3) := by decide +kernel
theorem dX11_many_138 : decode cX11_many 138 = .ok (.ireturn, 1) := by decide +kernel
theorem dX11_many_139 : decode cX11_many 139 = .ok (.aload_n 0, 1) := by decide +kernel
theorem dX11_many_140 : decode cX11_many 140 = .ok (.getfield 15, 3) := by decide +kernel
theorem dX11_many_143 : decode cX11_many 143 = .ok (.getfield 256, 3) := by decide +kernel
theorem nm_23 : Cond.fieldLinkNest RX11 256 RX0 "sayings" "LInquiryBench$Table;" RX11 ∈ NestW := List.mem_of_getElem? (i := 23) (by decide +kernel)
theorem gf_X11_256 (hC : CX p s m meth c y0 b0 mL0 rt0 args) (hy0 : y0.cls = RX11) (hK : KK G s) (hP : va_P G.1 vwCl ws H) (q0 : Nat) {fs : List Value} {v : Value} (he : ws[q0]? = some (a, .inr (0, fs))) (hv : fs[6]? = some v) (hdg : decode b0 pc = .ok (.getfield 256, 3)) (kk : W p l e R s m args below meth c H locs cells slots Q (F0 m (pc + 3) ls (v :: rest))) : W p l e R s m args below meth c H locs cells slots Q (F0 m pc ls (.ref a :: rest)) := by
  obtain ⟨hx, hb, hr, hml, hB, hown, hlocks, hnm⟩ := hC
  rw [hy0] at hown
  exact va_getN (ci := 0) (C := RX0) (T := TX0) (N := 14) hx hb hB in_X0 hown hK.1 hP q0 he rfl 6 (by decide) (va_Nw.use rfl (hK.2.1 _ nm_23)) (fun _ h => h) hv hdg kk
theorem dX11_many_146 : decode cX11_many 146 = .ok (.invokevirtual 174, 3) := by decide +kernel
theorem dX11_many_149 : decode cX11_many 149 = .ok (.ireturn, 1) := by decide +kernel
theorem dX11_many_150 : decode cX11_many 150 = .ok (.aload_n 0, 1) := by decide +kernel
theorem dX11_many_151 : decode cX11_many 151 = .ok (.getfield 15, 3) := by decide +kernel
theorem dX11_many_154 : decode cX11_many 154 = .ok (.aload_n 0, 1) := by decide +kernel
theorem dX11_many_155 : decode cX11_many 155 = .ok (.getfield 15, 3) := by decide +kernel
theorem dX11_many_158 : decode cX11_many 158 = .ok (.invokevirtual 97, 3) := by decide +kernel
theorem dX11_many_161 : decode cX11_many 161 = .ok (.invokevirtual 355, 3) := by decide +kernel
theorem m_1394 : Cond.code yX0_countSayings cX0_countSayings 4 (some .int) ∈ BW := List.mem_of_getElem? (i := 1394) (by decide +kernel)
theorem m_1391 : Cond.methodLink RX11 355 yX0_countSayings ∈ BW := List.mem_of_getElem? (i := 1391) (by decide +kernel)
theorem m_1392 : Cond.instanceMethod yX0_countSayings ∈ BW := List.mem_of_getElem? (i := 1392) (by decide +kernel)
theorem m_1393 : Cond.selects RX0 yX0_countSayings yX0_countSayings ∈ BW := List.mem_of_getElem? (i := 1393) (by decide +kernel)
theorem si_X11_355 : SV RX11 RX0 355 yX0_countSayings cX0_countSayings 4 (some .int) 1 := ⟨⟨m_1391, m_1392, m_1393, m_15, m_1394⟩, rfl, by decide +kernel, by decide +kernel, by decide +kernel⟩
theorem dX11_many_164 : decode cX11_many 164 = .ok (.ireturn, 1) := by decide +kernel
theorem dX11_many_165 : decode cX11_many 165 = .ok (.aload_n 0, 1) := by decide +kernel
theorem dX11_many_166 : decode cX11_many 166 = .ok (.getfield 15, 3) := by decide +kernel
theorem dX11_many_169 : decode cX11_many 169 = .ok (.getfield 271, 3) := by decide +kernel
theorem dX11_many_172 : decode cX11_many 172 = .ok (.invokevirtual 174, 3) := by decide +kernel
theorem dX11_many_175 : decode cX11_many 175 = .ok (.ireturn, 1) := by decide +kernel
theorem dX11_many_176 : decode cX11_many 176 = .ok (.aload_n 0, 1) := by decide +kernel
theorem dX11_many_177 : decode cX11_many 177 = .ok (.aload_n 0, 1) := by decide +kernel
theorem dX11_many_178 : decode cX11_many 178 = .ok (.getfield 15, 3) := by decide +kernel
theorem dX11_many_181 : decode cX11_many 181 = .ok (.invokevirtual 97, 3) := by decide +kernel
theorem dX11_many_184 : decode cX11_many 184 = .ok (.invokevirtual 358, 3) := by decide +kernel
theorem m_1398 : Cond.code yX11_countStanding cX11_countStanding 4 (some .int) ∈ BW := List.mem_of_getElem? (i := 1398) (by decide +kernel)
theorem m_1395 : Cond.methodLink RX11 358 yX11_countStanding ∈ BW := List.mem_of_getElem? (i := 1395) (by decide +kernel)
theorem m_1396 : Cond.instanceMethod yX11_countStanding ∈ BW := List.mem_of_getElem? (i := 1396) (by decide +kernel)
theorem m_1397 : Cond.selects RX11 yX11_countStanding yX11_countStanding ∈ BW := List.mem_of_getElem? (i := 1397) (by decide +kernel)
theorem si_X11_358 : SV RX11 RX11 358 yX11_countStanding cX11_countStanding 4 (some .int) 1 := ⟨⟨m_1395, m_1396, m_1397, m_2, m_1398⟩, rfl, by decide +kernel, by decide +kernel, by decide +kernel⟩
theorem dX11_many_187 : decode cX11_many 187 = .ok (.ireturn, 1) := by decide +kernel
theorem dX11_many_188 : decode cX11_many 188 = .ok (.aload_n 0, 1) := by decide +kernel
theorem dX11_many_189 : decode cX11_many 189 = .ok (.getfield 15, 3) := by decide +kernel
theorem dX11_many_192 : decode cX11_many 192 = .ok (.getfield 283, 3) := by decide +kernel
theorem nm_27 : Cond.fieldLinkNest RX11 283 RX0 "warnings" "LInquiryBench$Table;" RX11 ∈ NestW := List.mem_of_getElem? (i := 27) (by decide +kernel)
theorem gf_X11_283 (hC : CX p s m meth c y0 b0 mL0 rt0 args) (hy0 : y0.cls = RX11) (hK : KK G s) (hP : va_P G.1 vwCl ws H) (q0 : Nat) {fs : List Value} {v : Value} (he : ws[q0]? = some (a, .inr (0, fs))) (hv : fs[8]? = some v) (hdg : decode b0 pc = .ok (.getfield 283, 3)) (kk : W p l e R s m args below meth c H locs cells slots Q (F0 m (pc + 3) ls (v :: rest))) : W p l e R s m args below meth c H locs cells slots Q (F0 m pc ls (.ref a :: rest)) := by
  obtain ⟨hx, hb, hr, hml, hB, hown, hlocks, hnm⟩ := hC
  rw [hy0] at hown
  exact va_getN (ci := 0) (C := RX0) (T := TX0) (N := 14) hx hb hB in_X0 hown hK.1 hP q0 he rfl 8 (by decide) (va_Nw.use rfl (hK.2.1 _ nm_27)) (fun _ h => h) hv hdg kk
theorem dX11_many_195 : decode cX11_many 195 = .ok (.invokevirtual 174, 3) := by decide +kernel
theorem dX11_many_198 : decode cX11_many 198 = .ok (.ireturn, 1) := by decide +kernel
theorem dX11_many_199 : decode cX11_many 199 = .ok (.aload_n 0, 1) := by decide +kernel
theorem dX11_many_200 : decode cX11_many 200 = .ok (.getfield 15, 3) := by decide +kernel
theorem dX11_many_203 : decode cX11_many 203 = .ok (.getfield 286, 3) := by decide +kernel
theorem dX11_many_206 : decode cX11_many 206 = .ok (.invokevirtual 174, 3) := by decide +kernel
theorem dX11_many_209 : decode cX11_many 209 = .ok (.ireturn, 1) := by decide +kernel
theorem dX11_many_210 : decode cX11_many 210 = .ok (.aload_n 0, 1) := by decide +kernel
theorem dX11_many_211 : decode cX11_many 211 = .ok (.getfield 65, 3) := by decide +kernel
theorem dX11_many_214 : decode cX11_many 214 = .ok (.getfield 292, 3) := by decide +kernel
theorem dX11_many_217 : decode cX11_many 217 = .ok (.invokevirtual 174, 3) := by decide +kernel
theorem dX11_many_220 : decode cX11_many 220 = .ok (.ireturn, 1) := by decide +kernel
theorem dX11_many_221 : decode cX11_many 221 = .ok (.aload_n 0, 1) := by decide +kernel
theorem dX11_many_222 : decode cX11_many 222 = .ok (.getfield 58, 3) := by decide +kernel
theorem gf_X11_58 (hC : CX p s m meth c y0 b0 mL0 rt0 args) (hy0 : y0.cls = RX11) (hK : KK G s) (hP : va_P G.1 vwCl ws H) (q0 : Nat) {fs : List Value} {v : Value} (he : ws[q0]? = some (a, .inr (11, fs))) (hv : fs[7]? = some v) (hdg : decode b0 pc = .ok (.getfield 58, 3)) (kk : W p l e R s m args below meth c H locs cells slots Q (F0 m (pc + 3) ls (v :: rest))) : W p l e R s m args below meth c H locs cells slots Q (F0 m pc ls (.ref a :: rest)) := by
  obtain ⟨hx, hb, hr, hml, hB, hown, hlocks, hnm⟩ := hC
  rw [hy0] at hown
  exact va_get (ci := 11) (C := RX11) (T := TX11) (N := 11) hx hb hB in_X11 hown hK.1 hP q0 he rfl 7 (by decide) (hB _ m_38) (fun _ h => h) hv hdg kk
theorem dX11_many_225 : decode cX11_many 225 = .ok (.invokevirtual 224, 3) := by decide +kernel
theorem m_741 : Cond.code yX10_count cX10_count 1 (some .int) ∈ BW := List.mem_of_getElem? (i := 741) (by decide +kernel)
theorem m_738 : Cond.methodLink RX11 224 yX10_count ∈ BW := List.mem_of_getElem? (i := 738) (by decide +kernel)
theorem m_739 : Cond.instanceMethod yX10_count ∈ BW := List.mem_of_getElem? (i := 739) (by decide +kernel)
theorem m_740 : Cond.selects RX10 yX10_count yX10_count ∈ BW := List.mem_of_getElem? (i := 740) (by decide +kernel)
theorem si_X11_224 : SV RX11 RX10 224 yX10_count cX10_count 1 (some .int) 0 := ⟨⟨m_738, m_739, m_740, m_37, m_741⟩, rfl, by decide +kernel, by decide +kernel, by decide +kernel⟩
theorem dX11_many_228 : decode cX11_many 228 = .ok (.ireturn, 1) := by decide +kernel
theorem dX11_many_229 : decode cX11_many 229 = .ok (.aload_n 0, 1) := by decide +kernel
theorem dX11_many_230 : decode cX11_many 230 = .ok (.getfield 79, 3) := by decide +kernel
theorem dX11_many_233 : decode cX11_many 233 = .ok (.invokevirtual 349, 3) := by decide +kernel
theorem dX11_many_236 : decode cX11_many 236 = .ok (.ireturn, 1) := by decide +kernel
theorem sw_0_14 {x : Int32} : ¬ x = 0 → ¬ x = 1 → ¬ x = 2 → ¬ x = 3 → ¬ x = 4 → ¬ x = 5 → ¬ x = 6 → ¬ x = 7 → ¬ x = 8 → ¬ x = 9 → ¬ x = 10 → ¬ x = 11 → ¬ x = 12 → ¬ x = 13 → ¬ x = 14 →  (x.toInt < 0 ∨ 14 < x.toInt) := by
  intros
  simp only [← Int32.toInt_inj] at *
  have hk : ∀ k : Int, x.toInt = k → x.toInt = k := fun _ h => h
  have k0 : (0 : Int32).toInt = 0 := by decide
  have k1 : (1 : Int32).toInt = 1 := by decide
  have k2 : (2 : Int32).toInt = 2 := by decide
  have k3 : (3 : Int32).toInt = 3 := by decide
  have k4 : (4 : Int32).toInt = 4 := by decide
  have k5 : (5 : Int32).toInt = 5 := by decide
  have k6 : (6 : Int32).toInt = 6 := by decide
  have k7 : (7 : Int32).toInt = 7 := by decide
  have k8 : (8 : Int32).toInt = 8 := by decide
  have k9 : (9 : Int32).toInt = 9 := by decide
  have k10 : (10 : Int32).toInt = 10 := by decide
  have k11 : (11 : Int32).toInt = 11 := by decide
  have k12 : (12 : Int32).toInt = 12 := by decide
  have k13 : (13 : Int32).toInt = 13 := by decide
  have k14 : (14 : Int32).toInt = 14 := by decide
  omega
theorem dX11_many_237 : decode cX11_many 237 = .ok (.iconst (-1), 1) := by decide +kernel
theorem dX11_many_238 : decode cX11_many 238 = .ok (.ireturn, 1) := by decide +kernel
end WR
set_option maxHeartbeats 4000000 in
set_option maxRecDepth 100000 in
theorem c_hasBit (l : Launch) (G : GG) (bits : Int32) (i : Int32) : MP l G yX11_hasBit cX11_hasBit 2 (some .boolean) 1 [.int bits, .int i] [] (fun r : Int32 => (r = 1 ∧ HB bits i) ∨ (r = 0 ∧ ¬ HB bits i)) := by
  refine MP.start (by decide +kernel) (Nat.le_of_ble_eq_true rfl) ?_
  intro p e s m below meth c ls hC hK hP hD hl
  have hl : lv_has ls 2 [(0, .int bits), (1, .int i)] := hl
  obtain ⟨hx, hb, hr, hml, hB, hown, hlocks, hnm⟩ := id hC
  refine lv_iload_n hx hb dX11_hasBit_0 rfl (lv_at hl 1 rfl) ?_
  refine lv_if_lt (tgt := 23) hx hb dX11_hasBit_1 (by decide) (fun c_1_200 => ?_) (fun c_1_200 => ?_)
  · refine lv_iconst (v := 0) hx hb dX11_hasBit_23 (by decide) ?_
    exact RP (v := 0) hC (Or.inr ⟨rfl, fun h9 => h9.1 c_1_200⟩) (by decide +kernel) dX11_hasBit_24
  · refine lv_iload_n hx hb dX11_hasBit_4 rfl (lv_at hl 1 rfl) ?_
    refine lv_bipush (v := 31) hx hb dX11_hasBit_5 (by decide) ?_
    refine lv_icmp_ge (tgt := 23) hx hb dX11_hasBit_7 (by decide) (fun c_7_201 => ?_) (fun c_7_201 => ?_)
    · refine lv_iconst (v := 0) hx hb dX11_hasBit_23 (by decide) ?_
      exact RP (v := 0) hC (Or.inr ⟨rfl, fun h9 => h9.2.1 c_7_201⟩) (by decide +kernel) dX11_hasBit_24
    · refine lv_iload_n hx hb dX11_hasBit_10 rfl (lv_at hl 0 rfl) ?_
      refine lv_iload_n hx hb dX11_hasBit_11 rfl (lv_at hl 1 rfl) ?_
      refine lv_ishr hx hb dX11_hasBit_12 ?_
      refine lv_iconst (v := 1) hx hb dX11_hasBit_13 (by decide) ?_
      refine lv_iand hx hb dX11_hasBit_14 ?_
      refine lv_iconst (v := 1) hx hb dX11_hasBit_15 (by decide) ?_
      refine lv_icmp_ne (tgt := 23) hx hb dX11_hasBit_16 (by decide) (fun c_16_202 => ?_) (fun c_16_202 => ?_)
      · refine lv_iconst (v := 0) hx hb dX11_hasBit_23 (by decide) ?_
        exact RP (v := 0) hC (Or.inr ⟨rfl, fun h9 => c_16_202 h9.2.2⟩) (by decide +kernel) dX11_hasBit_24
      · refine lv_iconst (v := 1) hx hb dX11_hasBit_19 (by decide) ?_
        refine lv_goto (tgt := 24) hx hb dX11_hasBit_20 (by decide) ?_
        exact RP (v := 1) hC (Or.inl ⟨rfl, c_1_200, c_7_201, c_16_202⟩) (by decide +kernel) dX11_hasBit_24
set_option maxHeartbeats 4000000 in
set_option maxRecDepth 100000 in
theorem c_isStamp (l : Launch) (G : GG) (ck : Int32) (hh : Int32) : MP l G yX11_isStamp cX11_isStamp 2 (some .boolean) 2 [.int ck, .int hh] [] (fun r : Int32 => (r = 1 ∧ (Wi ck 0 5 ∧ Wi hh 0 999)) ∨ (r = 0 ∧ ¬ (Wi ck 0 5 ∧ Wi hh 0 999))) := by
  refine MP.start (by decide +kernel) (Nat.le_of_ble_eq_true rfl) ?_
  intro p e s m below meth c ls hC hK hP hD hl
  have hl : lv_has ls 2 [(0, .int ck), (1, .int hh)] := hl
  obtain ⟨hx, hb, hr, hml, hB, hown, hlocks, hnm⟩ := id hC
  refine lv_iload_n hx hb dX11_isStamp_0 rfl (lv_at hl 0 rfl) ?_
  refine lv_iconst (v := 0) hx hb dX11_isStamp_1 (by decide) ?_
  refine lv_iconst (v := 5) hx hb dX11_isStamp_2 (by decide) ?_
  refine pS hC hK hl (c_within l G ck 0 5) si_X11_83 rfl rfl (Nat.le_of_ble_eq_true rfl) ⟨Nat.le_of_ble_eq_true rfl, Nat.le_of_ble_eq_true rfl⟩ ⟨by first | exact Nat.le_of_ble_eq_true rfl | exact Nat.zero_le _, by first | exact Nat.le_of_ble_eq_true rfl | exact Nat.zero_le _⟩ dX11_isStamp_3 (fun r203 hr203 => ?_)
  rcases hr203 with ⟨rfl, a204⟩ | ⟨rfl, a204⟩
  · refine lv_if_eq (tgt := 24) hx hb dX11_isStamp_6 (by decide) (fun c9 => absurd c9 (by decide)) (fun _ => ?_)
    refine lv_iload_n hx hb dX11_isStamp_9 rfl (lv_at hl 1 rfl) ?_
    refine lv_iconst (v := 0) hx hb dX11_isStamp_10 (by decide) ?_
    refine lv_sipush (v := 999) hx hb dX11_isStamp_11 (by decide) ?_
    refine pS hC hK hl (c_within l G hh 0 999) si_X11_83 rfl rfl (Nat.le_of_ble_eq_true rfl) ⟨Nat.le_of_ble_eq_true rfl, Nat.le_of_ble_eq_true rfl⟩ ⟨by first | exact Nat.le_of_ble_eq_true rfl | exact Nat.zero_le _, by first | exact Nat.le_of_ble_eq_true rfl | exact Nat.zero_le _⟩ dX11_isStamp_14 (fun r205 hr205 => ?_)
    rcases hr205 with ⟨rfl, a206⟩ | ⟨rfl, a206⟩
    · refine lv_if_eq (tgt := 24) hx hb dX11_isStamp_17 (by decide) (fun c9 => absurd c9 (by decide)) (fun _ => ?_)
      refine lv_iconst (v := 1) hx hb dX11_isStamp_20 (by decide) ?_
      refine lv_goto (tgt := 25) hx hb dX11_isStamp_21 (by decide) ?_
      exact RP (v := 1) hC (Or.inl ⟨rfl, a204, a206⟩) (by decide +kernel) dX11_isStamp_25
    · refine lv_if_eq (tgt := 24) hx hb dX11_isStamp_17 (by decide) (fun _ => ?_) (fun c9 => absurd (by decide) c9)
      refine lv_iconst (v := 0) hx hb dX11_isStamp_24 (by decide) ?_
      exact RP (v := 0) hC (Or.inr ⟨rfl, fun h9 => a206 h9.2⟩) (by decide +kernel) dX11_isStamp_25
  · refine lv_if_eq (tgt := 24) hx hb dX11_isStamp_6 (by decide) (fun _ => ?_) (fun c9 => absurd (by decide) c9)
    refine lv_iconst (v := 0) hx hb dX11_isStamp_24 (by decide) ?_
    exact RP (v := 0) hC (Or.inr ⟨rfl, fun h9 => a204 h9.1⟩) (by decide +kernel) dX11_isStamp_25
set_option maxHeartbeats 4000000 in
set_option maxRecDepth 100000 in
theorem c_T_append0 (l : Launch) (G : GG) (h0 : Nat) (room : Int32) (wid : Int32) (ca : Nat) (hroom : 0 < room) : MI l G yX8_append cX8_append 1 (some .int) 1 0 0 [.ref h0] [(h0, .inr (8, [.int room, .int wid, .ref ca, .int 0]))] (fun (r : Int32) (u : Unit) => (r = 0)) (fun u : Unit => [(h0, .inr (8, [.int room, .int wid, .ref ca, .int 1]))]) := by
  refine MI.start (by decide +kernel) (Nat.le_of_ble_eq_true rfl) ?_
  intro p e s m below meth c A ls hC hK hP hD hS hA hl
  have hl : lv_has ls 1 [(0, .ref h0)] := hl
  obtain ⟨hx, hb, hr, hml, hB, hown, hlocks, hnm⟩ := id hC
  refine lv_aload_n hx hb dX8_append_0 rfl (lv_at hl 0 rfl) ?_
  refine gf_X8_28 hC rfl hK hP 0 rfl rfl dX8_append_1 ?_
  refine lv_aload_n hx hb dX8_append_4 rfl (lv_at hl 0 rfl) ?_
  refine gf_X8_15 hC rfl hK hP 0 rfl rfl dX8_append_5 ?_
  refine lv_icmp_lt (tgt := 14) hx hb dX8_append_8 (by decide) (fun _ => ?_) (fun c9 => absurd (hroom) c9)
  refine lv_aload_n hx hb dX8_append_14 rfl (lv_at hl 0 rfl) ?_
  refine lv_dup hx hb dX8_append_15 rfl ?_
  refine gf_X8_28 hC rfl hK hP 0 rfl rfl dX8_append_16 ?_
  refine lv_iconst (v := 1) hx hb dX8_append_19 (by decide) ?_
  refine lv_iadd hx hb dX8_append_20 ?_
  refine eqi (x1 := 1) (by decide) ?_
  refine pf_X8_28 hC rfl hK hP hD hS 0 (ws' := [(h0, .inr (8, [.int room, .int wid, .ref ca, .int 1]))]) rfl (Nat.le_of_ble_eq_true rfl) rfl rfl rfl dX8_append_21 (fun H locs hP hD hS => ?_)
  refine lv_aload_n hx hb dX8_append_24 rfl (lv_at hl 0 rfl) ?_
  refine gf_X8_28 hC rfl hK hP 0 rfl rfl dX8_append_25 ?_
  refine lv_iconst (v := 1) hx hb dX8_append_28 (by decide) ?_
  refine lv_isub hx hb dX8_append_29 ?_
  refine eqi (x1 := 0) (by decide) ?_
  exact RI (v := 0) hC hP hD hS [0] () rfl rfl (by decide) (rfl) rfl dX8_append_30
set_option maxHeartbeats 4000000 in
set_option maxRecDepth 100000 in
theorem c_T_cut0 (l : Launch) (G : GG) (h0 : Nat) (room : Int32) (wid : Int32) (ca : Nat) : MV l G yX8_cut cX8_cut 2 1 0 0 [.ref h0, .int 0] [(h0, .inr (8, [.int room, .int wid, .ref ca, .int 0]))] (fun u : Unit => True) (fun u : Unit => [(h0, .inr (8, [.int room, .int wid, .ref ca, .int 0]))]) := by
  refine MV.start (by decide +kernel) (Nat.le_of_ble_eq_true rfl) ?_
  intro p e s m below meth c A ls hC hK hP hD hS hA hl
  have hl : lv_has ls 2 [(0, .ref h0), (1, .int 0)] := hl
  obtain ⟨hx, hb, hr, hml, hB, hown, hlocks, hnm⟩ := id hC
  refine lv_iload_n hx hb dX8_cut_0 rfl (lv_at hl 1 rfl) ?_
  refine lv_if_lt (tgt := 17) hx hb dX8_cut_1 (by decide) (fun c9 => absurd c9 (by decide)) (fun _ => ?_)
  refine lv_iload_n hx hb dX8_cut_4 rfl (lv_at hl 1 rfl) ?_
  refine lv_aload_n hx hb dX8_cut_5 rfl (lv_at hl 0 rfl) ?_
  refine gf_X8_28 hC rfl hK hP 0 rfl rfl dX8_cut_6 ?_
  refine lv_icmp_ge (tgt := 17) hx hb dX8_cut_9 (by decide) (fun _ => ?_) (fun c9 => absurd (by decide) c9)
  exact RV hC hP hD hS [0] () rfl rfl (by decide) (trivial) dX8_cut_17
set_option maxHeartbeats 4000000 in
set_option maxRecDepth 100000 in
theorem c_T_set_2_20_0 (l : Launch) (G : GG) (h0 : Nat) (v : Int32) (room : Int32) (ca : Nat) (f : Nat → Int32) : MV l G yX8_set cX8_set 4 1 0 0 [.ref h0, .int 0, .int 0, .int v] [(h0, .inr (8, [.int room, .int 2, .ref ca, .int 1])), (ca, .inl (G.2.1, 20, .inl f))] (fun u : Unit => True) (fun u : Unit => [(h0, .inr (8, [.int room, .int 2, .ref ca, .int 1])), (ca, .inl (G.2.1, 20, .inl (upd f 0 v)))]) := by
  refine MV.start (by decide +kernel) (Nat.le_of_ble_eq_true rfl) ?_
  intro p e s m below meth c A ls hC hK hP hD hS hA hl
  have hl : lv_has ls 4 [(0, .ref h0), (1, .int 0), (2, .int 0), (3, .int v)] := hl
  obtain ⟨hx, hb, hr, hml, hB, hown, hlocks, hnm⟩ := id hC
  refine lv_iload_n hx hb dX8_set_0 rfl (lv_at hl 1 rfl) ?_
  refine lv_if_lt (tgt := 24) hx hb dX8_set_1 (by decide) (fun c9 => absurd c9 (by decide)) (fun _ => ?_)
  refine lv_iload_n hx hb dX8_set_4 rfl (lv_at hl 1 rfl) ?_
  refine lv_aload_n hx hb dX8_set_5 rfl (lv_at hl 0 rfl) ?_
  refine gf_X8_28 hC rfl hK hP 0 rfl rfl dX8_set_6 ?_
  refine lv_icmp_ge (tgt := 24) hx hb dX8_set_9 (by decide) (fun c9 => absurd c9 (by decide)) (fun _ => ?_)
  refine lv_iload_n hx hb dX8_set_12 rfl (lv_at hl 2 rfl) ?_
  refine lv_if_lt (tgt := 24) hx hb dX8_set_13 (by decide) (fun c9 => absurd c9 (by decide)) (fun _ => ?_)
  refine lv_iload_n hx hb dX8_set_16 rfl (lv_at hl 2 rfl) ?_
  refine lv_aload_n hx hb dX8_set_17 rfl (lv_at hl 0 rfl) ?_
  refine gf_X8_21 hC rfl hK hP 0 rfl rfl dX8_set_18 ?_
  refine lv_icmp_lt (tgt := 25) hx hb dX8_set_21 (by decide) (fun _ => ?_) (fun c9 => absurd (by decide) c9)
  refine lv_aload_n hx hb dX8_set_25 rfl (lv_at hl 0 rfl) ?_
  refine gf_X8_24 hC rfl hK hP 0 rfl rfl dX8_set_26 ?_
  refine lv_iload_n hx hb dX8_set_29 rfl (lv_at hl 1 rfl) ?_
  refine lv_aload_n hx hb dX8_set_30 rfl (lv_at hl 0 rfl) ?_
  refine gf_X8_21 hC rfl hK hP 0 rfl rfl dX8_set_31 ?_
  refine lv_imul hx hb dX8_set_34 ?_
  refine eqi (x1 := 0) (by decide) ?_
  refine lv_iload_n hx hb dX8_set_35 rfl (lv_at hl 2 rfl) ?_
  refine lv_iadd hx hb dX8_set_36 ?_
  refine eqi (x1 := 0) (by decide) ?_
  refine lv_iload_n hx hb dX8_set_37 rfl (lv_at hl 3 rfl) ?_
  refine ast hC hK hP hD hS 1 (ws' := [(h0, .inr (8, [.int room, .int 2, .ref ca, .int 1])), (ca, .inl (G.2.1, 20, .inl (upd f 0 v)))]) rfl (vin (by decide +kernel)) (k := 0) (by decide +kernel) (rfl) dX8_set_38 (fun H locs hP hD hS => ?_)
  exact RV hC hP hD hS [0, 1] () rfl rfl (by decide) (trivial) dX8_set_39
set_option maxHeartbeats 4000000 in
set_option maxRecDepth 100000 in
theorem c_T_set_2_20_1 (l : Launch) (G : GG) (h0 : Nat) (v : Int32) (room : Int32) (ca : Nat) (f : Nat → Int32) : MV l G yX8_set cX8_set 4 1 0 0 [.ref h0, .int 0, .int 1, .int v] [(h0, .inr (8, [.int room, .int 2, .ref ca, .int 1])), (ca, .inl (G.2.1, 20, .inl f))] (fun u : Unit => True) (fun u : Unit => [(h0, .inr (8, [.int room, .int 2, .ref ca, .int 1])), (ca, .inl (G.2.1, 20, .inl (upd f 1 v)))]) := by
  refine MV.start (by decide +kernel) (Nat.le_of_ble_eq_true rfl) ?_
  intro p e s m below meth c A ls hC hK hP hD hS hA hl
  have hl : lv_has ls 4 [(0, .ref h0), (1, .int 0), (2, .int 1), (3, .int v)] := hl
  obtain ⟨hx, hb, hr, hml, hB, hown, hlocks, hnm⟩ := id hC
  refine lv_iload_n hx hb dX8_set_0 rfl (lv_at hl 1 rfl) ?_
  refine lv_if_lt (tgt := 24) hx hb dX8_set_1 (by decide) (fun c9 => absurd c9 (by decide)) (fun _ => ?_)
  refine lv_iload_n hx hb dX8_set_4 rfl (lv_at hl 1 rfl) ?_
  refine lv_aload_n hx hb dX8_set_5 rfl (lv_at hl 0 rfl) ?_
  refine gf_X8_28 hC rfl hK hP 0 rfl rfl dX8_set_6 ?_
  refine lv_icmp_ge (tgt := 24) hx hb dX8_set_9 (by decide) (fun c9 => absurd c9 (by decide)) (fun _ => ?_)
  refine lv_iload_n hx hb dX8_set_12 rfl (lv_at hl 2 rfl) ?_
  refine lv_if_lt (tgt := 24) hx hb dX8_set_13 (by decide) (fun c9 => absurd c9 (by decide)) (fun _ => ?_)
  refine lv_iload_n hx hb dX8_set_16 rfl (lv_at hl 2 rfl) ?_
  refine lv_aload_n hx hb dX8_set_17 rfl (lv_at hl 0 rfl) ?_
  refine gf_X8_21 hC rfl hK hP 0 rfl rfl dX8_set_18 ?_
  refine lv_icmp_lt (tgt := 25) hx hb dX8_set_21 (by decide) (fun _ => ?_) (fun c9 => absurd (by decide) c9)
  refine lv_aload_n hx hb dX8_set_25 rfl (lv_at hl 0 rfl) ?_
  refine gf_X8_24 hC rfl hK hP 0 rfl rfl dX8_set_26 ?_
  refine lv_iload_n hx hb dX8_set_29 rfl (lv_at hl 1 rfl) ?_
  refine lv_aload_n hx hb dX8_set_30 rfl (lv_at hl 0 rfl) ?_
  refine gf_X8_21 hC rfl hK hP 0 rfl rfl dX8_set_31 ?_
  refine lv_imul hx hb dX8_set_34 ?_
  refine eqi (x1 := 0) (by decide) ?_
  refine lv_iload_n hx hb dX8_set_35 rfl (lv_at hl 2 rfl) ?_
  refine lv_iadd hx hb dX8_set_36 ?_
  refine eqi (x1 := 1) (by decide) ?_
  refine lv_iload_n hx hb dX8_set_37 rfl (lv_at hl 3 rfl) ?_
  refine ast hC hK hP hD hS 1 (ws' := [(h0, .inr (8, [.int room, .int 2, .ref ca, .int 1])), (ca, .inl (G.2.1, 20, .inl (upd f 1 v)))]) rfl (vin (by decide +kernel)) (k := 1) (by decide +kernel) (rfl) dX8_set_38 (fun H locs hP hD hS => ?_)
  exact RV hC hP hD hS [0, 1] () rfl rfl (by decide) (trivial) dX8_set_39
set_option maxHeartbeats 4000000 in
set_option maxRecDepth 100000 in
theorem c_T_set_2_14_0 (l : Launch) (G : GG) (h0 : Nat) (v : Int32) (room : Int32) (ca : Nat) (f : Nat → Int32) : MV l G yX8_set cX8_set 4 1 0 0 [.ref h0, .int 0, .int 0, .int v] [(h0, .inr (8, [.int room, .int 2, .ref ca, .int 1])), (ca, .inl (G.2.1, 14, .inl f))] (fun u : Unit => True) (fun u : Unit => [(h0, .inr (8, [.int room, .int 2, .ref ca, .int 1])), (ca, .inl (G.2.1, 14, .inl (upd f 0 v)))]) := by
  refine MV.start (by decide +kernel) (Nat.le_of_ble_eq_true rfl) ?_
  intro p e s m below meth c A ls hC hK hP hD hS hA hl
  have hl : lv_has ls 4 [(0, .ref h0), (1, .int 0), (2, .int 0), (3, .int v)] := hl
  obtain ⟨hx, hb, hr, hml, hB, hown, hlocks, hnm⟩ := id hC
  refine lv_iload_n hx hb dX8_set_0 rfl (lv_at hl 1 rfl) ?_
  refine lv_if_lt (tgt := 24) hx hb dX8_set_1 (by decide) (fun c9 => absurd c9 (by decide)) (fun _ => ?_)
  refine lv_iload_n hx hb dX8_set_4 rfl (lv_at hl 1 rfl) ?_
  refine lv_aload_n hx hb dX8_set_5 rfl (lv_at hl 0 rfl) ?_
  refine gf_X8_28 hC rfl hK hP 0 rfl rfl dX8_set_6 ?_
  refine lv_icmp_ge (tgt := 24) hx hb dX8_set_9 (by decide) (fun c9 => absurd c9 (by decide)) (fun _ => ?_)
  refine lv_iload_n hx hb dX8_set_12 rfl (lv_at hl 2 rfl) ?_
  refine lv_if_lt (tgt := 24) hx hb dX8_set_13 (by decide) (fun c9 => absurd c9 (by decide)) (fun _ => ?_)
  refine lv_iload_n hx hb dX8_set_16 rfl (lv_at hl 2 rfl) ?_
  refine lv_aload_n hx hb dX8_set_17 rfl (lv_at hl 0 rfl) ?_
  refine gf_X8_21 hC rfl hK hP 0 rfl rfl dX8_set_18 ?_
  refine lv_icmp_lt (tgt := 25) hx hb dX8_set_21 (by decide) (fun _ => ?_) (fun c9 => absurd (by decide) c9)
  refine lv_aload_n hx hb dX8_set_25 rfl (lv_at hl 0 rfl) ?_
  refine gf_X8_24 hC rfl hK hP 0 rfl rfl dX8_set_26 ?_
  refine lv_iload_n hx hb dX8_set_29 rfl (lv_at hl 1 rfl) ?_
  refine lv_aload_n hx hb dX8_set_30 rfl (lv_at hl 0 rfl) ?_
  refine gf_X8_21 hC rfl hK hP 0 rfl rfl dX8_set_31 ?_
  refine lv_imul hx hb dX8_set_34 ?_
  refine eqi (x1 := 0) (by decide) ?_
  refine lv_iload_n hx hb dX8_set_35 rfl (lv_at hl 2 rfl) ?_
  refine lv_iadd hx hb dX8_set_36 ?_
  refine eqi (x1 := 0) (by decide) ?_
  refine lv_iload_n hx hb dX8_set_37 rfl (lv_at hl 3 rfl) ?_
  refine ast hC hK hP hD hS 1 (ws' := [(h0, .inr (8, [.int room, .int 2, .ref ca, .int 1])), (ca, .inl (G.2.1, 14, .inl (upd f 0 v)))]) rfl (vin (by decide +kernel)) (k := 0) (by decide +kernel) (rfl) dX8_set_38 (fun H locs hP hD hS => ?_)
  exact RV hC hP hD hS [0, 1] () rfl rfl (by decide) (trivial) dX8_set_39
set_option maxHeartbeats 4000000 in
set_option maxRecDepth 100000 in
theorem c_T_set_2_14_1 (l : Launch) (G : GG) (h0 : Nat) (v : Int32) (room : Int32) (ca : Nat) (f : Nat → Int32) : MV l G yX8_set cX8_set 4 1 0 0 [.ref h0, .int 0, .int 1, .int v] [(h0, .inr (8, [.int room, .int 2, .ref ca, .int 1])), (ca, .inl (G.2.1, 14, .inl f))] (fun u : Unit => True) (fun u : Unit => [(h0, .inr (8, [.int room, .int 2, .ref ca, .int 1])), (ca, .inl (G.2.1, 14, .inl (upd f 1 v)))]) := by
  refine MV.start (by decide +kernel) (Nat.le_of_ble_eq_true rfl) ?_
  intro p e s m below meth c A ls hC hK hP hD hS hA hl
  have hl : lv_has ls 4 [(0, .ref h0), (1, .int 0), (2, .int 1), (3, .int v)] := hl
  obtain ⟨hx, hb, hr, hml, hB, hown, hlocks, hnm⟩ := id hC
  refine lv_iload_n hx hb dX8_set_0 rfl (lv_at hl 1 rfl) ?_
  refine lv_if_lt (tgt := 24) hx hb dX8_set_1 (by decide) (fun c9 => absurd c9 (by decide)) (fun _ => ?_)
  refine lv_iload_n hx hb dX8_set_4 rfl (lv_at hl 1 rfl) ?_
  refine lv_aload_n hx hb dX8_set_5 rfl (lv_at hl 0 rfl) ?_
  refine gf_X8_28 hC rfl hK hP 0 rfl rfl dX8_set_6 ?_
  refine lv_icmp_ge (tgt := 24) hx hb dX8_set_9 (by decide) (fun c9 => absurd c9 (by decide)) (fun _ => ?_)
  refine lv_iload_n hx hb dX8_set_12 rfl (lv_at hl 2 rfl) ?_
  refine lv_if_lt (tgt := 24) hx hb dX8_set_13 (by decide) (fun c9 => absurd c9 (by decide)) (fun _ => ?_)
  refine lv_iload_n hx hb dX8_set_16 rfl (lv_at hl 2 rfl) ?_
  refine lv_aload_n hx hb dX8_set_17 rfl (lv_at hl 0 rfl) ?_
  refine gf_X8_21 hC rfl hK hP 0 rfl rfl dX8_set_18 ?_
  refine lv_icmp_lt (tgt := 25) hx hb dX8_set_21 (by decide) (fun _ => ?_) (fun c9 => absurd (by decide) c9)
  refine lv_aload_n hx hb dX8_set_25 rfl (lv_at hl 0 rfl) ?_
  refine gf_X8_24 hC rfl hK hP 0 rfl rfl dX8_set_26 ?_
  refine lv_iload_n hx hb dX8_set_29 rfl (lv_at hl 1 rfl) ?_
  refine lv_aload_n hx hb dX8_set_30 rfl (lv_at hl 0 rfl) ?_
  refine gf_X8_21 hC rfl hK hP 0 rfl rfl dX8_set_31 ?_
  refine lv_imul hx hb dX8_set_34 ?_
  refine eqi (x1 := 0) (by decide) ?_
  refine lv_iload_n hx hb dX8_set_35 rfl (lv_at hl 2 rfl) ?_
  refine lv_iadd hx hb dX8_set_36 ?_
  refine eqi (x1 := 1) (by decide) ?_
  refine lv_iload_n hx hb dX8_set_37 rfl (lv_at hl 3 rfl) ?_
  refine ast hC hK hP hD hS 1 (ws' := [(h0, .inr (8, [.int room, .int 2, .ref ca, .int 1])), (ca, .inl (G.2.1, 14, .inl (upd f 1 v)))]) rfl (vin (by decide +kernel)) (k := 1) (by decide +kernel) (rfl) dX8_set_38 (fun H locs hP hD hS => ?_)
  exact RV hC hP hD hS [0, 1] () rfl rfl (by decide) (trivial) dX8_set_39
set_option maxHeartbeats 4000000 in
set_option maxRecDepth 100000 in
theorem c_T_set_3_24_0 (l : Launch) (G : GG) (h0 : Nat) (v : Int32) (room : Int32) (ca : Nat) (f : Nat → Int32) : MV l G yX8_set cX8_set 4 1 0 0 [.ref h0, .int 0, .int 0, .int v] [(h0, .inr (8, [.int room, .int 3, .ref ca, .int 1])), (ca, .inl (G.2.1, 24, .inl f))] (fun u : Unit => True) (fun u : Unit => [(h0, .inr (8, [.int room, .int 3, .ref ca, .int 1])), (ca, .inl (G.2.1, 24, .inl (upd f 0 v)))]) := by
  refine MV.start (by decide +kernel) (Nat.le_of_ble_eq_true rfl) ?_
  intro p e s m below meth c A ls hC hK hP hD hS hA hl
  have hl : lv_has ls 4 [(0, .ref h0), (1, .int 0), (2, .int 0), (3, .int v)] := hl
  obtain ⟨hx, hb, hr, hml, hB, hown, hlocks, hnm⟩ := id hC
  refine lv_iload_n hx hb dX8_set_0 rfl (lv_at hl 1 rfl) ?_
  refine lv_if_lt (tgt := 24) hx hb dX8_set_1 (by decide) (fun c9 => absurd c9 (by decide)) (fun _ => ?_)
  refine lv_iload_n hx hb dX8_set_4 rfl (lv_at hl 1 rfl) ?_
  refine lv_aload_n hx hb dX8_set_5 rfl (lv_at hl 0 rfl) ?_
  refine gf_X8_28 hC rfl hK hP 0 rfl rfl dX8_set_6 ?_
  refine lv_icmp_ge (tgt := 24) hx hb dX8_set_9 (by decide) (fun c9 => absurd c9 (by decide)) (fun _ => ?_)
  refine lv_iload_n hx hb dX8_set_12 rfl (lv_at hl 2 rfl) ?_
  refine lv_if_lt (tgt := 24) hx hb dX8_set_13 (by decide) (fun c9 => absurd c9 (by decide)) (fun _ => ?_)
  refine lv_iload_n hx hb dX8_set_16 rfl (lv_at hl 2 rfl) ?_
  refine lv_aload_n hx hb dX8_set_17 rfl (lv_at hl 0 rfl) ?_
  refine gf_X8_21 hC rfl hK hP 0 rfl rfl dX8_set_18 ?_
  refine lv_icmp_lt (tgt := 25) hx hb dX8_set_21 (by decide) (fun _ => ?_) (fun c9 => absurd (by decide) c9)
  refine lv_aload_n hx hb dX8_set_25 rfl (lv_at hl 0 rfl) ?_
  refine gf_X8_24 hC rfl hK hP 0 rfl rfl dX8_set_26 ?_
  refine lv_iload_n hx hb dX8_set_29 rfl (lv_at hl 1 rfl) ?_
  refine lv_aload_n hx hb dX8_set_30 rfl (lv_at hl 0 rfl) ?_
  refine gf_X8_21 hC rfl hK hP 0 rfl rfl dX8_set_31 ?_
  refine lv_imul hx hb dX8_set_34 ?_
  refine eqi (x1 := 0) (by decide) ?_
  refine lv_iload_n hx hb dX8_set_35 rfl (lv_at hl 2 rfl) ?_
  refine lv_iadd hx hb dX8_set_36 ?_
  refine eqi (x1 := 0) (by decide) ?_
  refine lv_iload_n hx hb dX8_set_37 rfl (lv_at hl 3 rfl) ?_
  refine ast hC hK hP hD hS 1 (ws' := [(h0, .inr (8, [.int room, .int 3, .ref ca, .int 1])), (ca, .inl (G.2.1, 24, .inl (upd f 0 v)))]) rfl (vin (by decide +kernel)) (k := 0) (by decide +kernel) (rfl) dX8_set_38 (fun H locs hP hD hS => ?_)
  exact RV hC hP hD hS [0, 1] () rfl rfl (by decide) (trivial) dX8_set_39
set_option maxHeartbeats 4000000 in
set_option maxRecDepth 100000 in
theorem c_T_set_3_24_1 (l : Launch) (G : GG) (h0 : Nat) (v : Int32) (room : Int32) (ca : Nat) (f : Nat → Int32) : MV l G yX8_set cX8_set 4 1 0 0 [.ref h0, .int 0, .int 1, .int v] [(h0, .inr (8, [.int room, .int 3, .ref ca, .int 1])), (ca, .inl (G.2.1, 24, .inl f))] (fun u : Unit => True) (fun u : Unit => [(h0, .inr (8, [.int room, .int 3, .ref ca, .int 1])), (ca, .inl (G.2.1, 24, .inl (upd f 1 v)))]) := by
  refine MV.start (by decide +kernel) (Nat.le_of_ble_eq_true rfl) ?_
  intro p e s m below meth c A ls hC hK hP hD hS hA hl
  have hl : lv_has ls 4 [(0, .ref h0), (1, .int 0), (2, .int 1), (3, .int v)] := hl
  obtain ⟨hx, hb, hr, hml, hB, hown, hlocks, hnm⟩ := id hC
  refine lv_iload_n hx hb dX8_set_0 rfl (lv_at hl 1 rfl) ?_
  refine lv_if_lt (tgt := 24) hx hb dX8_set_1 (by decide) (fun c9 => absurd c9 (by decide)) (fun _ => ?_)
  refine lv_iload_n hx hb dX8_set_4 rfl (lv_at hl 1 rfl) ?_
  refine lv_aload_n hx hb dX8_set_5 rfl (lv_at hl 0 rfl) ?_
  refine gf_X8_28 hC rfl hK hP 0 rfl rfl dX8_set_6 ?_
  refine lv_icmp_ge (tgt := 24) hx hb dX8_set_9 (by decide) (fun c9 => absurd c9 (by decide)) (fun _ => ?_)
  refine lv_iload_n hx hb dX8_set_12 rfl (lv_at hl 2 rfl) ?_
  refine lv_if_lt (tgt := 24) hx hb dX8_set_13 (by decide) (fun c9 => absurd c9 (by decide)) (fun _ => ?_)
  refine lv_iload_n hx hb dX8_set_16 rfl (lv_at hl 2 rfl) ?_
  refine lv_aload_n hx hb dX8_set_17 rfl (lv_at hl 0 rfl) ?_
  refine gf_X8_21 hC rfl hK hP 0 rfl rfl dX8_set_18 ?_
  refine lv_icmp_lt (tgt := 25) hx hb dX8_set_21 (by decide) (fun _ => ?_) (fun c9 => absurd (by decide) c9)
  refine lv_aload_n hx hb dX8_set_25 rfl (lv_at hl 0 rfl) ?_
  refine gf_X8_24 hC rfl hK hP 0 rfl rfl dX8_set_26 ?_
  refine lv_iload_n hx hb dX8_set_29 rfl (lv_at hl 1 rfl) ?_
  refine lv_aload_n hx hb dX8_set_30 rfl (lv_at hl 0 rfl) ?_
  refine gf_X8_21 hC rfl hK hP 0 rfl rfl dX8_set_31 ?_
  refine lv_imul hx hb dX8_set_34 ?_
  refine eqi (x1 := 0) (by decide) ?_
  refine lv_iload_n hx hb dX8_set_35 rfl (lv_at hl 2 rfl) ?_
  refine lv_iadd hx hb dX8_set_36 ?_
  refine eqi (x1 := 1) (by decide) ?_
  refine lv_iload_n hx hb dX8_set_37 rfl (lv_at hl 3 rfl) ?_
  refine ast hC hK hP hD hS 1 (ws' := [(h0, .inr (8, [.int room, .int 3, .ref ca, .int 1])), (ca, .inl (G.2.1, 24, .inl (upd f 1 v)))]) rfl (vin (by decide +kernel)) (k := 1) (by decide +kernel) (rfl) dX8_set_38 (fun H locs hP hD hS => ?_)
  exact RV hC hP hD hS [0, 1] () rfl rfl (by decide) (trivial) dX8_set_39
set_option maxHeartbeats 4000000 in
set_option maxRecDepth 100000 in
theorem c_T_set_3_24_2 (l : Launch) (G : GG) (h0 : Nat) (v : Int32) (room : Int32) (ca : Nat) (f : Nat → Int32) : MV l G yX8_set cX8_set 4 1 0 0 [.ref h0, .int 0, .int 2, .int v] [(h0, .inr (8, [.int room, .int 3, .ref ca, .int 1])), (ca, .inl (G.2.1, 24, .inl f))] (fun u : Unit => True) (fun u : Unit => [(h0, .inr (8, [.int room, .int 3, .ref ca, .int 1])), (ca, .inl (G.2.1, 24, .inl (upd f 2 v)))]) := by
  refine MV.start (by decide +kernel) (Nat.le_of_ble_eq_true rfl) ?_
  intro p e s m below meth c A ls hC hK hP hD hS hA hl
  have hl : lv_has ls 4 [(0, .ref h0), (1, .int 0), (2, .int 2), (3, .int v)] := hl
  obtain ⟨hx, hb, hr, hml, hB, hown, hlocks, hnm⟩ := id hC
  refine lv_iload_n hx hb dX8_set_0 rfl (lv_at hl 1 rfl) ?_
  refine lv_if_lt (tgt := 24) hx hb dX8_set_1 (by decide) (fun c9 => absurd c9 (by decide)) (fun _ => ?_)
  refine lv_iload_n hx hb dX8_set_4 rfl (lv_at hl 1 rfl) ?_
  refine lv_aload_n hx hb dX8_set_5 rfl (lv_at hl 0 rfl) ?_
  refine gf_X8_28 hC rfl hK hP 0 rfl rfl dX8_set_6 ?_
  refine lv_icmp_ge (tgt := 24) hx hb dX8_set_9 (by decide) (fun c9 => absurd c9 (by decide)) (fun _ => ?_)
  refine lv_iload_n hx hb dX8_set_12 rfl (lv_at hl 2 rfl) ?_
  refine lv_if_lt (tgt := 24) hx hb dX8_set_13 (by decide) (fun c9 => absurd c9 (by decide)) (fun _ => ?_)
  refine lv_iload_n hx hb dX8_set_16 rfl (lv_at hl 2 rfl) ?_
  refine lv_aload_n hx hb dX8_set_17 rfl (lv_at hl 0 rfl) ?_
  refine gf_X8_21 hC rfl hK hP 0 rfl rfl dX8_set_18 ?_
  refine lv_icmp_lt (tgt := 25) hx hb dX8_set_21 (by decide) (fun _ => ?_) (fun c9 => absurd (by decide) c9)
  refine lv_aload_n hx hb dX8_set_25 rfl (lv_at hl 0 rfl) ?_
  refine gf_X8_24 hC rfl hK hP 0 rfl rfl dX8_set_26 ?_
  refine lv_iload_n hx hb dX8_set_29 rfl (lv_at hl 1 rfl) ?_
  refine lv_aload_n hx hb dX8_set_30 rfl (lv_at hl 0 rfl) ?_
  refine gf_X8_21 hC rfl hK hP 0 rfl rfl dX8_set_31 ?_
  refine lv_imul hx hb dX8_set_34 ?_
  refine eqi (x1 := 0) (by decide) ?_
  refine lv_iload_n hx hb dX8_set_35 rfl (lv_at hl 2 rfl) ?_
  refine lv_iadd hx hb dX8_set_36 ?_
  refine eqi (x1 := 2) (by decide) ?_
  refine lv_iload_n hx hb dX8_set_37 rfl (lv_at hl 3 rfl) ?_
  refine ast hC hK hP hD hS 1 (ws' := [(h0, .inr (8, [.int room, .int 3, .ref ca, .int 1])), (ca, .inl (G.2.1, 24, .inl (upd f 2 v)))]) rfl (vin (by decide +kernel)) (k := 2) (by decide +kernel) (rfl) dX8_set_38 (fun H locs hP hD hS => ?_)
  exact RV hC hP hD hS [0, 1] () rfl rfl (by decide) (trivial) dX8_set_39
set_option maxHeartbeats 4000000 in
set_option maxRecDepth 100000 in
theorem c_T_hasAll0 (l : Launch) (G : GG) (h0 : Nat) (bits : Int32) (room : Int32) (wid : Int32) (ca : Nat) : MP l G yX8_hasAll cX8_hasAll 2 (some .boolean) 1 [.ref h0, .int bits] [(h0, .inr (8, [.int room, .int wid, .ref ca, .int 0]))] (fun r : Int32 => (r = 1 ∧ bits = 0) ∨ (r = 0 ∧ ¬ bits = 0)) := by
  refine MP.start (by decide +kernel) (Nat.le_of_ble_eq_true rfl) ?_
  intro p e s m below meth c ls hC hK hP hD hl
  have hl : lv_has ls 2 [(0, .ref h0), (1, .int bits)] := hl
  obtain ⟨hx, hb, hr, hml, hB, hown, hlocks, hnm⟩ := id hC
  refine lv_iload_n hx hb dX8_hasAll_0 rfl (lv_at hl 1 rfl) ?_
  refine lv_if_lt (tgt := 22) hx hb dX8_hasAll_1 (by decide) (fun c_1_207 => ?_) (fun c_1_207 => ?_)
  · refine lv_iconst (v := 0) hx hb dX8_hasAll_22 (by decide) ?_
    exact RP (v := 0) hC (Or.inr ⟨rfl, ne_of_neg c_1_207⟩) (by decide +kernel) dX8_hasAll_23
  · refine lv_iload_n hx hb dX8_hasAll_4 rfl (lv_at hl 1 rfl) ?_
    refine lv_aload_n hx hb dX8_hasAll_5 rfl (lv_at hl 0 rfl) ?_
    refine gf_X8_28 hC rfl hK hP 0 rfl rfl dX8_hasAll_6 ?_
    refine lv_bipush (v := 31) hx hb dX8_hasAll_9 (by decide) ?_
    refine va_mmin hx hb (hml.trans hl.1.symm) hown (hB _ m_355) (hB _ m_356) (hB _ m_77) (hB _ m_357) (Nat.le_of_ble_eq_true rfl) (Nat.le_of_ble_eq_true rfl) (by first | exact Nat.le_of_ble_eq_true rfl | exact Nat.zero_le _)  (by first | exact Nat.le_of_ble_eq_true rfl | exact Nat.zero_le _) dX8_hasAll_11 ?_
    refine eqi (x1 := 0) (by decide) ?_
    refine lv_ishr hx hb dX8_hasAll_14 ?_
    refine eqi (x1 := bits) (shr_0) ?_
    refine lv_if_ne (tgt := 22) hx hb dX8_hasAll_15 (by decide) (fun c_15_208 => ?_) (fun c_15_208 => ?_)
    · refine lv_iconst (v := 0) hx hb dX8_hasAll_22 (by decide) ?_
      exact RP (v := 0) hC (Or.inr ⟨rfl, c_15_208⟩) (by decide +kernel) dX8_hasAll_23
    · refine lv_iconst (v := 1) hx hb dX8_hasAll_18 (by decide) ?_
      refine lv_goto (tgt := 23) hx hb dX8_hasAll_19 (by decide) ?_
      exact RP (v := 1) hC (Or.inl ⟨rfl, c_15_208⟩) (by decide +kernel) dX8_hasAll_23
set_option maxHeartbeats 4000000 in
set_option maxRecDepth 100000 in
theorem c_viewedDay (l : Launch) (G : GG) (h0 : Nat) (bpersons : Nat) (bpapers : Nat) (bstamps : Nat) (bversions : Nat) (blines : Nat) (bsteps : Nat) (bsayings : Nat) (bfindings : Nat) (bwarnings : Nat) (bquestions : Nat) (td : Int32) (vd : Int32) (vl : Int32) (gp : Int32) : MP l G yX0_viewedDay cX0_viewedDay 1 (some .int) 1 [.ref h0] [(h0, .inr (0, [.ref bpersons, .ref bpapers, .ref bstamps, .ref bversions, .ref blines, .ref bsteps, .ref bsayings, .ref bfindings, .ref bwarnings, .ref bquestions, .int td, .int vd, .int vl, .int gp]))] (fun r : Int32 => (r = td ∧ ¬ 0 ≤ vd) ∨ (r = vd ∧ 0 ≤ vd)) := by
  refine MP.start (by decide +kernel) (Nat.le_of_ble_eq_true rfl) ?_
  intro p e s m below meth c ls hC hK hP hD hl
  have hl : lv_has ls 1 [(0, .ref h0)] := hl
  obtain ⟨hx, hb, hr, hml, hB, hown, hlocks, hnm⟩ := id hC
  refine lv_aload_n hx hb dX0_viewedDay_0 rfl (lv_at hl 0 rfl) ?_
  refine gf_X0_51 hC rfl hK hP 0 rfl rfl dX0_viewedDay_1 ?_
  refine lv_if_ge (tgt := 14) hx hb dX0_viewedDay_4 (by decide) (fun c_4_209 => ?_) (fun c_4_209 => ?_)
  · refine lv_aload_n hx hb dX0_viewedDay_14 rfl (lv_at hl 0 rfl) ?_
    refine gf_X0_51 hC rfl hK hP 0 rfl rfl dX0_viewedDay_15 ?_
    exact RP (v := vd) hC (Or.inr ⟨rfl, c_4_209⟩) rfl dX0_viewedDay_18
  · refine lv_aload_n hx hb dX0_viewedDay_7 rfl (lv_at hl 0 rfl) ?_
    refine gf_X0_47 hC rfl hK hP 0 rfl rfl dX0_viewedDay_8 ?_
    refine lv_goto (tgt := 18) hx hb dX0_viewedDay_11 (by decide) ?_
    exact RP (v := td) hC (Or.inl ⟨rfl, c_4_209⟩) rfl dX0_viewedDay_18
set_option maxHeartbeats 4000000 in
set_option maxRecDepth 100000 in
theorem c_inView (l : Launch) (G : GG) (h0 : Nat) (bpersons : Nat) (bpapers : Nat) (bstamps : Nat) (bversions : Nat) (blines : Nat) (bsteps : Nat) (bsayings : Nat) (bfindings : Nat) (bwarnings : Nat) (bquestions : Nat) (td : Int32) (vd : Int32) (vl : Int32) (gp : Int32) (bpapersc : Nat) : MP l G yX0_inView cX0_inView 6 (some .int) 3 [.ref h0] [(h0, .inr (0, [.ref bpersons, .ref bpapers, .ref bstamps, .ref bversions, .ref blines, .ref bsteps, .ref bsayings, .ref bfindings, .ref bwarnings, .ref bquestions, .int td, .int vd, .int vl, .int gp])), (bpapers, .inr (8, [.int 12, .int 6, .ref bpapersc, .int 0]))] (fun r : Int32 => r = 0) := by
  refine MP.start (by decide +kernel) (Nat.le_of_ble_eq_true rfl) ?_
  intro p e s m below meth c ls hC hK hP hD hl
  have hl : lv_has ls 6 [(0, .ref h0)] := hl
  obtain ⟨hx, hb, hr, hml, hB, hown, hlocks, hnm⟩ := id hC
  refine lv_iconst (v := 0) hx hb dX0_inView_0 (by decide) ?_
  refine lv_istore_n (lv' := [(1, .int 0), (0, .ref h0)]) hx hb dX0_inView_1 rfl hl (by decide) rfl (fun ls hl => ?_)
  refine lv_aload_n hx hb dX0_inView_2 rfl (lv_at hl 1 rfl) ?_
  refine pV hC hK hl hP hD (c_viewedDay l G h0 bpersons bpapers bstamps bversions blines bsteps bsayings bfindings bwarnings bquestions td vd vl gp) si_X0_64 [0] rfl rfl (by decide) rfl rfl rfl rfl rfl (Nat.le_of_ble_eq_true rfl) ⟨Nat.le_of_ble_eq_true rfl, Nat.le_of_ble_eq_true rfl⟩ ⟨by first | exact Nat.le_of_ble_eq_true rfl | exact Nat.zero_le _, by first | exact Nat.le_of_ble_eq_true rfl | exact Nat.zero_le _⟩ dX0_inView_3 (fun r210 hr210 => ?_)
  rcases hr210 with ⟨hE9, a211⟩ | ⟨hE9, a211⟩
  · refine eqi (x1 := td) hE9 ?_
    refine lv_istore_n (lv' := [(2, .int td), (1, .int 0), (0, .ref h0)]) hx hb dX0_inView_6 rfl hl (by decide) rfl (fun ls hl => ?_)
    refine lv_iconst (v := 0) hx hb dX0_inView_7 (by decide) ?_
    refine lv_istore_n (lv' := [(3, .int 0), (2, .int td), (1, .int 0), (0, .ref h0)]) hx hb dX0_inView_8 rfl hl (by decide) rfl (fun ls hl => ?_)
    refine lv_iload_n hx hb dX0_inView_9 rfl (lv_at hl 0 rfl) ?_
    refine lv_aload_n hx hb dX0_inView_10 rfl (lv_at hl 3 rfl) ?_
    refine gf_X0_20 hC rfl hK hP 0 rfl rfl dX0_inView_11 ?_
    refine pV hC hK hl hP hD (c_T_count l G bpapers bpapersc 12 6 0) si_X0_68 [1] rfl rfl (by decide) rfl rfl rfl rfl rfl (Nat.le_of_ble_eq_true rfl) ⟨Nat.le_of_ble_eq_true rfl, Nat.le_of_ble_eq_true rfl⟩ ⟨by first | exact Nat.le_of_ble_eq_true rfl | exact Nat.zero_le _, by first | exact Nat.le_of_ble_eq_true rfl | exact Nat.zero_le _⟩ dX0_inView_14 (fun r212 hr212 => ?_)
    obtain rfl := hr212
    refine lv_icmp_ge (tgt := 95) hx hb dX0_inView_17 (by decide) (fun _ => ?_) (fun c9 => absurd (by decide) c9)
    refine lv_iload_n hx hb dX0_inView_95 rfl (lv_at hl 2 rfl) ?_
    exact RP (v := 0) hC (rfl) rfl dX0_inView_96
  · refine eqi (x1 := vd) hE9 ?_
    refine lv_istore_n (lv' := [(2, .int vd), (1, .int 0), (0, .ref h0)]) hx hb dX0_inView_6 rfl hl (by decide) rfl (fun ls hl => ?_)
    refine lv_iconst (v := 0) hx hb dX0_inView_7 (by decide) ?_
    refine lv_istore_n (lv' := [(3, .int 0), (2, .int vd), (1, .int 0), (0, .ref h0)]) hx hb dX0_inView_8 rfl hl (by decide) rfl (fun ls hl => ?_)
    refine lv_iload_n hx hb dX0_inView_9 rfl (lv_at hl 0 rfl) ?_
    refine lv_aload_n hx hb dX0_inView_10 rfl (lv_at hl 3 rfl) ?_
    refine gf_X0_20 hC rfl hK hP 0 rfl rfl dX0_inView_11 ?_
    refine pV hC hK hl hP hD (c_T_count l G bpapers bpapersc 12 6 0) si_X0_68 [1] rfl rfl (by decide) rfl rfl rfl rfl rfl (Nat.le_of_ble_eq_true rfl) ⟨Nat.le_of_ble_eq_true rfl, Nat.le_of_ble_eq_true rfl⟩ ⟨by first | exact Nat.le_of_ble_eq_true rfl | exact Nat.zero_le _, by first | exact Nat.le_of_ble_eq_true rfl | exact Nat.zero_le _⟩ dX0_inView_14 (fun r214 hr214 => ?_)
    obtain rfl := hr214
    refine lv_icmp_ge (tgt := 95) hx hb dX0_inView_17 (by decide) (fun _ => ?_) (fun c9 => absurd (by decide) c9)
    refine lv_iload_n hx hb dX0_inView_95 rfl (lv_at hl 2 rfl) ?_
    exact RP (v := 0) hC (rfl) rfl dX0_inView_96
set_option maxHeartbeats 4000000 in
set_option maxRecDepth 100000 in
theorem c_countSayings (l : Launch) (G : GG) (h0 : Nat) (seen : Int32) (bpersons : Nat) (bpapers : Nat) (bstamps : Nat) (bversions : Nat) (blines : Nat) (bsteps : Nat) (bsayings : Nat) (bfindings : Nat) (bwarnings : Nat) (bquestions : Nat) (bsayingsc : Nat) : MP l G yX0_countSayings cX0_countSayings 4 (some .int) 3 [.ref h0, .int seen] [(h0, .inr (0, [.ref bpersons, .ref bpapers, .ref bstamps, .ref bversions, .ref blines, .ref bsteps, .ref bsayings, .ref bfindings, .ref bwarnings, .ref bquestions, .int 0, .int (-1), .int 3, .int 24])), (bsayings, .inr (8, [.int 16, .int 8, .ref bsayingsc, .int 0]))] (fun r : Int32 => r = 0) := by
  refine MP.start (by decide +kernel) (Nat.le_of_ble_eq_true rfl) ?_
  intro p e s m below meth c ls hC hK hP hD hl
  have hl : lv_has ls 4 [(0, .ref h0), (1, .int seen)] := hl
  obtain ⟨hx, hb, hr, hml, hB, hown, hlocks, hnm⟩ := id hC
  refine lv_iconst (v := 0) hx hb dX0_countSayings_0 (by decide) ?_
  refine lv_istore_n (lv' := [(2, .int 0), (0, .ref h0), (1, .int seen)]) hx hb dX0_countSayings_1 rfl hl (by decide) rfl (fun ls hl => ?_)
  refine lv_iconst (v := 0) hx hb dX0_countSayings_2 (by decide) ?_
  refine lv_istore_n (lv' := [(3, .int 0), (2, .int 0), (0, .ref h0), (1, .int seen)]) hx hb dX0_countSayings_3 rfl hl (by decide) rfl (fun ls hl => ?_)
  refine lv_iload_n hx hb dX0_countSayings_4 rfl (lv_at hl 0 rfl) ?_
  refine lv_aload_n hx hb dX0_countSayings_5 rfl (lv_at hl 2 rfl) ?_
  refine gf_X0_35 hC rfl hK hP 0 rfl rfl dX0_countSayings_6 ?_
  refine pV hC hK hl hP hD (c_T_count l G bsayings bsayingsc 16 8 0) si_X0_68 [1] rfl rfl (by decide) rfl rfl rfl rfl rfl (Nat.le_of_ble_eq_true rfl) ⟨Nat.le_of_ble_eq_true rfl, Nat.le_of_ble_eq_true rfl⟩ ⟨by first | exact Nat.le_of_ble_eq_true rfl | exact Nat.zero_le _, by first | exact Nat.le_of_ble_eq_true rfl | exact Nat.zero_le _⟩ dX0_countSayings_9 (fun r216 hr216 => ?_)
  obtain rfl := hr216
  refine lv_icmp_ge (tgt := 33) hx hb dX0_countSayings_12 (by decide) (fun _ => ?_) (fun c9 => absurd (by decide) c9)
  refine lv_iload_n hx hb dX0_countSayings_33 rfl (lv_at hl 1 rfl) ?_
  exact RP (v := 0) hC (rfl) rfl dX0_countSayings_34
set_option maxHeartbeats 4000000 in
set_option maxRecDepth 100000 in
theorem c_countStanding (l : Launch) (G : GG) (h0 : Nat) (seen : Int32) (B : Nat) (K : Nat) (S : Nat) (D : Nat) (R : Nat) (Ta : Nat) (Tp : Nat) (Ro : Nat) (Ho : Nat) (De : Nat) (bpersons : Nat) (bpapers : Nat) (bstamps : Nat) (bversions : Nat) (blines : Nat) (bsteps : Nat) (bsayings : Nat) (bfindings : Nat) (bwarnings : Nat) (bquestions : Nat) (bfindingsc : Nat) : MP l G yX11_countStanding cX11_countStanding 4 (some .int) 3 [.ref h0, .int seen] [(h0, .inr (11, [.ref B, .ref K, .int 0, .ref S, .ref D, .ref R, .ref Ta, .ref Tp, .ref Ro, .ref Ho, .ref De])), (B, .inr (0, [.ref bpersons, .ref bpapers, .ref bstamps, .ref bversions, .ref blines, .ref bsteps, .ref bsayings, .ref bfindings, .ref bwarnings, .ref bquestions, .int 0, .int (-1), .int 3, .int 24])), (bfindings, .inr (8, [.int 12, .int 4, .ref bfindingsc, .int 0]))] (fun r : Int32 => r = 0) := by
  refine MP.start (by decide +kernel) (Nat.le_of_ble_eq_true rfl) ?_
  intro p e s m below meth c ls hC hK hP hD hl
  have hl : lv_has ls 4 [(0, .ref h0), (1, .int seen)] := hl
  obtain ⟨hx, hb, hr, hml, hB, hown, hlocks, hnm⟩ := id hC
  refine lv_iconst (v := 0) hx hb dX11_countStanding_0 (by decide) ?_
  refine lv_istore_n (lv' := [(2, .int 0), (0, .ref h0), (1, .int seen)]) hx hb dX11_countStanding_1 rfl hl (by decide) rfl (fun ls hl => ?_)
  refine lv_iconst (v := 0) hx hb dX11_countStanding_2 (by decide) ?_
  refine lv_istore_n (lv' := [(3, .int 0), (2, .int 0), (0, .ref h0), (1, .int seen)]) hx hb dX11_countStanding_3 rfl hl (by decide) rfl (fun ls hl => ?_)
  refine lv_iload_n hx hb dX11_countStanding_4 rfl (lv_at hl 0 rfl) ?_
  refine lv_aload_n hx hb dX11_countStanding_5 rfl (lv_at hl 2 rfl) ?_
  refine gf_X11_15 hC rfl hK hP 0 rfl rfl dX11_countStanding_6 ?_
  refine gf_X11_271 hC rfl hK hP 1 rfl rfl dX11_countStanding_9 ?_
  refine pV hC hK hl hP hD (c_T_count l G bfindings bfindingsc 12 4 0) si_X11_174 [2] rfl rfl (by decide) rfl rfl rfl rfl rfl (Nat.le_of_ble_eq_true rfl) ⟨Nat.le_of_ble_eq_true rfl, Nat.le_of_ble_eq_true rfl⟩ ⟨by first | exact Nat.le_of_ble_eq_true rfl | exact Nat.zero_le _, by first | exact Nat.le_of_ble_eq_true rfl | exact Nat.zero_le _⟩ dX11_countStanding_12 (fun r218 hr218 => ?_)
  obtain rfl := hr218
  refine lv_icmp_ge (tgt := 36) hx hb dX11_countStanding_15 (by decide) (fun _ => ?_) (fun c9 => absurd (by decide) c9)
  refine lv_iload_n hx hb dX11_countStanding_36 rfl (lv_at hl 1 rfl) ?_
  exact RP (v := 0) hC (rfl) rfl dX11_countStanding_37
set_option maxHeartbeats 4000000 in
set_option maxRecDepth 100000 in
theorem c_bitCount0 (l : Launch) (G : GG) : MP l G yJ6_bitCount_0f7a4 cJ6_bitCount_0f7a4 1 (some .int) 1 [.int 0] [] (fun r : Int32 => r = 0) := by
  refine MP.start (by decide +kernel) (Nat.le_of_ble_eq_true rfl) ?_
  intro p e s m below meth c ls hC hK hP hD hl
  have hl : lv_has ls 1 [(0, .int 0)] := hl
  obtain ⟨hx, hb, hr, hml, hB, hown, hlocks, hnm⟩ := id hC
  refine lv_iload_n hx hb dJ6_bitCount_0f7a4_0 rfl (lv_at hl 0 rfl) ?_
  refine lv_iload_n hx hb dJ6_bitCount_0f7a4_1 rfl (lv_at hl 0 rfl) ?_
  refine lv_iconst (v := 1) hx hb dJ6_bitCount_0f7a4_2 (by decide) ?_
  refine lv_iushr (v := 0) hx hb dJ6_bitCount_0f7a4_3 (by decide) ?_
  refine lv_ldcw hx hb hown (hB _ m_246) dJ6_bitCount_0f7a4_4 ?_
  refine lv_iand hx hb dJ6_bitCount_0f7a4_7 ?_
  refine eqi (x1 := 0) (by decide) ?_
  refine lv_isub hx hb dJ6_bitCount_0f7a4_8 ?_
  refine eqi (x1 := 0) (by decide) ?_
  refine lv_istore_n (lv' := [(0, .int 0)]) hx hb dJ6_bitCount_0f7a4_9 rfl hl (by decide) rfl (fun ls hl => ?_)
  refine lv_iload_n hx hb dJ6_bitCount_0f7a4_10 rfl (lv_at hl 0 rfl) ?_
  refine lv_ldcw hx hb hown (hB _ m_247) dJ6_bitCount_0f7a4_11 ?_
  refine lv_iand hx hb dJ6_bitCount_0f7a4_14 ?_
  refine eqi (x1 := 0) (by decide) ?_
  refine lv_iload_n hx hb dJ6_bitCount_0f7a4_15 rfl (lv_at hl 0 rfl) ?_
  refine lv_iconst (v := 2) hx hb dJ6_bitCount_0f7a4_16 (by decide) ?_
  refine lv_iushr (v := 0) hx hb dJ6_bitCount_0f7a4_17 (by decide) ?_
  refine lv_ldcw hx hb hown (hB _ m_247) dJ6_bitCount_0f7a4_18 ?_
  refine lv_iand hx hb dJ6_bitCount_0f7a4_21 ?_
  refine eqi (x1 := 0) (by decide) ?_
  refine lv_iadd hx hb dJ6_bitCount_0f7a4_22 ?_
  refine eqi (x1 := 0) (by decide) ?_
  refine lv_istore_n (lv' := [(0, .int 0)]) hx hb dJ6_bitCount_0f7a4_23 rfl hl (by decide) rfl (fun ls hl => ?_)
  refine lv_iload_n hx hb dJ6_bitCount_0f7a4_24 rfl (lv_at hl 0 rfl) ?_
  refine lv_iload_n hx hb dJ6_bitCount_0f7a4_25 rfl (lv_at hl 0 rfl) ?_
  refine lv_iconst (v := 4) hx hb dJ6_bitCount_0f7a4_26 (by decide) ?_
  refine lv_iushr (v := 0) hx hb dJ6_bitCount_0f7a4_27 (by decide) ?_
  refine lv_iadd hx hb dJ6_bitCount_0f7a4_28 ?_
  refine eqi (x1 := 0) (by decide) ?_
  refine lv_ldcw hx hb hown (hB _ m_248) dJ6_bitCount_0f7a4_29 ?_
  refine lv_iand hx hb dJ6_bitCount_0f7a4_32 ?_
  refine eqi (x1 := 0) (by decide) ?_
  refine lv_istore_n (lv' := [(0, .int 0)]) hx hb dJ6_bitCount_0f7a4_33 rfl hl (by decide) rfl (fun ls hl => ?_)
  refine lv_iload_n hx hb dJ6_bitCount_0f7a4_34 rfl (lv_at hl 0 rfl) ?_
  refine lv_iload_n hx hb dJ6_bitCount_0f7a4_35 rfl (lv_at hl 0 rfl) ?_
  refine lv_bipush (v := 8) hx hb dJ6_bitCount_0f7a4_36 (by decide) ?_
  refine lv_iushr (v := 0) hx hb dJ6_bitCount_0f7a4_38 (by decide) ?_
  refine lv_iadd hx hb dJ6_bitCount_0f7a4_39 ?_
  refine eqi (x1 := 0) (by decide) ?_
  refine lv_istore_n (lv' := [(0, .int 0)]) hx hb dJ6_bitCount_0f7a4_40 rfl hl (by decide) rfl (fun ls hl => ?_)
  refine lv_iload_n hx hb dJ6_bitCount_0f7a4_41 rfl (lv_at hl 0 rfl) ?_
  refine lv_iload_n hx hb dJ6_bitCount_0f7a4_42 rfl (lv_at hl 0 rfl) ?_
  refine lv_bipush (v := 16) hx hb dJ6_bitCount_0f7a4_43 (by decide) ?_
  refine lv_iushr (v := 0) hx hb dJ6_bitCount_0f7a4_45 (by decide) ?_
  refine lv_iadd hx hb dJ6_bitCount_0f7a4_46 ?_
  refine eqi (x1 := 0) (by decide) ?_
  refine lv_istore_n (lv' := [(0, .int 0)]) hx hb dJ6_bitCount_0f7a4_47 rfl hl (by decide) rfl (fun ls hl => ?_)
  refine lv_iload_n hx hb dJ6_bitCount_0f7a4_48 rfl (lv_at hl 0 rfl) ?_
  refine lv_bipush (v := 63) hx hb dJ6_bitCount_0f7a4_49 (by decide) ?_
  refine lv_iand hx hb dJ6_bitCount_0f7a4_51 ?_
  refine eqi (x1 := 0) (by decide) ?_
  exact RP (v := 0) hC (rfl) rfl dJ6_bitCount_0f7a4_52
set_option maxHeartbeats 4000000 in
set_option maxRecDepth 100000 in
theorem c_days (l : Launch) (G : GG) (h0 : Nat) (n : Int32) (B : Nat) (K : Nat) (S : Nat) (D : Nat) (R : Nat) (Ta : Nat) (Tp : Nat) (Ro : Nat) (Ho : Nat) (De : Nat) (bpersons : Nat) (bpapers : Nat) (bstamps : Nat) (bversions : Nat) (blines : Nat) (bsteps : Nat) (bsayings : Nat) (bfindings : Nat) (bwarnings : Nat) (bquestions : Nat) : MI l G yX11_days cX11_days 2 (some .int) 3 0 0 [.ref h0, .int n] [(h0, .inr (11, [.ref B, .ref K, .int 0, .ref S, .ref D, .ref R, .ref Ta, .ref Tp, .ref Ro, .ref Ho, .ref De])), (B, .inr (0, [.ref bpersons, .ref bpapers, .ref bstamps, .ref bversions, .ref blines, .ref bsteps, .ref bsayings, .ref bfindings, .ref bwarnings, .ref bquestions, .int 0, .int (-1), .int 3, .int 24]))] (fun (r : Int32) (u : Unit) => (r = A_days n)) (fun u : Unit => []) := by
  refine MI.start (by decide +kernel) (Nat.le_of_ble_eq_true rfl) ?_
  intro p e s m below meth c A ls hC hK hP hD hS hA hl
  have hl : lv_has ls 2 [(0, .ref h0), (1, .int n)] := hl
  obtain ⟨hx, hb, hr, hml, hB, hown, hlocks, hnm⟩ := id hC
  refine lv_iload_n hx hb dX11_days_0 rfl (lv_at hl 1 rfl) ?_
  refine lv_iconst (v := 1) hx hb dX11_days_1 (by decide) ?_
  refine lv_bipush (v := 99) hx hb dX11_days_2 (by decide) ?_
  refine pS hC hK hl (c_within l G n 1 99) si_X11_83 rfl rfl (Nat.le_of_ble_eq_true rfl) ⟨Nat.le_of_ble_eq_true rfl, Nat.le_of_ble_eq_true rfl⟩ ⟨by first | exact Nat.le_of_ble_eq_true rfl | exact Nat.zero_le _, by first | exact Nat.le_of_ble_eq_true rfl | exact Nat.zero_le _⟩ dX11_days_4 (fun r220 hr220 => ?_)
  rcases hr220 with ⟨rfl, a221⟩ | ⟨rfl, a221⟩
  · refine lv_if_ne (tgt := 12) hx hb dX11_days_7 (by decide) (fun _ => ?_) (fun c9 => absurd c9 (by decide))
    refine lv_aload_n hx hb dX11_days_12 rfl (lv_at hl 0 rfl) ?_
    refine gf_X11_15 hC rfl hK hP 0 rfl rfl dX11_days_13 ?_
    refine gf_X11_87 hC rfl hK hP 1 rfl rfl dX11_days_16 ?_
    refine lv_iload_n hx hb dX11_days_19 rfl (lv_at hl 1 rfl) ?_
    refine lv_iadd hx hb dX11_days_20 ?_
    refine lv_sipush (v := 499) hx hb dX11_days_21 (by decide) ?_
    refine lv_icmp_le (tgt := 30) hx hb dX11_days_24 (by decide) (fun c_24_222 => ?_) (fun c_24_222 => ?_)
    · refine lv_aload_n hx hb dX11_days_30 rfl (lv_at hl 0 rfl) ?_
      refine gf_X11_15 hC rfl hK hP 0 rfl rfl dX11_days_31 ?_
      refine lv_dup hx hb dX11_days_34 rfl ?_
      refine gf_X11_87 hC rfl hK hP 1 rfl rfl dX11_days_35 ?_
      refine lv_iload_n hx hb dX11_days_38 rfl (lv_at hl 1 rfl) ?_
      refine lv_iadd hx hb dX11_days_39 ?_
      refine pf_X11_87 hC rfl hK hP hD hS 1 (ws' := [(h0, .inr (11, [.ref B, .ref K, .int 0, .ref S, .ref D, .ref R, .ref Ta, .ref Tp, .ref Ro, .ref Ho, .ref De])), (B, .inr (0, [.ref bpersons, .ref bpapers, .ref bstamps, .ref bversions, .ref blines, .ref bsteps, .ref bsayings, .ref bfindings, .ref bwarnings, .ref bquestions, .int (0 + n), .int (-1), .int 3, .int 24]))]) rfl (Nat.le_of_ble_eq_true rfl) rfl rfl rfl dX11_days_40 (fun H locs hP hD hS => ?_)
      refine lv_aload_n hx hb dX11_days_43 rfl (lv_at hl 0 rfl) ?_
      refine gf_X11_15 hC rfl hK hP 0 rfl rfl dX11_days_44 ?_
      refine gf_X11_87 hC rfl hK hP 1 rfl rfl dX11_days_47 ?_
      exact RI (v := 0 + n) hC hP hD hS [] () rfl rfl (by decide) ((by unfold A_days; first | rfl | (simp only [ifc_t a221, ifc_t c_24_222]; done) | (simp only [ifc_t a221, ifc_t c_24_222]; rfl))) rfl dX11_days_50
    · refine lv_bipush (v := (-4)) hx hb dX11_days_27 (by decide) ?_
      exact RI (v := (-4)) hC hP hD hS [] () rfl rfl (by decide) ((by unfold A_days; first | rfl | (simp only [ifc_t a221, ifc_f c_24_222]; done) | (simp only [ifc_t a221, ifc_f c_24_222]; rfl))) rfl dX11_days_29
  · refine lv_if_ne (tgt := 12) hx hb dX11_days_7 (by decide) (fun c9 => absurd (by decide) c9) (fun _ => ?_)
    refine lv_iconst (v := (-1)) hx hb dX11_days_10 (by decide) ?_
    exact RI (v := (-1)) hC hP hD hS [] () rfl rfl (by decide) ((by unfold A_days; first | rfl | (simp only [ifc_f a221]; done) | (simp only [ifc_f a221]; rfl))) rfl dX11_days_11
set_option maxHeartbeats 4000000 in
set_option maxRecDepth 100000 in
theorem c_view (l : Launch) (G : GG) (h0 : Nat) (dy : Int32) (lv : Int32) (B : Nat) (K : Nat) (S : Nat) (D : Nat) (R : Nat) (Ta : Nat) (Tp : Nat) (Ro : Nat) (Ho : Nat) (De : Nat) (bpersons : Nat) (bpapers : Nat) (bstamps : Nat) (bversions : Nat) (blines : Nat) (bsteps : Nat) (bsayings : Nat) (bfindings : Nat) (bwarnings : Nat) (bquestions : Nat) (bpapersc : Nat) : MI l G yX11_view cX11_view 3 (some .int) 5 0 0 [.ref h0, .int dy, .int lv] [(h0, .inr (11, [.ref B, .ref K, .int 0, .ref S, .ref D, .ref R, .ref Ta, .ref Tp, .ref Ro, .ref Ho, .ref De])), (B, .inr (0, [.ref bpersons, .ref bpapers, .ref bstamps, .ref bversions, .ref blines, .ref bsteps, .ref bsayings, .ref bfindings, .ref bwarnings, .ref bquestions, .int 0, .int (-1), .int 3, .int 24])), (bpapers, .inr (8, [.int 12, .int 6, .ref bpapersc, .int 0]))] (fun (r : Int32) (u : Unit) => (r = A_view dy lv)) (fun u : Unit => []) := by
  refine MI.start (by decide +kernel) (Nat.le_of_ble_eq_true rfl) ?_
  intro p e s m below meth c A ls hC hK hP hD hS hA hl
  have hl : lv_has ls 3 [(0, .ref h0), (1, .int dy), (2, .int lv)] := hl
  obtain ⟨hx, hb, hr, hml, hB, hown, hlocks, hnm⟩ := id hC
  refine lv_iload_n hx hb dX11_view_0 rfl (lv_at hl 1 rfl) ?_
  refine lv_iconst (v := (-1)) hx hb dX11_view_1 (by decide) ?_
  refine lv_sipush (v := 499) hx hb dX11_view_2 (by decide) ?_
  refine pS hC hK hl (c_within l G dy (-1) 499) si_X11_83 rfl rfl (Nat.le_of_ble_eq_true rfl) ⟨Nat.le_of_ble_eq_true rfl, Nat.le_of_ble_eq_true rfl⟩ ⟨by first | exact Nat.le_of_ble_eq_true rfl | exact Nat.zero_le _, by first | exact Nat.le_of_ble_eq_true rfl | exact Nat.zero_le _⟩ dX11_view_5 (fun r223 hr223 => ?_)
  rcases hr223 with ⟨rfl, a224⟩ | ⟨rfl, a224⟩
  · refine lv_if_eq (tgt := 20) hx hb dX11_view_8 (by decide) (fun c9 => absurd c9 (by decide)) (fun _ => ?_)
    refine lv_iload_n hx hb dX11_view_11 rfl (lv_at hl 2 rfl) ?_
    refine lv_iconst (v := 0) hx hb dX11_view_12 (by decide) ?_
    refine lv_iconst (v := 3) hx hb dX11_view_13 (by decide) ?_
    refine pS hC hK hl (c_within l G lv 0 3) si_X11_83 rfl rfl (Nat.le_of_ble_eq_true rfl) ⟨Nat.le_of_ble_eq_true rfl, Nat.le_of_ble_eq_true rfl⟩ ⟨by first | exact Nat.le_of_ble_eq_true rfl | exact Nat.zero_le _, by first | exact Nat.le_of_ble_eq_true rfl | exact Nat.zero_le _⟩ dX11_view_14 (fun r225 hr225 => ?_)
    rcases hr225 with ⟨rfl, a226⟩ | ⟨rfl, a226⟩
    · refine lv_if_ne (tgt := 22) hx hb dX11_view_17 (by decide) (fun _ => ?_) (fun c9 => absurd c9 (by decide))
      refine lv_aload_n hx hb dX11_view_22 rfl (lv_at hl 0 rfl) ?_
      refine gf_X11_15 hC rfl hK hP 0 rfl rfl dX11_view_23 ?_
      refine lv_iload_n hx hb dX11_view_26 rfl (lv_at hl 1 rfl) ?_
      refine pf_X11_91 hC rfl hK hP hD hS 1 (ws' := [(h0, .inr (11, [.ref B, .ref K, .int 0, .ref S, .ref D, .ref R, .ref Ta, .ref Tp, .ref Ro, .ref Ho, .ref De])), (B, .inr (0, [.ref bpersons, .ref bpapers, .ref bstamps, .ref bversions, .ref blines, .ref bsteps, .ref bsayings, .ref bfindings, .ref bwarnings, .ref bquestions, .int 0, .int dy, .int 3, .int 24])), (bpapers, .inr (8, [.int 12, .int 6, .ref bpapersc, .int 0]))]) rfl (Nat.le_of_ble_eq_true rfl) rfl rfl rfl dX11_view_27 (fun H locs hP hD hS => ?_)
      refine lv_aload_n hx hb dX11_view_30 rfl (lv_at hl 0 rfl) ?_
      refine gf_X11_15 hC rfl hK hP 0 rfl rfl dX11_view_31 ?_
      refine lv_iload_n hx hb dX11_view_34 rfl (lv_at hl 2 rfl) ?_
      refine pf_X11_94 hC rfl hK hP hD hS 1 (ws' := [(h0, .inr (11, [.ref B, .ref K, .int 0, .ref S, .ref D, .ref R, .ref Ta, .ref Tp, .ref Ro, .ref Ho, .ref De])), (B, .inr (0, [.ref bpersons, .ref bpapers, .ref bstamps, .ref bversions, .ref blines, .ref bsteps, .ref bsayings, .ref bfindings, .ref bwarnings, .ref bquestions, .int 0, .int dy, .int lv, .int 24])), (bpapers, .inr (8, [.int 12, .int 6, .ref bpapersc, .int 0]))]) rfl (Nat.le_of_ble_eq_true rfl) rfl rfl rfl dX11_view_35 (fun H locs hP hD hS => ?_)
      refine lv_aload_n hx hb dX11_view_38 rfl (lv_at hl 0 rfl) ?_
      refine gf_X11_15 hC rfl hK hP 0 rfl rfl dX11_view_39 ?_
      refine pV hC hK hl hP hD (c_inView l G B bpersons bpapers bstamps bversions blines bsteps bsayings bfindings bwarnings bquestions 0 dy lv 24 bpapersc) si_X11_97 [1, 2] rfl rfl (by decide) rfl rfl rfl rfl rfl (Nat.le_of_ble_eq_true rfl) ⟨Nat.le_of_ble_eq_true rfl, Nat.le_of_ble_eq_true rfl⟩ ⟨by first | exact Nat.le_of_ble_eq_true rfl | exact Nat.zero_le _, by first | exact Nat.le_of_ble_eq_true rfl | exact Nat.zero_le _⟩ dX11_view_42 (fun r227 hr227 => ?_)
      obtain rfl := hr227
      refine pS hC hK hl (c_bitCount0 l G) si_X11_101 rfl rfl (Nat.le_of_ble_eq_true rfl) ⟨Nat.le_of_ble_eq_true rfl, Nat.le_of_ble_eq_true rfl⟩ ⟨by first | exact Nat.le_of_ble_eq_true rfl | exact Nat.zero_le _, by first | exact Nat.le_of_ble_eq_true rfl | exact Nat.zero_le _⟩ dX11_view_45 (fun r229 hr229 => ?_)
      obtain rfl := hr229
      exact RI (v := 0) hC hP hD hS [] () rfl rfl (by decide) ((by unfold A_view; first | rfl | (simp only [ifc_t a224, ifc_t a226]; done) | (simp only [ifc_t a224, ifc_t a226]; rfl))) rfl dX11_view_48
    · refine lv_if_ne (tgt := 22) hx hb dX11_view_17 (by decide) (fun c9 => absurd (by decide) c9) (fun _ => ?_)
      refine lv_iconst (v := (-1)) hx hb dX11_view_20 (by decide) ?_
      exact RI (v := (-1)) hC hP hD hS [] () rfl rfl (by decide) ((by unfold A_view; first | rfl | (simp only [ifc_t a224, ifc_f a226]; done) | (simp only [ifc_t a224, ifc_f a226]; rfl))) rfl dX11_view_21
  · refine lv_if_eq (tgt := 20) hx hb dX11_view_8 (by decide) (fun _ => ?_) (fun c9 => absurd (by decide) c9)
    refine lv_iconst (v := (-1)) hx hb dX11_view_20 (by decide) ?_
    exact RI (v := (-1)) hC hP hD hS [] () rfl rfl (by decide) ((by unfold A_view; first | rfl | (simp only [ifc_f a224]; done) | (simp only [ifc_f a224]; rfl))) rfl dX11_view_21
set_option maxHeartbeats 4000000 in
set_option maxRecDepth 100000 in
theorem c_person (l : Launch) (G : GG) (h0 : Nat) (po : Int32) (sl : Int32) (B : Nat) (K : Nat) (S : Nat) (D : Nat) (R : Nat) (Ta : Nat) (Tp : Nat) (Ro : Nat) (Ho : Nat) (De : Nat) (bpersons : Nat) (bpapers : Nat) (bstamps : Nat) (bversions : Nat) (blines : Nat) (bsteps : Nat) (bsayings : Nat) (bfindings : Nat) (bwarnings : Nat) (bquestions : Nat) (bpersonsc : Nat) : MI l G yX11_person cX11_person 4 (some .int) 4 0 0 [.ref h0, .int po, .int sl] [(h0, .inr (11, [.ref B, .ref K, .int 0, .ref S, .ref D, .ref R, .ref Ta, .ref Tp, .ref Ro, .ref Ho, .ref De])), (B, .inr (0, [.ref bpersons, .ref bpapers, .ref bstamps, .ref bversions, .ref blines, .ref bsteps, .ref bsayings, .ref bfindings, .ref bwarnings, .ref bquestions, .int 0, .int (-1), .int 3, .int 24])), (bpersons, .inr (8, [.int 10, .int 2, .ref bpersonsc, .int 0])), (bpersonsc, .inl (G.2.1, 20, .inl (fun _ => 0)))] (fun (r : Int32) (u : Unit) => (r = A_person po sl)) (fun u : Unit => []) := by
  refine MI.start (by decide +kernel) (Nat.le_of_ble_eq_true rfl) ?_
  intro p e s m below meth c A ls hC hK hP hD hS hA hl
  have hl : lv_has ls 4 [(0, .ref h0), (1, .int po), (2, .int sl)] := hl
  obtain ⟨hx, hb, hr, hml, hB, hown, hlocks, hnm⟩ := id hC
  refine lv_iload_n hx hb dX11_person_0 rfl (lv_at hl 1 rfl) ?_
  refine lv_iconst (v := 0) hx hb dX11_person_1 (by decide) ?_
  refine lv_bipush (v := 9) hx hb dX11_person_2 (by decide) ?_
  refine pS hC hK hl (c_within l G po 0 9) si_X11_83 rfl rfl (Nat.le_of_ble_eq_true rfl) ⟨Nat.le_of_ble_eq_true rfl, Nat.le_of_ble_eq_true rfl⟩ ⟨by first | exact Nat.le_of_ble_eq_true rfl | exact Nat.zero_le _, by first | exact Nat.le_of_ble_eq_true rfl | exact Nat.zero_le _⟩ dX11_person_4 (fun r231 hr231 => ?_)
  rcases hr231 with ⟨rfl, a232⟩ | ⟨rfl, a232⟩
  · refine lv_if_eq (tgt := 20) hx hb dX11_person_7 (by decide) (fun c9 => absurd c9 (by decide)) (fun _ => ?_)
    refine lv_iload_n hx hb dX11_person_10 rfl (lv_at hl 2 rfl) ?_
    refine lv_iconst (v := 0) hx hb dX11_person_11 (by decide) ?_
    refine lv_bipush (v := 48) hx hb dX11_person_12 (by decide) ?_
    refine pS hC hK hl (c_within l G sl 0 48) si_X11_83 rfl rfl (Nat.le_of_ble_eq_true rfl) ⟨Nat.le_of_ble_eq_true rfl, Nat.le_of_ble_eq_true rfl⟩ ⟨by first | exact Nat.le_of_ble_eq_true rfl | exact Nat.zero_le _, by first | exact Nat.le_of_ble_eq_true rfl | exact Nat.zero_le _⟩ dX11_person_14 (fun r233 hr233 => ?_)
    rcases hr233 with ⟨rfl, a234⟩ | ⟨rfl, a234⟩
    · refine lv_if_ne (tgt := 22) hx hb dX11_person_17 (by decide) (fun _ => ?_) (fun c9 => absurd c9 (by decide))
      refine lv_aload_n hx hb dX11_person_22 rfl (lv_at hl 0 rfl) ?_
      refine gf_X11_15 hC rfl hK hP 0 rfl rfl dX11_person_23 ?_
      refine gf_X11_107 hC rfl hK hP 1 rfl rfl dX11_person_26 ?_
      refine pV hC hK hl hP hD (c_T_isFull l G bpersons bpersonsc 10 2 0) si_X11_111 [2] rfl rfl (by decide) rfl rfl rfl rfl rfl (Nat.le_of_ble_eq_true rfl) ⟨Nat.le_of_ble_eq_true rfl, Nat.le_of_ble_eq_true rfl⟩ ⟨by first | exact Nat.le_of_ble_eq_true rfl | exact Nat.zero_le _, by first | exact Nat.le_of_ble_eq_true rfl | exact Nat.zero_le _⟩ dX11_person_29 (fun r235 hr235 => ?_)
      rcases hr235 with ⟨rfl, a236⟩ | ⟨rfl, a236⟩
      · exact absurd a236 (by decide)
      · refine lv_if_eq (tgt := 38) hx hb dX11_person_32 (by decide) (fun _ => ?_) (fun c9 => absurd (by decide) c9)
        refine lv_aload_n hx hb dX11_person_38 rfl (lv_at hl 0 rfl) ?_
        refine gf_X11_15 hC rfl hK hP 0 rfl rfl dX11_person_39 ?_
        refine gf_X11_107 hC rfl hK hP 1 rfl rfl dX11_person_42 ?_
        refine iV (wr := [(h0, .inr (11, [.ref B, .ref K, .int 0, .ref S, .ref D, .ref R, .ref Ta, .ref Tp, .ref Ro, .ref Ho, .ref De])), (B, .inr (0, [.ref bpersons, .ref bpapers, .ref bstamps, .ref bversions, .ref blines, .ref bsteps, .ref bsayings, .ref bfindings, .ref bwarnings, .ref bquestions, .int 0, .int (-1), .int 3, .int 24])), (bpersonsc, .inl (G.2.1, 20, .inl (fun _ => 0)))]) hC hK hl hP hD hS hA (c_T_append0 l G bpersons 10 2 bpersonsc (by decide)) si_X11_117 [2] [0, 1, 3] rfl rfl (by decide) rfl (by decide) (by decide) rfl rfl rfl rfl rfl (Nat.le_of_ble_eq_true rfl) ⟨Nat.le_of_ble_eq_true rfl, Nat.le_of_ble_eq_true rfl⟩ ⟨Nat.le_of_ble_eq_true rfl, Nat.le_of_ble_eq_true rfl⟩ dX11_person_45 (fun r237 u238 H locs hr237 hP hD hS => ?_)
        have hP : va_P G.1 vwCl [(h0, .inr (11, [.ref B, .ref K, .int 0, .ref S, .ref D, .ref R, .ref Ta, .ref Tp, .ref Ro, .ref Ho, .ref De])), (B, .inr (0, [.ref bpersons, .ref bpapers, .ref bstamps, .ref bversions, .ref blines, .ref bsteps, .ref bsayings, .ref bfindings, .ref bwarnings, .ref bquestions, .int 0, .int (-1), .int 3, .int 24])), (bpersonsc, .inl (G.2.1, 20, .inl (fun _ => 0))), (bpersons, .inr (8, [.int 10, .int 2, .ref bpersonsc, .int 1]))] H := hP
        have hD : va_D A [(h0, .inr (11, [.ref B, .ref K, .int 0, .ref S, .ref D, .ref R, .ref Ta, .ref Tp, .ref Ro, .ref Ho, .ref De])), (B, .inr (0, [.ref bpersons, .ref bpapers, .ref bstamps, .ref bversions, .ref blines, .ref bsteps, .ref bsayings, .ref bfindings, .ref bwarnings, .ref bquestions, .int 0, .int (-1), .int 3, .int 24])), (bpersonsc, .inl (G.2.1, 20, .inl (fun _ => 0))), (bpersons, .inr (8, [.int 10, .int 2, .ref bpersonsc, .int 1]))] := hD
        obtain rfl := hr237
        refine lv_istore_n (lv' := [(3, .int 0), (0, .ref h0), (1, .int po), (2, .int sl)]) hx hb dX11_person_48 rfl hl (by decide) rfl (fun ls hl => ?_)
        refine lv_aload_n hx hb dX11_person_49 rfl (lv_at hl 1 rfl) ?_
        refine gf_X11_15 hC rfl hK hP 0 rfl rfl dX11_person_50 ?_
        refine gf_X11_107 hC rfl hK hP 1 rfl rfl dX11_person_53 ?_
        refine lv_iload_n hx hb dX11_person_56 rfl (lv_at hl 0 rfl) ?_
        refine lv_iconst (v := 0) hx hb dX11_person_57 (by decide) ?_
        refine lv_iload_n hx hb dX11_person_58 rfl (lv_at hl 2 rfl) ?_
        refine vV (wr := [(h0, .inr (11, [.ref B, .ref K, .int 0, .ref S, .ref D, .ref R, .ref Ta, .ref Tp, .ref Ro, .ref Ho, .ref De])), (B, .inr (0, [.ref bpersons, .ref bpapers, .ref bstamps, .ref bversions, .ref blines, .ref bsteps, .ref bsayings, .ref bfindings, .ref bwarnings, .ref bquestions, .int 0, .int (-1), .int 3, .int 24]))]) hC hK hl hP hD hS hA (c_T_set_2_20_0 l G bpersons po 10 bpersonsc (fun _ => 0)) si_X11_120 [3, 2] [0, 1] rfl rfl (by decide) rfl (by decide) (by decide) rfl rfl rfl rfl rfl (Nat.le_of_ble_eq_true rfl) ⟨Nat.le_of_ble_eq_true rfl, Nat.le_of_ble_eq_true rfl⟩ ⟨Nat.le_of_ble_eq_true rfl, Nat.le_of_ble_eq_true rfl⟩ dX11_person_59 (fun u241 H locs hr240 hP hD hS => ?_)
        have hP : va_P G.1 vwCl [(h0, .inr (11, [.ref B, .ref K, .int 0, .ref S, .ref D, .ref R, .ref Ta, .ref Tp, .ref Ro, .ref Ho, .ref De])), (B, .inr (0, [.ref bpersons, .ref bpapers, .ref bstamps, .ref bversions, .ref blines, .ref bsteps, .ref bsayings, .ref bfindings, .ref bwarnings, .ref bquestions, .int 0, .int (-1), .int 3, .int 24])), (bpersons, .inr (8, [.int 10, .int 2, .ref bpersonsc, .int 1])), (bpersonsc, .inl (G.2.1, 20, .inl (upd (fun _ => 0) 0 po)))] H := hP
        have hD : va_D A [(h0, .inr (11, [.ref B, .ref K, .int 0, .ref S, .ref D, .ref R, .ref Ta, .ref Tp, .ref Ro, .ref Ho, .ref De])), (B, .inr (0, [.ref bpersons, .ref bpapers, .ref bstamps, .ref bversions, .ref blines, .ref bsteps, .ref bsayings, .ref bfindings, .ref bwarnings, .ref bquestions, .int 0, .int (-1), .int 3, .int 24])), (bpersons, .inr (8, [.int 10, .int 2, .ref bpersonsc, .int 1])), (bpersonsc, .inl (G.2.1, 20, .inl (upd (fun _ => 0) 0 po)))] := hD
        refine lv_aload_n hx hb dX11_person_62 rfl (lv_at hl 1 rfl) ?_
        refine gf_X11_15 hC rfl hK hP 0 rfl rfl dX11_person_63 ?_
        refine gf_X11_107 hC rfl hK hP 1 rfl rfl dX11_person_66 ?_
        refine lv_iload_n hx hb dX11_person_69 rfl (lv_at hl 0 rfl) ?_
        refine lv_iconst (v := 1) hx hb dX11_person_70 (by decide) ?_
        refine lv_iload_n hx hb dX11_person_71 rfl (lv_at hl 3 rfl) ?_
        refine vV (wr := [(h0, .inr (11, [.ref B, .ref K, .int 0, .ref S, .ref D, .ref R, .ref Ta, .ref Tp, .ref Ro, .ref Ho, .ref De])), (B, .inr (0, [.ref bpersons, .ref bpapers, .ref bstamps, .ref bversions, .ref blines, .ref bsteps, .ref bsayings, .ref bfindings, .ref bwarnings, .ref bquestions, .int 0, .int (-1), .int 3, .int 24]))]) hC hK hl hP hD hS hA (c_T_set_2_20_1 l G bpersons sl 10 bpersonsc (upd (fun _ => 0) 0 po)) si_X11_120 [2, 3] [0, 1] rfl rfl (by decide) rfl (by decide) (by decide) rfl rfl rfl rfl rfl (Nat.le_of_ble_eq_true rfl) ⟨Nat.le_of_ble_eq_true rfl, Nat.le_of_ble_eq_true rfl⟩ ⟨Nat.le_of_ble_eq_true rfl, Nat.le_of_ble_eq_true rfl⟩ dX11_person_72 (fun u243 H locs hr242 hP hD hS => ?_)
        have hP : va_P G.1 vwCl [(h0, .inr (11, [.ref B, .ref K, .int 0, .ref S, .ref D, .ref R, .ref Ta, .ref Tp, .ref Ro, .ref Ho, .ref De])), (B, .inr (0, [.ref bpersons, .ref bpapers, .ref bstamps, .ref bversions, .ref blines, .ref bsteps, .ref bsayings, .ref bfindings, .ref bwarnings, .ref bquestions, .int 0, .int (-1), .int 3, .int 24])), (bpersons, .inr (8, [.int 10, .int 2, .ref bpersonsc, .int 1])), (bpersonsc, .inl (G.2.1, 20, .inl (upd (upd (fun _ => 0) 0 po) 1 sl)))] H := hP
        have hD : va_D A [(h0, .inr (11, [.ref B, .ref K, .int 0, .ref S, .ref D, .ref R, .ref Ta, .ref Tp, .ref Ro, .ref Ho, .ref De])), (B, .inr (0, [.ref bpersons, .ref bpapers, .ref bstamps, .ref bversions, .ref blines, .ref bsteps, .ref bsayings, .ref bfindings, .ref bwarnings, .ref bquestions, .int 0, .int (-1), .int 3, .int 24])), (bpersons, .inr (8, [.int 10, .int 2, .ref bpersonsc, .int 1])), (bpersonsc, .inl (G.2.1, 20, .inl (upd (upd (fun _ => 0) 0 po) 1 sl)))] := hD
        refine lv_iload_n hx hb dX11_person_75 rfl (lv_at hl 0 rfl) ?_
        exact RI (v := 0) hC hP hD hS [] () rfl rfl (by decide) ((by unfold A_person; first | rfl | (simp only [ifc_t a232, ifc_t a234, ifc_f a236]; done) | (simp only [ifc_t a232, ifc_t a234, ifc_f a236]; rfl))) rfl dX11_person_76
    · refine lv_if_ne (tgt := 22) hx hb dX11_person_17 (by decide) (fun c9 => absurd (by decide) c9) (fun _ => ?_)
      refine lv_iconst (v := (-1)) hx hb dX11_person_20 (by decide) ?_
      exact RI (v := (-1)) hC hP hD hS [] () rfl rfl (by decide) ((by unfold A_person; first | rfl | (simp only [ifc_t a232, ifc_f a234]; done) | (simp only [ifc_t a232, ifc_f a234]; rfl))) rfl dX11_person_21
  · refine lv_if_eq (tgt := 20) hx hb dX11_person_7 (by decide) (fun _ => ?_) (fun c9 => absurd (by decide) c9)
    refine lv_iconst (v := (-1)) hx hb dX11_person_20 (by decide) ?_
    exact RI (v := (-1)) hC hP hD hS [] () rfl rfl (by decide) ((by unfold A_person; first | rfl | (simp only [ifc_f a232]; done) | (simp only [ifc_f a232]; rfl))) rfl dX11_person_21
set_option maxHeartbeats 4000000 in
set_option maxRecDepth 100000 in
theorem c_personOf (l : Launch) (G : GG) (h0 : Nat) (x1 : Int32) (x2 : Int32) (B : Nat) (K : Nat) (S : Nat) (D : Nat) (R : Nat) (Ta : Nat) (Tp : Nat) (Ro : Nat) (Ho : Nat) (De : Nat) (bpersons : Nat) (bpapers : Nat) (bstamps : Nat) (bversions : Nat) (blines : Nat) (bsteps : Nat) (bsayings : Nat) (bfindings : Nat) (bwarnings : Nat) (bquestions : Nat) (bpersonsc : Nat) : MP l G yX11_personOf cX11_personOf 3 (some .int) 4 [.ref h0, .int x1, .int x2] [(h0, .inr (11, [.ref B, .ref K, .int 0, .ref S, .ref D, .ref R, .ref Ta, .ref Tp, .ref Ro, .ref Ho, .ref De])), (B, .inr (0, [.ref bpersons, .ref bpapers, .ref bstamps, .ref bversions, .ref blines, .ref bsteps, .ref bsayings, .ref bfindings, .ref bwarnings, .ref bquestions, .int 0, .int (-1), .int 3, .int 24])), (bpersons, .inr (8, [.int 10, .int 2, .ref bpersonsc, .int 0]))] (fun r : Int32 => r = (-1)) := by
  refine MP.start (by decide +kernel) (Nat.le_of_ble_eq_true rfl) ?_
  intro p e s m below meth c ls hC hK hP hD hl
  have hl : lv_has ls 3 [(0, .ref h0), (1, .int x1), (2, .int x2)] := hl
  obtain ⟨hx, hb, hr, hml, hB, hown, hlocks, hnm⟩ := id hC
  refine lv_aload_n hx hb dX11_personOf_0 rfl (lv_at hl 0 rfl) ?_
  refine gf_X11_15 hC rfl hK hP 0 rfl rfl dX11_personOf_1 ?_
  refine gf_X11_107 hC rfl hK hP 1 rfl rfl dX11_personOf_4 ?_
  refine lv_iload_n hx hb dX11_personOf_7 rfl (lv_at hl 1 rfl) ?_
  refine pV hC hK hl hP hD (c_T_has l G bpersons bpersonsc 10 2 0 x1) si_X11_124 [2] rfl rfl (by decide) rfl rfl rfl rfl rfl (Nat.le_of_ble_eq_true rfl) ⟨Nat.le_of_ble_eq_true rfl, Nat.le_of_ble_eq_true rfl⟩ ⟨by first | exact Nat.le_of_ble_eq_true rfl | exact Nat.zero_le _, by first | exact Nat.le_of_ble_eq_true rfl | exact Nat.zero_le _⟩ dX11_personOf_8 (fun r244 hr244 => ?_)
  rcases hr244 with ⟨rfl, a245⟩ | ⟨rfl, a245⟩
  · exact absurd a245 (Hs_none _)
  · refine lv_if_ne (tgt := 16) hx hb dX11_personOf_11 (by decide) (fun c9 => absurd (by decide) c9) (fun _ => ?_)
    refine lv_iconst (v := (-1)) hx hb dX11_personOf_14 (by decide) ?_
    exact RP (v := (-1)) hC (rfl) rfl dX11_personOf_15
set_option maxHeartbeats 4000000 in
set_option maxRecDepth 100000 in
theorem c_paper (l : Launch) (G : GG) (h0 : Nat) (x1 : Int32) (x2 : Int32) (x3 : Int32) (x4 : Int32) (B : Nat) (K : Nat) (S : Nat) (D : Nat) (R : Nat) (Ta : Nat) (Tp : Nat) (Ro : Nat) (Ho : Nat) (De : Nat) (bpersons : Nat) (bpapers : Nat) (bstamps : Nat) (bversions : Nat) (blines : Nat) (bsteps : Nat) (bsayings : Nat) (bfindings : Nat) (bwarnings : Nat) (bquestions : Nat) (bpersonsc : Nat) : MP l G yX11_paper cX11_paper 6 (some .int) 4 [.ref h0, .int x1, .int x2, .int x3, .int x4] [(h0, .inr (11, [.ref B, .ref K, .int 0, .ref S, .ref D, .ref R, .ref Ta, .ref Tp, .ref Ro, .ref Ho, .ref De])), (B, .inr (0, [.ref bpersons, .ref bpapers, .ref bstamps, .ref bversions, .ref blines, .ref bsteps, .ref bsayings, .ref bfindings, .ref bwarnings, .ref bquestions, .int 0, .int (-1), .int 3, .int 24])), (bpersons, .inr (8, [.int 10, .int 2, .ref bpersonsc, .int 0]))] (fun r : Int32 => r = (-1)) := by
  refine MP.start (by decide +kernel) (Nat.le_of_ble_eq_true rfl) ?_
  intro p e s m below meth c ls hC hK hP hD hl
  have hl : lv_has ls 6 [(0, .ref h0), (1, .int x1), (2, .int x2), (3, .int x3), (4, .int x4)] := hl
  obtain ⟨hx, hb, hr, hml, hB, hown, hlocks, hnm⟩ := id hC
  refine lv_aload_n hx hb dX11_paper_0 rfl (lv_at hl 0 rfl) ?_
  refine gf_X11_15 hC rfl hK hP 0 rfl rfl dX11_paper_1 ?_
  refine gf_X11_107 hC rfl hK hP 1 rfl rfl dX11_paper_4 ?_
  refine lv_iload_n hx hb dX11_paper_7 rfl (lv_at hl 1 rfl) ?_
  refine pV hC hK hl hP hD (c_T_has l G bpersons bpersonsc 10 2 0 x1) si_X11_124 [2] rfl rfl (by decide) rfl rfl rfl rfl rfl (Nat.le_of_ble_eq_true rfl) ⟨Nat.le_of_ble_eq_true rfl, Nat.le_of_ble_eq_true rfl⟩ ⟨by first | exact Nat.le_of_ble_eq_true rfl | exact Nat.zero_le _, by first | exact Nat.le_of_ble_eq_true rfl | exact Nat.zero_le _⟩ dX11_paper_8 (fun r246 hr246 => ?_)
  rcases hr246 with ⟨rfl, a247⟩ | ⟨rfl, a247⟩
  · exact absurd a247 (Hs_none _)
  · refine lv_if_eq (tgt := 28) hx hb dX11_paper_11 (by decide) (fun _ => ?_) (fun c9 => absurd (by decide) c9)
    refine lv_iconst (v := (-1)) hx hb dX11_paper_28 (by decide) ?_
    exact RP (v := (-1)) hC (rfl) rfl dX11_paper_29
set_option maxHeartbeats 4000000 in
set_option maxRecDepth 100000 in
theorem c_lose (l : Launch) (G : GG) (h0 : Nat) (x1 : Int32) (B : Nat) (K : Nat) (S : Nat) (D : Nat) (R : Nat) (Ta : Nat) (Tp : Nat) (Ro : Nat) (Ho : Nat) (De : Nat) (bpersons : Nat) (bpapers : Nat) (bstamps : Nat) (bversions : Nat) (blines : Nat) (bsteps : Nat) (bsayings : Nat) (bfindings : Nat) (bwarnings : Nat) (bquestions : Nat) (bpapersc : Nat) : MP l G yX11_lose cX11_lose 2 (some .int) 4 [.ref h0, .int x1] [(h0, .inr (11, [.ref B, .ref K, .int 0, .ref S, .ref D, .ref R, .ref Ta, .ref Tp, .ref Ro, .ref Ho, .ref De])), (B, .inr (0, [.ref bpersons, .ref bpapers, .ref bstamps, .ref bversions, .ref blines, .ref bsteps, .ref bsayings, .ref bfindings, .ref bwarnings, .ref bquestions, .int 0, .int (-1), .int 3, .int 24])), (bpapers, .inr (8, [.int 12, .int 6, .ref bpapersc, .int 0]))] (fun r : Int32 => r = (-1)) := by
  refine MP.start (by decide +kernel) (Nat.le_of_ble_eq_true rfl) ?_
  intro p e s m below meth c ls hC hK hP hD hl
  have hl : lv_has ls 2 [(0, .ref h0), (1, .int x1)] := hl
  obtain ⟨hx, hb, hr, hml, hB, hown, hlocks, hnm⟩ := id hC
  refine lv_aload_n hx hb dX11_lose_0 rfl (lv_at hl 0 rfl) ?_
  refine gf_X11_15 hC rfl hK hP 0 rfl rfl dX11_lose_1 ?_
  refine gf_X11_144 hC rfl hK hP 1 rfl rfl dX11_lose_4 ?_
  refine lv_iload_n hx hb dX11_lose_7 rfl (lv_at hl 1 rfl) ?_
  refine pV hC hK hl hP hD (c_T_has l G bpapers bpapersc 12 6 0 x1) si_X11_124 [2] rfl rfl (by decide) rfl rfl rfl rfl rfl (Nat.le_of_ble_eq_true rfl) ⟨Nat.le_of_ble_eq_true rfl, Nat.le_of_ble_eq_true rfl⟩ ⟨by first | exact Nat.le_of_ble_eq_true rfl | exact Nat.zero_le _, by first | exact Nat.le_of_ble_eq_true rfl | exact Nat.zero_le _⟩ dX11_lose_8 (fun r248 hr248 => ?_)
  rcases hr248 with ⟨rfl, a249⟩ | ⟨rfl, a249⟩
  · exact absurd a249 (Hs_none _)
  · refine lv_if_ne (tgt := 16) hx hb dX11_lose_11 (by decide) (fun c9 => absurd (by decide) c9) (fun _ => ?_)
    refine lv_iconst (v := (-1)) hx hb dX11_lose_14 (by decide) ?_
    exact RP (v := (-1)) hC (rfl) rfl dX11_lose_15
set_option maxHeartbeats 4000000 in
set_option maxRecDepth 100000 in
theorem c_paperOf (l : Launch) (G : GG) (h0 : Nat) (x1 : Int32) (x2 : Int32) (B : Nat) (K : Nat) (S : Nat) (D : Nat) (R : Nat) (Ta : Nat) (Tp : Nat) (Ro : Nat) (Ho : Nat) (De : Nat) (bpersons : Nat) (bpapers : Nat) (bstamps : Nat) (bversions : Nat) (blines : Nat) (bsteps : Nat) (bsayings : Nat) (bfindings : Nat) (bwarnings : Nat) (bquestions : Nat) (bpapersc : Nat) : MP l G yX11_paperOf cX11_paperOf 3 (some .int) 4 [.ref h0, .int x1, .int x2] [(h0, .inr (11, [.ref B, .ref K, .int 0, .ref S, .ref D, .ref R, .ref Ta, .ref Tp, .ref Ro, .ref Ho, .ref De])), (B, .inr (0, [.ref bpersons, .ref bpapers, .ref bstamps, .ref bversions, .ref blines, .ref bsteps, .ref bsayings, .ref bfindings, .ref bwarnings, .ref bquestions, .int 0, .int (-1), .int 3, .int 24])), (bpapers, .inr (8, [.int 12, .int 6, .ref bpapersc, .int 0]))] (fun r : Int32 => r = (-1)) := by
  refine MP.start (by decide +kernel) (Nat.le_of_ble_eq_true rfl) ?_
  intro p e s m below meth c ls hC hK hP hD hl
  have hl : lv_has ls 3 [(0, .ref h0), (1, .int x1), (2, .int x2)] := hl
  obtain ⟨hx, hb, hr, hml, hB, hown, hlocks, hnm⟩ := id hC
  refine lv_aload_n hx hb dX11_paperOf_0 rfl (lv_at hl 0 rfl) ?_
  refine gf_X11_15 hC rfl hK hP 0 rfl rfl dX11_paperOf_1 ?_
  refine gf_X11_144 hC rfl hK hP 1 rfl rfl dX11_paperOf_4 ?_
  refine lv_iload_n hx hb dX11_paperOf_7 rfl (lv_at hl 1 rfl) ?_
  refine pV hC hK hl hP hD (c_T_has l G bpapers bpapersc 12 6 0 x1) si_X11_124 [2] rfl rfl (by decide) rfl rfl rfl rfl rfl (Nat.le_of_ble_eq_true rfl) ⟨Nat.le_of_ble_eq_true rfl, Nat.le_of_ble_eq_true rfl⟩ ⟨by first | exact Nat.le_of_ble_eq_true rfl | exact Nat.zero_le _, by first | exact Nat.le_of_ble_eq_true rfl | exact Nat.zero_le _⟩ dX11_paperOf_8 (fun r250 hr250 => ?_)
  rcases hr250 with ⟨rfl, a251⟩ | ⟨rfl, a251⟩
  · exact absurd a251 (Hs_none _)
  · refine lv_if_ne (tgt := 16) hx hb dX11_paperOf_11 (by decide) (fun c9 => absurd (by decide) c9) (fun _ => ?_)
    refine lv_iconst (v := (-1)) hx hb dX11_paperOf_14 (by decide) ?_
    exact RP (v := (-1)) hC (rfl) rfl dX11_paperOf_15
set_option maxHeartbeats 4000000 in
set_option maxRecDepth 100000 in
theorem c_stamp (l : Launch) (G : GG) (h0 : Nat) (x1 : Int32) (x2 : Int32) (x3 : Int32) (B : Nat) (K : Nat) (S : Nat) (D : Nat) (R : Nat) (Ta : Nat) (Tp : Nat) (Ro : Nat) (Ho : Nat) (De : Nat) (bpersons : Nat) (bpapers : Nat) (bstamps : Nat) (bversions : Nat) (blines : Nat) (bsteps : Nat) (bsayings : Nat) (bfindings : Nat) (bwarnings : Nat) (bquestions : Nat) (bpapersc : Nat) : MP l G yX11_stamp cX11_stamp 4 (some .int) 4 [.ref h0, .int x1, .int x2, .int x3] [(h0, .inr (11, [.ref B, .ref K, .int 0, .ref S, .ref D, .ref R, .ref Ta, .ref Tp, .ref Ro, .ref Ho, .ref De])), (B, .inr (0, [.ref bpersons, .ref bpapers, .ref bstamps, .ref bversions, .ref blines, .ref bsteps, .ref bsayings, .ref bfindings, .ref bwarnings, .ref bquestions, .int 0, .int (-1), .int 3, .int 24])), (bpapers, .inr (8, [.int 12, .int 6, .ref bpapersc, .int 0]))] (fun r : Int32 => r = (-1)) := by
  refine MP.start (by decide +kernel) (Nat.le_of_ble_eq_true rfl) ?_
  intro p e s m below meth c ls hC hK hP hD hl
  have hl : lv_has ls 4 [(0, .ref h0), (1, .int x1), (2, .int x2), (3, .int x3)] := hl
  obtain ⟨hx, hb, hr, hml, hB, hown, hlocks, hnm⟩ := id hC
  refine lv_aload_n hx hb dX11_stamp_0 rfl (lv_at hl 0 rfl) ?_
  refine gf_X11_15 hC rfl hK hP 0 rfl rfl dX11_stamp_1 ?_
  refine gf_X11_144 hC rfl hK hP 1 rfl rfl dX11_stamp_4 ?_
  refine lv_iload_n hx hb dX11_stamp_7 rfl (lv_at hl 1 rfl) ?_
  refine pV hC hK hl hP hD (c_T_has l G bpapers bpapersc 12 6 0 x1) si_X11_124 [2] rfl rfl (by decide) rfl rfl rfl rfl rfl (Nat.le_of_ble_eq_true rfl) ⟨Nat.le_of_ble_eq_true rfl, Nat.le_of_ble_eq_true rfl⟩ ⟨by first | exact Nat.le_of_ble_eq_true rfl | exact Nat.zero_le _, by first | exact Nat.le_of_ble_eq_true rfl | exact Nat.zero_le _⟩ dX11_stamp_8 (fun r252 hr252 => ?_)
  rcases hr252 with ⟨rfl, a253⟩ | ⟨rfl, a253⟩
  · exact absurd a253 (Hs_none _)
  · refine lv_if_eq (tgt := 22) hx hb dX11_stamp_11 (by decide) (fun _ => ?_) (fun c9 => absurd (by decide) c9)
    refine lv_iconst (v := (-1)) hx hb dX11_stamp_22 (by decide) ?_
    exact RP (v := (-1)) hC (rfl) rfl dX11_stamp_23
set_option maxHeartbeats 4000000 in
set_option maxRecDepth 100000 in
theorem c_stamps (l : Launch) (G : GG) (h0 : Nat) (x1 : Int32) (x2 : Int32) (x3 : Int32) (x4 : Int32) (B : Nat) (K : Nat) (S : Nat) (D : Nat) (R : Nat) (Ta : Nat) (Tp : Nat) (Ro : Nat) (Ho : Nat) (De : Nat) (bpersons : Nat) (bpapers : Nat) (bstamps : Nat) (bversions : Nat) (blines : Nat) (bsteps : Nat) (bsayings : Nat) (bfindings : Nat) (bwarnings : Nat) (bquestions : Nat) (bpapersc : Nat) : MP l G yX11_stamps cX11_stamps 7 (some .int) 4 [.ref h0, .int x1, .int x2, .int x3, .int x4] [(h0, .inr (11, [.ref B, .ref K, .int 0, .ref S, .ref D, .ref R, .ref Ta, .ref Tp, .ref Ro, .ref Ho, .ref De])), (B, .inr (0, [.ref bpersons, .ref bpapers, .ref bstamps, .ref bversions, .ref blines, .ref bsteps, .ref bsayings, .ref bfindings, .ref bwarnings, .ref bquestions, .int 0, .int (-1), .int 3, .int 24])), (bpapers, .inr (8, [.int 12, .int 6, .ref bpapersc, .int 0]))] (fun r : Int32 => r = (-1)) := by
  refine MP.start (by decide +kernel) (Nat.le_of_ble_eq_true rfl) ?_
  intro p e s m below meth c ls hC hK hP hD hl
  have hl : lv_has ls 7 [(0, .ref h0), (1, .int x1), (2, .int x2), (3, .int x3), (4, .int x4)] := hl
  obtain ⟨hx, hb, hr, hml, hB, hown, hlocks, hnm⟩ := id hC
  refine lv_aload_n hx hb dX11_stamps_0 rfl (lv_at hl 0 rfl) ?_
  refine gf_X11_15 hC rfl hK hP 0 rfl rfl dX11_stamps_1 ?_
  refine gf_X11_144 hC rfl hK hP 1 rfl rfl dX11_stamps_4 ?_
  refine lv_iload_n hx hb dX11_stamps_7 rfl (lv_at hl 1 rfl) ?_
  refine pV hC hK hl hP hD (c_T_has l G bpapers bpapersc 12 6 0 x1) si_X11_124 [2] rfl rfl (by decide) rfl rfl rfl rfl rfl (Nat.le_of_ble_eq_true rfl) ⟨Nat.le_of_ble_eq_true rfl, Nat.le_of_ble_eq_true rfl⟩ ⟨by first | exact Nat.le_of_ble_eq_true rfl | exact Nat.zero_le _, by first | exact Nat.le_of_ble_eq_true rfl | exact Nat.zero_le _⟩ dX11_stamps_8 (fun r254 hr254 => ?_)
  rcases hr254 with ⟨rfl, a255⟩ | ⟨rfl, a255⟩
  · exact absurd a255 (Hs_none _)
  · refine lv_if_eq (tgt := 32) hx hb dX11_stamps_11 (by decide) (fun _ => ?_) (fun c9 => absurd (by decide) c9)
    refine lv_iconst (v := (-1)) hx hb dX11_stamps_32 (by decide) ?_
    exact RP (v := (-1)) hC (rfl) rfl dX11_stamps_33
set_option maxHeartbeats 4000000 in
set_option maxRecDepth 100000 in
theorem c_sent (l : Launch) (G : GG) (h0 : Nat) (x1 : Int32) (x2 : Int32) (B : Nat) (K : Nat) (S : Nat) (D : Nat) (R : Nat) (Ta : Nat) (Tp : Nat) (Ro : Nat) (Ho : Nat) (De : Nat) (bpersons : Nat) (bpapers : Nat) (bstamps : Nat) (bversions : Nat) (blines : Nat) (bsteps : Nat) (bsayings : Nat) (bfindings : Nat) (bwarnings : Nat) (bquestions : Nat) (bpapersc : Nat) : MP l G yX11_sent cX11_sent 3 (some .int) 4 [.ref h0, .int x1, .int x2] [(h0, .inr (11, [.ref B, .ref K, .int 0, .ref S, .ref D, .ref R, .ref Ta, .ref Tp, .ref Ro, .ref Ho, .ref De])), (B, .inr (0, [.ref bpersons, .ref bpapers, .ref bstamps, .ref bversions, .ref blines, .ref bsteps, .ref bsayings, .ref bfindings, .ref bwarnings, .ref bquestions, .int 0, .int (-1), .int 3, .int 24])), (bpapers, .inr (8, [.int 12, .int 6, .ref bpapersc, .int 0]))] (fun r : Int32 => r = (-1)) := by
  refine MP.start (by decide +kernel) (Nat.le_of_ble_eq_true rfl) ?_
  intro p e s m below meth c ls hC hK hP hD hl
  have hl : lv_has ls 3 [(0, .ref h0), (1, .int x1), (2, .int x2)] := hl
  obtain ⟨hx, hb, hr, hml, hB, hown, hlocks, hnm⟩ := id hC
  refine lv_aload_n hx hb dX11_sent_0 rfl (lv_at hl 0 rfl) ?_
  refine gf_X11_15 hC rfl hK hP 0 rfl rfl dX11_sent_1 ?_
  refine gf_X11_144 hC rfl hK hP 1 rfl rfl dX11_sent_4 ?_
  refine lv_iload_n hx hb dX11_sent_7 rfl (lv_at hl 1 rfl) ?_
  refine pV hC hK hl hP hD (c_T_has l G bpapers bpapersc 12 6 0 x1) si_X11_124 [2] rfl rfl (by decide) rfl rfl rfl rfl rfl (Nat.le_of_ble_eq_true rfl) ⟨Nat.le_of_ble_eq_true rfl, Nat.le_of_ble_eq_true rfl⟩ ⟨by first | exact Nat.le_of_ble_eq_true rfl | exact Nat.zero_le _, by first | exact Nat.le_of_ble_eq_true rfl | exact Nat.zero_le _⟩ dX11_sent_8 (fun r256 hr256 => ?_)
  rcases hr256 with ⟨rfl, a257⟩ | ⟨rfl, a257⟩
  · exact absurd a257 (Hs_none _)
  · refine lv_if_ne (tgt := 16) hx hb dX11_sent_11 (by decide) (fun c9 => absurd (by decide) c9) (fun _ => ?_)
    refine lv_iconst (v := (-1)) hx hb dX11_sent_14 (by decide) ?_
    exact RP (v := (-1)) hC (rfl) rfl dX11_sent_15
set_option maxHeartbeats 4000000 in
set_option maxRecDepth 100000 in
theorem c_hand (l : Launch) (G : GG) (h0 : Nat) (x1 : Int32) (x2 : Int32) (x3 : Int32) (B : Nat) (K : Nat) (S : Nat) (D : Nat) (R : Nat) (Ta : Nat) (Tp : Nat) (Ro : Nat) (Ho : Nat) (De : Nat) (bpersons : Nat) (bpapers : Nat) (bstamps : Nat) (bversions : Nat) (blines : Nat) (bsteps : Nat) (bsayings : Nat) (bfindings : Nat) (bwarnings : Nat) (bquestions : Nat) (bpapersc : Nat) : MP l G yX11_hand cX11_hand 4 (some .int) 4 [.ref h0, .int x1, .int x2, .int x3] [(h0, .inr (11, [.ref B, .ref K, .int 0, .ref S, .ref D, .ref R, .ref Ta, .ref Tp, .ref Ro, .ref Ho, .ref De])), (B, .inr (0, [.ref bpersons, .ref bpapers, .ref bstamps, .ref bversions, .ref blines, .ref bsteps, .ref bsayings, .ref bfindings, .ref bwarnings, .ref bquestions, .int 0, .int (-1), .int 3, .int 24])), (bpapers, .inr (8, [.int 12, .int 6, .ref bpapersc, .int 0]))] (fun r : Int32 => r = (-1)) := by
  refine MP.start (by decide +kernel) (Nat.le_of_ble_eq_true rfl) ?_
  intro p e s m below meth c ls hC hK hP hD hl
  have hl : lv_has ls 4 [(0, .ref h0), (1, .int x1), (2, .int x2), (3, .int x3)] := hl
  obtain ⟨hx, hb, hr, hml, hB, hown, hlocks, hnm⟩ := id hC
  refine lv_aload_n hx hb dX11_hand_0 rfl (lv_at hl 0 rfl) ?_
  refine gf_X11_15 hC rfl hK hP 0 rfl rfl dX11_hand_1 ?_
  refine gf_X11_144 hC rfl hK hP 1 rfl rfl dX11_hand_4 ?_
  refine lv_iload_n hx hb dX11_hand_7 rfl (lv_at hl 1 rfl) ?_
  refine pV hC hK hl hP hD (c_T_has l G bpapers bpapersc 12 6 0 x1) si_X11_124 [2] rfl rfl (by decide) rfl rfl rfl rfl rfl (Nat.le_of_ble_eq_true rfl) ⟨Nat.le_of_ble_eq_true rfl, Nat.le_of_ble_eq_true rfl⟩ ⟨by first | exact Nat.le_of_ble_eq_true rfl | exact Nat.zero_le _, by first | exact Nat.le_of_ble_eq_true rfl | exact Nat.zero_le _⟩ dX11_hand_8 (fun r258 hr258 => ?_)
  rcases hr258 with ⟨rfl, a259⟩ | ⟨rfl, a259⟩
  · exact absurd a259 (Hs_none _)
  · refine lv_if_eq (tgt := 28) hx hb dX11_hand_11 (by decide) (fun _ => ?_) (fun c9 => absurd (by decide) c9)
    refine lv_iconst (v := (-1)) hx hb dX11_hand_28 (by decide) ?_
    exact RP (v := (-1)) hC (rfl) rfl dX11_hand_29
set_option maxHeartbeats 4000000 in
set_option maxRecDepth 100000 in
theorem c_before (l : Launch) (G : GG) (h0 : Nat) (x1 : Int32) (x2 : Int32) (B : Nat) (K : Nat) (S : Nat) (D : Nat) (R : Nat) (Ta : Nat) (Tp : Nat) (Ro : Nat) (Ho : Nat) (De : Nat) (bpersons : Nat) (bpapers : Nat) (bstamps : Nat) (bversions : Nat) (blines : Nat) (bsteps : Nat) (bsayings : Nat) (bfindings : Nat) (bwarnings : Nat) (bquestions : Nat) (bpapersc : Nat) : MP l G yX11_before cX11_before 3 (some .int) 4 [.ref h0, .int x1, .int x2] [(h0, .inr (11, [.ref B, .ref K, .int 0, .ref S, .ref D, .ref R, .ref Ta, .ref Tp, .ref Ro, .ref Ho, .ref De])), (B, .inr (0, [.ref bpersons, .ref bpapers, .ref bstamps, .ref bversions, .ref blines, .ref bsteps, .ref bsayings, .ref bfindings, .ref bwarnings, .ref bquestions, .int 0, .int (-1), .int 3, .int 24])), (bpapers, .inr (8, [.int 12, .int 6, .ref bpapersc, .int 0]))] (fun r : Int32 => r = (-1)) := by
  refine MP.start (by decide +kernel) (Nat.le_of_ble_eq_true rfl) ?_
  intro p e s m below meth c ls hC hK hP hD hl
  have hl : lv_has ls 3 [(0, .ref h0), (1, .int x1), (2, .int x2)] := hl
  obtain ⟨hx, hb, hr, hml, hB, hown, hlocks, hnm⟩ := id hC
  refine lv_aload_n hx hb dX11_before_0 rfl (lv_at hl 0 rfl) ?_
  refine gf_X11_15 hC rfl hK hP 0 rfl rfl dX11_before_1 ?_
  refine gf_X11_144 hC rfl hK hP 1 rfl rfl dX11_before_4 ?_
  refine lv_iload_n hx hb dX11_before_7 rfl (lv_at hl 1 rfl) ?_
  refine pV hC hK hl hP hD (c_T_has l G bpapers bpapersc 12 6 0 x1) si_X11_124 [2] rfl rfl (by decide) rfl rfl rfl rfl rfl (Nat.le_of_ble_eq_true rfl) ⟨Nat.le_of_ble_eq_true rfl, Nat.le_of_ble_eq_true rfl⟩ ⟨by first | exact Nat.le_of_ble_eq_true rfl | exact Nat.zero_le _, by first | exact Nat.le_of_ble_eq_true rfl | exact Nat.zero_le _⟩ dX11_before_8 (fun r260 hr260 => ?_)
  rcases hr260 with ⟨rfl, a261⟩ | ⟨rfl, a261⟩
  · exact absurd a261 (Hs_none _)
  · refine lv_if_eq (tgt := 33) hx hb dX11_before_11 (by decide) (fun _ => ?_) (fun c9 => absurd (by decide) c9)
    refine lv_iconst (v := (-1)) hx hb dX11_before_33 (by decide) ?_
    exact RP (v := (-1)) hC (rfl) rfl dX11_before_34
set_option maxHeartbeats 4000000 in
set_option maxRecDepth 100000 in
theorem c_knew (l : Launch) (G : GG) (h0 : Nat) (x1 : Int32) (x2 : Int32) (x3 : Int32) (B : Nat) (K : Nat) (S : Nat) (D : Nat) (R : Nat) (Ta : Nat) (Tp : Nat) (Ro : Nat) (Ho : Nat) (De : Nat) (bpersons : Nat) (bpapers : Nat) (bstamps : Nat) (bversions : Nat) (blines : Nat) (bsteps : Nat) (bsayings : Nat) (bfindings : Nat) (bwarnings : Nat) (bquestions : Nat) (bpersonsc : Nat) : MP l G yX11_knew cX11_knew 5 (some .int) 4 [.ref h0, .int x1, .int x2, .int x3] [(h0, .inr (11, [.ref B, .ref K, .int 0, .ref S, .ref D, .ref R, .ref Ta, .ref Tp, .ref Ro, .ref Ho, .ref De])), (B, .inr (0, [.ref bpersons, .ref bpapers, .ref bstamps, .ref bversions, .ref blines, .ref bsteps, .ref bsayings, .ref bfindings, .ref bwarnings, .ref bquestions, .int 0, .int (-1), .int 3, .int 24])), (bpersons, .inr (8, [.int 10, .int 2, .ref bpersonsc, .int 0]))] (fun r : Int32 => r = (-1)) := by
  refine MP.start (by decide +kernel) (Nat.le_of_ble_eq_true rfl) ?_
  intro p e s m below meth c ls hC hK hP hD hl
  have hl : lv_has ls 5 [(0, .ref h0), (1, .int x1), (2, .int x2), (3, .int x3)] := hl
  obtain ⟨hx, hb, hr, hml, hB, hown, hlocks, hnm⟩ := id hC
  refine lv_aload_n hx hb dX11_knew_0 rfl (lv_at hl 0 rfl) ?_
  refine gf_X11_15 hC rfl hK hP 0 rfl rfl dX11_knew_1 ?_
  refine gf_X11_107 hC rfl hK hP 1 rfl rfl dX11_knew_4 ?_
  refine lv_iload_n hx hb dX11_knew_7 rfl (lv_at hl 1 rfl) ?_
  refine pV hC hK hl hP hD (c_T_has l G bpersons bpersonsc 10 2 0 x1) si_X11_124 [2] rfl rfl (by decide) rfl rfl rfl rfl rfl (Nat.le_of_ble_eq_true rfl) ⟨Nat.le_of_ble_eq_true rfl, Nat.le_of_ble_eq_true rfl⟩ ⟨by first | exact Nat.le_of_ble_eq_true rfl | exact Nat.zero_le _, by first | exact Nat.le_of_ble_eq_true rfl | exact Nat.zero_le _⟩ dX11_knew_8 (fun r262 hr262 => ?_)
  rcases hr262 with ⟨rfl, a263⟩ | ⟨rfl, a263⟩
  · exact absurd a263 (Hs_none _)
  · refine lv_if_eq (tgt := 28) hx hb dX11_knew_11 (by decide) (fun _ => ?_) (fun c9 => absurd (by decide) c9)
    refine lv_iconst (v := (-1)) hx hb dX11_knew_28 (by decide) ?_
    exact RP (v := (-1)) hC (rfl) rfl dX11_knew_29
set_option maxHeartbeats 4000000 in
set_option maxRecDepth 100000 in
theorem c_line (l : Launch) (G : GG) (h0 : Nat) (x1 : Int32) (x2 : Int32) (x3 : Int32) (B : Nat) (K : Nat) (S : Nat) (D : Nat) (R : Nat) (Ta : Nat) (Tp : Nat) (Ro : Nat) (Ho : Nat) (De : Nat) (bpersons : Nat) (bpapers : Nat) (bstamps : Nat) (bversions : Nat) (blines : Nat) (bsteps : Nat) (bsayings : Nat) (bfindings : Nat) (bwarnings : Nat) (bquestions : Nat) (bversionsc : Nat) : MP l G yX11_line cX11_line 5 (some .int) 4 [.ref h0, .int x1, .int x2, .int x3] [(h0, .inr (11, [.ref B, .ref K, .int 0, .ref S, .ref D, .ref R, .ref Ta, .ref Tp, .ref Ro, .ref Ho, .ref De])), (B, .inr (0, [.ref bpersons, .ref bpapers, .ref bstamps, .ref bversions, .ref blines, .ref bsteps, .ref bsayings, .ref bfindings, .ref bwarnings, .ref bquestions, .int 0, .int (-1), .int 3, .int 24])), (bversions, .inr (8, [.int 8, .int 3, .ref bversionsc, .int 0]))] (fun r : Int32 => r = (-9)) := by
  refine MP.start (by decide +kernel) (Nat.le_of_ble_eq_true rfl) ?_
  intro p e s m below meth c ls hC hK hP hD hl
  have hl : lv_has ls 5 [(0, .ref h0), (1, .int x1), (2, .int x2), (3, .int x3)] := hl
  obtain ⟨hx, hb, hr, hml, hB, hown, hlocks, hnm⟩ := id hC
  refine lv_aload_n hx hb dX11_line_0 rfl (lv_at hl 0 rfl) ?_
  refine gf_X11_15 hC rfl hK hP 0 rfl rfl dX11_line_1 ?_
  refine gf_X11_233 hC rfl hK hP 1 rfl rfl dX11_line_4 ?_
  refine lv_iload_n hx hb dX11_line_7 rfl (lv_at hl 1 rfl) ?_
  refine pV hC hK hl hP hD (c_T_has l G bversions bversionsc 8 3 0 x1) si_X11_124 [2] rfl rfl (by decide) rfl rfl rfl rfl rfl (Nat.le_of_ble_eq_true rfl) ⟨Nat.le_of_ble_eq_true rfl, Nat.le_of_ble_eq_true rfl⟩ ⟨by first | exact Nat.le_of_ble_eq_true rfl | exact Nat.zero_le _, by first | exact Nat.le_of_ble_eq_true rfl | exact Nat.zero_le _⟩ dX11_line_8 (fun r264 hr264 => ?_)
  rcases hr264 with ⟨rfl, a265⟩ | ⟨rfl, a265⟩
  · exact absurd a265 (Hs_none _)
  · refine lv_if_eq (tgt := 36) hx hb dX11_line_11 (by decide) (fun _ => ?_) (fun c9 => absurd (by decide) c9)
    refine lv_bipush (v := (-9)) hx hb dX11_line_36 (by decide) ?_
    exact RP (v := (-9)) hC (rfl) rfl dX11_line_38
set_option maxHeartbeats 4000000 in
set_option maxRecDepth 100000 in
theorem c_why (l : Launch) (G : GG) (h0 : Nat) (x1 : Int32) (x2 : Int32) (B : Nat) (K : Nat) (S : Nat) (D : Nat) (R : Nat) (Ta : Nat) (Tp : Nat) (Ro : Nat) (Ho : Nat) (De : Nat) (bpersons : Nat) (bpapers : Nat) (bstamps : Nat) (bversions : Nat) (blines : Nat) (bsteps : Nat) (bsayings : Nat) (bfindings : Nat) (bwarnings : Nat) (bquestions : Nat) (bpersonsc : Nat) : MP l G yX11_why cX11_why 5 (some .int) 4 [.ref h0, .int x1, .int x2] [(h0, .inr (11, [.ref B, .ref K, .int 0, .ref S, .ref D, .ref R, .ref Ta, .ref Tp, .ref Ro, .ref Ho, .ref De])), (B, .inr (0, [.ref bpersons, .ref bpapers, .ref bstamps, .ref bversions, .ref blines, .ref bsteps, .ref bsayings, .ref bfindings, .ref bwarnings, .ref bquestions, .int 0, .int (-1), .int 3, .int 24])), (bpersons, .inr (8, [.int 10, .int 2, .ref bpersonsc, .int 0]))] (fun r : Int32 => r = (-1)) := by
  refine MP.start (by decide +kernel) (Nat.le_of_ble_eq_true rfl) ?_
  intro p e s m below meth c ls hC hK hP hD hl
  have hl : lv_has ls 5 [(0, .ref h0), (1, .int x1), (2, .int x2)] := hl
  obtain ⟨hx, hb, hr, hml, hB, hown, hlocks, hnm⟩ := id hC
  refine lv_aload_n hx hb dX11_why_0 rfl (lv_at hl 0 rfl) ?_
  refine gf_X11_15 hC rfl hK hP 0 rfl rfl dX11_why_1 ?_
  refine gf_X11_107 hC rfl hK hP 1 rfl rfl dX11_why_4 ?_
  refine lv_iload_n hx hb dX11_why_7 rfl (lv_at hl 1 rfl) ?_
  refine pV hC hK hl hP hD (c_T_has l G bpersons bpersonsc 10 2 0 x1) si_X11_124 [2] rfl rfl (by decide) rfl rfl rfl rfl rfl (Nat.le_of_ble_eq_true rfl) ⟨Nat.le_of_ble_eq_true rfl, Nat.le_of_ble_eq_true rfl⟩ ⟨by first | exact Nat.le_of_ble_eq_true rfl | exact Nat.zero_le _, by first | exact Nat.le_of_ble_eq_true rfl | exact Nat.zero_le _⟩ dX11_why_8 (fun r266 hr266 => ?_)
  rcases hr266 with ⟨rfl, a267⟩ | ⟨rfl, a267⟩
  · exact absurd a267 (Hs_none _)
  · refine lv_if_eq (tgt := 21) hx hb dX11_why_11 (by decide) (fun _ => ?_) (fun c9 => absurd (by decide) c9)
    refine lv_iconst (v := (-1)) hx hb dX11_why_21 (by decide) ?_
    exact RP (v := (-1)) hC (rfl) rfl dX11_why_22
set_option maxHeartbeats 4000000 in
set_option maxRecDepth 100000 in
theorem c_saying (l : Launch) (G : GG) (h0 : Nat) (x1 : Int32) (x2 : Int32) (x3 : Int32) (x4 : Int32) (x5 : Int32) (x6 : Int32) (B : Nat) (K : Nat) (S : Nat) (D : Nat) (R : Nat) (Ta : Nat) (Tp : Nat) (Ro : Nat) (Ho : Nat) (De : Nat) (bpersons : Nat) (bpapers : Nat) (bstamps : Nat) (bversions : Nat) (blines : Nat) (bsteps : Nat) (bsayings : Nat) (bfindings : Nat) (bwarnings : Nat) (bquestions : Nat) (bpersonsc : Nat) : MP l G yX11_saying cX11_saying 8 (some .int) 4 [.ref h0, .int x1, .int x2, .int x3, .int x4, .int x5, .int x6] [(h0, .inr (11, [.ref B, .ref K, .int 0, .ref S, .ref D, .ref R, .ref Ta, .ref Tp, .ref Ro, .ref Ho, .ref De])), (B, .inr (0, [.ref bpersons, .ref bpapers, .ref bstamps, .ref bversions, .ref blines, .ref bsteps, .ref bsayings, .ref bfindings, .ref bwarnings, .ref bquestions, .int 0, .int (-1), .int 3, .int 24])), (bpersons, .inr (8, [.int 10, .int 2, .ref bpersonsc, .int 0]))] (fun r : Int32 => r = (-1)) := by
  refine MP.start (by decide +kernel) (Nat.le_of_ble_eq_true rfl) ?_
  intro p e s m below meth c ls hC hK hP hD hl
  have hl : lv_has ls 8 [(0, .ref h0), (1, .int x1), (2, .int x2), (3, .int x3), (4, .int x4), (5, .int x5), (6, .int x6)] := hl
  obtain ⟨hx, hb, hr, hml, hB, hown, hlocks, hnm⟩ := id hC
  refine lv_aload_n hx hb dX11_saying_0 rfl (lv_at hl 0 rfl) ?_
  refine gf_X11_15 hC rfl hK hP 0 rfl rfl dX11_saying_1 ?_
  refine gf_X11_107 hC rfl hK hP 1 rfl rfl dX11_saying_4 ?_
  refine lv_iload_n hx hb dX11_saying_7 rfl (lv_at hl 1 rfl) ?_
  refine pV hC hK hl hP hD (c_T_has l G bpersons bpersonsc 10 2 0 x1) si_X11_124 [2] rfl rfl (by decide) rfl rfl rfl rfl rfl (Nat.le_of_ble_eq_true rfl) ⟨Nat.le_of_ble_eq_true rfl, Nat.le_of_ble_eq_true rfl⟩ ⟨by first | exact Nat.le_of_ble_eq_true rfl | exact Nat.zero_le _, by first | exact Nat.le_of_ble_eq_true rfl | exact Nat.zero_le _⟩ dX11_saying_8 (fun r268 hr268 => ?_)
  rcases hr268 with ⟨rfl, a269⟩ | ⟨rfl, a269⟩
  · exact absurd a269 (Hs_none _)
  · refine lv_if_eq (tgt := 42) hx hb dX11_saying_11 (by decide) (fun _ => ?_) (fun c9 => absurd (by decide) c9)
    refine lv_iconst (v := (-1)) hx hb dX11_saying_42 (by decide) ?_
    exact RP (v := (-1)) hC (rfl) rfl dX11_saying_43
set_option maxHeartbeats 4000000 in
set_option maxRecDepth 100000 in
theorem c_quarrel (l : Launch) (G : GG) (h0 : Nat) (x1 : Int32) (x2 : Int32) (x3 : Int32) (B : Nat) (K : Nat) (S : Nat) (D : Nat) (R : Nat) (Ta : Nat) (Tp : Nat) (Ro : Nat) (Ho : Nat) (De : Nat) (bpersons : Nat) (bpapers : Nat) (bstamps : Nat) (bversions : Nat) (blines : Nat) (bsteps : Nat) (bsayings : Nat) (bfindings : Nat) (bwarnings : Nat) (bquestions : Nat) (bpersonsc : Nat) : MP l G yX11_quarrel cX11_quarrel 5 (some .int) 4 [.ref h0, .int x1, .int x2, .int x3] [(h0, .inr (11, [.ref B, .ref K, .int 0, .ref S, .ref D, .ref R, .ref Ta, .ref Tp, .ref Ro, .ref Ho, .ref De])), (B, .inr (0, [.ref bpersons, .ref bpapers, .ref bstamps, .ref bversions, .ref blines, .ref bsteps, .ref bsayings, .ref bfindings, .ref bwarnings, .ref bquestions, .int 0, .int (-1), .int 3, .int 24])), (bpersons, .inr (8, [.int 10, .int 2, .ref bpersonsc, .int 0]))] (fun r : Int32 => r = (-1)) := by
  refine MP.start (by decide +kernel) (Nat.le_of_ble_eq_true rfl) ?_
  intro p e s m below meth c ls hC hK hP hD hl
  have hl : lv_has ls 5 [(0, .ref h0), (1, .int x1), (2, .int x2), (3, .int x3)] := hl
  obtain ⟨hx, hb, hr, hml, hB, hown, hlocks, hnm⟩ := id hC
  refine lv_aload_n hx hb dX11_quarrel_0 rfl (lv_at hl 0 rfl) ?_
  refine gf_X11_15 hC rfl hK hP 0 rfl rfl dX11_quarrel_1 ?_
  refine gf_X11_107 hC rfl hK hP 1 rfl rfl dX11_quarrel_4 ?_
  refine lv_iload_n hx hb dX11_quarrel_7 rfl (lv_at hl 1 rfl) ?_
  refine pV hC hK hl hP hD (c_T_has l G bpersons bpersonsc 10 2 0 x1) si_X11_124 [2] rfl rfl (by decide) rfl rfl rfl rfl rfl (Nat.le_of_ble_eq_true rfl) ⟨Nat.le_of_ble_eq_true rfl, Nat.le_of_ble_eq_true rfl⟩ ⟨by first | exact Nat.le_of_ble_eq_true rfl | exact Nat.zero_le _, by first | exact Nat.le_of_ble_eq_true rfl | exact Nat.zero_le _⟩ dX11_quarrel_8 (fun r270 hr270 => ?_)
  rcases hr270 with ⟨rfl, a271⟩ | ⟨rfl, a271⟩
  · exact absurd a271 (Hs_none _)
  · refine lv_if_eq (tgt := 37) hx hb dX11_quarrel_11 (by decide) (fun _ => ?_) (fun c9 => absurd (by decide) c9)
    refine lv_iconst (v := (-1)) hx hb dX11_quarrel_37 (by decide) ?_
    exact RP (v := (-1)) hC (rfl) rfl dX11_quarrel_38
set_option maxHeartbeats 4000000 in
set_option maxRecDepth 100000 in
theorem c_finding (l : Launch) (G : GG) (h0 : Nat) (x1 : Int32) (x2 : Int32) (x3 : Int32) (x4 : Int32) (B : Nat) (K : Nat) (S : Nat) (D : Nat) (R : Nat) (Ta : Nat) (Tp : Nat) (Ro : Nat) (Ho : Nat) (De : Nat) (bpersons : Nat) (bpapers : Nat) (bstamps : Nat) (bversions : Nat) (blines : Nat) (bsteps : Nat) (bsayings : Nat) (bfindings : Nat) (bwarnings : Nat) (bquestions : Nat) (bpersonsc : Nat) : MP l G yX11_finding cX11_finding 6 (some .int) 4 [.ref h0, .int x1, .int x2, .int x3, .int x4] [(h0, .inr (11, [.ref B, .ref K, .int 0, .ref S, .ref D, .ref R, .ref Ta, .ref Tp, .ref Ro, .ref Ho, .ref De])), (B, .inr (0, [.ref bpersons, .ref bpapers, .ref bstamps, .ref bversions, .ref blines, .ref bsteps, .ref bsayings, .ref bfindings, .ref bwarnings, .ref bquestions, .int 0, .int (-1), .int 3, .int 24])), (bpersons, .inr (8, [.int 10, .int 2, .ref bpersonsc, .int 0]))] (fun r : Int32 => r = (-1)) := by
  refine MP.start (by decide +kernel) (Nat.le_of_ble_eq_true rfl) ?_
  intro p e s m below meth c ls hC hK hP hD hl
  have hl : lv_has ls 6 [(0, .ref h0), (1, .int x1), (2, .int x2), (3, .int x3), (4, .int x4)] := hl
  obtain ⟨hx, hb, hr, hml, hB, hown, hlocks, hnm⟩ := id hC
  refine lv_aload_n hx hb dX11_finding_0 rfl (lv_at hl 0 rfl) ?_
  refine gf_X11_15 hC rfl hK hP 0 rfl rfl dX11_finding_1 ?_
  refine gf_X11_107 hC rfl hK hP 1 rfl rfl dX11_finding_4 ?_
  refine lv_iload_n hx hb dX11_finding_7 rfl (lv_at hl 1 rfl) ?_
  refine pV hC hK hl hP hD (c_T_has l G bpersons bpersonsc 10 2 0 x1) si_X11_124 [2] rfl rfl (by decide) rfl rfl rfl rfl rfl (Nat.le_of_ble_eq_true rfl) ⟨Nat.le_of_ble_eq_true rfl, Nat.le_of_ble_eq_true rfl⟩ ⟨by first | exact Nat.le_of_ble_eq_true rfl | exact Nat.zero_le _, by first | exact Nat.le_of_ble_eq_true rfl | exact Nat.zero_le _⟩ dX11_finding_8 (fun r272 hr272 => ?_)
  rcases hr272 with ⟨rfl, a273⟩ | ⟨rfl, a273⟩
  · exact absurd a273 (Hs_none _)
  · refine lv_if_eq (tgt := 40) hx hb dX11_finding_11 (by decide) (fun _ => ?_) (fun c9 => absurd (by decide) c9)
    refine lv_iconst (v := (-1)) hx hb dX11_finding_40 (by decide) ?_
    exact RP (v := (-1)) hC (rfl) rfl dX11_finding_41
set_option maxHeartbeats 4000000 in
set_option maxRecDepth 100000 in
theorem c_findingOf (l : Launch) (G : GG) (h0 : Nat) (x1 : Int32) (x2 : Int32) (B : Nat) (K : Nat) (S : Nat) (D : Nat) (R : Nat) (Ta : Nat) (Tp : Nat) (Ro : Nat) (Ho : Nat) (De : Nat) (bpersons : Nat) (bpapers : Nat) (bstamps : Nat) (bversions : Nat) (blines : Nat) (bsteps : Nat) (bsayings : Nat) (bfindings : Nat) (bwarnings : Nat) (bquestions : Nat) (bfindingsc : Nat) : MP l G yX11_findingOf cX11_findingOf 4 (some .int) 4 [.ref h0, .int x1, .int x2] [(h0, .inr (11, [.ref B, .ref K, .int 0, .ref S, .ref D, .ref R, .ref Ta, .ref Tp, .ref Ro, .ref Ho, .ref De])), (B, .inr (0, [.ref bpersons, .ref bpapers, .ref bstamps, .ref bversions, .ref blines, .ref bsteps, .ref bsayings, .ref bfindings, .ref bwarnings, .ref bquestions, .int 0, .int (-1), .int 3, .int 24])), (bfindings, .inr (8, [.int 12, .int 4, .ref bfindingsc, .int 0]))] (fun r : Int32 => r = (-1)) := by
  refine MP.start (by decide +kernel) (Nat.le_of_ble_eq_true rfl) ?_
  intro p e s m below meth c ls hC hK hP hD hl
  have hl : lv_has ls 4 [(0, .ref h0), (1, .int x1), (2, .int x2)] := hl
  obtain ⟨hx, hb, hr, hml, hB, hown, hlocks, hnm⟩ := id hC
  refine lv_aload_n hx hb dX11_findingOf_0 rfl (lv_at hl 0 rfl) ?_
  refine gf_X11_15 hC rfl hK hP 0 rfl rfl dX11_findingOf_1 ?_
  refine gf_X11_271 hC rfl hK hP 1 rfl rfl dX11_findingOf_4 ?_
  refine lv_iload_n hx hb dX11_findingOf_7 rfl (lv_at hl 1 rfl) ?_
  refine pV hC hK hl hP hD (c_T_has l G bfindings bfindingsc 12 4 0 x1) si_X11_124 [2] rfl rfl (by decide) rfl rfl rfl rfl rfl (Nat.le_of_ble_eq_true rfl) ⟨Nat.le_of_ble_eq_true rfl, Nat.le_of_ble_eq_true rfl⟩ ⟨by first | exact Nat.le_of_ble_eq_true rfl | exact Nat.zero_le _, by first | exact Nat.le_of_ble_eq_true rfl | exact Nat.zero_le _⟩ dX11_findingOf_8 (fun r274 hr274 => ?_)
  rcases hr274 with ⟨rfl, a275⟩ | ⟨rfl, a275⟩
  · exact absurd a275 (Hs_none _)
  · refine lv_if_ne (tgt := 16) hx hb dX11_findingOf_11 (by decide) (fun c9 => absurd (by decide) c9) (fun _ => ?_)
    refine lv_iconst (v := (-1)) hx hb dX11_findingOf_14 (by decide) ?_
    exact RP (v := (-1)) hC (rfl) rfl dX11_findingOf_15
set_option maxHeartbeats 4000000 in
set_option maxRecDepth 100000 in
theorem c_warn (l : Launch) (G : GG) (h0 : Nat) (x1 : Int32) (x2 : Int32) (B : Nat) (K : Nat) (S : Nat) (D : Nat) (R : Nat) (Ta : Nat) (Tp : Nat) (Ro : Nat) (Ho : Nat) (De : Nat) (bpersons : Nat) (bpapers : Nat) (bstamps : Nat) (bversions : Nat) (blines : Nat) (bsteps : Nat) (bsayings : Nat) (bfindings : Nat) (bwarnings : Nat) (bquestions : Nat) (bpersonsc : Nat) : MP l G yX11_warn cX11_warn 4 (some .int) 4 [.ref h0, .int x1, .int x2] [(h0, .inr (11, [.ref B, .ref K, .int 0, .ref S, .ref D, .ref R, .ref Ta, .ref Tp, .ref Ro, .ref Ho, .ref De])), (B, .inr (0, [.ref bpersons, .ref bpapers, .ref bstamps, .ref bversions, .ref blines, .ref bsteps, .ref bsayings, .ref bfindings, .ref bwarnings, .ref bquestions, .int 0, .int (-1), .int 3, .int 24])), (bpersons, .inr (8, [.int 10, .int 2, .ref bpersonsc, .int 0]))] (fun r : Int32 => r = (-1)) := by
  refine MP.start (by decide +kernel) (Nat.le_of_ble_eq_true rfl) ?_
  intro p e s m below meth c ls hC hK hP hD hl
  have hl : lv_has ls 4 [(0, .ref h0), (1, .int x1), (2, .int x2)] := hl
  obtain ⟨hx, hb, hr, hml, hB, hown, hlocks, hnm⟩ := id hC
  refine lv_aload_n hx hb dX11_warn_0 rfl (lv_at hl 0 rfl) ?_
  refine gf_X11_15 hC rfl hK hP 0 rfl rfl dX11_warn_1 ?_
  refine gf_X11_107 hC rfl hK hP 1 rfl rfl dX11_warn_4 ?_
  refine lv_iload_n hx hb dX11_warn_7 rfl (lv_at hl 1 rfl) ?_
  refine pV hC hK hl hP hD (c_T_has l G bpersons bpersonsc 10 2 0 x1) si_X11_124 [2] rfl rfl (by decide) rfl rfl rfl rfl rfl (Nat.le_of_ble_eq_true rfl) ⟨Nat.le_of_ble_eq_true rfl, Nat.le_of_ble_eq_true rfl⟩ ⟨by first | exact Nat.le_of_ble_eq_true rfl | exact Nat.zero_le _, by first | exact Nat.le_of_ble_eq_true rfl | exact Nat.zero_le _⟩ dX11_warn_8 (fun r276 hr276 => ?_)
  rcases hr276 with ⟨rfl, a277⟩ | ⟨rfl, a277⟩
  · exact absurd a277 (Hs_none _)
  · refine lv_if_eq (tgt := 28) hx hb dX11_warn_11 (by decide) (fun _ => ?_) (fun c9 => absurd (by decide) c9)
    refine lv_iconst (v := (-1)) hx hb dX11_warn_28 (by decide) ?_
    exact RP (v := (-1)) hC (rfl) rfl dX11_warn_29
set_option maxHeartbeats 4000000 in
set_option maxRecDepth 100000 in
theorem c_gap (l : Launch) (G : GG) (h0 : Nat) (n : Int32) (B : Nat) (K : Nat) (S : Nat) (D : Nat) (R : Nat) (Ta : Nat) (Tp : Nat) (Ro : Nat) (Ho : Nat) (De : Nat) (bpersons : Nat) (bpapers : Nat) (bstamps : Nat) (bversions : Nat) (blines : Nat) (bsteps : Nat) (bsayings : Nat) (bfindings : Nat) (bwarnings : Nat) (bquestions : Nat) : MI l G yX11_gap cX11_gap 3 (some .int) 3 0 0 [.ref h0, .int n] [(h0, .inr (11, [.ref B, .ref K, .int 0, .ref S, .ref D, .ref R, .ref Ta, .ref Tp, .ref Ro, .ref Ho, .ref De])), (B, .inr (0, [.ref bpersons, .ref bpapers, .ref bstamps, .ref bversions, .ref blines, .ref bsteps, .ref bsayings, .ref bfindings, .ref bwarnings, .ref bquestions, .int 0, .int (-1), .int 3, .int 24]))] (fun (r : Int32) (u : Unit) => (r = A_gap n)) (fun u : Unit => []) := by
  refine MI.start (by decide +kernel) (Nat.le_of_ble_eq_true rfl) ?_
  intro p e s m below meth c A ls hC hK hP hD hS hA hl
  have hl : lv_has ls 3 [(0, .ref h0), (1, .int n)] := hl
  obtain ⟨hx, hb, hr, hml, hB, hown, hlocks, hnm⟩ := id hC
  refine lv_iload_n hx hb dX11_gap_0 rfl (lv_at hl 1 rfl) ?_
  refine lv_iconst (v := 0) hx hb dX11_gap_1 (by decide) ?_
  refine lv_bipush (v := 99) hx hb dX11_gap_2 (by decide) ?_
  refine pS hC hK hl (c_within l G n 0 99) si_X11_83 rfl rfl (Nat.le_of_ble_eq_true rfl) ⟨Nat.le_of_ble_eq_true rfl, Nat.le_of_ble_eq_true rfl⟩ ⟨by first | exact Nat.le_of_ble_eq_true rfl | exact Nat.zero_le _, by first | exact Nat.le_of_ble_eq_true rfl | exact Nat.zero_le _⟩ dX11_gap_4 (fun r278 hr278 => ?_)
  rcases hr278 with ⟨rfl, a279⟩ | ⟨rfl, a279⟩
  · refine lv_if_ne (tgt := 12) hx hb dX11_gap_7 (by decide) (fun _ => ?_) (fun c9 => absurd c9 (by decide))
    refine lv_aload_n hx hb dX11_gap_12 rfl (lv_at hl 0 rfl) ?_
    refine gf_X11_15 hC rfl hK hP 0 rfl rfl dX11_gap_13 ?_
    refine gf_X11_177 hC rfl hK hP 1 rfl rfl dX11_gap_16 ?_
    refine lv_istore_n (lv' := [(2, .int 24), (0, .ref h0), (1, .int n)]) hx hb dX11_gap_19 rfl hl (by decide) rfl (fun ls hl => ?_)
    refine lv_aload_n hx hb dX11_gap_20 rfl (lv_at hl 1 rfl) ?_
    refine gf_X11_15 hC rfl hK hP 0 rfl rfl dX11_gap_21 ?_
    refine lv_iload_n hx hb dX11_gap_24 rfl (lv_at hl 2 rfl) ?_
    refine pf_X11_177 hC rfl hK hP hD hS 1 (ws' := [(h0, .inr (11, [.ref B, .ref K, .int 0, .ref S, .ref D, .ref R, .ref Ta, .ref Tp, .ref Ro, .ref Ho, .ref De])), (B, .inr (0, [.ref bpersons, .ref bpapers, .ref bstamps, .ref bversions, .ref blines, .ref bsteps, .ref bsayings, .ref bfindings, .ref bwarnings, .ref bquestions, .int 0, .int (-1), .int 3, .int n]))]) rfl (Nat.le_of_ble_eq_true rfl) rfl rfl rfl dX11_gap_25 (fun H locs hP hD hS => ?_)
    refine lv_iload_n hx hb dX11_gap_28 rfl (lv_at hl 0 rfl) ?_
    exact RI (v := 24) hC hP hD hS [] () rfl rfl (by decide) ((by unfold A_gap; first | rfl | (simp only [ifc_t a279]; done) | (simp only [ifc_t a279]; rfl))) rfl dX11_gap_29
  · refine lv_if_ne (tgt := 12) hx hb dX11_gap_7 (by decide) (fun c9 => absurd (by decide) c9) (fun _ => ?_)
    refine lv_iconst (v := (-1)) hx hb dX11_gap_10 (by decide) ?_
    exact RI (v := (-1)) hC hP hD hS [] () rfl rfl (by decide) ((by unfold A_gap; first | rfl | (simp only [ifc_f a279]; done) | (simp only [ifc_f a279]; rfl))) rfl dX11_gap_11
set_option maxHeartbeats 4000000 in
set_option maxRecDepth 100000 in
theorem c_question (l : Launch) (G : GG) (h0 : Nat) (dy : Int32) (th : Int32) (B : Nat) (K : Nat) (S : Nat) (D : Nat) (R : Nat) (Ta : Nat) (Tp : Nat) (Ro : Nat) (Ho : Nat) (De : Nat) (bpersons : Nat) (bpapers : Nat) (bstamps : Nat) (bversions : Nat) (blines : Nat) (bsteps : Nat) (bsayings : Nat) (bfindings : Nat) (bwarnings : Nat) (bquestions : Nat) (bquestionsc : Nat) : MI l G yX11_question cX11_question 4 (some .int) 4 0 0 [.ref h0, .int dy, .int th] [(h0, .inr (11, [.ref B, .ref K, .int 0, .ref S, .ref D, .ref R, .ref Ta, .ref Tp, .ref Ro, .ref Ho, .ref De])), (B, .inr (0, [.ref bpersons, .ref bpapers, .ref bstamps, .ref bversions, .ref blines, .ref bsteps, .ref bsayings, .ref bfindings, .ref bwarnings, .ref bquestions, .int 0, .int (-1), .int 3, .int 24])), (bquestions, .inr (8, [.int 7, .int 2, .ref bquestionsc, .int 0])), (bquestionsc, .inl (G.2.1, 14, .inl (fun _ => 0)))] (fun (r : Int32) (u : Unit) => (r = A_question dy th)) (fun u : Unit => []) := by
  refine MI.start (by decide +kernel) (Nat.le_of_ble_eq_true rfl) ?_
  intro p e s m below meth c A ls hC hK hP hD hS hA hl
  have hl : lv_has ls 4 [(0, .ref h0), (1, .int dy), (2, .int th)] := hl
  obtain ⟨hx, hb, hr, hml, hB, hown, hlocks, hnm⟩ := id hC
  refine lv_iload_n hx hb dX11_question_0 rfl (lv_at hl 1 rfl) ?_
  refine lv_iconst (v := 1) hx hb dX11_question_1 (by decide) ?_
  refine lv_bipush (v := 9) hx hb dX11_question_2 (by decide) ?_
  refine pS hC hK hl (c_within l G dy 1 9) si_X11_83 rfl rfl (Nat.le_of_ble_eq_true rfl) ⟨Nat.le_of_ble_eq_true rfl, Nat.le_of_ble_eq_true rfl⟩ ⟨by first | exact Nat.le_of_ble_eq_true rfl | exact Nat.zero_le _, by first | exact Nat.le_of_ble_eq_true rfl | exact Nat.zero_le _⟩ dX11_question_4 (fun r280 hr280 => ?_)
  rcases hr280 with ⟨rfl, a281⟩ | ⟨rfl, a281⟩
  · refine lv_if_eq (tgt := 21) hx hb dX11_question_7 (by decide) (fun c9 => absurd c9 (by decide)) (fun _ => ?_)
    refine lv_iload_n hx hb dX11_question_10 rfl (lv_at hl 2 rfl) ?_
    refine lv_iconst (v := 0) hx hb dX11_question_11 (by decide) ?_
    refine lv_sipush (v := 255) hx hb dX11_question_12 (by decide) ?_
    refine pS hC hK hl (c_within l G th 0 255) si_X11_83 rfl rfl (Nat.le_of_ble_eq_true rfl) ⟨Nat.le_of_ble_eq_true rfl, Nat.le_of_ble_eq_true rfl⟩ ⟨by first | exact Nat.le_of_ble_eq_true rfl | exact Nat.zero_le _, by first | exact Nat.le_of_ble_eq_true rfl | exact Nat.zero_le _⟩ dX11_question_15 (fun r282 hr282 => ?_)
    rcases hr282 with ⟨rfl, a283⟩ | ⟨rfl, a283⟩
    · refine lv_if_ne (tgt := 23) hx hb dX11_question_18 (by decide) (fun _ => ?_) (fun c9 => absurd c9 (by decide))
      refine lv_aload_n hx hb dX11_question_23 rfl (lv_at hl 0 rfl) ?_
      refine gf_X11_15 hC rfl hK hP 0 rfl rfl dX11_question_24 ?_
      refine gf_X11_286 hC rfl hK hP 1 rfl rfl dX11_question_27 ?_
      refine pV hC hK hl hP hD (c_T_isFull l G bquestions bquestionsc 7 2 0) si_X11_111 [2] rfl rfl (by decide) rfl rfl rfl rfl rfl (Nat.le_of_ble_eq_true rfl) ⟨Nat.le_of_ble_eq_true rfl, Nat.le_of_ble_eq_true rfl⟩ ⟨by first | exact Nat.le_of_ble_eq_true rfl | exact Nat.zero_le _, by first | exact Nat.le_of_ble_eq_true rfl | exact Nat.zero_le _⟩ dX11_question_30 (fun r284 hr284 => ?_)
      rcases hr284 with ⟨rfl, a285⟩ | ⟨rfl, a285⟩
      · exact absurd a285 (by decide)
      · refine lv_if_eq (tgt := 39) hx hb dX11_question_33 (by decide) (fun _ => ?_) (fun c9 => absurd (by decide) c9)
        refine lv_aload_n hx hb dX11_question_39 rfl (lv_at hl 0 rfl) ?_
        refine gf_X11_15 hC rfl hK hP 0 rfl rfl dX11_question_40 ?_
        refine gf_X11_286 hC rfl hK hP 1 rfl rfl dX11_question_43 ?_
        refine iV (wr := [(h0, .inr (11, [.ref B, .ref K, .int 0, .ref S, .ref D, .ref R, .ref Ta, .ref Tp, .ref Ro, .ref Ho, .ref De])), (B, .inr (0, [.ref bpersons, .ref bpapers, .ref bstamps, .ref bversions, .ref blines, .ref bsteps, .ref bsayings, .ref bfindings, .ref bwarnings, .ref bquestions, .int 0, .int (-1), .int 3, .int 24])), (bquestionsc, .inl (G.2.1, 14, .inl (fun _ => 0)))]) hC hK hl hP hD hS hA (c_T_append0 l G bquestions 7 2 bquestionsc (by decide)) si_X11_117 [2] [0, 1, 3] rfl rfl (by decide) rfl (by decide) (by decide) rfl rfl rfl rfl rfl (Nat.le_of_ble_eq_true rfl) ⟨Nat.le_of_ble_eq_true rfl, Nat.le_of_ble_eq_true rfl⟩ ⟨Nat.le_of_ble_eq_true rfl, Nat.le_of_ble_eq_true rfl⟩ dX11_question_46 (fun r286 u287 H locs hr286 hP hD hS => ?_)
        have hP : va_P G.1 vwCl [(h0, .inr (11, [.ref B, .ref K, .int 0, .ref S, .ref D, .ref R, .ref Ta, .ref Tp, .ref Ro, .ref Ho, .ref De])), (B, .inr (0, [.ref bpersons, .ref bpapers, .ref bstamps, .ref bversions, .ref blines, .ref bsteps, .ref bsayings, .ref bfindings, .ref bwarnings, .ref bquestions, .int 0, .int (-1), .int 3, .int 24])), (bquestionsc, .inl (G.2.1, 14, .inl (fun _ => 0))), (bquestions, .inr (8, [.int 7, .int 2, .ref bquestionsc, .int 1]))] H := hP
        have hD : va_D A [(h0, .inr (11, [.ref B, .ref K, .int 0, .ref S, .ref D, .ref R, .ref Ta, .ref Tp, .ref Ro, .ref Ho, .ref De])), (B, .inr (0, [.ref bpersons, .ref bpapers, .ref bstamps, .ref bversions, .ref blines, .ref bsteps, .ref bsayings, .ref bfindings, .ref bwarnings, .ref bquestions, .int 0, .int (-1), .int 3, .int 24])), (bquestionsc, .inl (G.2.1, 14, .inl (fun _ => 0))), (bquestions, .inr (8, [.int 7, .int 2, .ref bquestionsc, .int 1]))] := hD
        obtain rfl := hr286
        refine lv_istore_n (lv' := [(3, .int 0), (0, .ref h0), (1, .int dy), (2, .int th)]) hx hb dX11_question_49 rfl hl (by decide) rfl (fun ls hl => ?_)
        refine lv_aload_n hx hb dX11_question_50 rfl (lv_at hl 1 rfl) ?_
        refine gf_X11_15 hC rfl hK hP 0 rfl rfl dX11_question_51 ?_
        refine gf_X11_286 hC rfl hK hP 1 rfl rfl dX11_question_54 ?_
        refine lv_iload_n hx hb dX11_question_57 rfl (lv_at hl 0 rfl) ?_
        refine lv_iconst (v := 0) hx hb dX11_question_58 (by decide) ?_
        refine lv_iload_n hx hb dX11_question_59 rfl (lv_at hl 2 rfl) ?_
        refine vV (wr := [(h0, .inr (11, [.ref B, .ref K, .int 0, .ref S, .ref D, .ref R, .ref Ta, .ref Tp, .ref Ro, .ref Ho, .ref De])), (B, .inr (0, [.ref bpersons, .ref bpapers, .ref bstamps, .ref bversions, .ref blines, .ref bsteps, .ref bsayings, .ref bfindings, .ref bwarnings, .ref bquestions, .int 0, .int (-1), .int 3, .int 24]))]) hC hK hl hP hD hS hA (c_T_set_2_14_0 l G bquestions dy 7 bquestionsc (fun _ => 0)) si_X11_120 [3, 2] [0, 1] rfl rfl (by decide) rfl (by decide) (by decide) rfl rfl rfl rfl rfl (Nat.le_of_ble_eq_true rfl) ⟨Nat.le_of_ble_eq_true rfl, Nat.le_of_ble_eq_true rfl⟩ ⟨Nat.le_of_ble_eq_true rfl, Nat.le_of_ble_eq_true rfl⟩ dX11_question_60 (fun u290 H locs hr289 hP hD hS => ?_)
        have hP : va_P G.1 vwCl [(h0, .inr (11, [.ref B, .ref K, .int 0, .ref S, .ref D, .ref R, .ref Ta, .ref Tp, .ref Ro, .ref Ho, .ref De])), (B, .inr (0, [.ref bpersons, .ref bpapers, .ref bstamps, .ref bversions, .ref blines, .ref bsteps, .ref bsayings, .ref bfindings, .ref bwarnings, .ref bquestions, .int 0, .int (-1), .int 3, .int 24])), (bquestions, .inr (8, [.int 7, .int 2, .ref bquestionsc, .int 1])), (bquestionsc, .inl (G.2.1, 14, .inl (upd (fun _ => 0) 0 dy)))] H := hP
        have hD : va_D A [(h0, .inr (11, [.ref B, .ref K, .int 0, .ref S, .ref D, .ref R, .ref Ta, .ref Tp, .ref Ro, .ref Ho, .ref De])), (B, .inr (0, [.ref bpersons, .ref bpapers, .ref bstamps, .ref bversions, .ref blines, .ref bsteps, .ref bsayings, .ref bfindings, .ref bwarnings, .ref bquestions, .int 0, .int (-1), .int 3, .int 24])), (bquestions, .inr (8, [.int 7, .int 2, .ref bquestionsc, .int 1])), (bquestionsc, .inl (G.2.1, 14, .inl (upd (fun _ => 0) 0 dy)))] := hD
        refine lv_aload_n hx hb dX11_question_63 rfl (lv_at hl 1 rfl) ?_
        refine gf_X11_15 hC rfl hK hP 0 rfl rfl dX11_question_64 ?_
        refine gf_X11_286 hC rfl hK hP 1 rfl rfl dX11_question_67 ?_
        refine lv_iload_n hx hb dX11_question_70 rfl (lv_at hl 0 rfl) ?_
        refine lv_iconst (v := 1) hx hb dX11_question_71 (by decide) ?_
        refine lv_iload_n hx hb dX11_question_72 rfl (lv_at hl 3 rfl) ?_
        refine vV (wr := [(h0, .inr (11, [.ref B, .ref K, .int 0, .ref S, .ref D, .ref R, .ref Ta, .ref Tp, .ref Ro, .ref Ho, .ref De])), (B, .inr (0, [.ref bpersons, .ref bpapers, .ref bstamps, .ref bversions, .ref blines, .ref bsteps, .ref bsayings, .ref bfindings, .ref bwarnings, .ref bquestions, .int 0, .int (-1), .int 3, .int 24]))]) hC hK hl hP hD hS hA (c_T_set_2_14_1 l G bquestions th 7 bquestionsc (upd (fun _ => 0) 0 dy)) si_X11_120 [2, 3] [0, 1] rfl rfl (by decide) rfl (by decide) (by decide) rfl rfl rfl rfl rfl (Nat.le_of_ble_eq_true rfl) ⟨Nat.le_of_ble_eq_true rfl, Nat.le_of_ble_eq_true rfl⟩ ⟨Nat.le_of_ble_eq_true rfl, Nat.le_of_ble_eq_true rfl⟩ dX11_question_73 (fun u292 H locs hr291 hP hD hS => ?_)
        have hP : va_P G.1 vwCl [(h0, .inr (11, [.ref B, .ref K, .int 0, .ref S, .ref D, .ref R, .ref Ta, .ref Tp, .ref Ro, .ref Ho, .ref De])), (B, .inr (0, [.ref bpersons, .ref bpapers, .ref bstamps, .ref bversions, .ref blines, .ref bsteps, .ref bsayings, .ref bfindings, .ref bwarnings, .ref bquestions, .int 0, .int (-1), .int 3, .int 24])), (bquestions, .inr (8, [.int 7, .int 2, .ref bquestionsc, .int 1])), (bquestionsc, .inl (G.2.1, 14, .inl (upd (upd (fun _ => 0) 0 dy) 1 th)))] H := hP
        have hD : va_D A [(h0, .inr (11, [.ref B, .ref K, .int 0, .ref S, .ref D, .ref R, .ref Ta, .ref Tp, .ref Ro, .ref Ho, .ref De])), (B, .inr (0, [.ref bpersons, .ref bpapers, .ref bstamps, .ref bversions, .ref blines, .ref bsteps, .ref bsayings, .ref bfindings, .ref bwarnings, .ref bquestions, .int 0, .int (-1), .int 3, .int 24])), (bquestions, .inr (8, [.int 7, .int 2, .ref bquestionsc, .int 1])), (bquestionsc, .inl (G.2.1, 14, .inl (upd (upd (fun _ => 0) 0 dy) 1 th)))] := hD
        refine lv_iload_n hx hb dX11_question_76 rfl (lv_at hl 0 rfl) ?_
        exact RI (v := 0) hC hP hD hS [] () rfl rfl (by decide) ((by unfold A_question; first | rfl | (simp only [ifc_t a281, ifc_t a283, ifc_f a285]; done) | (simp only [ifc_t a281, ifc_t a283, ifc_f a285]; rfl))) rfl dX11_question_77
    · refine lv_if_ne (tgt := 23) hx hb dX11_question_18 (by decide) (fun c9 => absurd (by decide) c9) (fun _ => ?_)
      refine lv_iconst (v := (-1)) hx hb dX11_question_21 (by decide) ?_
      exact RI (v := (-1)) hC hP hD hS [] () rfl rfl (by decide) ((by unfold A_question; first | rfl | (simp only [ifc_t a281, ifc_f a283]; done) | (simp only [ifc_t a281, ifc_f a283]; rfl))) rfl dX11_question_22
  · refine lv_if_eq (tgt := 21) hx hb dX11_question_7 (by decide) (fun _ => ?_) (fun c9 => absurd (by decide) c9)
    refine lv_iconst (v := (-1)) hx hb dX11_question_21 (by decide) ?_
    exact RI (v := (-1)) hC hP hD hS [] () rfl rfl (by decide) ((by unfold A_question; first | rfl | (simp only [ifc_f a281]; done) | (simp only [ifc_f a281]; rfl))) rfl dX11_question_22
set_option maxHeartbeats 4000000 in
set_option maxRecDepth 100000 in
theorem c_round (l : Launch) (G : GG) (h0 : Nat) (q : Int32) (B : Nat) (K : Nat) (S : Nat) (D : Nat) (R : Nat) (Ta : Nat) (Tp : Nat) (Ro : Nat) (Ho : Nat) (De : Nat) (bpersons : Nat) (bpapers : Nat) (bstamps : Nat) (bversions : Nat) (blines : Nat) (bsteps : Nat) (bsayings : Nat) (bfindings : Nat) (bwarnings : Nat) (bquestions : Nat) (bquestionsc : Nat) : MP l G yX11_round cX11_round 2 (some .int) 4 [.ref h0, .int q] [(h0, .inr (11, [.ref B, .ref K, .int 0, .ref S, .ref D, .ref R, .ref Ta, .ref Tp, .ref Ro, .ref Ho, .ref De])), (B, .inr (0, [.ref bpersons, .ref bpapers, .ref bstamps, .ref bversions, .ref blines, .ref bsteps, .ref bsayings, .ref bfindings, .ref bwarnings, .ref bquestions, .int 0, .int (-1), .int 3, .int 24])), (bquestions, .inr (8, [.int 7, .int 2, .ref bquestionsc, .int 0]))] (fun r : Int32 => r = A_round q) := by
  refine MP.start (by decide +kernel) (Nat.le_of_ble_eq_true rfl) ?_
  intro p e s m below meth c ls hC hK hP hD hl
  have hl : lv_has ls 2 [(0, .ref h0), (1, .int q)] := hl
  obtain ⟨hx, hb, hr, hml, hB, hown, hlocks, hnm⟩ := id hC
  refine lv_aload_n hx hb dX11_round_0 rfl (lv_at hl 0 rfl) ?_
  refine gf_X11_15 hC rfl hK hP 0 rfl rfl dX11_round_1 ?_
  refine gf_X11_286 hC rfl hK hP 1 rfl rfl dX11_round_4 ?_
  refine lv_iload_n hx hb dX11_round_7 rfl (lv_at hl 1 rfl) ?_
  refine pV hC hK hl hP hD (c_T_hasAll0 l G bquestions q 7 2 bquestionsc) si_X11_141 [2] rfl rfl (by decide) rfl rfl rfl rfl rfl (Nat.le_of_ble_eq_true rfl) ⟨Nat.le_of_ble_eq_true rfl, Nat.le_of_ble_eq_true rfl⟩ ⟨by first | exact Nat.le_of_ble_eq_true rfl | exact Nat.zero_le _, by first | exact Nat.le_of_ble_eq_true rfl | exact Nat.zero_le _⟩ dX11_round_8 (fun r293 hr293 => ?_)
  rcases hr293 with ⟨rfl, a294⟩ | ⟨rfl, a294⟩
  · refine lv_if_ne (tgt := 16) hx hb dX11_round_11 (by decide) (fun _ => ?_) (fun c9 => absurd c9 (by decide))
    refine lv_iload_n hx hb dX11_round_16 rfl (lv_at hl 1 rfl) ?_
    refine lv_if_ne (tgt := 23) hx hb dX11_round_17 (by decide) (fun c9 => absurd (a294) c9) (fun _ => ?_)
    refine lv_bipush (v := (-3)) hx hb dX11_round_20 (by decide) ?_
    exact RP (v := (-3)) hC ((by unfold A_round; first | rfl | (simp only [ifc_t a294]; done) | (simp only [ifc_t a294]; rfl))) rfl dX11_round_22
  · refine lv_if_ne (tgt := 16) hx hb dX11_round_11 (by decide) (fun c9 => absurd (by decide) c9) (fun _ => ?_)
    refine lv_iconst (v := (-1)) hx hb dX11_round_14 (by decide) ?_
    exact RP (v := (-1)) hC ((by unfold A_round; first | rfl | (simp only [ifc_f a294]; done) | (simp only [ifc_f a294]; rfl))) rfl dX11_round_15
set_option maxHeartbeats 4000000 in
set_option maxRecDepth 100000 in
theorem c_row (l : Launch) (G : GG) (h0 : Nat) (x1 : Int32) (x2 : Int32) (B : Nat) (K : Nat) (S : Nat) (D : Nat) (R : Nat) (Ta : Nat) (Tp : Nat) (Ro : Nat) (Ho : Nat) (De : Nat) (rr : Nat) (tc : Nat) (rrc : Nat) : MP l G yX11_row cX11_row 3 (some .int) 4 [.ref h0, .int x1, .int x2] [(h0, .inr (11, [.ref B, .ref K, .int 0, .ref S, .ref D, .ref R, .ref Ta, .ref Tp, .ref Ro, .ref Ho, .ref De])), (Ro, .inr (5, [.ref B, .ref rr, .ref tc, .int 0, .int 0, .int 0])), (rr, .inr (8, [.int 7, .int 2, .ref rrc, .int 0]))] (fun r : Int32 => r = (-9)) := by
  refine MP.start (by decide +kernel) (Nat.le_of_ble_eq_true rfl) ?_
  intro p e s m below meth c ls hC hK hP hD hl
  have hl : lv_has ls 3 [(0, .ref h0), (1, .int x1), (2, .int x2)] := hl
  obtain ⟨hx, hb, hr, hml, hB, hown, hlocks, hnm⟩ := id hC
  refine lv_aload_n hx hb dX11_row_0 rfl (lv_at hl 0 rfl) ?_
  refine gf_X11_65 hC rfl hK hP 0 rfl rfl dX11_row_1 ?_
  refine gf_X11_292 hC rfl hK hP 1 rfl rfl dX11_row_4 ?_
  refine lv_iload_n hx hb dX11_row_7 rfl (lv_at hl 1 rfl) ?_
  refine pV hC hK hl hP hD (c_T_has l G rr rrc 7 2 0 x1) si_X11_124 [2] rfl rfl (by decide) rfl rfl rfl rfl rfl (Nat.le_of_ble_eq_true rfl) ⟨Nat.le_of_ble_eq_true rfl, Nat.le_of_ble_eq_true rfl⟩ ⟨by first | exact Nat.le_of_ble_eq_true rfl | exact Nat.zero_le _, by first | exact Nat.le_of_ble_eq_true rfl | exact Nat.zero_le _⟩ dX11_row_8 (fun r295 hr295 => ?_)
  rcases hr295 with ⟨rfl, a296⟩ | ⟨rfl, a296⟩
  · exact absurd a296 (Hs_none _)
  · refine lv_if_eq (tgt := 23) hx hb dX11_row_11 (by decide) (fun _ => ?_) (fun c9 => absurd (by decide) c9)
    refine lv_bipush (v := (-9)) hx hb dX11_row_23 (by decide) ?_
    exact RP (v := (-9)) hC (rfl) rfl dX11_row_25
set_option maxHeartbeats 4000000 in
set_option maxRecDepth 100000 in
theorem c_alterRow (l : Launch) (G : GG) (h0 : Nat) (x1 : Int32) (x2 : Int32) (x3 : Int32) (B : Nat) (K : Nat) (S : Nat) (D : Nat) (R : Nat) (Ta : Nat) (Tp : Nat) (Ro : Nat) (Ho : Nat) (De : Nat) (rr : Nat) (tc : Nat) (rrc : Nat) : MP l G yX11_alterRow cX11_alterRow 5 (some .int) 4 [.ref h0, .int x1, .int x2, .int x3] [(h0, .inr (11, [.ref B, .ref K, .int 0, .ref S, .ref D, .ref R, .ref Ta, .ref Tp, .ref Ro, .ref Ho, .ref De])), (Ro, .inr (5, [.ref B, .ref rr, .ref tc, .int 0, .int 0, .int 0])), (rr, .inr (8, [.int 7, .int 2, .ref rrc, .int 0]))] (fun r : Int32 => r = (-9)) := by
  refine MP.start (by decide +kernel) (Nat.le_of_ble_eq_true rfl) ?_
  intro p e s m below meth c ls hC hK hP hD hl
  have hl : lv_has ls 5 [(0, .ref h0), (1, .int x1), (2, .int x2), (3, .int x3)] := hl
  obtain ⟨hx, hb, hr, hml, hB, hown, hlocks, hnm⟩ := id hC
  refine lv_aload_n hx hb dX11_alterRow_0 rfl (lv_at hl 0 rfl) ?_
  refine gf_X11_65 hC rfl hK hP 0 rfl rfl dX11_alterRow_1 ?_
  refine gf_X11_292 hC rfl hK hP 1 rfl rfl dX11_alterRow_4 ?_
  refine lv_iload_n hx hb dX11_alterRow_7 rfl (lv_at hl 1 rfl) ?_
  refine pV hC hK hl hP hD (c_T_has l G rr rrc 7 2 0 x1) si_X11_124 [2] rfl rfl (by decide) rfl rfl rfl rfl rfl (Nat.le_of_ble_eq_true rfl) ⟨Nat.le_of_ble_eq_true rfl, Nat.le_of_ble_eq_true rfl⟩ ⟨by first | exact Nat.le_of_ble_eq_true rfl | exact Nat.zero_le _, by first | exact Nat.le_of_ble_eq_true rfl | exact Nat.zero_le _⟩ dX11_alterRow_8 (fun r297 hr297 => ?_)
  rcases hr297 with ⟨rfl, a298⟩ | ⟨rfl, a298⟩
  · exact absurd a298 (Hs_none _)
  · refine lv_if_eq (tgt := 23) hx hb dX11_alterRow_11 (by decide) (fun _ => ?_) (fun c9 => absurd (by decide) c9)
    refine lv_bipush (v := (-9)) hx hb dX11_alterRow_23 (by decide) ?_
    exact RP (v := (-9)) hC (rfl) rfl dX11_alterRow_25
set_option maxHeartbeats 4000000 in
set_option maxRecDepth 100000 in
theorem c_dropRow (l : Launch) (G : GG) (h0 : Nat) (B : Nat) (K : Nat) (S : Nat) (D : Nat) (R : Nat) (Ta : Nat) (Tp : Nat) (Ro : Nat) (Ho : Nat) (De : Nat) (rr : Nat) (tc : Nat) (rrc : Nat) : MP l G yX11_dropRow cX11_dropRow 1 (some .int) 4 [.ref h0] [(h0, .inr (11, [.ref B, .ref K, .int 0, .ref S, .ref D, .ref R, .ref Ta, .ref Tp, .ref Ro, .ref Ho, .ref De])), (Ro, .inr (5, [.ref B, .ref rr, .ref tc, .int 0, .int 0, .int 0])), (rr, .inr (8, [.int 7, .int 2, .ref rrc, .int 0]))] (fun r : Int32 => r = (-3)) := by
  refine MP.start (by decide +kernel) (Nat.le_of_ble_eq_true rfl) ?_
  intro p e s m below meth c ls hC hK hP hD hl
  have hl : lv_has ls 1 [(0, .ref h0)] := hl
  obtain ⟨hx, hb, hr, hml, hB, hown, hlocks, hnm⟩ := id hC
  refine lv_aload_n hx hb dX11_dropRow_0 rfl (lv_at hl 0 rfl) ?_
  refine gf_X11_65 hC rfl hK hP 0 rfl rfl dX11_dropRow_1 ?_
  refine gf_X11_292 hC rfl hK hP 1 rfl rfl dX11_dropRow_4 ?_
  refine pV hC hK hl hP hD (c_T_count l G rr rrc 7 2 0) si_X11_174 [2] rfl rfl (by decide) rfl rfl rfl rfl rfl (Nat.le_of_ble_eq_true rfl) ⟨Nat.le_of_ble_eq_true rfl, Nat.le_of_ble_eq_true rfl⟩ ⟨by first | exact Nat.le_of_ble_eq_true rfl | exact Nat.zero_le _, by first | exact Nat.le_of_ble_eq_true rfl | exact Nat.zero_le _⟩ dX11_dropRow_7 (fun r299 hr299 => ?_)
  obtain rfl := hr299
  refine lv_if_ne (tgt := 16) hx hb dX11_dropRow_10 (by decide) (fun c9 => absurd (by decide) c9) (fun _ => ?_)
  refine lv_bipush (v := (-3)) hx hb dX11_dropRow_13 (by decide) ?_
  exact RP (v := (-3)) hC (rfl) rfl dX11_dropRow_15
set_option maxHeartbeats 4000000 in
set_option maxRecDepth 100000 in
theorem c_isTold (l : Launch) (G : GG) (h0 : Nat) (B : Nat) (rr : Nat) (tc : Nat) : MP l G yX5_isTold cX5_isTold 1 (some .boolean) 1 [.ref h0] [(h0, .inr (5, [.ref B, .ref rr, .ref tc, .int 0, .int 0, .int 0]))] (fun r : Int32 => r = 0) := by
  refine MP.start (by decide +kernel) (Nat.le_of_ble_eq_true rfl) ?_
  intro p e s m below meth c ls hC hK hP hD hl
  have hl : lv_has ls 1 [(0, .ref h0)] := hl
  obtain ⟨hx, hb, hr, hml, hB, hown, hlocks, hnm⟩ := id hC
  refine lv_aload_n hx hb dX5_isTold_0 rfl (lv_at hl 0 rfl) ?_
  refine gf_X5_35 hC rfl hK hP 0 rfl rfl dX5_isTold_1 ?_
  exact RP (v := 0) hC (rfl) (by decide +kernel) dX5_isTold_4
set_option maxHeartbeats 4000000 in
set_option maxRecDepth 100000 in
theorem c_judge (l : Launch) (G : GG) (h0 : Nat) (B : Nat) (K : Nat) (S : Nat) (D : Nat) (R : Nat) (Ta : Nat) (Tp : Nat) (Ro : Nat) (Ho : Nat) (De : Nat) (rr : Nat) (tc : Nat) : MP l G yX11_judge cX11_judge 1 (some .int) 4 [.ref h0] [(h0, .inr (11, [.ref B, .ref K, .int 0, .ref S, .ref D, .ref R, .ref Ta, .ref Tp, .ref Ro, .ref Ho, .ref De])), (Ro, .inr (5, [.ref B, .ref rr, .ref tc, .int 0, .int 0, .int 0]))] (fun r : Int32 => r = (-3)) := by
  refine MP.start (by decide +kernel) (Nat.le_of_ble_eq_true rfl) ?_
  intro p e s m below meth c ls hC hK hP hD hl
  have hl : lv_has ls 1 [(0, .ref h0)] := hl
  obtain ⟨hx, hb, hr, hml, hB, hown, hlocks, hnm⟩ := id hC
  refine lv_aload_n hx hb dX11_judge_0 rfl (lv_at hl 0 rfl) ?_
  refine gf_X11_65 hC rfl hK hP 0 rfl rfl dX11_judge_1 ?_
  refine pV hC hK hl hP hD (c_isTold l G Ro B rr tc) si_X11_298 [1] rfl rfl (by decide) rfl rfl rfl rfl rfl (Nat.le_of_ble_eq_true rfl) ⟨Nat.le_of_ble_eq_true rfl, Nat.le_of_ble_eq_true rfl⟩ ⟨by first | exact Nat.le_of_ble_eq_true rfl | exact Nat.zero_le _, by first | exact Nat.le_of_ble_eq_true rfl | exact Nat.zero_le _⟩ dX11_judge_4 (fun r301 hr301 => ?_)
  obtain rfl := hr301
  refine lv_if_ne (tgt := 13) hx hb dX11_judge_7 (by decide) (fun c9 => absurd (by decide) c9) (fun _ => ?_)
  refine lv_bipush (v := (-3)) hx hb dX11_judge_10 (by decide) ?_
  exact RP (v := (-3)) hC (rfl) rfl dX11_judge_12
set_option maxHeartbeats 4000000 in
set_option maxRecDepth 100000 in
theorem c_again (l : Launch) (G : GG) (h0 : Nat) (B : Nat) (K : Nat) (S : Nat) (D : Nat) (R : Nat) (Ta : Nat) (Tp : Nat) (Ro : Nat) (Ho : Nat) (De : Nat) : MP l G yX11_again cX11_again 1 (some .int) 4 [.ref h0] [(h0, .inr (11, [.ref B, .ref K, .int 0, .ref S, .ref D, .ref R, .ref Ta, .ref Tp, .ref Ro, .ref Ho, .ref De]))] (fun r : Int32 => r = (-3)) := by
  refine MP.start (by decide +kernel) (Nat.le_of_ble_eq_true rfl) ?_
  intro p e s m below meth c ls hC hK hP hD hl
  have hl : lv_has ls 1 [(0, .ref h0)] := hl
  obtain ⟨hx, hb, hr, hml, hB, hown, hlocks, hnm⟩ := id hC
  refine lv_aload_n hx hb dX11_again_0 rfl (lv_at hl 0 rfl) ?_
  refine gf_X11_24 hC rfl hK hP 0 rfl rfl dX11_again_1 ?_
  refine lv_if_ne (tgt := 10) hx hb dX11_again_4 (by decide) (fun c9 => absurd (by decide) c9) (fun _ => ?_)
  refine lv_bipush (v := (-3)) hx hb dX11_again_7 (by decide) ?_
  exact RP (v := (-3)) hC (rfl) rfl dX11_again_9
set_option maxHeartbeats 4000000 in
set_option maxRecDepth 100000 in
theorem c_ran (l : Launch) (G : GG) (h0 : Nat) (B : Nat) (dt : Nat) : MP l G yX2_ran cX2_ran 1 (some .int) 1 [.ref h0] [(h0, .inr (2, [.ref B, .ref dt, .int 0, .int 0, .int 0, .int 0, .int 0, .int 0]))] (fun r : Int32 => r = 0) := by
  refine MP.start (by decide +kernel) (Nat.le_of_ble_eq_true rfl) ?_
  intro p e s m below meth c ls hC hK hP hD hl
  have hl : lv_has ls 1 [(0, .ref h0)] := hl
  obtain ⟨hx, hb, hr, hml, hB, hown, hlocks, hnm⟩ := id hC
  refine lv_aload_n hx hb dX2_ran_0 rfl (lv_at hl 0 rfl) ?_
  refine gf_X2_19 hC rfl hK hP 0 rfl rfl dX2_ran_1 ?_
  exact RP (v := 0) hC (rfl) rfl dX2_ran_4
set_option maxHeartbeats 4000000 in
set_option maxRecDepth 100000 in
theorem c_trace (l : Launch) (G : GG) (h0 : Nat) (x1 : Int32) (B : Nat) (K : Nat) (S : Nat) (D : Nat) (R : Nat) (Ta : Nat) (Tp : Nat) (Ro : Nat) (Ho : Nat) (De : Nat) (dt : Nat) : MP l G yX11_trace cX11_trace 2 (some .int) 4 [.ref h0, .int x1] [(h0, .inr (11, [.ref B, .ref K, .int 0, .ref S, .ref D, .ref R, .ref Ta, .ref Tp, .ref Ro, .ref Ho, .ref De])), (De, .inr (2, [.ref B, .ref dt, .int 0, .int 0, .int 0, .int 0, .int 0, .int 0]))] (fun r : Int32 => r = (-3)) := by
  refine MP.start (by decide +kernel) (Nat.le_of_ble_eq_true rfl) ?_
  intro p e s m below meth c ls hC hK hP hD hl
  have hl : lv_has ls 2 [(0, .ref h0), (1, .int x1)] := hl
  obtain ⟨hx, hb, hr, hml, hB, hown, hlocks, hnm⟩ := id hC
  refine lv_iload_n hx hb dX11_trace_0 rfl (lv_at hl 1 rfl) ?_
  refine lv_iconst (v := 0) hx hb dX11_trace_1 (by decide) ?_
  refine lv_aload_n hx hb dX11_trace_2 rfl (lv_at hl 0 rfl) ?_
  refine gf_X11_79 hC rfl hK hP 0 rfl rfl dX11_trace_3 ?_
  refine pV hC hK hl hP hD (c_ran l G De B dt) si_X11_349 [1] rfl rfl (by decide) rfl rfl rfl rfl rfl (Nat.le_of_ble_eq_true rfl) ⟨Nat.le_of_ble_eq_true rfl, Nat.le_of_ble_eq_true rfl⟩ ⟨by first | exact Nat.le_of_ble_eq_true rfl | exact Nat.zero_le _, by first | exact Nat.le_of_ble_eq_true rfl | exact Nat.zero_le _⟩ dX11_trace_6 (fun r303 hr303 => ?_)
  obtain rfl := hr303
  refine lv_iconst (v := 1) hx hb dX11_trace_9 (by decide) ?_
  refine lv_isub hx hb dX11_trace_10 ?_
  refine eqi (x1 := (-1)) (by decide) ?_
  refine pS hC hK hl (c_within l G x1 0 (-1)) si_X11_83 rfl rfl (Nat.le_of_ble_eq_true rfl) ⟨Nat.le_of_ble_eq_true rfl, Nat.le_of_ble_eq_true rfl⟩ ⟨by first | exact Nat.le_of_ble_eq_true rfl | exact Nat.zero_le _, by first | exact Nat.le_of_ble_eq_true rfl | exact Nat.zero_le _⟩ dX11_trace_11 (fun r305 hr305 => ?_)
  rcases hr305 with ⟨rfl, a306⟩ | ⟨rfl, a306⟩
  · exact absurd a306 (Wi_none _)
  · refine lv_if_eq (tgt := 28) hx hb dX11_trace_14 (by decide) (fun _ => ?_) (fun c9 => absurd (by decide) c9)
    refine lv_bipush (v := (-3)) hx hb dX11_trace_28 (by decide) ?_
    exact RP (v := (-3)) hC (rfl) rfl dX11_trace_30
set_option maxHeartbeats 4000000 in
set_option maxRecDepth 100000 in
theorem c_Tp_count (l : Launch) (G : GG) (h0 : Nat) (tb : Nat) (cnt : Int32) (tl : Nat) (ts : Nat) (kd : Int32) (sa : Int32) (nx : Int32) (fu : Int32) : MP l G yX10_count cX10_count 1 (some .int) 1 [.ref h0] [(h0, .inr (10, [.ref tb, .int cnt, .ref tl, .ref ts, .int kd, .int sa, .int nx, .int fu]))] (fun r : Int32 => r = cnt) := by
  refine MP.start (by decide +kernel) (Nat.le_of_ble_eq_true rfl) ?_
  intro p e s m below meth c ls hC hK hP hD hl
  have hl : lv_has ls 1 [(0, .ref h0)] := hl
  obtain ⟨hx, hb, hr, hml, hB, hown, hlocks, hnm⟩ := id hC
  refine lv_aload_n hx hb dX10_count_0 rfl (lv_at hl 0 rfl) ?_
  refine gf_X10_27 hC rfl hK hP 0 rfl rfl dX10_count_1 ?_
  exact RP (v := cnt) hC (rfl) rfl dX10_count_4
set_option maxHeartbeats 4000000 in
set_option maxRecDepth 100000 in
theorem c_many (l : Launch) (G : GG) (h0 : Nat) (w : Int32) (B : Nat) (K : Nat) (S : Nat) (D : Nat) (R : Nat) (Ta : Nat) (Tp : Nat) (Ro : Nat) (Ho : Nat) (De : Nat) (bpersons : Nat) (bpapers : Nat) (bstamps : Nat) (bversions : Nat) (blines : Nat) (bsteps : Nat) (bsayings : Nat) (bfindings : Nat) (bwarnings : Nat) (bquestions : Nat) (bpersonsc : Nat) (bpapersc : Nat) (bstampsc : Nat) (bversionsc : Nat) (bsayingsc : Nat) (bfindingsc : Nat) (bwarningsc : Nat) (bquestionsc : Nat) (rr : Nat) (tc : Nat) (rrc : Nat) (tb : Nat) (tl : Nat) (ts : Nat) (dt : Nat) : MP l G yX11_many cX11_many 2 (some .int) 5 [.ref h0, .int w] [(h0, .inr (11, [.ref B, .ref K, .int 0, .ref S, .ref D, .ref R, .ref Ta, .ref Tp, .ref Ro, .ref Ho, .ref De])), (B, .inr (0, [.ref bpersons, .ref bpapers, .ref bstamps, .ref bversions, .ref blines, .ref bsteps, .ref bsayings, .ref bfindings, .ref bwarnings, .ref bquestions, .int 0, .int (-1), .int 3, .int 24])), (bpersons, .inr (8, [.int 10, .int 2, .ref bpersonsc, .int 0])), (bpapers, .inr (8, [.int 12, .int 6, .ref bpapersc, .int 0])), (bstamps, .inr (8, [.int 24, .int 3, .ref bstampsc, .int 0])), (bversions, .inr (8, [.int 8, .int 3, .ref bversionsc, .int 0])), (bsayings, .inr (8, [.int 16, .int 8, .ref bsayingsc, .int 0])), (bfindings, .inr (8, [.int 12, .int 4, .ref bfindingsc, .int 0])), (bwarnings, .inr (8, [.int 16, .int 3, .ref bwarningsc, .int 0])), (bquestions, .inr (8, [.int 7, .int 2, .ref bquestionsc, .int 0])), (Ro, .inr (5, [.ref B, .ref rr, .ref tc, .int 0, .int 0, .int 0])), (rr, .inr (8, [.int 7, .int 2, .ref rrc, .int 0])), (Tp, .inr (10, [.ref tb, .int 0, .ref tl, .ref ts, .int (-1), .int 0, .int 0, .int (-1)])), (De, .inr (2, [.ref B, .ref dt, .int 0, .int 0, .int 0, .int 0, .int 0, .int 0]))] (fun r : Int32 => r = A_many w) := by
  refine MP.start (by decide +kernel) (Nat.le_of_ble_eq_true rfl) ?_
  intro p e s m below meth c ls hC hK hP hD hl
  have hl : lv_has ls 2 [(0, .ref h0), (1, .int w)] := hl
  obtain ⟨hx, hb, hr, hml, hB, hown, hlocks, hnm⟩ := id hC
  refine lv_iload_n hx hb dX11_many_0 rfl (lv_at hl 1 rfl) ?_
  by_cases c_1_307 : w = 0
  · refine lv_tableIn (tgt := 76) hx hb dX11_many_1 (by rw [c_1_307]; decide) (by rw [c_1_307]; decide) (by rw [c_1_307]; rfl) (by decide) ?_
    refine lv_aload_n hx hb dX11_many_76 rfl (lv_at hl 0 rfl) ?_
    refine gf_X11_15 hC rfl hK hP 0 rfl rfl dX11_many_77 ?_
    refine gf_X11_87 hC rfl hK hP 1 rfl rfl dX11_many_80 ?_
    exact RP (v := 0) hC ((by unfold A_many; first | rfl | (simp only [ifc_t c_1_307]; done) | (simp only [ifc_t c_1_307]; rfl))) rfl dX11_many_83
  by_cases c_1_308 : w = 1
  · refine lv_tableIn (tgt := 84) hx hb dX11_many_1 (by rw [c_1_308]; decide) (by rw [c_1_308]; decide) (by rw [c_1_308]; rfl) (by decide) ?_
    refine lv_aload_n hx hb dX11_many_84 rfl (lv_at hl 0 rfl) ?_
    refine gf_X11_15 hC rfl hK hP 0 rfl rfl dX11_many_85 ?_
    refine gf_X11_107 hC rfl hK hP 1 rfl rfl dX11_many_88 ?_
    refine pV hC hK hl hP hD (c_T_count l G bpersons bpersonsc 10 2 0) si_X11_174 [2] rfl rfl (by decide) rfl rfl rfl rfl rfl (Nat.le_of_ble_eq_true rfl) ⟨Nat.le_of_ble_eq_true rfl, Nat.le_of_ble_eq_true rfl⟩ ⟨by first | exact Nat.le_of_ble_eq_true rfl | exact Nat.zero_le _, by first | exact Nat.le_of_ble_eq_true rfl | exact Nat.zero_le _⟩ dX11_many_91 (fun r309 hr309 => ?_)
    obtain rfl := hr309
    exact RP (v := 0) hC ((by unfold A_many; first | rfl | (simp only [ifc_f c_1_307, ifc_t c_1_308]; done) | (simp only [ifc_f c_1_307, ifc_t c_1_308]; rfl))) rfl dX11_many_94
  by_cases c_1_311 : w = 2
  · refine lv_tableIn (tgt := 95) hx hb dX11_many_1 (by rw [c_1_311]; decide) (by rw [c_1_311]; decide) (by rw [c_1_311]; rfl) (by decide) ?_
    refine lv_aload_n hx hb dX11_many_95 rfl (lv_at hl 0 rfl) ?_
    refine gf_X11_15 hC rfl hK hP 0 rfl rfl dX11_many_96 ?_
    refine gf_X11_144 hC rfl hK hP 1 rfl rfl dX11_many_99 ?_
    refine pV hC hK hl hP hD (c_T_count l G bpapers bpapersc 12 6 0) si_X11_174 [3] rfl rfl (by decide) rfl rfl rfl rfl rfl (Nat.le_of_ble_eq_true rfl) ⟨Nat.le_of_ble_eq_true rfl, Nat.le_of_ble_eq_true rfl⟩ ⟨by first | exact Nat.le_of_ble_eq_true rfl | exact Nat.zero_le _, by first | exact Nat.le_of_ble_eq_true rfl | exact Nat.zero_le _⟩ dX11_many_102 (fun r312 hr312 => ?_)
    obtain rfl := hr312
    exact RP (v := 0) hC ((by unfold A_many; first | rfl | (simp only [ifc_f c_1_307, ifc_f c_1_308, ifc_t c_1_311]; done) | (simp only [ifc_f c_1_307, ifc_f c_1_308, ifc_t c_1_311]; rfl))) rfl dX11_many_105
  by_cases c_1_314 : w = 3
  · refine lv_tableIn (tgt := 106) hx hb dX11_many_1 (by rw [c_1_314]; decide) (by rw [c_1_314]; decide) (by rw [c_1_314]; rfl) (by decide) ?_
    refine lv_aload_n hx hb dX11_many_106 rfl (lv_at hl 0 rfl) ?_
    refine gf_X11_15 hC rfl hK hP 0 rfl rfl dX11_many_107 ?_
    refine pV hC hK hl hP hD (c_inView l G B bpersons bpapers bstamps bversions blines bsteps bsayings bfindings bwarnings bquestions 0 (-1) 3 24 bpapersc) si_X11_97 [1, 3] rfl rfl (by decide) rfl rfl rfl rfl rfl (Nat.le_of_ble_eq_true rfl) ⟨Nat.le_of_ble_eq_true rfl, Nat.le_of_ble_eq_true rfl⟩ ⟨by first | exact Nat.le_of_ble_eq_true rfl | exact Nat.zero_le _, by first | exact Nat.le_of_ble_eq_true rfl | exact Nat.zero_le _⟩ dX11_many_110 (fun r315 hr315 => ?_)
    obtain rfl := hr315
    refine pS hC hK hl (c_bitCount0 l G) si_X11_101 rfl rfl (Nat.le_of_ble_eq_true rfl) ⟨Nat.le_of_ble_eq_true rfl, Nat.le_of_ble_eq_true rfl⟩ ⟨by first | exact Nat.le_of_ble_eq_true rfl | exact Nat.zero_le _, by first | exact Nat.le_of_ble_eq_true rfl | exact Nat.zero_le _⟩ dX11_many_113 (fun r317 hr317 => ?_)
    obtain rfl := hr317
    exact RP (v := 0) hC ((by unfold A_many; first | rfl | (simp only [ifc_f c_1_307, ifc_f c_1_308, ifc_f c_1_311, ifc_t c_1_314]; done) | (simp only [ifc_f c_1_307, ifc_f c_1_308, ifc_f c_1_311, ifc_t c_1_314]; rfl))) rfl dX11_many_116
  by_cases c_1_319 : w = 4
  · refine lv_tableIn (tgt := 117) hx hb dX11_many_1 (by rw [c_1_319]; decide) (by rw [c_1_319]; decide) (by rw [c_1_319]; rfl) (by decide) ?_
    refine lv_aload_n hx hb dX11_many_117 rfl (lv_at hl 0 rfl) ?_
    refine gf_X11_15 hC rfl hK hP 0 rfl rfl dX11_many_118 ?_
    refine gf_X11_157 hC rfl hK hP 1 rfl rfl dX11_many_121 ?_
    refine pV hC hK hl hP hD (c_T_count l G bstamps bstampsc 24 3 0) si_X11_174 [4] rfl rfl (by decide) rfl rfl rfl rfl rfl (Nat.le_of_ble_eq_true rfl) ⟨Nat.le_of_ble_eq_true rfl, Nat.le_of_ble_eq_true rfl⟩ ⟨by first | exact Nat.le_of_ble_eq_true rfl | exact Nat.zero_le _, by first | exact Nat.le_of_ble_eq_true rfl | exact Nat.zero_le _⟩ dX11_many_124 (fun r320 hr320 => ?_)
    obtain rfl := hr320
    exact RP (v := 0) hC ((by unfold A_many; first | rfl | (simp only [ifc_f c_1_307, ifc_f c_1_308, ifc_f c_1_311, ifc_f c_1_314, ifc_t c_1_319]; done) | (simp only [ifc_f c_1_307, ifc_f c_1_308, ifc_f c_1_311, ifc_f c_1_314, ifc_t c_1_319]; rfl))) rfl dX11_many_127
  by_cases c_1_322 : w = 5
  · refine lv_tableIn (tgt := 128) hx hb dX11_many_1 (by rw [c_1_322]; decide) (by rw [c_1_322]; decide) (by rw [c_1_322]; rfl) (by decide) ?_
    refine lv_aload_n hx hb dX11_many_128 rfl (lv_at hl 0 rfl) ?_
    refine gf_X11_15 hC rfl hK hP 0 rfl rfl dX11_many_129 ?_
    refine gf_X11_233 hC rfl hK hP 1 rfl rfl dX11_many_132 ?_
    refine pV hC hK hl hP hD (c_T_count l G bversions bversionsc 8 3 0) si_X11_174 [5] rfl rfl (by decide) rfl rfl rfl rfl rfl (Nat.le_of_ble_eq_true rfl) ⟨Nat.le_of_ble_eq_true rfl, Nat.le_of_ble_eq_true rfl⟩ ⟨by first | exact Nat.le_of_ble_eq_true rfl | exact Nat.zero_le _, by first | exact Nat.le_of_ble_eq_true rfl | exact Nat.zero_le _⟩ dX11_many_135 (fun r323 hr323 => ?_)
    obtain rfl := hr323
    exact RP (v := 0) hC ((by unfold A_many; first | rfl | (simp only [ifc_f c_1_307, ifc_f c_1_308, ifc_f c_1_311, ifc_f c_1_314, ifc_f c_1_319, ifc_t c_1_322]; done) | (simp only [ifc_f c_1_307, ifc_f c_1_308, ifc_f c_1_311, ifc_f c_1_314, ifc_f c_1_319, ifc_t c_1_322]; rfl))) rfl dX11_many_138
  by_cases c_1_325 : w = 6
  · refine lv_tableIn (tgt := 139) hx hb dX11_many_1 (by rw [c_1_325]; decide) (by rw [c_1_325]; decide) (by rw [c_1_325]; rfl) (by decide) ?_
    refine lv_aload_n hx hb dX11_many_139 rfl (lv_at hl 0 rfl) ?_
    refine gf_X11_15 hC rfl hK hP 0 rfl rfl dX11_many_140 ?_
    refine gf_X11_256 hC rfl hK hP 1 rfl rfl dX11_many_143 ?_
    refine pV hC hK hl hP hD (c_T_count l G bsayings bsayingsc 16 8 0) si_X11_174 [6] rfl rfl (by decide) rfl rfl rfl rfl rfl (Nat.le_of_ble_eq_true rfl) ⟨Nat.le_of_ble_eq_true rfl, Nat.le_of_ble_eq_true rfl⟩ ⟨by first | exact Nat.le_of_ble_eq_true rfl | exact Nat.zero_le _, by first | exact Nat.le_of_ble_eq_true rfl | exact Nat.zero_le _⟩ dX11_many_146 (fun r326 hr326 => ?_)
    obtain rfl := hr326
    exact RP (v := 0) hC ((by unfold A_many; first | rfl | (simp only [ifc_f c_1_307, ifc_f c_1_308, ifc_f c_1_311, ifc_f c_1_314, ifc_f c_1_319, ifc_f c_1_322, ifc_t c_1_325]; done) | (simp only [ifc_f c_1_307, ifc_f c_1_308, ifc_f c_1_311, ifc_f c_1_314, ifc_f c_1_319, ifc_f c_1_322, ifc_t c_1_325]; rfl))) rfl dX11_many_149
  by_cases c_1_328 : w = 7
  · refine lv_tableIn (tgt := 150) hx hb dX11_many_1 (by rw [c_1_328]; decide) (by rw [c_1_328]; decide) (by rw [c_1_328]; rfl) (by decide) ?_
    refine lv_aload_n hx hb dX11_many_150 rfl (lv_at hl 0 rfl) ?_
    refine gf_X11_15 hC rfl hK hP 0 rfl rfl dX11_many_151 ?_
    refine lv_aload_n hx hb dX11_many_154 rfl (lv_at hl 0 rfl) ?_
    refine gf_X11_15 hC rfl hK hP 0 rfl rfl dX11_many_155 ?_
    refine pV hC hK hl hP hD (c_inView l G B bpersons bpapers bstamps bversions blines bsteps bsayings bfindings bwarnings bquestions 0 (-1) 3 24 bpapersc) si_X11_97 [1, 3] rfl rfl (by decide) rfl rfl rfl rfl rfl (Nat.le_of_ble_eq_true rfl) ⟨Nat.le_of_ble_eq_true rfl, Nat.le_of_ble_eq_true rfl⟩ ⟨by first | exact Nat.le_of_ble_eq_true rfl | exact Nat.zero_le _, by first | exact Nat.le_of_ble_eq_true rfl | exact Nat.zero_le _⟩ dX11_many_158 (fun r329 hr329 => ?_)
    obtain rfl := hr329
    refine pV hC hK hl hP hD (c_countSayings l G B 0 bpersons bpapers bstamps bversions blines bsteps bsayings bfindings bwarnings bquestions bsayingsc) si_X11_355 [1, 6] rfl rfl (by decide) rfl rfl rfl rfl rfl (Nat.le_of_ble_eq_true rfl) ⟨Nat.le_of_ble_eq_true rfl, Nat.le_of_ble_eq_true rfl⟩ ⟨by first | exact Nat.le_of_ble_eq_true rfl | exact Nat.zero_le _, by first | exact Nat.le_of_ble_eq_true rfl | exact Nat.zero_le _⟩ dX11_many_161 (fun r331 hr331 => ?_)
    obtain rfl := hr331
    exact RP (v := 0) hC ((by unfold A_many; first | rfl | (simp only [ifc_f c_1_307, ifc_f c_1_308, ifc_f c_1_311, ifc_f c_1_314, ifc_f c_1_319, ifc_f c_1_322, ifc_f c_1_325, ifc_t c_1_328]; done) | (simp only [ifc_f c_1_307, ifc_f c_1_308, ifc_f c_1_311, ifc_f c_1_314, ifc_f c_1_319, ifc_f c_1_322, ifc_f c_1_325, ifc_t c_1_328]; rfl))) rfl dX11_many_164
  by_cases c_1_333 : w = 8
  · refine lv_tableIn (tgt := 165) hx hb dX11_many_1 (by rw [c_1_333]; decide) (by rw [c_1_333]; decide) (by rw [c_1_333]; rfl) (by decide) ?_
    refine lv_aload_n hx hb dX11_many_165 rfl (lv_at hl 0 rfl) ?_
    refine gf_X11_15 hC rfl hK hP 0 rfl rfl dX11_many_166 ?_
    refine gf_X11_271 hC rfl hK hP 1 rfl rfl dX11_many_169 ?_
    refine pV hC hK hl hP hD (c_T_count l G bfindings bfindingsc 12 4 0) si_X11_174 [7] rfl rfl (by decide) rfl rfl rfl rfl rfl (Nat.le_of_ble_eq_true rfl) ⟨Nat.le_of_ble_eq_true rfl, Nat.le_of_ble_eq_true rfl⟩ ⟨by first | exact Nat.le_of_ble_eq_true rfl | exact Nat.zero_le _, by first | exact Nat.le_of_ble_eq_true rfl | exact Nat.zero_le _⟩ dX11_many_172 (fun r334 hr334 => ?_)
    obtain rfl := hr334
    exact RP (v := 0) hC ((by unfold A_many; first | rfl | (simp only [ifc_f c_1_307, ifc_f c_1_308, ifc_f c_1_311, ifc_f c_1_314, ifc_f c_1_319, ifc_f c_1_322, ifc_f c_1_325, ifc_f c_1_328, ifc_t c_1_333]; done) | (simp only [ifc_f c_1_307, ifc_f c_1_308, ifc_f c_1_311, ifc_f c_1_314, ifc_f c_1_319, ifc_f c_1_322, ifc_f c_1_325, ifc_f c_1_328, ifc_t c_1_333]; rfl))) rfl dX11_many_175
  by_cases c_1_336 : w = 9
  · refine lv_tableIn (tgt := 176) hx hb dX11_many_1 (by rw [c_1_336]; decide) (by rw [c_1_336]; decide) (by rw [c_1_336]; rfl) (by decide) ?_
    refine lv_aload_n hx hb dX11_many_176 rfl (lv_at hl 0 rfl) ?_
    refine lv_aload_n hx hb dX11_many_177 rfl (lv_at hl 0 rfl) ?_
    refine gf_X11_15 hC rfl hK hP 0 rfl rfl dX11_many_178 ?_
    refine pV hC hK hl hP hD (c_inView l G B bpersons bpapers bstamps bversions blines bsteps bsayings bfindings bwarnings bquestions 0 (-1) 3 24 bpapersc) si_X11_97 [1, 3] rfl rfl (by decide) rfl rfl rfl rfl rfl (Nat.le_of_ble_eq_true rfl) ⟨Nat.le_of_ble_eq_true rfl, Nat.le_of_ble_eq_true rfl⟩ ⟨by first | exact Nat.le_of_ble_eq_true rfl | exact Nat.zero_le _, by first | exact Nat.le_of_ble_eq_true rfl | exact Nat.zero_le _⟩ dX11_many_181 (fun r337 hr337 => ?_)
    obtain rfl := hr337
    refine pV hC hK hl hP hD (c_countStanding l G h0 0 B K S D R Ta Tp Ro Ho De bpersons bpapers bstamps bversions blines bsteps bsayings bfindings bwarnings bquestions bfindingsc) si_X11_358 [0, 1, 7] rfl rfl (by decide) rfl rfl rfl rfl rfl (Nat.le_of_ble_eq_true rfl) ⟨Nat.le_of_ble_eq_true rfl, Nat.le_of_ble_eq_true rfl⟩ ⟨by first | exact Nat.le_of_ble_eq_true rfl | exact Nat.zero_le _, by first | exact Nat.le_of_ble_eq_true rfl | exact Nat.zero_le _⟩ dX11_many_184 (fun r339 hr339 => ?_)
    obtain rfl := hr339
    exact RP (v := 0) hC ((by unfold A_many; first | rfl | (simp only [ifc_f c_1_307, ifc_f c_1_308, ifc_f c_1_311, ifc_f c_1_314, ifc_f c_1_319, ifc_f c_1_322, ifc_f c_1_325, ifc_f c_1_328, ifc_f c_1_333, ifc_t c_1_336]; done) | (simp only [ifc_f c_1_307, ifc_f c_1_308, ifc_f c_1_311, ifc_f c_1_314, ifc_f c_1_319, ifc_f c_1_322, ifc_f c_1_325, ifc_f c_1_328, ifc_f c_1_333, ifc_t c_1_336]; rfl))) rfl dX11_many_187
  by_cases c_1_341 : w = 10
  · refine lv_tableIn (tgt := 188) hx hb dX11_many_1 (by rw [c_1_341]; decide) (by rw [c_1_341]; decide) (by rw [c_1_341]; rfl) (by decide) ?_
    refine lv_aload_n hx hb dX11_many_188 rfl (lv_at hl 0 rfl) ?_
    refine gf_X11_15 hC rfl hK hP 0 rfl rfl dX11_many_189 ?_
    refine gf_X11_283 hC rfl hK hP 1 rfl rfl dX11_many_192 ?_
    refine pV hC hK hl hP hD (c_T_count l G bwarnings bwarningsc 16 3 0) si_X11_174 [8] rfl rfl (by decide) rfl rfl rfl rfl rfl (Nat.le_of_ble_eq_true rfl) ⟨Nat.le_of_ble_eq_true rfl, Nat.le_of_ble_eq_true rfl⟩ ⟨by first | exact Nat.le_of_ble_eq_true rfl | exact Nat.zero_le _, by first | exact Nat.le_of_ble_eq_true rfl | exact Nat.zero_le _⟩ dX11_many_195 (fun r342 hr342 => ?_)
    obtain rfl := hr342
    exact RP (v := 0) hC ((by unfold A_many; first | rfl | (simp only [ifc_f c_1_307, ifc_f c_1_308, ifc_f c_1_311, ifc_f c_1_314, ifc_f c_1_319, ifc_f c_1_322, ifc_f c_1_325, ifc_f c_1_328, ifc_f c_1_333, ifc_f c_1_336, ifc_t c_1_341]; done) | (simp only [ifc_f c_1_307, ifc_f c_1_308, ifc_f c_1_311, ifc_f c_1_314, ifc_f c_1_319, ifc_f c_1_322, ifc_f c_1_325, ifc_f c_1_328, ifc_f c_1_333, ifc_f c_1_336, ifc_t c_1_341]; rfl))) rfl dX11_many_198
  by_cases c_1_344 : w = 11
  · refine lv_tableIn (tgt := 199) hx hb dX11_many_1 (by rw [c_1_344]; decide) (by rw [c_1_344]; decide) (by rw [c_1_344]; rfl) (by decide) ?_
    refine lv_aload_n hx hb dX11_many_199 rfl (lv_at hl 0 rfl) ?_
    refine gf_X11_15 hC rfl hK hP 0 rfl rfl dX11_many_200 ?_
    refine gf_X11_286 hC rfl hK hP 1 rfl rfl dX11_many_203 ?_
    refine pV hC hK hl hP hD (c_T_count l G bquestions bquestionsc 7 2 0) si_X11_174 [9] rfl rfl (by decide) rfl rfl rfl rfl rfl (Nat.le_of_ble_eq_true rfl) ⟨Nat.le_of_ble_eq_true rfl, Nat.le_of_ble_eq_true rfl⟩ ⟨by first | exact Nat.le_of_ble_eq_true rfl | exact Nat.zero_le _, by first | exact Nat.le_of_ble_eq_true rfl | exact Nat.zero_le _⟩ dX11_many_206 (fun r345 hr345 => ?_)
    obtain rfl := hr345
    exact RP (v := 0) hC ((by unfold A_many; first | rfl | (simp only [ifc_f c_1_307, ifc_f c_1_308, ifc_f c_1_311, ifc_f c_1_314, ifc_f c_1_319, ifc_f c_1_322, ifc_f c_1_325, ifc_f c_1_328, ifc_f c_1_333, ifc_f c_1_336, ifc_f c_1_341, ifc_t c_1_344]; done) | (simp only [ifc_f c_1_307, ifc_f c_1_308, ifc_f c_1_311, ifc_f c_1_314, ifc_f c_1_319, ifc_f c_1_322, ifc_f c_1_325, ifc_f c_1_328, ifc_f c_1_333, ifc_f c_1_336, ifc_f c_1_341, ifc_t c_1_344]; rfl))) rfl dX11_many_209
  by_cases c_1_347 : w = 12
  · refine lv_tableIn (tgt := 210) hx hb dX11_many_1 (by rw [c_1_347]; decide) (by rw [c_1_347]; decide) (by rw [c_1_347]; rfl) (by decide) ?_
    refine lv_aload_n hx hb dX11_many_210 rfl (lv_at hl 0 rfl) ?_
    refine gf_X11_65 hC rfl hK hP 0 rfl rfl dX11_many_211 ?_
    refine gf_X11_292 hC rfl hK hP 10 rfl rfl dX11_many_214 ?_
    refine pV hC hK hl hP hD (c_T_count l G rr rrc 7 2 0) si_X11_174 [11] rfl rfl (by decide) rfl rfl rfl rfl rfl (Nat.le_of_ble_eq_true rfl) ⟨Nat.le_of_ble_eq_true rfl, Nat.le_of_ble_eq_true rfl⟩ ⟨by first | exact Nat.le_of_ble_eq_true rfl | exact Nat.zero_le _, by first | exact Nat.le_of_ble_eq_true rfl | exact Nat.zero_le _⟩ dX11_many_217 (fun r348 hr348 => ?_)
    obtain rfl := hr348
    exact RP (v := 0) hC ((by unfold A_many; first | rfl | (simp only [ifc_f c_1_307, ifc_f c_1_308, ifc_f c_1_311, ifc_f c_1_314, ifc_f c_1_319, ifc_f c_1_322, ifc_f c_1_325, ifc_f c_1_328, ifc_f c_1_333, ifc_f c_1_336, ifc_f c_1_341, ifc_f c_1_344, ifc_t c_1_347]; done) | (simp only [ifc_f c_1_307, ifc_f c_1_308, ifc_f c_1_311, ifc_f c_1_314, ifc_f c_1_319, ifc_f c_1_322, ifc_f c_1_325, ifc_f c_1_328, ifc_f c_1_333, ifc_f c_1_336, ifc_f c_1_341, ifc_f c_1_344, ifc_t c_1_347]; rfl))) rfl dX11_many_220
  by_cases c_1_350 : w = 13
  · refine lv_tableIn (tgt := 221) hx hb dX11_many_1 (by rw [c_1_350]; decide) (by rw [c_1_350]; decide) (by rw [c_1_350]; rfl) (by decide) ?_
    refine lv_aload_n hx hb dX11_many_221 rfl (lv_at hl 0 rfl) ?_
    refine gf_X11_58 hC rfl hK hP 0 rfl rfl dX11_many_222 ?_
    refine pV hC hK hl hP hD (c_Tp_count l G Tp tb 0 tl ts (-1) 0 0 (-1)) si_X11_224 [12] rfl rfl (by decide) rfl rfl rfl rfl rfl (Nat.le_of_ble_eq_true rfl) ⟨Nat.le_of_ble_eq_true rfl, Nat.le_of_ble_eq_true rfl⟩ ⟨by first | exact Nat.le_of_ble_eq_true rfl | exact Nat.zero_le _, by first | exact Nat.le_of_ble_eq_true rfl | exact Nat.zero_le _⟩ dX11_many_225 (fun r351 hr351 => ?_)
    obtain rfl := hr351
    exact RP (v := 0) hC ((by unfold A_many; first | rfl | (simp only [ifc_f c_1_307, ifc_f c_1_308, ifc_f c_1_311, ifc_f c_1_314, ifc_f c_1_319, ifc_f c_1_322, ifc_f c_1_325, ifc_f c_1_328, ifc_f c_1_333, ifc_f c_1_336, ifc_f c_1_341, ifc_f c_1_344, ifc_f c_1_347, ifc_t c_1_350]; done) | (simp only [ifc_f c_1_307, ifc_f c_1_308, ifc_f c_1_311, ifc_f c_1_314, ifc_f c_1_319, ifc_f c_1_322, ifc_f c_1_325, ifc_f c_1_328, ifc_f c_1_333, ifc_f c_1_336, ifc_f c_1_341, ifc_f c_1_344, ifc_f c_1_347, ifc_t c_1_350]; rfl))) rfl dX11_many_228
  by_cases c_1_353 : w = 14
  · refine lv_tableIn (tgt := 229) hx hb dX11_many_1 (by rw [c_1_353]; decide) (by rw [c_1_353]; decide) (by rw [c_1_353]; rfl) (by decide) ?_
    refine lv_aload_n hx hb dX11_many_229 rfl (lv_at hl 0 rfl) ?_
    refine gf_X11_79 hC rfl hK hP 0 rfl rfl dX11_many_230 ?_
    refine pV hC hK hl hP hD (c_ran l G De B dt) si_X11_349 [13] rfl rfl (by decide) rfl rfl rfl rfl rfl (Nat.le_of_ble_eq_true rfl) ⟨Nat.le_of_ble_eq_true rfl, Nat.le_of_ble_eq_true rfl⟩ ⟨by first | exact Nat.le_of_ble_eq_true rfl | exact Nat.zero_le _, by first | exact Nat.le_of_ble_eq_true rfl | exact Nat.zero_le _⟩ dX11_many_233 (fun r354 hr354 => ?_)
    obtain rfl := hr354
    exact RP (v := 0) hC ((by unfold A_many; first | rfl | (simp only [ifc_f c_1_307, ifc_f c_1_308, ifc_f c_1_311, ifc_f c_1_314, ifc_f c_1_319, ifc_f c_1_322, ifc_f c_1_325, ifc_f c_1_328, ifc_f c_1_333, ifc_f c_1_336, ifc_f c_1_341, ifc_f c_1_344, ifc_f c_1_347, ifc_f c_1_350, ifc_t c_1_353]; done) | (simp only [ifc_f c_1_307, ifc_f c_1_308, ifc_f c_1_311, ifc_f c_1_314, ifc_f c_1_319, ifc_f c_1_322, ifc_f c_1_325, ifc_f c_1_328, ifc_f c_1_333, ifc_f c_1_336, ifc_f c_1_341, ifc_f c_1_344, ifc_f c_1_347, ifc_f c_1_350, ifc_t c_1_353]; rfl))) rfl dX11_many_236
  refine lv_tableOut (tgt := 237) hx hb dX11_many_1 (by have q9 := sw_0_14 (x := w); simp only [c_1_307, c_1_308, c_1_311, c_1_314, c_1_319, c_1_322, c_1_325, c_1_328, c_1_333, c_1_336, c_1_341, c_1_344, c_1_347, c_1_350, c_1_353, not_false_eq_true, true_implies] at q9; exact q9) (by decide) ?_
  refine lv_iconst (v := (-1)) hx hb dX11_many_237 (by decide) ?_
  exact RP (v := (-1)) hC ((by unfold A_many; first | rfl | (simp only [ifc_f c_1_307, ifc_f c_1_308, ifc_f c_1_311, ifc_f c_1_314, ifc_f c_1_319, ifc_f c_1_322, ifc_f c_1_325, ifc_f c_1_328, ifc_f c_1_333, ifc_f c_1_336, ifc_f c_1_341, ifc_f c_1_344, ifc_f c_1_347, ifc_f c_1_350, ifc_f c_1_353]; done) | (simp only [ifc_f c_1_307, ifc_f c_1_308, ifc_f c_1_311, ifc_f c_1_314, ifc_f c_1_319, ifc_f c_1_322, ifc_f c_1_325, ifc_f c_1_328, ifc_f c_1_333, ifc_f c_1_336, ifc_f c_1_341, ifc_f c_1_344, ifc_f c_1_347, ifc_f c_1_350, ifc_f c_1_353]; rfl))) rfl dX11_many_238
