section WR
variable {p : Program} {l : Launch} {e : Env} {R : Room} {s : State} {m : MethodId} {args : Array Value} {below : List Frame} {meth : Method} {c : Code} {H : Heap} {locs : List Loc} {cells slots : Nat} {Q : State → Prop}
variable {pc : Nat} {ls : Array Slot} {rest : List Value} {G : GG} {ws : va_W} {A : Nat → Prop} {y0 : MethodName} {b0 : ByteArray} {mL0 : Nat} {rt0 : Option FieldType} {a : Nat} {H0 : Heap}
end WR
def CL0 : Nat → Int32 := upd (upd (upd (upd (upd (upd (upd (upd (upd (upd (upd (upd (upd (upd (upd (upd (upd (upd (upd (upd (upd (upd (upd (upd (upd (upd (upd (upd (upd (upd (upd (upd (upd (upd (upd (upd (fun _ => 0) 0 0) 1 60) 2 60) 3 60) 4 60) 5 60) 6 60) 7 0) 8 120) 9 120) 10 120) 11 120) 12 60) 13 120) 14 0) 15 120) 16 120) 17 120) 18 60) 19 120) 20 120) 21 0) 22 120) 23 120) 24 60) 25 120) 26 120) 27 120) 28 0) 29 120) 30 60) 31 120) 32 120) 33 120) 34 120) 35 0
section WR
variable {p : Program} {l : Launch} {e : Env} {R : Room} {s : State} {m : MethodId} {args : Array Value} {below : List Frame} {meth : Method} {c : Code} {H : Heap} {locs : List Loc} {cells slots : Nat} {Q : State → Prop}
variable {pc : Nat} {ls : Array Slot} {rest : List Value} {G : GG} {ws : va_W} {A : Nat → Prop} {y0 : MethodName} {b0 : ByteArray} {mL0 : Nat} {rt0 : Option FieldType} {a : Nat} {H0 : Heap}
end WR
def M12 : Nat → Int32 := upd (upd (upd (upd (upd (upd (upd (upd (upd (upd (upd (upd (fun _ => 0) 0 (-1)) 1 (-1)) 2 (-1)) 3 (-1)) 4 (-1)) 5 (-1)) 6 (-1)) 7 (-1)) 8 (-1)) 9 (-1)) 10 (-1)) 11 (-1)
section WR
variable {p : Program} {l : Launch} {e : Env} {R : Room} {s : State} {m : MethodId} {args : Array Value} {below : List Frame} {meth : Method} {c : Code} {H : Heap} {locs : List Loc} {cells slots : Nat} {Q : State → Prop}
variable {pc : Nat} {ls : Array Slot} {rest : List Value} {G : GG} {ws : va_W} {A : Nat → Prop} {y0 : MethodName} {b0 : ByteArray} {mL0 : Nat} {rt0 : Option FieldType} {a : Nat} {H0 : Heap}
theorem dX1_free_0 : decode cX1_free 0 = .ok (.iconst 0, 1) := by decide +kernel
theorem dX1_free_1 : decode cX1_free 1 = .ok (.istore_n 1, 1) := by decide +kernel
theorem dX1_free_2 : decode cX1_free 2 = .ok (.iload_n 1, 1) := by decide +kernel
theorem dX1_free_3 : decode cX1_free 3 = .ok (.bipush 6, 2) := by decide +kernel
theorem dX1_free_5 : decode cX1_free 5 = .ok (.if_icmp .ge 60, 3) := by decide +kernel
theorem dX1_free_8 : decode cX1_free 8 = .ok (.iconst 0, 1) := by decide +kernel
theorem dX1_free_9 : decode cX1_free 9 = .ok (.istore_n 2, 1) := by decide +kernel
theorem dX1_free_10 : decode cX1_free 10 = .ok (.iload_n 2, 1) := by decide +kernel
theorem dX1_free_11 : decode cX1_free 11 = .ok (.bipush 6, 2) := by decide +kernel
theorem dX1_free_13 : decode cX1_free 13 = .ok (.if_icmp .ge 46, 3) := by decide +kernel
theorem dX1_free_16 : decode cX1_free 16 = .ok (.iload_n 1, 1) := by decide +kernel
theorem dX1_free_17 : decode cX1_free 17 = .ok (.ifCond .eq 7, 3) := by decide +kernel
theorem dX1_free_24 : decode cX1_free 24 = .ok (.bipush 60, 2) := by decide +kernel
theorem dX1_free_26 : decode cX1_free 26 = .ok (.goto 5, 3) := by decide +kernel
theorem dX1_free_31 : decode cX1_free 31 = .ok (.istore_n 3, 1) := by decide +kernel
theorem dX1_free_32 : decode cX1_free 32 = .ok (.aload_n 0, 1) := by decide +kernel
theorem dX1_free_33 : decode cX1_free 33 = .ok (.getfield 9, 3) := by decide +kernel
theorem gf_X1_9 (hC : CX p s m meth c y0 b0 mL0 rt0 args) (hy0 : y0.cls = RX1) (hK : KK G s) (hP : va_P G.1 vwCl ws H) (q0 : Nat) {fs : List Value} {v : Value} (he : ws[q0]? = some (a, .inr (1, fs))) (hv : fs[0]? = some v) (hdg : decode b0 pc = .ok (.getfield 9, 3)) (kk : W p l e R s m args below meth c H locs cells slots Q (F0 m (pc + 3) ls (v :: rest))) : W p l e R s m args below meth c H locs cells slots Q (F0 m pc ls (.ref a :: rest)) := by
  obtain ⟨hx, hb, hr, hml, hB, hown, hlocks, hnm⟩ := hC
  rw [hy0] at hown
  exact va_get (ci := 1) (C := RX1) (T := TX1) (N := 1) hx hb hB in_X1 hown hK.1 hP q0 he rfl 0 (by decide) (hB _ m_103) (fun _ h => h) hv hdg kk
theorem dX1_free_36 : decode cX1_free 36 = .ok (.iload_n 1, 1) := by decide +kernel
theorem dX1_free_37 : decode cX1_free 37 = .ok (.bipush 6, 2) := by decide +kernel
theorem dX1_free_39 : decode cX1_free 39 = .ok (.imul, 1) := by decide +kernel
theorem dX1_free_40 : decode cX1_free 40 = .ok (.iload_n 2, 1) := by decide +kernel
theorem dX1_free_41 : decode cX1_free 41 = .ok (.iadd, 1) := by decide +kernel
theorem dX1_free_42 : decode cX1_free 42 = .ok (.iload_n 1, 1) := by decide +kernel
theorem dX1_free_43 : decode cX1_free 43 = .ok (.iload_n 2, 1) := by decide +kernel
theorem dX1_free_44 : decode cX1_free 44 = .ok (.if_icmp .ne 7, 3) := by decide +kernel
theorem dX1_free_47 : decode cX1_free 47 = .ok (.iconst 0, 1) := by decide +kernel
theorem dX1_free_48 : decode cX1_free 48 = .ok (.goto 4, 3) := by decide +kernel
theorem dX1_free_52 : decode cX1_free 52 = .ok (.iastore, 1) := by decide +kernel
theorem dX1_free_53 : decode cX1_free 53 = .ok (.iinc 2 1, 3) := by decide +kernel
theorem dX1_free_56 : decode cX1_free 56 = .ok (.goto (-46), 3) := by decide +kernel
theorem dX1_free_51 : decode cX1_free 51 = .ok (.iload_n 3, 1) := by decide +kernel
theorem dX1_free_59 : decode cX1_free 59 = .ok (.iinc 1 1, 3) := by decide +kernel
theorem dX1_free_62 : decode cX1_free 62 = .ok (.goto (-60), 3) := by decide +kernel
theorem dX1_free_20 : decode cX1_free 20 = .ok (.iload_n 2, 1) := by decide +kernel
theorem dX1_free_21 : decode cX1_free 21 = .ok (.ifCond .ne 8, 3) := by decide +kernel
theorem dX1_free_29 : decode cX1_free 29 = .ok (.bipush 120, 2) := by decide +kernel
theorem dX1_free_65 : decode cX1_free 65 = .ok (.return_, 1) := by decide +kernel
theorem dX7_boundHours_0 : decode cX7_boundHours 0 = .ok (.iconst 0, 1) := by decide +kernel
theorem dX7_boundHours_1 : decode cX7_boundHours 1 = .ok (.istore_n 1, 1) := by decide +kernel
theorem dX7_boundHours_2 : decode cX7_boundHours 2 = .ok (.iload_n 1, 1) := by decide +kernel
theorem dX7_boundHours_3 : decode cX7_boundHours 3 = .ok (.bipush 12, 2) := by decide +kernel
theorem dX7_boundHours_5 : decode cX7_boundHours 5 = .ok (.if_icmp .ge 89, 3) := by decide +kernel
theorem dX7_boundHours_8 : decode cX7_boundHours 8 = .ok (.aload_n 0, 1) := by decide +kernel
theorem dX7_boundHours_9 : decode cX7_boundHours 9 = .ok (.getfield 22, 3) := by decide +kernel
theorem gf_X7_22 (hC : CX p s m meth c y0 b0 mL0 rt0 args) (hy0 : y0.cls = RX7) (hK : KK G s) (hP : va_P G.1 vwCl ws H) (q0 : Nat) {fs : List Value} {v : Value} (he : ws[q0]? = some (a, .inr (7, fs))) (hv : fs[3]? = some v) (hdg : decode b0 pc = .ok (.getfield 22, 3)) (kk : W p l e R s m args below meth c H locs cells slots Q (F0 m (pc + 3) ls (v :: rest))) : W p l e R s m args below meth c H locs cells slots Q (F0 m pc ls (.ref a :: rest)) := by
  obtain ⟨hx, hb, hr, hml, hB, hown, hlocks, hnm⟩ := hC
  rw [hy0] at hown
  exact va_get (ci := 7) (C := RX7) (T := TX7) (N := 9) hx hb hB in_X7 hown hK.1 hP q0 he rfl 3 (by decide) (hB _ m_93) (fun _ h => h) hv hdg kk
theorem dX7_boundHours_12 : decode cX7_boundHours 12 = .ok (.iload_n 1, 1) := by decide +kernel
theorem dX7_boundHours_13 : decode cX7_boundHours 13 = .ok (.iaload, 1) := by decide +kernel
theorem ald (hC : CX p s m meth c y0 b0 mL0 rt0 args) (hK : KK G s) (hP : va_P G.1 vwCl ws H) (q0 : Nat) {n : Nat} {f : Nat → Int32} (ha : ws[q0]? = some (a, .inl (G.2.1, n, .inl f))) {i : Int32} (hin : vp_in i n) {k : Nat} (hk : i.toNatClampNeg = k) {v : Int32} (hv : f k = v) (hdg : decode b0 pc = .ok (.iaload, 1)) (kk : W p l e R s m args below meth c H locs cells slots Q (F0 m (pc + 1) ls (.int v :: rest))) : W p l e R s m args below meth c H locs cells slots Q (F0 m pc ls (.int i :: .ref a :: rest)) := by
  obtain ⟨hx, hb, hr, hml, hB, hown, hlocks, hnm⟩ := hC
  refine va_iald hx hb hK.1 hP q0 0 ha rfl hin hdg ?_
  rw [hk, hv]
  exact kk
theorem dX7_boundHours_14 : decode cX7_boundHours 14 = .ok (.ifCond .ge 6, 3) := by decide +kernel
theorem dX7_boundHours_17 : decode cX7_boundHours 17 = .ok (.goto 71, 3) := by decide +kernel
theorem dX7_boundHours_88 : decode cX7_boundHours 88 = .ok (.iinc 1 1, 3) := by decide +kernel
theorem dX7_boundHours_91 : decode cX7_boundHours 91 = .ok (.goto (-89), 3) := by decide +kernel
theorem dX7_boundHours_94 : decode cX7_boundHours 94 = .ok (.return_, 1) := by decide +kernel
theorem dX7_look_0 : decode cX7_look 0 = .ok (.aload_n 0, 1) := by decide +kernel
theorem dX7_look_1 : decode cX7_look 1 = .ok (.iconst 0, 1) := by decide +kernel
theorem dX7_look_2 : decode cX7_look 2 = .ok (.putfield 41, 3) := by decide +kernel
theorem dX7_look_5 : decode cX7_look 5 = .ok (.aload_n 0, 1) := by decide +kernel
theorem dX7_look_6 : decode cX7_look 6 = .ok (.getfield 12, 3) := by decide +kernel
theorem gf_X7_12 (hC : CX p s m meth c y0 b0 mL0 rt0 args) (hy0 : y0.cls = RX7) (hK : KK G s) (hP : va_P G.1 vwCl ws H) (q0 : Nat) {fs : List Value} {v : Value} (he : ws[q0]? = some (a, .inr (7, fs))) (hv : fs[1]? = some v) (hdg : decode b0 pc = .ok (.getfield 12, 3)) (kk : W p l e R s m args below meth c H locs cells slots Q (F0 m (pc + 3) ls (v :: rest))) : W p l e R s m args below meth c H locs cells slots Q (F0 m pc ls (.ref a :: rest)) := by
  obtain ⟨hx, hb, hr, hml, hB, hown, hlocks, hnm⟩ := hC
  rw [hy0] at hown
  exact va_get (ci := 7) (C := RX7) (T := TX7) (N := 9) hx hb hB in_X7 hown hK.1 hP q0 he rfl 1 (by decide) (hB _ m_91) (fun _ h => h) hv hdg kk
theorem dX7_look_9 : decode cX7_look 9 = .ok (.invokevirtual 45, 3) := by decide +kernel
theorem m_461 : Cond.code yX1_free cX1_free 4 none ∈ BW := List.mem_of_getElem? (i := 461) (by decide +kernel)
theorem m_496 : Cond.methodLink RX7 45 yX1_free ∈ BW := List.mem_of_getElem? (i := 496) (by decide +kernel)
theorem m_459 : Cond.instanceMethod yX1_free ∈ BW := List.mem_of_getElem? (i := 459) (by decide +kernel)
theorem m_460 : Cond.selects RX1 yX1_free yX1_free ∈ BW := List.mem_of_getElem? (i := 460) (by decide +kernel)
theorem si_X7_45 : SV RX7 RX1 45 yX1_free cX1_free 4 none 0 := ⟨⟨m_496, m_459, m_460, m_90, m_461⟩, rfl, by decide +kernel, by decide +kernel, by decide +kernel⟩
theorem dX7_look_12 : decode cX7_look 12 = .ok (.iconst 0, 1) := by decide +kernel
theorem dX7_look_13 : decode cX7_look 13 = .ok (.istore_n 2, 1) := by decide +kernel
theorem dX7_look_14 : decode cX7_look 14 = .ok (.iload_n 2, 1) := by decide +kernel
theorem dX7_look_15 : decode cX7_look 15 = .ok (.bipush 12, 2) := by decide +kernel
theorem dX7_look_17 : decode cX7_look 17 = .ok (.if_icmp .ge 23, 3) := by decide +kernel
theorem dX7_look_20 : decode cX7_look 20 = .ok (.aload_n 0, 1) := by decide +kernel
theorem dX7_look_21 : decode cX7_look 21 = .ok (.getfield 18, 3) := by decide +kernel
theorem gf_X7_18 (hC : CX p s m meth c y0 b0 mL0 rt0 args) (hy0 : y0.cls = RX7) (hK : KK G s) (hP : va_P G.1 vwCl ws H) (q0 : Nat) {fs : List Value} {v : Value} (he : ws[q0]? = some (a, .inr (7, fs))) (hv : fs[2]? = some v) (hdg : decode b0 pc = .ok (.getfield 18, 3)) (kk : W p l e R s m args below meth c H locs cells slots Q (F0 m (pc + 3) ls (v :: rest))) : W p l e R s m args below meth c H locs cells slots Q (F0 m pc ls (.ref a :: rest)) := by
  obtain ⟨hx, hb, hr, hml, hB, hown, hlocks, hnm⟩ := hC
  rw [hy0] at hown
  exact va_get (ci := 7) (C := RX7) (T := TX7) (N := 9) hx hb hB in_X7 hown hK.1 hP q0 he rfl 2 (by decide) (hB _ m_92) (fun _ h => h) hv hdg kk
theorem dX7_look_24 : decode cX7_look 24 = .ok (.iload_n 2, 1) := by decide +kernel
theorem dX7_look_25 : decode cX7_look 25 = .ok (.iconst (-1), 1) := by decide +kernel
theorem dX7_look_26 : decode cX7_look 26 = .ok (.iastore, 1) := by decide +kernel
theorem dX7_look_27 : decode cX7_look 27 = .ok (.aload_n 0, 1) := by decide +kernel
theorem dX7_look_28 : decode cX7_look 28 = .ok (.getfield 22, 3) := by decide +kernel
theorem dX7_look_31 : decode cX7_look 31 = .ok (.iload_n 2, 1) := by decide +kernel
theorem dX7_look_32 : decode cX7_look 32 = .ok (.iconst (-1), 1) := by decide +kernel
theorem dX7_look_33 : decode cX7_look 33 = .ok (.iastore, 1) := by decide +kernel
theorem dX7_look_34 : decode cX7_look 34 = .ok (.iinc 2 1, 3) := by decide +kernel
theorem dX7_look_37 : decode cX7_look 37 = .ok (.goto (-23), 3) := by decide +kernel
theorem dX7_look_40 : decode cX7_look 40 = .ok (.iconst 0, 1) := by decide +kernel
theorem dX7_look_41 : decode cX7_look 41 = .ok (.istore_n 2, 1) := by decide +kernel
theorem dX7_look_42 : decode cX7_look 42 = .ok (.iload_n 2, 1) := by decide +kernel
theorem dX7_look_43 : decode cX7_look 43 = .ok (.aload_n 0, 1) := by decide +kernel
theorem dX7_look_44 : decode cX7_look 44 = .ok (.getfield 37, 3) := by decide +kernel
theorem gf_X7_37 (hC : CX p s m meth c y0 b0 mL0 rt0 args) (hy0 : y0.cls = RX7) (hK : KK G s) (hP : va_P G.1 vwCl ws H) (q0 : Nat) {fs : List Value} {v : Value} (he : ws[q0]? = some (a, .inr (7, fs))) (hv : fs[0]? = some v) (hdg : decode b0 pc = .ok (.getfield 37, 3)) (kk : W p l e R s m args below meth c H locs cells slots Q (F0 m (pc + 3) ls (v :: rest))) : W p l e R s m args below meth c H locs cells slots Q (F0 m pc ls (.ref a :: rest)) := by
  obtain ⟨hx, hb, hr, hml, hB, hown, hlocks, hnm⟩ := hC
  rw [hy0] at hown
  exact va_get (ci := 7) (C := RX7) (T := TX7) (N := 9) hx hb hB in_X7 hown hK.1 hP q0 he rfl 0 (by decide) (hB _ m_98) (fun _ h => h) hv hdg kk
theorem dX7_look_47 : decode cX7_look 47 = .ok (.getfield 48, 3) := by decide +kernel
theorem nm_9 : Cond.fieldLinkNest RX7 48 RX0 "stamps" "LInquiryBench$Table;" RX11 ∈ NestW := List.mem_of_getElem? (i := 9) (by decide +kernel)
theorem gf_X7_48 (hC : CX p s m meth c y0 b0 mL0 rt0 args) (hy0 : y0.cls = RX7) (hK : KK G s) (hP : va_P G.1 vwCl ws H) (q0 : Nat) {fs : List Value} {v : Value} (he : ws[q0]? = some (a, .inr (0, fs))) (hv : fs[2]? = some v) (hdg : decode b0 pc = .ok (.getfield 48, 3)) (kk : W p l e R s m args below meth c H locs cells slots Q (F0 m (pc + 3) ls (v :: rest))) : W p l e R s m args below meth c H locs cells slots Q (F0 m pc ls (.ref a :: rest)) := by
  obtain ⟨hx, hb, hr, hml, hB, hown, hlocks, hnm⟩ := hC
  rw [hy0] at hown
  exact va_getN (ci := 0) (C := RX0) (T := TX0) (N := 14) hx hb hB in_X0 hown hK.1 hP q0 he rfl 2 (by decide) (va_Nw.use rfl (hK.2.1 _ nm_9)) (fun _ h => h) hv hdg kk
theorem dX7_look_50 : decode cX7_look 50 = .ok (.invokevirtual 54, 3) := by decide +kernel
theorem m_497 : Cond.methodLink RX7 54 yX8_count ∈ BW := List.mem_of_getElem? (i := 497) (by decide +kernel)
theorem si_X7_54 : SV RX7 RX8 54 yX8_count cX8_count 1 (some .int) 0 := ⟨⟨m_497, m_235, m_236, m_56, m_237⟩, rfl, by decide +kernel, by decide +kernel, by decide +kernel⟩
theorem dX7_look_53 : decode cX7_look 53 = .ok (.if_icmp .ge 116, 3) := by decide +kernel
theorem dX7_look_169 : decode cX7_look 169 = .ok (.aload_n 0, 1) := by decide +kernel
theorem dX7_look_170 : decode cX7_look 170 = .ok (.invokevirtual 80, 3) := by decide +kernel
theorem m_503 : Cond.code yX7_boundHours cX7_boundHours 2 none ∈ BW := List.mem_of_getElem? (i := 503) (by decide +kernel)
theorem m_500 : Cond.methodLink RX7 80 yX7_boundHours ∈ BW := List.mem_of_getElem? (i := 500) (by decide +kernel)
theorem m_501 : Cond.instanceMethod yX7_boundHours ∈ BW := List.mem_of_getElem? (i := 501) (by decide +kernel)
theorem m_502 : Cond.selects RX7 yX7_boundHours yX7_boundHours ∈ BW := List.mem_of_getElem? (i := 502) (by decide +kernel)
theorem si_X7_80 : SV RX7 RX7 80 yX7_boundHours cX7_boundHours 2 none 0 := ⟨⟨m_500, m_501, m_502, m_18, m_503⟩, rfl, by decide +kernel, by decide +kernel, by decide +kernel⟩
theorem dX7_look_173 : decode cX7_look 173 = .ok (.return_, 1) := by decide +kernel
theorem dX7_clashes_0 : decode cX7_clashes 0 = .ok (.aload_n 0, 1) := by decide +kernel
theorem dX7_clashes_1 : decode cX7_clashes 1 = .ok (.getfield 41, 3) := by decide +kernel
theorem gf_X7_41 (hC : CX p s m meth c y0 b0 mL0 rt0 args) (hy0 : y0.cls = RX7) (hK : KK G s) (hP : va_P G.1 vwCl ws H) (q0 : Nat) {fs : List Value} {v : Value} (he : ws[q0]? = some (a, .inr (7, fs))) (hv : fs[8]? = some v) (hdg : decode b0 pc = .ok (.getfield 41, 3)) (kk : W p l e R s m args below meth c H locs cells slots Q (F0 m (pc + 3) ls (v :: rest))) : W p l e R s m args below meth c H locs cells slots Q (F0 m pc ls (.ref a :: rest)) := by
  obtain ⟨hx, hb, hr, hml, hB, hown, hlocks, hnm⟩ := hC
  rw [hy0] at hown
  exact va_get (ci := 7) (C := RX7) (T := TX7) (N := 9) hx hb hB in_X7 hown hK.1 hP q0 he rfl 8 (by decide) (hB _ m_99) (fun _ h => h) hv hdg kk
theorem dX7_clashes_4 : decode cX7_clashes 4 = .ok (.ireturn, 1) := by decide +kernel
theorem dX1_mostAhead_0 : decode cX1_mostAhead 0 = .ok (.iload_n 1, 1) := by decide +kernel
theorem dX1_mostAhead_1 : decode cX1_mostAhead 1 = .ok (.ifCond .lt 19, 3) := by decide +kernel
theorem dX1_mostAhead_4 : decode cX1_mostAhead 4 = .ok (.iload_n 1, 1) := by decide +kernel
theorem dX1_mostAhead_5 : decode cX1_mostAhead 5 = .ok (.bipush 6, 2) := by decide +kernel
theorem dX1_mostAhead_7 : decode cX1_mostAhead 7 = .ok (.if_icmp .ge 13, 3) := by decide +kernel
theorem dX1_mostAhead_10 : decode cX1_mostAhead 10 = .ok (.iload_n 2, 1) := by decide +kernel
theorem dX1_mostAhead_11 : decode cX1_mostAhead 11 = .ok (.ifCond .lt 9, 3) := by decide +kernel
theorem dX1_mostAhead_14 : decode cX1_mostAhead 14 = .ok (.iload_n 2, 1) := by decide +kernel
theorem dX1_mostAhead_15 : decode cX1_mostAhead 15 = .ok (.bipush 6, 2) := by decide +kernel
theorem dX1_mostAhead_17 : decode cX1_mostAhead 17 = .ok (.if_icmp .lt 5, 3) := by decide +kernel
theorem dX1_mostAhead_22 : decode cX1_mostAhead 22 = .ok (.aload_n 0, 1) := by decide +kernel
theorem dX1_mostAhead_23 : decode cX1_mostAhead 23 = .ok (.getfield 9, 3) := by decide +kernel
theorem dX1_mostAhead_26 : decode cX1_mostAhead 26 = .ok (.iload_n 1, 1) := by decide +kernel
theorem dX1_mostAhead_27 : decode cX1_mostAhead 27 = .ok (.bipush 6, 2) := by decide +kernel
theorem dX1_mostAhead_29 : decode cX1_mostAhead 29 = .ok (.imul, 1) := by decide +kernel
theorem dX1_mostAhead_30 : decode cX1_mostAhead 30 = .ok (.iload_n 2, 1) := by decide +kernel
theorem dX1_mostAhead_31 : decode cX1_mostAhead 31 = .ok (.iadd, 1) := by decide +kernel
theorem dX1_mostAhead_32 : decode cX1_mostAhead 32 = .ok (.iaload, 1) := by decide +kernel
theorem dX1_mostAhead_33 : decode cX1_mostAhead 33 = .ok (.ireturn, 1) := by decide +kernel
theorem dX7_ahead_0 : decode cX7_ahead 0 = .ok (.iload_n 2, 1) := by decide +kernel
theorem dX7_ahead_1 : decode cX7_ahead 1 = .ok (.ifCond .eq 15, 3) := by decide +kernel
theorem dX7_ahead_16 : decode cX7_ahead 16 = .ok (.aload_n 0, 1) := by decide +kernel
theorem dX7_ahead_17 : decode cX7_ahead 17 = .ok (.getfield 12, 3) := by decide +kernel
theorem dX7_ahead_20 : decode cX7_ahead 20 = .ok (.iload_n 1, 1) := by decide +kernel
theorem dX7_ahead_21 : decode cX7_ahead 21 = .ok (.iconst 0, 1) := by decide +kernel
theorem dX7_ahead_22 : decode cX7_ahead 22 = .ok (.invokevirtual 87, 3) := by decide +kernel
theorem m_511 : Cond.code yX1_mostAhead cX1_mostAhead 3 (some .int) ∈ BW := List.mem_of_getElem? (i := 511) (by decide +kernel)
theorem m_508 : Cond.methodLink RX7 87 yX1_mostAhead ∈ BW := List.mem_of_getElem? (i := 508) (by decide +kernel)
theorem m_509 : Cond.instanceMethod yX1_mostAhead ∈ BW := List.mem_of_getElem? (i := 509) (by decide +kernel)
theorem m_510 : Cond.selects RX1 yX1_mostAhead yX1_mostAhead ∈ BW := List.mem_of_getElem? (i := 510) (by decide +kernel)
theorem si_X7_87 : SV RX7 RX1 87 yX1_mostAhead cX1_mostAhead 3 (some .int) 2 := ⟨⟨m_508, m_509, m_510, m_90, m_511⟩, rfl, by decide +kernel, by decide +kernel, by decide +kernel⟩
theorem dX7_ahead_25 : decode cX7_ahead 25 = .ok (.ineg, 1) := by decide +kernel
theorem dX7_ahead_26 : decode cX7_ahead 26 = .ok (.ireturn, 1) := by decide +kernel
theorem dX7_ahead_4 : decode cX7_ahead 4 = .ok (.aload_n 0, 1) := by decide +kernel
theorem dX7_ahead_5 : decode cX7_ahead 5 = .ok (.getfield 12, 3) := by decide +kernel
theorem dX7_ahead_8 : decode cX7_ahead 8 = .ok (.iconst 0, 1) := by decide +kernel
theorem dX7_ahead_9 : decode cX7_ahead 9 = .ok (.iload_n 1, 1) := by decide +kernel
theorem dX7_ahead_10 : decode cX7_ahead 10 = .ok (.invokevirtual 87, 3) := by decide +kernel
theorem dX7_ahead_13 : decode cX7_ahead 13 = .ok (.goto 13, 3) := by decide +kernel
end WR
noncomputable def A_span (ck mo : Int32) : Int32 := ifc (Wi ck 0 5) (ifc (ck = 0) 1000 (ifc (mo = 0) 940 1060)) (-1)
section WR
variable {p : Program} {l : Launch} {e : Env} {R : Room} {s : State} {m : MethodId} {args : Array Value} {below : List Frame} {meth : Method} {c : Code} {H : Heap} {locs : List Loc} {cells slots : Nat} {Q : State → Prop}
variable {pc : Nat} {ls : Array Slot} {rest : List Value} {G : GG} {ws : va_W} {A : Nat → Prop} {y0 : MethodName} {b0 : ByteArray} {mL0 : Nat} {rt0 : Option FieldType} {a : Nat} {H0 : Heap}
theorem dX11_span_0 : decode cX11_span 0 = .ok (.iload_n 1, 1) := by decide +kernel
theorem dX11_span_1 : decode cX11_span 1 = .ok (.iconst 0, 1) := by decide +kernel
theorem dX11_span_2 : decode cX11_span 2 = .ok (.iconst 5, 1) := by decide +kernel
theorem dX11_span_3 : decode cX11_span 3 = .ok (.invokestatic 83, 3) := by decide +kernel
theorem dX11_span_6 : decode cX11_span 6 = .ok (.ifCond .ne 5, 3) := by decide +kernel
theorem dX11_span_11 : decode cX11_span 11 = .ok (.aload_n 0, 1) := by decide +kernel
theorem dX11_span_12 : decode cX11_span 12 = .ok (.getfield 28, 3) := by decide +kernel
theorem gf_X11_28 (hC : CX p s m meth c y0 b0 mL0 rt0 args) (hy0 : y0.cls = RX11) (hK : KK G s) (hP : va_P G.1 vwCl ws H) (q0 : Nat) {fs : List Value} {v : Value} (he : ws[q0]? = some (a, .inr (11, fs))) (hv : fs[3]? = some v) (hdg : decode b0 pc = .ok (.getfield 28, 3)) (kk : W p l e R s m args below meth c H locs cells slots Q (F0 m (pc + 3) ls (v :: rest))) : W p l e R s m args below meth c H locs cells slots Q (F0 m pc ls (.ref a :: rest)) := by
  obtain ⟨hx, hb, hr, hml, hB, hown, hlocks, hnm⟩ := hC
  rw [hy0] at hown
  exact va_get (ci := 11) (C := RX11) (T := TX11) (N := 11) hx hb hB in_X11 hown hK.1 hP q0 he rfl 3 (by decide) (hB _ m_22) (fun _ h => h) hv hdg kk
theorem dX11_span_15 : decode cX11_span 15 = .ok (.aload_n 0, 1) := by decide +kernel
theorem dX11_span_16 : decode cX11_span 16 = .ok (.getfield 15, 3) := by decide +kernel
theorem dX11_span_19 : decode cX11_span 19 = .ok (.invokevirtual 97, 3) := by decide +kernel
theorem dX11_span_22 : decode cX11_span 22 = .ok (.invokevirtual 183, 3) := by decide +kernel
theorem m_495 : Cond.code yX7_look cX7_look 4 none ∈ BW := List.mem_of_getElem? (i := 495) (by decide +kernel)
theorem m_492 : Cond.methodLink RX11 183 yX7_look ∈ BW := List.mem_of_getElem? (i := 492) (by decide +kernel)
theorem m_493 : Cond.instanceMethod yX7_look ∈ BW := List.mem_of_getElem? (i := 493) (by decide +kernel)
theorem m_494 : Cond.selects RX7 yX7_look yX7_look ∈ BW := List.mem_of_getElem? (i := 494) (by decide +kernel)
theorem si_X11_183 : SV RX11 RX7 183 yX7_look cX7_look 4 none 1 := ⟨⟨m_492, m_493, m_494, m_18, m_495⟩, rfl, by decide +kernel, by decide +kernel, by decide +kernel⟩
theorem dX11_span_25 : decode cX11_span 25 = .ok (.aload_n 0, 1) := by decide +kernel
theorem dX11_span_26 : decode cX11_span 26 = .ok (.getfield 28, 3) := by decide +kernel
theorem dX11_span_29 : decode cX11_span 29 = .ok (.invokevirtual 187, 3) := by decide +kernel
theorem m_515 : Cond.code yX7_clashes cX7_clashes 1 (some .boolean) ∈ BW := List.mem_of_getElem? (i := 515) (by decide +kernel)
theorem m_512 : Cond.methodLink RX11 187 yX7_clashes ∈ BW := List.mem_of_getElem? (i := 512) (by decide +kernel)
theorem m_513 : Cond.instanceMethod yX7_clashes ∈ BW := List.mem_of_getElem? (i := 513) (by decide +kernel)
theorem m_514 : Cond.selects RX7 yX7_clashes yX7_clashes ∈ BW := List.mem_of_getElem? (i := 514) (by decide +kernel)
theorem si_X11_187 : SV RX11 RX7 187 yX7_clashes cX7_clashes 1 (some .boolean) 0 := ⟨⟨m_512, m_513, m_514, m_18, m_515⟩, rfl, by decide +kernel, by decide +kernel, by decide +kernel⟩
theorem dX11_span_32 : decode cX11_span 32 = .ok (.ifCond .eq 6, 3) := by decide +kernel
theorem dX11_span_38 : decode cX11_span 38 = .ok (.aload_n 0, 1) := by decide +kernel
theorem dX11_span_39 : decode cX11_span 39 = .ok (.getfield 28, 3) := by decide +kernel
theorem dX11_span_42 : decode cX11_span 42 = .ok (.iload_n 1, 1) := by decide +kernel
theorem dX11_span_43 : decode cX11_span 43 = .ok (.iload_n 2, 1) := by decide +kernel
theorem dX11_span_44 : decode cX11_span 44 = .ok (.invokevirtual 190, 3) := by decide +kernel
theorem m_544 : Cond.code yX7_ahead cX7_ahead 3 (some .int) ∈ BW := List.mem_of_getElem? (i := 544) (by decide +kernel)
theorem m_541 : Cond.methodLink RX11 190 yX7_ahead ∈ BW := List.mem_of_getElem? (i := 541) (by decide +kernel)
theorem m_542 : Cond.instanceMethod yX7_ahead ∈ BW := List.mem_of_getElem? (i := 542) (by decide +kernel)
theorem m_543 : Cond.selects RX7 yX7_ahead yX7_ahead ∈ BW := List.mem_of_getElem? (i := 543) (by decide +kernel)
theorem si_X11_190 : SV RX11 RX7 190 yX7_ahead cX7_ahead 3 (some .int) 2 := ⟨⟨m_541, m_542, m_543, m_18, m_544⟩, rfl, by decide +kernel, by decide +kernel, by decide +kernel⟩
theorem dX11_span_47 : decode cX11_span 47 = .ok (.sipush 1000, 3) := by decide +kernel
theorem dX11_span_50 : decode cX11_span 50 = .ok (.iadd, 1) := by decide +kernel
theorem dX11_span_51 : decode cX11_span 51 = .ok (.ireturn, 1) := by decide +kernel
theorem dX11_span_9 : decode cX11_span 9 = .ok (.iconst (-1), 1) := by decide +kernel
theorem dX11_span_10 : decode cX11_span 10 = .ok (.ireturn, 1) := by decide +kernel
theorem dX3_search_0 : decode cX3_search 0 = .ok (.iload_n 3, 1) := by decide +kernel
theorem dX3_search_1 : decode cX3_search 1 = .ok (.aload_n 0, 1) := by decide +kernel
theorem dX3_search_2 : decode cX3_search 2 = .ok (.getfield 26, 3) := by decide +kernel
theorem gf_X3_26 (hC : CX p s m meth c y0 b0 mL0 rt0 args) (hy0 : y0.cls = RX3) (hK : KK G s) (hP : va_P G.1 vwCl ws H) (q0 : Nat) {fs : List Value} {v : Value} (he : ws[q0]? = some (a, .inr (3, fs))) (hv : fs[3]? = some v) (hdg : decode b0 pc = .ok (.getfield 26, 3)) (kk : W p l e R s m args below meth c H locs cells slots Q (F0 m (pc + 3) ls (v :: rest))) : W p l e R s m args below meth c H locs cells slots Q (F0 m pc ls (.ref a :: rest)) := by
  obtain ⟨hx, hb, hr, hml, hB, hown, hlocks, hnm⟩ := hC
  rw [hy0] at hown
  exact va_get (ci := 3) (C := RX3) (T := TX3) (N := 5) hx hb hB in_X3 hown hK.1 hP q0 he rfl 3 (by decide) (hB _ m_112) (fun _ h => h) hv hdg kk
theorem dX3_search_5 : decode cX3_search 5 = .ok (.if_icmp .lt 4, 3) := by decide +kernel
theorem dX3_search_9 : decode cX3_search 9 = .ok (.iload_n 1, 1) := by decide +kernel
theorem dX3_search_10 : decode cX3_search 10 = .ok (.istore 5, 2) := by decide +kernel
theorem dX3_search_12 : decode cX3_search 12 = .ok (.iload 5, 2) := by decide +kernel
theorem dX3_search_14 : decode cX3_search 14 = .ok (.ifCond .lt 21, 3) := by decide +kernel
theorem dX3_search_17 : decode cX3_search 17 = .ok (.aload_n 0, 1) := by decide +kernel
theorem dX3_search_18 : decode cX3_search 18 = .ok (.getfield 22, 3) := by decide +kernel
theorem gf_X3_22 (hC : CX p s m meth c y0 b0 mL0 rt0 args) (hy0 : y0.cls = RX3) (hK : KK G s) (hP : va_P G.1 vwCl ws H) (q0 : Nat) {fs : List Value} {v : Value} (he : ws[q0]? = some (a, .inr (3, fs))) (hv : fs[2]? = some v) (hdg : decode b0 pc = .ok (.getfield 22, 3)) (kk : W p l e R s m args below meth c H locs cells slots Q (F0 m (pc + 3) ls (v :: rest))) : W p l e R s m args below meth c H locs cells slots Q (F0 m pc ls (.ref a :: rest)) := by
  obtain ⟨hx, hb, hr, hml, hB, hown, hlocks, hnm⟩ := hC
  rw [hy0] at hown
  exact va_get (ci := 3) (C := RX3) (T := TX3) (N := 5) hx hb hB in_X3 hown hK.1 hP q0 he rfl 2 (by decide) (hB _ m_111) (fun _ h => h) hv hdg kk
theorem dX3_search_21 : decode cX3_search 21 = .ok (.iload 5, 2) := by decide +kernel
theorem dX3_search_23 : decode cX3_search 23 = .ok (.invokestatic 44, 3) := by decide +kernel
theorem m_310 : Cond.code yX11_hasBit cX11_hasBit 2 (some .boolean) ∈ BW := List.mem_of_getElem? (i := 310) (by decide +kernel)
theorem nm_44 : Cond.methodLinkNest RX3 44 yX11_hasBit RX11 ∈ NestW := List.mem_of_getElem? (i := 44) (by decide +kernel)
theorem m_309 : Cond.static yX11_hasBit ∈ BW := List.mem_of_getElem? (i := 309) (by decide +kernel)
theorem si_X3_44 : SSN RX3 RX11 44 yX11_hasBit cX11_hasBit 2 (some .boolean) 2 := ⟨⟨nm_44, m_309, m_2, m_310⟩, ⟨by decide +kernel, by decide +kernel, by decide +kernel⟩⟩
theorem dX3_search_26 : decode cX3_search 26 = .ok (.ifCond .ne 9, 3) := by decide +kernel
theorem dX3_search_29 : decode cX3_search 29 = .ok (.iinc 5 (-1), 3) := by decide +kernel
theorem dX3_search_32 : decode cX3_search 32 = .ok (.goto (-20), 3) := by decide +kernel
theorem dX3_search_35 : decode cX3_search 35 = .ok (.iload 5, 2) := by decide +kernel
theorem dX3_search_37 : decode cX3_search 37 = .ok (.ifCond .ge 16, 3) := by decide +kernel
theorem dX3_search_40 : decode cX3_search 40 = .ok (.aload_n 0, 1) := by decide +kernel
theorem dX3_search_41 : decode cX3_search 41 = .ok (.iload_n 3, 1) := by decide +kernel
theorem dX3_search_42 : decode cX3_search 42 = .ok (.putfield 26, 3) := by decide +kernel
theorem dX3_search_45 : decode cX3_search 45 = .ok (.aload_n 0, 1) := by decide +kernel
theorem dX3_search_46 : decode cX3_search 46 = .ok (.iload_n 2, 1) := by decide +kernel
theorem dX3_search_47 : decode cX3_search 47 = .ok (.putfield 29, 3) := by decide +kernel
theorem dX3_search_50 : decode cX3_search 50 = .ok (.goto 13, 3) := by decide +kernel
theorem dX3_search_63 : decode cX3_search 63 = .ok (.return_, 1) := by decide +kernel
theorem dX3_fewest_0 : decode cX3_fewest 0 = .ok (.aload_n 0, 1) := by decide +kernel
theorem dX3_fewest_1 : decode cX3_fewest 1 = .ok (.iconst 0, 1) := by decide +kernel
theorem dX3_fewest_2 : decode cX3_fewest 2 = .ok (.putfield 22, 3) := by decide +kernel
theorem dX3_fewest_5 : decode cX3_fewest 5 = .ok (.iconst 0, 1) := by decide +kernel
theorem dX3_fewest_6 : decode cX3_fewest 6 = .ok (.istore_n 2, 1) := by decide +kernel
theorem dX3_fewest_7 : decode cX3_fewest 7 = .ok (.iload_n 2, 1) := by decide +kernel
theorem dX3_fewest_8 : decode cX3_fewest 8 = .ok (.aload_n 0, 1) := by decide +kernel
theorem dX3_fewest_9 : decode cX3_fewest 9 = .ok (.getfield 17, 3) := by decide +kernel
theorem gf_X3_17 (hC : CX p s m meth c y0 b0 mL0 rt0 args) (hy0 : y0.cls = RX3) (hK : KK G s) (hP : va_P G.1 vwCl ws H) (q0 : Nat) {fs : List Value} {v : Value} (he : ws[q0]? = some (a, .inr (3, fs))) (hv : fs[0]? = some v) (hdg : decode b0 pc = .ok (.getfield 17, 3)) (kk : W p l e R s m args below meth c H locs cells slots Q (F0 m (pc + 3) ls (v :: rest))) : W p l e R s m args below meth c H locs cells slots Q (F0 m pc ls (.ref a :: rest)) := by
  obtain ⟨hx, hb, hr, hml, hB, hown, hlocks, hnm⟩ := hC
  rw [hy0] at hown
  exact va_get (ci := 3) (C := RX3) (T := TX3) (N := 5) hx hb hB in_X3 hown hK.1 hP q0 he rfl 0 (by decide) (hB _ m_110) (fun _ h => h) hv hdg kk
theorem dX3_fewest_12 : decode cX3_fewest 12 = .ok (.getfield 32, 3) := by decide +kernel
theorem nm_4 : Cond.fieldLinkNest RX3 32 RX0 "papers" "LInquiryBench$Table;" RX11 ∈ NestW := List.mem_of_getElem? (i := 4) (by decide +kernel)
theorem gf_X3_32 (hC : CX p s m meth c y0 b0 mL0 rt0 args) (hy0 : y0.cls = RX3) (hK : KK G s) (hP : va_P G.1 vwCl ws H) (q0 : Nat) {fs : List Value} {v : Value} (he : ws[q0]? = some (a, .inr (0, fs))) (hv : fs[1]? = some v) (hdg : decode b0 pc = .ok (.getfield 32, 3)) (kk : W p l e R s m args below meth c H locs cells slots Q (F0 m (pc + 3) ls (v :: rest))) : W p l e R s m args below meth c H locs cells slots Q (F0 m pc ls (.ref a :: rest)) := by
  obtain ⟨hx, hb, hr, hml, hB, hown, hlocks, hnm⟩ := hC
  rw [hy0] at hown
  exact va_getN (ci := 0) (C := RX0) (T := TX0) (N := 14) hx hb hB in_X0 hown hK.1 hP q0 he rfl 1 (by decide) (va_Nw.use rfl (hK.2.1 _ nm_4)) (fun _ h => h) hv hdg kk
theorem dX3_fewest_15 : decode cX3_fewest 15 = .ok (.invokevirtual 38, 3) := by decide +kernel
theorem m_456 : Cond.methodLink RX3 38 yX8_count ∈ BW := List.mem_of_getElem? (i := 456) (by decide +kernel)
theorem si_X3_38 : SV RX3 RX8 38 yX8_count cX8_count 1 (some .int) 0 := ⟨⟨m_456, m_235, m_236, m_56, m_237⟩, rfl, by decide +kernel, by decide +kernel, by decide +kernel⟩
theorem dX3_fewest_18 : decode cX3_fewest 18 = .ok (.if_icmp .ge 41, 3) := by decide +kernel
theorem dX3_fewest_59 : decode cX3_fewest 59 = .ok (.aload_n 0, 1) := by decide +kernel
theorem dX3_fewest_60 : decode cX3_fewest 60 = .ok (.bipush 13, 2) := by decide +kernel
theorem dX3_fewest_62 : decode cX3_fewest 62 = .ok (.putfield 26, 3) := by decide +kernel
theorem dX3_fewest_65 : decode cX3_fewest 65 = .ok (.aload_n 0, 1) := by decide +kernel
theorem dX3_fewest_66 : decode cX3_fewest 66 = .ok (.iconst 0, 1) := by decide +kernel
theorem dX3_fewest_67 : decode cX3_fewest 67 = .ok (.putfield 29, 3) := by decide +kernel
theorem dX3_fewest_70 : decode cX3_fewest 70 = .ok (.aload_n 0, 1) := by decide +kernel
theorem dX3_fewest_71 : decode cX3_fewest 71 = .ok (.getfield 11, 3) := by decide +kernel
theorem dX3_fewest_74 : decode cX3_fewest 74 = .ok (.iconst 0, 1) := by decide +kernel
theorem dX3_fewest_75 : decode cX3_fewest 75 = .ok (.aaload, 1) := by decide +kernel
theorem aldC (hC : CX p s m meth c y0 b0 mL0 rt0 args) (hK : KK G s) (hP : va_P G.1 vwCl ws H) (q0 : Nat) {n : Nat} {f : Nat → Option Nat} (ha : ws[q0]? = some (a, .inl (G.2.2.1, n, .inr (.inr (.inr (.inr f)))))) {i : Int32} (hin : vp_in i n) {k v : Nat} (hk : i.toNatClampNeg = k) (hv : f k = some v) (hdg : decode b0 pc = .ok (.aaload, 1)) (kk : W p l e R s m args below meth c H locs cells slots Q (F0 m (pc + 1) ls (.ref v :: rest))) : W p l e R s m args below meth c H locs cells slots Q (F0 m pc ls (.int i :: .ref a :: rest)) := by
  obtain ⟨hx, hb, hr, hml, hB, hown, hlocks, hnm⟩ := hC
  refine va_aldq hx hb hK.1 hP q0 1 ha rfl hin hdg ?_
  rw [hk, hv]
  exact kk
theorem dX3_fewest_76 : decode cX3_fewest 76 = .ok (.invokevirtual 52, 3) := by decide +kernel
theorem m_458 : Cond.methodLink RX3 52 yX1_free ∈ BW := List.mem_of_getElem? (i := 458) (by decide +kernel)
theorem si_X3_52 : SV RX3 RX1 52 yX1_free cX1_free 4 none 0 := ⟨⟨m_458, m_459, m_460, m_90, m_461⟩, rfl, by decide +kernel, by decide +kernel, by decide +kernel⟩
theorem dX3_fewest_79 : decode cX3_fewest 79 = .ok (.aload_n 0, 1) := by decide +kernel
theorem dX3_fewest_80 : decode cX3_fewest 80 = .ok (.bipush 11, 2) := by decide +kernel
theorem dX3_fewest_82 : decode cX3_fewest 82 = .ok (.iconst 0, 1) := by decide +kernel
theorem dX3_fewest_83 : decode cX3_fewest 83 = .ok (.iconst 0, 1) := by decide +kernel
theorem dX3_fewest_84 : decode cX3_fewest 84 = .ok (.iconst 0, 1) := by decide +kernel
theorem dX3_fewest_85 : decode cX3_fewest 85 = .ok (.invokevirtual 55, 3) := by decide +kernel
theorem m_465 : Cond.code yX3_search cX3_search 6 none ∈ BW := List.mem_of_getElem? (i := 465) (by decide +kernel)
theorem m_462 : Cond.methodLink RX3 55 yX3_search ∈ BW := List.mem_of_getElem? (i := 462) (by decide +kernel)
theorem m_463 : Cond.instanceMethod yX3_search ∈ BW := List.mem_of_getElem? (i := 463) (by decide +kernel)
theorem m_464 : Cond.selects RX3 yX3_search yX3_search ∈ BW := List.mem_of_getElem? (i := 464) (by decide +kernel)
theorem si_X3_55 : SV RX3 RX3 55 yX3_search cX3_search 6 none 4 := ⟨⟨m_462, m_463, m_464, m_25, m_465⟩, rfl, by decide +kernel, by decide +kernel, by decide +kernel⟩
theorem dX3_fewest_88 : decode cX3_fewest 88 = .ok (.aload_n 0, 1) := by decide +kernel
theorem dX3_fewest_89 : decode cX3_fewest 89 = .ok (.getfield 29, 3) := by decide +kernel
theorem gf_X3_29 (hC : CX p s m meth c y0 b0 mL0 rt0 args) (hy0 : y0.cls = RX3) (hK : KK G s) (hP : va_P G.1 vwCl ws H) (q0 : Nat) {fs : List Value} {v : Value} (he : ws[q0]? = some (a, .inr (3, fs))) (hv : fs[4]? = some v) (hdg : decode b0 pc = .ok (.getfield 29, 3)) (kk : W p l e R s m args below meth c H locs cells slots Q (F0 m (pc + 3) ls (v :: rest))) : W p l e R s m args below meth c H locs cells slots Q (F0 m pc ls (.ref a :: rest)) := by
  obtain ⟨hx, hb, hr, hml, hB, hown, hlocks, hnm⟩ := hC
  rw [hy0] at hown
  exact va_get (ci := 3) (C := RX3) (T := TX3) (N := 5) hx hb hB in_X3 hown hK.1 hP q0 he rfl 4 (by decide) (hB _ m_113) (fun _ h => h) hv hdg kk
theorem dX3_fewest_92 : decode cX3_fewest 92 = .ok (.ireturn, 1) := by decide +kernel
end WR
noncomputable def A_clash (w : Int32) : Int32 := ifc (Wi w 0 1) 0 (-1)
section WR
variable {p : Program} {l : Launch} {e : Env} {R : Room} {s : State} {m : MethodId} {args : Array Value} {below : List Frame} {meth : Method} {c : Code} {H : Heap} {locs : List Loc} {cells slots : Nat} {Q : State → Prop}
variable {pc : Nat} {ls : Array Slot} {rest : List Value} {G : GG} {ws : va_W} {A : Nat → Prop} {y0 : MethodName} {b0 : ByteArray} {mL0 : Nat} {rt0 : Option FieldType} {a : Nat} {H0 : Heap}
theorem dX11_clash_0 : decode cX11_clash 0 = .ok (.iload_n 1, 1) := by decide +kernel
theorem dX11_clash_1 : decode cX11_clash 1 = .ok (.iconst 0, 1) := by decide +kernel
theorem dX11_clash_2 : decode cX11_clash 2 = .ok (.iconst 1, 1) := by decide +kernel
theorem dX11_clash_3 : decode cX11_clash 3 = .ok (.invokestatic 83, 3) := by decide +kernel
theorem dX11_clash_6 : decode cX11_clash 6 = .ok (.ifCond .ne 5, 3) := by decide +kernel
theorem dX11_clash_11 : decode cX11_clash 11 = .ok (.iload_n 1, 1) := by decide +kernel
theorem dX11_clash_12 : decode cX11_clash 12 = .ok (.iconst 1, 1) := by decide +kernel
theorem dX11_clash_13 : decode cX11_clash 13 = .ok (.if_icmp .ne 18, 3) := by decide +kernel
theorem dX11_clash_31 : decode cX11_clash 31 = .ok (.aload_n 0, 1) := by decide +kernel
theorem dX11_clash_32 : decode cX11_clash 32 = .ok (.getfield 28, 3) := by decide +kernel
theorem dX11_clash_35 : decode cX11_clash 35 = .ok (.aload_n 0, 1) := by decide +kernel
theorem dX11_clash_36 : decode cX11_clash 36 = .ok (.getfield 15, 3) := by decide +kernel
theorem dX11_clash_39 : decode cX11_clash 39 = .ok (.invokevirtual 97, 3) := by decide +kernel
theorem dX11_clash_42 : decode cX11_clash 42 = .ok (.invokevirtual 183, 3) := by decide +kernel
theorem dX11_clash_45 : decode cX11_clash 45 = .ok (.aload_n 0, 1) := by decide +kernel
theorem dX11_clash_46 : decode cX11_clash 46 = .ok (.getfield 28, 3) := by decide +kernel
theorem dX11_clash_49 : decode cX11_clash 49 = .ok (.invokevirtual 187, 3) := by decide +kernel
theorem dX11_clash_52 : decode cX11_clash 52 = .ok (.ifCond .eq 7, 3) := by decide +kernel
theorem dX11_clash_59 : decode cX11_clash 59 = .ok (.iconst 0, 1) := by decide +kernel
theorem dX11_clash_60 : decode cX11_clash 60 = .ok (.ireturn, 1) := by decide +kernel
theorem dX11_clash_16 : decode cX11_clash 16 = .ok (.aload_n 0, 1) := by decide +kernel
theorem dX11_clash_17 : decode cX11_clash 17 = .ok (.getfield 35, 3) := by decide +kernel
theorem gf_X11_35 (hC : CX p s m meth c y0 b0 mL0 rt0 args) (hy0 : y0.cls = RX11) (hK : KK G s) (hP : va_P G.1 vwCl ws H) (q0 : Nat) {fs : List Value} {v : Value} (he : ws[q0]? = some (a, .inr (11, fs))) (hv : fs[4]? = some v) (hdg : decode b0 pc = .ok (.getfield 35, 3)) (kk : W p l e R s m args below meth c H locs cells slots Q (F0 m (pc + 3) ls (v :: rest))) : W p l e R s m args below meth c H locs cells slots Q (F0 m pc ls (.ref a :: rest)) := by
  obtain ⟨hx, hb, hr, hml, hB, hown, hlocks, hnm⟩ := hC
  rw [hy0] at hown
  exact va_get (ci := 11) (C := RX11) (T := TX11) (N := 11) hx hb hB in_X11 hown hK.1 hP q0 he rfl 4 (by decide) (hB _ m_26) (fun _ h => h) hv hdg kk
theorem dX11_clash_20 : decode cX11_clash 20 = .ok (.aload_n 0, 1) := by decide +kernel
theorem dX11_clash_21 : decode cX11_clash 21 = .ok (.getfield 15, 3) := by decide +kernel
theorem dX11_clash_24 : decode cX11_clash 24 = .ok (.invokevirtual 97, 3) := by decide +kernel
theorem dX11_clash_27 : decode cX11_clash 27 = .ok (.invokevirtual 180, 3) := by decide +kernel
theorem m_455 : Cond.code yX3_fewest cX3_fewest 3 (some .int) ∈ BW := List.mem_of_getElem? (i := 455) (by decide +kernel)
theorem m_452 : Cond.methodLink RX11 180 yX3_fewest ∈ BW := List.mem_of_getElem? (i := 452) (by decide +kernel)
theorem m_453 : Cond.instanceMethod yX3_fewest ∈ BW := List.mem_of_getElem? (i := 453) (by decide +kernel)
theorem m_454 : Cond.selects RX3 yX3_fewest yX3_fewest ∈ BW := List.mem_of_getElem? (i := 454) (by decide +kernel)
theorem si_X11_180 : SV RX11 RX3 180 yX3_fewest cX3_fewest 3 (some .int) 1 := ⟨⟨m_452, m_453, m_454, m_25, m_455⟩, rfl, by decide +kernel, by decide +kernel, by decide +kernel⟩
theorem dX11_clash_30 : decode cX11_clash 30 = .ok (.ireturn, 1) := by decide +kernel
theorem dX11_clash_9 : decode cX11_clash 9 = .ok (.iconst (-1), 1) := by decide +kernel
theorem dX11_clash_10 : decode cX11_clash 10 = .ok (.ireturn, 1) := by decide +kernel
theorem dX9_impossibleOnes_0 : decode cX9_impossibleOnes 0 = .ok (.iconst 0, 1) := by decide +kernel
theorem dX9_impossibleOnes_1 : decode cX9_impossibleOnes 1 = .ok (.istore_n 2, 1) := by decide +kernel
theorem dX9_impossibleOnes_2 : decode cX9_impossibleOnes 2 = .ok (.iconst 0, 1) := by decide +kernel
theorem dX9_impossibleOnes_3 : decode cX9_impossibleOnes 3 = .ok (.istore_n 3, 1) := by decide +kernel
theorem dX9_impossibleOnes_4 : decode cX9_impossibleOnes 4 = .ok (.iload_n 3, 1) := by decide +kernel
theorem dX9_impossibleOnes_5 : decode cX9_impossibleOnes 5 = .ok (.aload_n 0, 1) := by decide +kernel
theorem dX9_impossibleOnes_6 : decode cX9_impossibleOnes 6 = .ok (.getfield 9, 3) := by decide +kernel
theorem gf_X9_9 (hC : CX p s m meth c y0 b0 mL0 rt0 args) (hy0 : y0.cls = RX9) (hK : KK G s) (hP : va_P G.1 vwCl ws H) (q0 : Nat) {fs : List Value} {v : Value} (he : ws[q0]? = some (a, .inr (9, fs))) (hv : fs[0]? = some v) (hdg : decode b0 pc = .ok (.getfield 9, 3)) (kk : W p l e R s m args below meth c H locs cells slots Q (F0 m (pc + 3) ls (v :: rest))) : W p l e R s m args below meth c H locs cells slots Q (F0 m pc ls (.ref a :: rest)) := by
  obtain ⟨hx, hb, hr, hml, hB, hown, hlocks, hnm⟩ := hC
  rw [hy0] at hown
  exact va_get (ci := 9) (C := RX9) (T := TX9) (N := 6) hx hb hB in_X9 hown hK.1 hP q0 he rfl 0 (by decide) (hB _ m_129) (fun _ h => h) hv hdg kk
theorem dX9_impossibleOnes_9 : decode cX9_impossibleOnes 9 = .ok (.getfield 42, 3) := by decide +kernel
theorem nm_20 : Cond.fieldLinkNest RX9 42 RX0 "sayings" "LInquiryBench$Table;" RX11 ∈ NestW := List.mem_of_getElem? (i := 20) (by decide +kernel)
theorem gf_X9_42 (hC : CX p s m meth c y0 b0 mL0 rt0 args) (hy0 : y0.cls = RX9) (hK : KK G s) (hP : va_P G.1 vwCl ws H) (q0 : Nat) {fs : List Value} {v : Value} (he : ws[q0]? = some (a, .inr (0, fs))) (hv : fs[6]? = some v) (hdg : decode b0 pc = .ok (.getfield 42, 3)) (kk : W p l e R s m args below meth c H locs cells slots Q (F0 m (pc + 3) ls (v :: rest))) : W p l e R s m args below meth c H locs cells slots Q (F0 m pc ls (.ref a :: rest)) := by
  obtain ⟨hx, hb, hr, hml, hB, hown, hlocks, hnm⟩ := hC
  rw [hy0] at hown
  exact va_getN (ci := 0) (C := RX0) (T := TX0) (N := 14) hx hb hB in_X0 hown hK.1 hP q0 he rfl 6 (by decide) (va_Nw.use rfl (hK.2.1 _ nm_20)) (fun _ h => h) hv hdg kk
theorem dX9_impossibleOnes_12 : decode cX9_impossibleOnes 12 = .ok (.invokevirtual 65, 3) := by decide +kernel
theorem m_1006 : Cond.methodLink RX9 65 yX8_count ∈ BW := List.mem_of_getElem? (i := 1006) (by decide +kernel)
theorem si_X9_65 : SV RX9 RX8 65 yX8_count cX8_count 1 (some .int) 0 := ⟨⟨m_1006, m_235, m_236, m_56, m_237⟩, rfl, by decide +kernel, by decide +kernel, by decide +kernel⟩
theorem dX9_impossibleOnes_15 : decode cX9_impossibleOnes 15 = .ok (.if_icmp .ge 126, 3) := by decide +kernel
theorem dX9_impossibleOnes_141 : decode cX9_impossibleOnes 141 = .ok (.iload_n 2, 1) := by decide +kernel
theorem dX9_impossibleOnes_142 : decode cX9_impossibleOnes 142 = .ok (.ireturn, 1) := by decide +kernel
theorem dX11_impossible_0 : decode cX11_impossible 0 = .ok (.aload_n 0, 1) := by decide +kernel
theorem dX11_impossible_1 : decode cX11_impossible 1 = .ok (.getfield 15, 3) := by decide +kernel
theorem dX11_impossible_4 : decode cX11_impossible 4 = .ok (.invokevirtual 97, 3) := by decide +kernel
theorem dX11_impossible_7 : decode cX11_impossible 7 = .ok (.istore_n 1, 1) := by decide +kernel
theorem dX11_impossible_8 : decode cX11_impossible 8 = .ok (.aload_n 0, 1) := by decide +kernel
theorem dX11_impossible_9 : decode cX11_impossible 9 = .ok (.getfield 28, 3) := by decide +kernel
theorem dX11_impossible_12 : decode cX11_impossible 12 = .ok (.iload_n 1, 1) := by decide +kernel
theorem dX11_impossible_13 : decode cX11_impossible 13 = .ok (.invokevirtual 183, 3) := by decide +kernel
theorem dX11_impossible_16 : decode cX11_impossible 16 = .ok (.aload_n 0, 1) := by decide +kernel
theorem dX11_impossible_17 : decode cX11_impossible 17 = .ok (.getfield 51, 3) := by decide +kernel
theorem gf_X11_51 (hC : CX p s m meth c y0 b0 mL0 rt0 args) (hy0 : y0.cls = RX11) (hK : KK G s) (hP : va_P G.1 vwCl ws H) (q0 : Nat) {fs : List Value} {v : Value} (he : ws[q0]? = some (a, .inr (11, fs))) (hv : fs[6]? = some v) (hdg : decode b0 pc = .ok (.getfield 51, 3)) (kk : W p l e R s m args below meth c H locs cells slots Q (F0 m (pc + 3) ls (v :: rest))) : W p l e R s m args below meth c H locs cells slots Q (F0 m pc ls (.ref a :: rest)) := by
  obtain ⟨hx, hb, hr, hml, hB, hown, hlocks, hnm⟩ := hC
  rw [hy0] at hown
  exact va_get (ci := 11) (C := RX11) (T := TX11) (N := 11) hx hb hB in_X11 hown hK.1 hP q0 he rfl 6 (by decide) (hB _ m_34) (fun _ h => h) hv hdg kk
theorem dX11_impossible_20 : decode cX11_impossible 20 = .ok (.iload_n 1, 1) := by decide +kernel
theorem dX11_impossible_21 : decode cX11_impossible 21 = .ok (.invokevirtual 268, 3) := by decide +kernel
theorem m_1040 : Cond.code yX9_impossibleOnes cX9_impossibleOnes 6 (some .int) ∈ BW := List.mem_of_getElem? (i := 1040) (by decide +kernel)
theorem m_1037 : Cond.methodLink RX11 268 yX9_impossibleOnes ∈ BW := List.mem_of_getElem? (i := 1037) (by decide +kernel)
theorem m_1038 : Cond.instanceMethod yX9_impossibleOnes ∈ BW := List.mem_of_getElem? (i := 1038) (by decide +kernel)
theorem m_1039 : Cond.selects RX9 yX9_impossibleOnes yX9_impossibleOnes ∈ BW := List.mem_of_getElem? (i := 1039) (by decide +kernel)
theorem si_X11_268 : SV RX11 RX9 268 yX9_impossibleOnes cX9_impossibleOnes 6 (some .int) 1 := ⟨⟨m_1037, m_1038, m_1039, m_33, m_1040⟩, rfl, by decide +kernel, by decide +kernel, by decide +kernel⟩
theorem dX11_impossible_24 : decode cX11_impossible 24 = .ok (.ireturn, 1) := by decide +kernel
end WR
set_option maxHeartbeats 4000000 in
set_option maxRecDepth 100000 in
/-- free(): 36 stores, one behind another -/
theorem c_free (l : Launch) (G : GG) (h0 : Nat) (cm : Nat) : MV l G yX1_free cX1_free 4 1 0 0 [.ref h0] [(h0, .inr (1, [.ref cm])), (cm, .inl (G.2.1, 36, .inl (fun _ => 0)))] (fun u : Unit => True) (fun u : Unit => [(h0, .inr (1, [.ref cm])), (cm, .inl (G.2.1, 36, .inl CL0))]) := by
  refine MV.start (by decide +kernel) (Nat.le_of_ble_eq_true rfl) ?_
  intro p e s m below meth c A ls hC hK hP hD hS hA hl
  have hl : lv_has ls 4 [(0, .ref h0)] := hl
  obtain ⟨hx, hb, hr, hml, hB, hown, hlocks, hnm⟩ := id hC
  refine lv_iconst (v := 0) hx hb dX1_free_0 (by decide) ?_
  refine lv_istore_n (lv' := [(1, .int 0), (0, .ref h0)]) hx hb dX1_free_1 rfl hl (by decide) rfl (fun ls hl => ?_)
  refine lv_iload_n hx hb dX1_free_2 rfl (lv_at hl 0 rfl) ?_
  refine lv_bipush (v := 6) hx hb dX1_free_3 (by decide) ?_
  refine lv_icmp_ge (tgt := 65) hx hb dX1_free_5 (by decide) (fun c9 => absurd c9 (by decide)) (fun _ => ?_)
  refine lv_iconst (v := 0) hx hb dX1_free_8 (by decide) ?_
  refine lv_istore_n (lv' := [(2, .int 0), (1, .int 0), (0, .ref h0)]) hx hb dX1_free_9 rfl hl (by decide) rfl (fun ls hl => ?_)
  refine lv_iload_n hx hb dX1_free_10 rfl (lv_at hl 0 rfl) ?_
  refine lv_bipush (v := 6) hx hb dX1_free_11 (by decide) ?_
  refine lv_icmp_ge (tgt := 59) hx hb dX1_free_13 (by decide) (fun c9 => absurd c9 (by decide)) (fun _ => ?_)
  refine lv_iload_n hx hb dX1_free_16 rfl (lv_at hl 1 rfl) ?_
  refine lv_if_eq (tgt := 24) hx hb dX1_free_17 (by decide) (fun _ => ?_) (fun c9 => absurd (by decide) c9)
  refine lv_bipush (v := 60) hx hb dX1_free_24 (by decide) ?_
  refine lv_goto (tgt := 31) hx hb dX1_free_26 (by decide) ?_
  refine lv_istore_n (lv' := [(3, .int 60), (2, .int 0), (1, .int 0), (0, .ref h0)]) hx hb dX1_free_31 rfl hl (by decide) rfl (fun ls hl => ?_)
  refine lv_aload_n hx hb dX1_free_32 rfl (lv_at hl 3 rfl) ?_
  refine gf_X1_9 hC rfl hK hP 0 rfl rfl dX1_free_33 ?_
  refine lv_iload_n hx hb dX1_free_36 rfl (lv_at hl 2 rfl) ?_
  refine lv_bipush (v := 6) hx hb dX1_free_37 (by decide) ?_
  refine lv_imul hx hb dX1_free_39 ?_
  refine eqi (x1 := 0) (by decide) ?_
  refine lv_iload_n hx hb dX1_free_40 rfl (lv_at hl 1 rfl) ?_
  refine lv_iadd hx hb dX1_free_41 ?_
  refine eqi (x1 := 0) (by decide) ?_
  refine lv_iload_n hx hb dX1_free_42 rfl (lv_at hl 2 rfl) ?_
  refine lv_iload_n hx hb dX1_free_43 rfl (lv_at hl 1 rfl) ?_
  refine lv_icmp_ne (tgt := 51) hx hb dX1_free_44 (by decide) (fun c9 => absurd (by decide) c9) (fun _ => ?_)
  refine lv_iconst (v := 0) hx hb dX1_free_47 (by decide) ?_
  refine lv_goto (tgt := 52) hx hb dX1_free_48 (by decide) ?_
  refine ast hC hK hP hD hS 1 (ws' := [(h0, .inr (1, [.ref cm])), (cm, .inl (G.2.1, 36, .inl (upd (fun _ => 0) 0 0)))]) rfl (vin (by decide +kernel)) (k := 0) (by decide +kernel) (rfl) dX1_free_52 (fun H locs hP hD hS => ?_)
  refine lv_iinc (v := 1) (lv' := [(2, .int 1), (3, .int 60), (1, .int 0), (0, .ref h0)]) hx hb dX1_free_53 hl (k := 1) rfl (by decide) (by decide) rfl (fun ls hl => ?_)
  refine lv_goto (tgt := 10) hx hb dX1_free_56 (by decide) ?_
  refine lv_iload_n hx hb dX1_free_10 rfl (lv_at hl 0 rfl) ?_
  refine lv_bipush (v := 6) hx hb dX1_free_11 (by decide) ?_
  refine lv_icmp_ge (tgt := 59) hx hb dX1_free_13 (by decide) (fun c9 => absurd c9 (by decide)) (fun _ => ?_)
  refine lv_iload_n hx hb dX1_free_16 rfl (lv_at hl 2 rfl) ?_
  refine lv_if_eq (tgt := 24) hx hb dX1_free_17 (by decide) (fun _ => ?_) (fun c9 => absurd (by decide) c9)
  refine lv_bipush (v := 60) hx hb dX1_free_24 (by decide) ?_
  refine lv_goto (tgt := 31) hx hb dX1_free_26 (by decide) ?_
  refine lv_istore_n (lv' := [(3, .int 60), (2, .int 1), (1, .int 0), (0, .ref h0)]) hx hb dX1_free_31 rfl hl (by decide) rfl (fun ls hl => ?_)
  refine lv_aload_n hx hb dX1_free_32 rfl (lv_at hl 3 rfl) ?_
  refine gf_X1_9 hC rfl hK hP 0 rfl rfl dX1_free_33 ?_
  refine lv_iload_n hx hb dX1_free_36 rfl (lv_at hl 2 rfl) ?_
  refine lv_bipush (v := 6) hx hb dX1_free_37 (by decide) ?_
  refine lv_imul hx hb dX1_free_39 ?_
  refine eqi (x1 := 0) (by decide) ?_
  refine lv_iload_n hx hb dX1_free_40 rfl (lv_at hl 1 rfl) ?_
  refine lv_iadd hx hb dX1_free_41 ?_
  refine eqi (x1 := 1) (by decide) ?_
  refine lv_iload_n hx hb dX1_free_42 rfl (lv_at hl 2 rfl) ?_
  refine lv_iload_n hx hb dX1_free_43 rfl (lv_at hl 1 rfl) ?_
  refine lv_icmp_ne (tgt := 51) hx hb dX1_free_44 (by decide) (fun _ => ?_) (fun c9 => absurd c9 (by decide))
  refine lv_iload_n hx hb dX1_free_51 rfl (lv_at hl 0 rfl) ?_
  refine ast hC hK hP hD hS 1 (ws' := [(h0, .inr (1, [.ref cm])), (cm, .inl (G.2.1, 36, .inl (upd (upd (fun _ => 0) 0 0) 1 60)))]) rfl (vin (by decide +kernel)) (k := 1) (by decide +kernel) (rfl) dX1_free_52 (fun H locs hP hD hS => ?_)
  refine lv_iinc (v := 2) (lv' := [(2, .int 2), (3, .int 60), (1, .int 0), (0, .ref h0)]) hx hb dX1_free_53 hl (k := 1) rfl (by decide) (by decide) rfl (fun ls hl => ?_)
  refine lv_goto (tgt := 10) hx hb dX1_free_56 (by decide) ?_
  refine lv_iload_n hx hb dX1_free_10 rfl (lv_at hl 0 rfl) ?_
  refine lv_bipush (v := 6) hx hb dX1_free_11 (by decide) ?_
  refine lv_icmp_ge (tgt := 59) hx hb dX1_free_13 (by decide) (fun c9 => absurd c9 (by decide)) (fun _ => ?_)
  refine lv_iload_n hx hb dX1_free_16 rfl (lv_at hl 2 rfl) ?_
  refine lv_if_eq (tgt := 24) hx hb dX1_free_17 (by decide) (fun _ => ?_) (fun c9 => absurd (by decide) c9)
  refine lv_bipush (v := 60) hx hb dX1_free_24 (by decide) ?_
  refine lv_goto (tgt := 31) hx hb dX1_free_26 (by decide) ?_
  refine lv_istore_n (lv' := [(3, .int 60), (2, .int 2), (1, .int 0), (0, .ref h0)]) hx hb dX1_free_31 rfl hl (by decide) rfl (fun ls hl => ?_)
  refine lv_aload_n hx hb dX1_free_32 rfl (lv_at hl 3 rfl) ?_
  refine gf_X1_9 hC rfl hK hP 0 rfl rfl dX1_free_33 ?_
  refine lv_iload_n hx hb dX1_free_36 rfl (lv_at hl 2 rfl) ?_
  refine lv_bipush (v := 6) hx hb dX1_free_37 (by decide) ?_
  refine lv_imul hx hb dX1_free_39 ?_
  refine eqi (x1 := 0) (by decide) ?_
  refine lv_iload_n hx hb dX1_free_40 rfl (lv_at hl 1 rfl) ?_
  refine lv_iadd hx hb dX1_free_41 ?_
  refine eqi (x1 := 2) (by decide) ?_
  refine lv_iload_n hx hb dX1_free_42 rfl (lv_at hl 2 rfl) ?_
  refine lv_iload_n hx hb dX1_free_43 rfl (lv_at hl 1 rfl) ?_
  refine lv_icmp_ne (tgt := 51) hx hb dX1_free_44 (by decide) (fun _ => ?_) (fun c9 => absurd c9 (by decide))
  refine lv_iload_n hx hb dX1_free_51 rfl (lv_at hl 0 rfl) ?_
  refine ast hC hK hP hD hS 1 (ws' := [(h0, .inr (1, [.ref cm])), (cm, .inl (G.2.1, 36, .inl (upd (upd (upd (fun _ => 0) 0 0) 1 60) 2 60)))]) rfl (vin (by decide +kernel)) (k := 2) (by decide +kernel) (rfl) dX1_free_52 (fun H locs hP hD hS => ?_)
  refine lv_iinc (v := 3) (lv' := [(2, .int 3), (3, .int 60), (1, .int 0), (0, .ref h0)]) hx hb dX1_free_53 hl (k := 1) rfl (by decide) (by decide) rfl (fun ls hl => ?_)
  refine lv_goto (tgt := 10) hx hb dX1_free_56 (by decide) ?_
  refine lv_iload_n hx hb dX1_free_10 rfl (lv_at hl 0 rfl) ?_
  refine lv_bipush (v := 6) hx hb dX1_free_11 (by decide) ?_
  refine lv_icmp_ge (tgt := 59) hx hb dX1_free_13 (by decide) (fun c9 => absurd c9 (by decide)) (fun _ => ?_)
  refine lv_iload_n hx hb dX1_free_16 rfl (lv_at hl 2 rfl) ?_
  refine lv_if_eq (tgt := 24) hx hb dX1_free_17 (by decide) (fun _ => ?_) (fun c9 => absurd (by decide) c9)
  refine lv_bipush (v := 60) hx hb dX1_free_24 (by decide) ?_
  refine lv_goto (tgt := 31) hx hb dX1_free_26 (by decide) ?_
  refine lv_istore_n (lv' := [(3, .int 60), (2, .int 3), (1, .int 0), (0, .ref h0)]) hx hb dX1_free_31 rfl hl (by decide) rfl (fun ls hl => ?_)
  refine lv_aload_n hx hb dX1_free_32 rfl (lv_at hl 3 rfl) ?_
  refine gf_X1_9 hC rfl hK hP 0 rfl rfl dX1_free_33 ?_
  refine lv_iload_n hx hb dX1_free_36 rfl (lv_at hl 2 rfl) ?_
  refine lv_bipush (v := 6) hx hb dX1_free_37 (by decide) ?_
  refine lv_imul hx hb dX1_free_39 ?_
  refine eqi (x1 := 0) (by decide) ?_
  refine lv_iload_n hx hb dX1_free_40 rfl (lv_at hl 1 rfl) ?_
  refine lv_iadd hx hb dX1_free_41 ?_
  refine eqi (x1 := 3) (by decide) ?_
  refine lv_iload_n hx hb dX1_free_42 rfl (lv_at hl 2 rfl) ?_
  refine lv_iload_n hx hb dX1_free_43 rfl (lv_at hl 1 rfl) ?_
  refine lv_icmp_ne (tgt := 51) hx hb dX1_free_44 (by decide) (fun _ => ?_) (fun c9 => absurd c9 (by decide))
  refine lv_iload_n hx hb dX1_free_51 rfl (lv_at hl 0 rfl) ?_
  refine ast hC hK hP hD hS 1 (ws' := [(h0, .inr (1, [.ref cm])), (cm, .inl (G.2.1, 36, .inl (upd (upd (upd (upd (fun _ => 0) 0 0) 1 60) 2 60) 3 60)))]) rfl (vin (by decide +kernel)) (k := 3) (by decide +kernel) (rfl) dX1_free_52 (fun H locs hP hD hS => ?_)
  refine lv_iinc (v := 4) (lv' := [(2, .int 4), (3, .int 60), (1, .int 0), (0, .ref h0)]) hx hb dX1_free_53 hl (k := 1) rfl (by decide) (by decide) rfl (fun ls hl => ?_)
  refine lv_goto (tgt := 10) hx hb dX1_free_56 (by decide) ?_
  refine lv_iload_n hx hb dX1_free_10 rfl (lv_at hl 0 rfl) ?_
  refine lv_bipush (v := 6) hx hb dX1_free_11 (by decide) ?_
  refine lv_icmp_ge (tgt := 59) hx hb dX1_free_13 (by decide) (fun c9 => absurd c9 (by decide)) (fun _ => ?_)
  refine lv_iload_n hx hb dX1_free_16 rfl (lv_at hl 2 rfl) ?_
  refine lv_if_eq (tgt := 24) hx hb dX1_free_17 (by decide) (fun _ => ?_) (fun c9 => absurd (by decide) c9)
  refine lv_bipush (v := 60) hx hb dX1_free_24 (by decide) ?_
  refine lv_goto (tgt := 31) hx hb dX1_free_26 (by decide) ?_
  refine lv_istore_n (lv' := [(3, .int 60), (2, .int 4), (1, .int 0), (0, .ref h0)]) hx hb dX1_free_31 rfl hl (by decide) rfl (fun ls hl => ?_)
  refine lv_aload_n hx hb dX1_free_32 rfl (lv_at hl 3 rfl) ?_
  refine gf_X1_9 hC rfl hK hP 0 rfl rfl dX1_free_33 ?_
  refine lv_iload_n hx hb dX1_free_36 rfl (lv_at hl 2 rfl) ?_
  refine lv_bipush (v := 6) hx hb dX1_free_37 (by decide) ?_
  refine lv_imul hx hb dX1_free_39 ?_
  refine eqi (x1 := 0) (by decide) ?_
  refine lv_iload_n hx hb dX1_free_40 rfl (lv_at hl 1 rfl) ?_
  refine lv_iadd hx hb dX1_free_41 ?_
  refine eqi (x1 := 4) (by decide) ?_
  refine lv_iload_n hx hb dX1_free_42 rfl (lv_at hl 2 rfl) ?_
  refine lv_iload_n hx hb dX1_free_43 rfl (lv_at hl 1 rfl) ?_
  refine lv_icmp_ne (tgt := 51) hx hb dX1_free_44 (by decide) (fun _ => ?_) (fun c9 => absurd c9 (by decide))
  refine lv_iload_n hx hb dX1_free_51 rfl (lv_at hl 0 rfl) ?_
  refine ast hC hK hP hD hS 1 (ws' := [(h0, .inr (1, [.ref cm])), (cm, .inl (G.2.1, 36, .inl (upd (upd (upd (upd (upd (fun _ => 0) 0 0) 1 60) 2 60) 3 60) 4 60)))]) rfl (vin (by decide +kernel)) (k := 4) (by decide +kernel) (rfl) dX1_free_52 (fun H locs hP hD hS => ?_)
  refine lv_iinc (v := 5) (lv' := [(2, .int 5), (3, .int 60), (1, .int 0), (0, .ref h0)]) hx hb dX1_free_53 hl (k := 1) rfl (by decide) (by decide) rfl (fun ls hl => ?_)
  refine lv_goto (tgt := 10) hx hb dX1_free_56 (by decide) ?_
  refine lv_iload_n hx hb dX1_free_10 rfl (lv_at hl 0 rfl) ?_
  refine lv_bipush (v := 6) hx hb dX1_free_11 (by decide) ?_
  refine lv_icmp_ge (tgt := 59) hx hb dX1_free_13 (by decide) (fun c9 => absurd c9 (by decide)) (fun _ => ?_)
  refine lv_iload_n hx hb dX1_free_16 rfl (lv_at hl 2 rfl) ?_
  refine lv_if_eq (tgt := 24) hx hb dX1_free_17 (by decide) (fun _ => ?_) (fun c9 => absurd (by decide) c9)
  refine lv_bipush (v := 60) hx hb dX1_free_24 (by decide) ?_
  refine lv_goto (tgt := 31) hx hb dX1_free_26 (by decide) ?_
  refine lv_istore_n (lv' := [(3, .int 60), (2, .int 5), (1, .int 0), (0, .ref h0)]) hx hb dX1_free_31 rfl hl (by decide) rfl (fun ls hl => ?_)
  refine lv_aload_n hx hb dX1_free_32 rfl (lv_at hl 3 rfl) ?_
  refine gf_X1_9 hC rfl hK hP 0 rfl rfl dX1_free_33 ?_
  refine lv_iload_n hx hb dX1_free_36 rfl (lv_at hl 2 rfl) ?_
  refine lv_bipush (v := 6) hx hb dX1_free_37 (by decide) ?_
  refine lv_imul hx hb dX1_free_39 ?_
  refine eqi (x1 := 0) (by decide) ?_
  refine lv_iload_n hx hb dX1_free_40 rfl (lv_at hl 1 rfl) ?_
  refine lv_iadd hx hb dX1_free_41 ?_
  refine eqi (x1 := 5) (by decide) ?_
  refine lv_iload_n hx hb dX1_free_42 rfl (lv_at hl 2 rfl) ?_
  refine lv_iload_n hx hb dX1_free_43 rfl (lv_at hl 1 rfl) ?_
  refine lv_icmp_ne (tgt := 51) hx hb dX1_free_44 (by decide) (fun _ => ?_) (fun c9 => absurd c9 (by decide))
  refine lv_iload_n hx hb dX1_free_51 rfl (lv_at hl 0 rfl) ?_
  refine ast hC hK hP hD hS 1 (ws' := [(h0, .inr (1, [.ref cm])), (cm, .inl (G.2.1, 36, .inl (upd (upd (upd (upd (upd (upd (fun _ => 0) 0 0) 1 60) 2 60) 3 60) 4 60) 5 60)))]) rfl (vin (by decide +kernel)) (k := 5) (by decide +kernel) (rfl) dX1_free_52 (fun H locs hP hD hS => ?_)
  refine lv_iinc (v := 6) (lv' := [(2, .int 6), (3, .int 60), (1, .int 0), (0, .ref h0)]) hx hb dX1_free_53 hl (k := 1) rfl (by decide) (by decide) rfl (fun ls hl => ?_)
  refine lv_goto (tgt := 10) hx hb dX1_free_56 (by decide) ?_
  refine lv_iload_n hx hb dX1_free_10 rfl (lv_at hl 0 rfl) ?_
  refine lv_bipush (v := 6) hx hb dX1_free_11 (by decide) ?_
  refine lv_icmp_ge (tgt := 59) hx hb dX1_free_13 (by decide) (fun _ => ?_) (fun c9 => absurd (by decide) c9)
  refine lv_iinc (v := 1) (lv' := [(1, .int 1), (2, .int 6), (3, .int 60), (0, .ref h0)]) hx hb dX1_free_59 hl (k := 2) rfl (by decide) (by decide) rfl (fun ls hl => ?_)
  refine lv_goto (tgt := 2) hx hb dX1_free_62 (by decide) ?_
  refine lv_iload_n hx hb dX1_free_2 rfl (lv_at hl 0 rfl) ?_
  refine lv_bipush (v := 6) hx hb dX1_free_3 (by decide) ?_
  refine lv_icmp_ge (tgt := 65) hx hb dX1_free_5 (by decide) (fun c9 => absurd c9 (by decide)) (fun _ => ?_)
  refine lv_iconst (v := 0) hx hb dX1_free_8 (by decide) ?_
  refine lv_istore_n (lv' := [(2, .int 0), (1, .int 1), (3, .int 60), (0, .ref h0)]) hx hb dX1_free_9 rfl hl (by decide) rfl (fun ls hl => ?_)
  refine lv_iload_n hx hb dX1_free_10 rfl (lv_at hl 0 rfl) ?_
  refine lv_bipush (v := 6) hx hb dX1_free_11 (by decide) ?_
  refine lv_icmp_ge (tgt := 59) hx hb dX1_free_13 (by decide) (fun c9 => absurd c9 (by decide)) (fun _ => ?_)
  refine lv_iload_n hx hb dX1_free_16 rfl (lv_at hl 1 rfl) ?_
  refine lv_if_eq (tgt := 24) hx hb dX1_free_17 (by decide) (fun c9 => absurd c9 (by decide)) (fun _ => ?_)
  refine lv_iload_n hx hb dX1_free_20 rfl (lv_at hl 0 rfl) ?_
  refine lv_if_ne (tgt := 29) hx hb dX1_free_21 (by decide) (fun c9 => absurd (by decide) c9) (fun _ => ?_)
  refine lv_bipush (v := 60) hx hb dX1_free_24 (by decide) ?_
  refine lv_goto (tgt := 31) hx hb dX1_free_26 (by decide) ?_
  refine lv_istore_n (lv' := [(3, .int 60), (2, .int 0), (1, .int 1), (0, .ref h0)]) hx hb dX1_free_31 rfl hl (by decide) rfl (fun ls hl => ?_)
  refine lv_aload_n hx hb dX1_free_32 rfl (lv_at hl 3 rfl) ?_
  refine gf_X1_9 hC rfl hK hP 0 rfl rfl dX1_free_33 ?_
  refine lv_iload_n hx hb dX1_free_36 rfl (lv_at hl 2 rfl) ?_
  refine lv_bipush (v := 6) hx hb dX1_free_37 (by decide) ?_
  refine lv_imul hx hb dX1_free_39 ?_
  refine eqi (x1 := 6) (by decide) ?_
  refine lv_iload_n hx hb dX1_free_40 rfl (lv_at hl 1 rfl) ?_
  refine lv_iadd hx hb dX1_free_41 ?_
  refine eqi (x1 := 6) (by decide) ?_
  refine lv_iload_n hx hb dX1_free_42 rfl (lv_at hl 2 rfl) ?_
  refine lv_iload_n hx hb dX1_free_43 rfl (lv_at hl 1 rfl) ?_
  refine lv_icmp_ne (tgt := 51) hx hb dX1_free_44 (by decide) (fun _ => ?_) (fun c9 => absurd c9 (by decide))
  refine lv_iload_n hx hb dX1_free_51 rfl (lv_at hl 0 rfl) ?_
  refine ast hC hK hP hD hS 1 (ws' := [(h0, .inr (1, [.ref cm])), (cm, .inl (G.2.1, 36, .inl (upd (upd (upd (upd (upd (upd (upd (fun _ => 0) 0 0) 1 60) 2 60) 3 60) 4 60) 5 60) 6 60)))]) rfl (vin (by decide +kernel)) (k := 6) (by decide +kernel) (rfl) dX1_free_52 (fun H locs hP hD hS => ?_)
  refine lv_iinc (v := 1) (lv' := [(2, .int 1), (3, .int 60), (1, .int 1), (0, .ref h0)]) hx hb dX1_free_53 hl (k := 1) rfl (by decide) (by decide) rfl (fun ls hl => ?_)
  refine lv_goto (tgt := 10) hx hb dX1_free_56 (by decide) ?_
  refine lv_iload_n hx hb dX1_free_10 rfl (lv_at hl 0 rfl) ?_
  refine lv_bipush (v := 6) hx hb dX1_free_11 (by decide) ?_
  refine lv_icmp_ge (tgt := 59) hx hb dX1_free_13 (by decide) (fun c9 => absurd c9 (by decide)) (fun _ => ?_)
  refine lv_iload_n hx hb dX1_free_16 rfl (lv_at hl 2 rfl) ?_
  refine lv_if_eq (tgt := 24) hx hb dX1_free_17 (by decide) (fun c9 => absurd c9 (by decide)) (fun _ => ?_)
  refine lv_iload_n hx hb dX1_free_20 rfl (lv_at hl 0 rfl) ?_
  refine lv_if_ne (tgt := 29) hx hb dX1_free_21 (by decide) (fun _ => ?_) (fun c9 => absurd c9 (by decide))
  refine lv_bipush (v := 120) hx hb dX1_free_29 (by decide) ?_
  refine lv_istore_n (lv' := [(3, .int 120), (2, .int 1), (1, .int 1), (0, .ref h0)]) hx hb dX1_free_31 rfl hl (by decide) rfl (fun ls hl => ?_)
  refine lv_aload_n hx hb dX1_free_32 rfl (lv_at hl 3 rfl) ?_
  refine gf_X1_9 hC rfl hK hP 0 rfl rfl dX1_free_33 ?_
  refine lv_iload_n hx hb dX1_free_36 rfl (lv_at hl 2 rfl) ?_
  refine lv_bipush (v := 6) hx hb dX1_free_37 (by decide) ?_
  refine lv_imul hx hb dX1_free_39 ?_
  refine eqi (x1 := 6) (by decide) ?_
  refine lv_iload_n hx hb dX1_free_40 rfl (lv_at hl 1 rfl) ?_
  refine lv_iadd hx hb dX1_free_41 ?_
  refine eqi (x1 := 7) (by decide) ?_
  refine lv_iload_n hx hb dX1_free_42 rfl (lv_at hl 2 rfl) ?_
  refine lv_iload_n hx hb dX1_free_43 rfl (lv_at hl 1 rfl) ?_
  refine lv_icmp_ne (tgt := 51) hx hb dX1_free_44 (by decide) (fun c9 => absurd (by decide) c9) (fun _ => ?_)
  refine lv_iconst (v := 0) hx hb dX1_free_47 (by decide) ?_
  refine lv_goto (tgt := 52) hx hb dX1_free_48 (by decide) ?_
  refine ast hC hK hP hD hS 1 (ws' := [(h0, .inr (1, [.ref cm])), (cm, .inl (G.2.1, 36, .inl (upd (upd (upd (upd (upd (upd (upd (upd (fun _ => 0) 0 0) 1 60) 2 60) 3 60) 4 60) 5 60) 6 60) 7 0)))]) rfl (vin (by decide +kernel)) (k := 7) (by decide +kernel) (rfl) dX1_free_52 (fun H locs hP hD hS => ?_)
  refine lv_iinc (v := 2) (lv' := [(2, .int 2), (3, .int 120), (1, .int 1), (0, .ref h0)]) hx hb dX1_free_53 hl (k := 1) rfl (by decide) (by decide) rfl (fun ls hl => ?_)
  refine lv_goto (tgt := 10) hx hb dX1_free_56 (by decide) ?_
  refine lv_iload_n hx hb dX1_free_10 rfl (lv_at hl 0 rfl) ?_
  refine lv_bipush (v := 6) hx hb dX1_free_11 (by decide) ?_
  refine lv_icmp_ge (tgt := 59) hx hb dX1_free_13 (by decide) (fun c9 => absurd c9 (by decide)) (fun _ => ?_)
  refine lv_iload_n hx hb dX1_free_16 rfl (lv_at hl 2 rfl) ?_
  refine lv_if_eq (tgt := 24) hx hb dX1_free_17 (by decide) (fun c9 => absurd c9 (by decide)) (fun _ => ?_)
  refine lv_iload_n hx hb dX1_free_20 rfl (lv_at hl 0 rfl) ?_
  refine lv_if_ne (tgt := 29) hx hb dX1_free_21 (by decide) (fun _ => ?_) (fun c9 => absurd c9 (by decide))
  refine lv_bipush (v := 120) hx hb dX1_free_29 (by decide) ?_
  refine lv_istore_n (lv' := [(3, .int 120), (2, .int 2), (1, .int 1), (0, .ref h0)]) hx hb dX1_free_31 rfl hl (by decide) rfl (fun ls hl => ?_)
  refine lv_aload_n hx hb dX1_free_32 rfl (lv_at hl 3 rfl) ?_
  refine gf_X1_9 hC rfl hK hP 0 rfl rfl dX1_free_33 ?_
  refine lv_iload_n hx hb dX1_free_36 rfl (lv_at hl 2 rfl) ?_
  refine lv_bipush (v := 6) hx hb dX1_free_37 (by decide) ?_
  refine lv_imul hx hb dX1_free_39 ?_
  refine eqi (x1 := 6) (by decide) ?_
  refine lv_iload_n hx hb dX1_free_40 rfl (lv_at hl 1 rfl) ?_
  refine lv_iadd hx hb dX1_free_41 ?_
  refine eqi (x1 := 8) (by decide) ?_
  refine lv_iload_n hx hb dX1_free_42 rfl (lv_at hl 2 rfl) ?_
  refine lv_iload_n hx hb dX1_free_43 rfl (lv_at hl 1 rfl) ?_
  refine lv_icmp_ne (tgt := 51) hx hb dX1_free_44 (by decide) (fun _ => ?_) (fun c9 => absurd c9 (by decide))
  refine lv_iload_n hx hb dX1_free_51 rfl (lv_at hl 0 rfl) ?_
  refine ast hC hK hP hD hS 1 (ws' := [(h0, .inr (1, [.ref cm])), (cm, .inl (G.2.1, 36, .inl (upd (upd (upd (upd (upd (upd (upd (upd (upd (fun _ => 0) 0 0) 1 60) 2 60) 3 60) 4 60) 5 60) 6 60) 7 0) 8 120)))]) rfl (vin (by decide +kernel)) (k := 8) (by decide +kernel) (rfl) dX1_free_52 (fun H locs hP hD hS => ?_)
  refine lv_iinc (v := 3) (lv' := [(2, .int 3), (3, .int 120), (1, .int 1), (0, .ref h0)]) hx hb dX1_free_53 hl (k := 1) rfl (by decide) (by decide) rfl (fun ls hl => ?_)
  refine lv_goto (tgt := 10) hx hb dX1_free_56 (by decide) ?_
  refine lv_iload_n hx hb dX1_free_10 rfl (lv_at hl 0 rfl) ?_
  refine lv_bipush (v := 6) hx hb dX1_free_11 (by decide) ?_
  refine lv_icmp_ge (tgt := 59) hx hb dX1_free_13 (by decide) (fun c9 => absurd c9 (by decide)) (fun _ => ?_)
  refine lv_iload_n hx hb dX1_free_16 rfl (lv_at hl 2 rfl) ?_
  refine lv_if_eq (tgt := 24) hx hb dX1_free_17 (by decide) (fun c9 => absurd c9 (by decide)) (fun _ => ?_)
  refine lv_iload_n hx hb dX1_free_20 rfl (lv_at hl 0 rfl) ?_
  refine lv_if_ne (tgt := 29) hx hb dX1_free_21 (by decide) (fun _ => ?_) (fun c9 => absurd c9 (by decide))
  refine lv_bipush (v := 120) hx hb dX1_free_29 (by decide) ?_
  refine lv_istore_n (lv' := [(3, .int 120), (2, .int 3), (1, .int 1), (0, .ref h0)]) hx hb dX1_free_31 rfl hl (by decide) rfl (fun ls hl => ?_)
  refine lv_aload_n hx hb dX1_free_32 rfl (lv_at hl 3 rfl) ?_
  refine gf_X1_9 hC rfl hK hP 0 rfl rfl dX1_free_33 ?_
  refine lv_iload_n hx hb dX1_free_36 rfl (lv_at hl 2 rfl) ?_
  refine lv_bipush (v := 6) hx hb dX1_free_37 (by decide) ?_
  refine lv_imul hx hb dX1_free_39 ?_
  refine eqi (x1 := 6) (by decide) ?_
  refine lv_iload_n hx hb dX1_free_40 rfl (lv_at hl 1 rfl) ?_
  refine lv_iadd hx hb dX1_free_41 ?_
  refine eqi (x1 := 9) (by decide) ?_
  refine lv_iload_n hx hb dX1_free_42 rfl (lv_at hl 2 rfl) ?_
  refine lv_iload_n hx hb dX1_free_43 rfl (lv_at hl 1 rfl) ?_
  refine lv_icmp_ne (tgt := 51) hx hb dX1_free_44 (by decide) (fun _ => ?_) (fun c9 => absurd c9 (by decide))
  refine lv_iload_n hx hb dX1_free_51 rfl (lv_at hl 0 rfl) ?_
  refine ast hC hK hP hD hS 1 (ws' := [(h0, .inr (1, [.ref cm])), (cm, .inl (G.2.1, 36, .inl (upd (upd (upd (upd (upd (upd (upd (upd (upd (upd (fun _ => 0) 0 0) 1 60) 2 60) 3 60) 4 60) 5 60) 6 60) 7 0) 8 120) 9 120)))]) rfl (vin (by decide +kernel)) (k := 9) (by decide +kernel) (rfl) dX1_free_52 (fun H locs hP hD hS => ?_)
  refine lv_iinc (v := 4) (lv' := [(2, .int 4), (3, .int 120), (1, .int 1), (0, .ref h0)]) hx hb dX1_free_53 hl (k := 1) rfl (by decide) (by decide) rfl (fun ls hl => ?_)
  refine lv_goto (tgt := 10) hx hb dX1_free_56 (by decide) ?_
  refine lv_iload_n hx hb dX1_free_10 rfl (lv_at hl 0 rfl) ?_
  refine lv_bipush (v := 6) hx hb dX1_free_11 (by decide) ?_
  refine lv_icmp_ge (tgt := 59) hx hb dX1_free_13 (by decide) (fun c9 => absurd c9 (by decide)) (fun _ => ?_)
  refine lv_iload_n hx hb dX1_free_16 rfl (lv_at hl 2 rfl) ?_
  refine lv_if_eq (tgt := 24) hx hb dX1_free_17 (by decide) (fun c9 => absurd c9 (by decide)) (fun _ => ?_)
  refine lv_iload_n hx hb dX1_free_20 rfl (lv_at hl 0 rfl) ?_
  refine lv_if_ne (tgt := 29) hx hb dX1_free_21 (by decide) (fun _ => ?_) (fun c9 => absurd c9 (by decide))
  refine lv_bipush (v := 120) hx hb dX1_free_29 (by decide) ?_
  refine lv_istore_n (lv' := [(3, .int 120), (2, .int 4), (1, .int 1), (0, .ref h0)]) hx hb dX1_free_31 rfl hl (by decide) rfl (fun ls hl => ?_)
  refine lv_aload_n hx hb dX1_free_32 rfl (lv_at hl 3 rfl) ?_
  refine gf_X1_9 hC rfl hK hP 0 rfl rfl dX1_free_33 ?_
  refine lv_iload_n hx hb dX1_free_36 rfl (lv_at hl 2 rfl) ?_
  refine lv_bipush (v := 6) hx hb dX1_free_37 (by decide) ?_
  refine lv_imul hx hb dX1_free_39 ?_
  refine eqi (x1 := 6) (by decide) ?_
  refine lv_iload_n hx hb dX1_free_40 rfl (lv_at hl 1 rfl) ?_
  refine lv_iadd hx hb dX1_free_41 ?_
  refine eqi (x1 := 10) (by decide) ?_
  refine lv_iload_n hx hb dX1_free_42 rfl (lv_at hl 2 rfl) ?_
  refine lv_iload_n hx hb dX1_free_43 rfl (lv_at hl 1 rfl) ?_
  refine lv_icmp_ne (tgt := 51) hx hb dX1_free_44 (by decide) (fun _ => ?_) (fun c9 => absurd c9 (by decide))
  refine lv_iload_n hx hb dX1_free_51 rfl (lv_at hl 0 rfl) ?_
  refine ast hC hK hP hD hS 1 (ws' := [(h0, .inr (1, [.ref cm])), (cm, .inl (G.2.1, 36, .inl (upd (upd (upd (upd (upd (upd (upd (upd (upd (upd (upd (fun _ => 0) 0 0) 1 60) 2 60) 3 60) 4 60) 5 60) 6 60) 7 0) 8 120) 9 120) 10 120)))]) rfl (vin (by decide +kernel)) (k := 10) (by decide +kernel) (rfl) dX1_free_52 (fun H locs hP hD hS => ?_)
  refine lv_iinc (v := 5) (lv' := [(2, .int 5), (3, .int 120), (1, .int 1), (0, .ref h0)]) hx hb dX1_free_53 hl (k := 1) rfl (by decide) (by decide) rfl (fun ls hl => ?_)
  refine lv_goto (tgt := 10) hx hb dX1_free_56 (by decide) ?_
  refine lv_iload_n hx hb dX1_free_10 rfl (lv_at hl 0 rfl) ?_
  refine lv_bipush (v := 6) hx hb dX1_free_11 (by decide) ?_
  refine lv_icmp_ge (tgt := 59) hx hb dX1_free_13 (by decide) (fun c9 => absurd c9 (by decide)) (fun _ => ?_)
  refine lv_iload_n hx hb dX1_free_16 rfl (lv_at hl 2 rfl) ?_
  refine lv_if_eq (tgt := 24) hx hb dX1_free_17 (by decide) (fun c9 => absurd c9 (by decide)) (fun _ => ?_)
  refine lv_iload_n hx hb dX1_free_20 rfl (lv_at hl 0 rfl) ?_
  refine lv_if_ne (tgt := 29) hx hb dX1_free_21 (by decide) (fun _ => ?_) (fun c9 => absurd c9 (by decide))
  refine lv_bipush (v := 120) hx hb dX1_free_29 (by decide) ?_
  refine lv_istore_n (lv' := [(3, .int 120), (2, .int 5), (1, .int 1), (0, .ref h0)]) hx hb dX1_free_31 rfl hl (by decide) rfl (fun ls hl => ?_)
  refine lv_aload_n hx hb dX1_free_32 rfl (lv_at hl 3 rfl) ?_
  refine gf_X1_9 hC rfl hK hP 0 rfl rfl dX1_free_33 ?_
  refine lv_iload_n hx hb dX1_free_36 rfl (lv_at hl 2 rfl) ?_
  refine lv_bipush (v := 6) hx hb dX1_free_37 (by decide) ?_
  refine lv_imul hx hb dX1_free_39 ?_
  refine eqi (x1 := 6) (by decide) ?_
  refine lv_iload_n hx hb dX1_free_40 rfl (lv_at hl 1 rfl) ?_
  refine lv_iadd hx hb dX1_free_41 ?_
  refine eqi (x1 := 11) (by decide) ?_
  refine lv_iload_n hx hb dX1_free_42 rfl (lv_at hl 2 rfl) ?_
  refine lv_iload_n hx hb dX1_free_43 rfl (lv_at hl 1 rfl) ?_
  refine lv_icmp_ne (tgt := 51) hx hb dX1_free_44 (by decide) (fun _ => ?_) (fun c9 => absurd c9 (by decide))
  refine lv_iload_n hx hb dX1_free_51 rfl (lv_at hl 0 rfl) ?_
  refine ast hC hK hP hD hS 1 (ws' := [(h0, .inr (1, [.ref cm])), (cm, .inl (G.2.1, 36, .inl (upd (upd (upd (upd (upd (upd (upd (upd (upd (upd (upd (upd (fun _ => 0) 0 0) 1 60) 2 60) 3 60) 4 60) 5 60) 6 60) 7 0) 8 120) 9 120) 10 120) 11 120)))]) rfl (vin (by decide +kernel)) (k := 11) (by decide +kernel) (rfl) dX1_free_52 (fun H locs hP hD hS => ?_)
  refine lv_iinc (v := 6) (lv' := [(2, .int 6), (3, .int 120), (1, .int 1), (0, .ref h0)]) hx hb dX1_free_53 hl (k := 1) rfl (by decide) (by decide) rfl (fun ls hl => ?_)
  refine lv_goto (tgt := 10) hx hb dX1_free_56 (by decide) ?_
  refine lv_iload_n hx hb dX1_free_10 rfl (lv_at hl 0 rfl) ?_
  refine lv_bipush (v := 6) hx hb dX1_free_11 (by decide) ?_
  refine lv_icmp_ge (tgt := 59) hx hb dX1_free_13 (by decide) (fun _ => ?_) (fun c9 => absurd (by decide) c9)
  refine lv_iinc (v := 2) (lv' := [(1, .int 2), (2, .int 6), (3, .int 120), (0, .ref h0)]) hx hb dX1_free_59 hl (k := 2) rfl (by decide) (by decide) rfl (fun ls hl => ?_)
  refine lv_goto (tgt := 2) hx hb dX1_free_62 (by decide) ?_
  refine lv_iload_n hx hb dX1_free_2 rfl (lv_at hl 0 rfl) ?_
  refine lv_bipush (v := 6) hx hb dX1_free_3 (by decide) ?_
  refine lv_icmp_ge (tgt := 65) hx hb dX1_free_5 (by decide) (fun c9 => absurd c9 (by decide)) (fun _ => ?_)
  refine lv_iconst (v := 0) hx hb dX1_free_8 (by decide) ?_
  refine lv_istore_n (lv' := [(2, .int 0), (1, .int 2), (3, .int 120), (0, .ref h0)]) hx hb dX1_free_9 rfl hl (by decide) rfl (fun ls hl => ?_)
  refine lv_iload_n hx hb dX1_free_10 rfl (lv_at hl 0 rfl) ?_
  refine lv_bipush (v := 6) hx hb dX1_free_11 (by decide) ?_
  refine lv_icmp_ge (tgt := 59) hx hb dX1_free_13 (by decide) (fun c9 => absurd c9 (by decide)) (fun _ => ?_)
  refine lv_iload_n hx hb dX1_free_16 rfl (lv_at hl 1 rfl) ?_
  refine lv_if_eq (tgt := 24) hx hb dX1_free_17 (by decide) (fun c9 => absurd c9 (by decide)) (fun _ => ?_)
  refine lv_iload_n hx hb dX1_free_20 rfl (lv_at hl 0 rfl) ?_
  refine lv_if_ne (tgt := 29) hx hb dX1_free_21 (by decide) (fun c9 => absurd (by decide) c9) (fun _ => ?_)
  refine lv_bipush (v := 60) hx hb dX1_free_24 (by decide) ?_
  refine lv_goto (tgt := 31) hx hb dX1_free_26 (by decide) ?_
  refine lv_istore_n (lv' := [(3, .int 60), (2, .int 0), (1, .int 2), (0, .ref h0)]) hx hb dX1_free_31 rfl hl (by decide) rfl (fun ls hl => ?_)
  refine lv_aload_n hx hb dX1_free_32 rfl (lv_at hl 3 rfl) ?_
  refine gf_X1_9 hC rfl hK hP 0 rfl rfl dX1_free_33 ?_
  refine lv_iload_n hx hb dX1_free_36 rfl (lv_at hl 2 rfl) ?_
  refine lv_bipush (v := 6) hx hb dX1_free_37 (by decide) ?_
  refine lv_imul hx hb dX1_free_39 ?_
  refine eqi (x1 := 12) (by decide) ?_
  refine lv_iload_n hx hb dX1_free_40 rfl (lv_at hl 1 rfl) ?_
  refine lv_iadd hx hb dX1_free_41 ?_
  refine eqi (x1 := 12) (by decide) ?_
  refine lv_iload_n hx hb dX1_free_42 rfl (lv_at hl 2 rfl) ?_
  refine lv_iload_n hx hb dX1_free_43 rfl (lv_at hl 1 rfl) ?_
  refine lv_icmp_ne (tgt := 51) hx hb dX1_free_44 (by decide) (fun _ => ?_) (fun c9 => absurd c9 (by decide))
  refine lv_iload_n hx hb dX1_free_51 rfl (lv_at hl 0 rfl) ?_
  refine ast hC hK hP hD hS 1 (ws' := [(h0, .inr (1, [.ref cm])), (cm, .inl (G.2.1, 36, .inl (upd (upd (upd (upd (upd (upd (upd (upd (upd (upd (upd (upd (upd (fun _ => 0) 0 0) 1 60) 2 60) 3 60) 4 60) 5 60) 6 60) 7 0) 8 120) 9 120) 10 120) 11 120) 12 60)))]) rfl (vin (by decide +kernel)) (k := 12) (by decide +kernel) (rfl) dX1_free_52 (fun H locs hP hD hS => ?_)
  refine lv_iinc (v := 1) (lv' := [(2, .int 1), (3, .int 60), (1, .int 2), (0, .ref h0)]) hx hb dX1_free_53 hl (k := 1) rfl (by decide) (by decide) rfl (fun ls hl => ?_)
  refine lv_goto (tgt := 10) hx hb dX1_free_56 (by decide) ?_
  refine lv_iload_n hx hb dX1_free_10 rfl (lv_at hl 0 rfl) ?_
  refine lv_bipush (v := 6) hx hb dX1_free_11 (by decide) ?_
  refine lv_icmp_ge (tgt := 59) hx hb dX1_free_13 (by decide) (fun c9 => absurd c9 (by decide)) (fun _ => ?_)
  refine lv_iload_n hx hb dX1_free_16 rfl (lv_at hl 2 rfl) ?_
  refine lv_if_eq (tgt := 24) hx hb dX1_free_17 (by decide) (fun c9 => absurd c9 (by decide)) (fun _ => ?_)
  refine lv_iload_n hx hb dX1_free_20 rfl (lv_at hl 0 rfl) ?_
  refine lv_if_ne (tgt := 29) hx hb dX1_free_21 (by decide) (fun _ => ?_) (fun c9 => absurd c9 (by decide))
  refine lv_bipush (v := 120) hx hb dX1_free_29 (by decide) ?_
  refine lv_istore_n (lv' := [(3, .int 120), (2, .int 1), (1, .int 2), (0, .ref h0)]) hx hb dX1_free_31 rfl hl (by decide) rfl (fun ls hl => ?_)
  refine lv_aload_n hx hb dX1_free_32 rfl (lv_at hl 3 rfl) ?_
  refine gf_X1_9 hC rfl hK hP 0 rfl rfl dX1_free_33 ?_
  refine lv_iload_n hx hb dX1_free_36 rfl (lv_at hl 2 rfl) ?_
  refine lv_bipush (v := 6) hx hb dX1_free_37 (by decide) ?_
  refine lv_imul hx hb dX1_free_39 ?_
  refine eqi (x1 := 12) (by decide) ?_
  refine lv_iload_n hx hb dX1_free_40 rfl (lv_at hl 1 rfl) ?_
  refine lv_iadd hx hb dX1_free_41 ?_
  refine eqi (x1 := 13) (by decide) ?_
  refine lv_iload_n hx hb dX1_free_42 rfl (lv_at hl 2 rfl) ?_
  refine lv_iload_n hx hb dX1_free_43 rfl (lv_at hl 1 rfl) ?_
  refine lv_icmp_ne (tgt := 51) hx hb dX1_free_44 (by decide) (fun _ => ?_) (fun c9 => absurd c9 (by decide))
  refine lv_iload_n hx hb dX1_free_51 rfl (lv_at hl 0 rfl) ?_
  refine ast hC hK hP hD hS 1 (ws' := [(h0, .inr (1, [.ref cm])), (cm, .inl (G.2.1, 36, .inl (upd (upd (upd (upd (upd (upd (upd (upd (upd (upd (upd (upd (upd (upd (fun _ => 0) 0 0) 1 60) 2 60) 3 60) 4 60) 5 60) 6 60) 7 0) 8 120) 9 120) 10 120) 11 120) 12 60) 13 120)))]) rfl (vin (by decide +kernel)) (k := 13) (by decide +kernel) (rfl) dX1_free_52 (fun H locs hP hD hS => ?_)
  refine lv_iinc (v := 2) (lv' := [(2, .int 2), (3, .int 120), (1, .int 2), (0, .ref h0)]) hx hb dX1_free_53 hl (k := 1) rfl (by decide) (by decide) rfl (fun ls hl => ?_)
  refine lv_goto (tgt := 10) hx hb dX1_free_56 (by decide) ?_
  refine lv_iload_n hx hb dX1_free_10 rfl (lv_at hl 0 rfl) ?_
  refine lv_bipush (v := 6) hx hb dX1_free_11 (by decide) ?_
  refine lv_icmp_ge (tgt := 59) hx hb dX1_free_13 (by decide) (fun c9 => absurd c9 (by decide)) (fun _ => ?_)
  refine lv_iload_n hx hb dX1_free_16 rfl (lv_at hl 2 rfl) ?_
  refine lv_if_eq (tgt := 24) hx hb dX1_free_17 (by decide) (fun c9 => absurd c9 (by decide)) (fun _ => ?_)
  refine lv_iload_n hx hb dX1_free_20 rfl (lv_at hl 0 rfl) ?_
  refine lv_if_ne (tgt := 29) hx hb dX1_free_21 (by decide) (fun _ => ?_) (fun c9 => absurd c9 (by decide))
  refine lv_bipush (v := 120) hx hb dX1_free_29 (by decide) ?_
  refine lv_istore_n (lv' := [(3, .int 120), (2, .int 2), (1, .int 2), (0, .ref h0)]) hx hb dX1_free_31 rfl hl (by decide) rfl (fun ls hl => ?_)
  refine lv_aload_n hx hb dX1_free_32 rfl (lv_at hl 3 rfl) ?_
  refine gf_X1_9 hC rfl hK hP 0 rfl rfl dX1_free_33 ?_
  refine lv_iload_n hx hb dX1_free_36 rfl (lv_at hl 2 rfl) ?_
  refine lv_bipush (v := 6) hx hb dX1_free_37 (by decide) ?_
  refine lv_imul hx hb dX1_free_39 ?_
  refine eqi (x1 := 12) (by decide) ?_
  refine lv_iload_n hx hb dX1_free_40 rfl (lv_at hl 1 rfl) ?_
  refine lv_iadd hx hb dX1_free_41 ?_
  refine eqi (x1 := 14) (by decide) ?_
  refine lv_iload_n hx hb dX1_free_42 rfl (lv_at hl 2 rfl) ?_
  refine lv_iload_n hx hb dX1_free_43 rfl (lv_at hl 1 rfl) ?_
  refine lv_icmp_ne (tgt := 51) hx hb dX1_free_44 (by decide) (fun c9 => absurd (by decide) c9) (fun _ => ?_)
  refine lv_iconst (v := 0) hx hb dX1_free_47 (by decide) ?_
  refine lv_goto (tgt := 52) hx hb dX1_free_48 (by decide) ?_
  refine ast hC hK hP hD hS 1 (ws' := [(h0, .inr (1, [.ref cm])), (cm, .inl (G.2.1, 36, .inl (upd (upd (upd (upd (upd (upd (upd (upd (upd (upd (upd (upd (upd (upd (upd (fun _ => 0) 0 0) 1 60) 2 60) 3 60) 4 60) 5 60) 6 60) 7 0) 8 120) 9 120) 10 120) 11 120) 12 60) 13 120) 14 0)))]) rfl (vin (by decide +kernel)) (k := 14) (by decide +kernel) (rfl) dX1_free_52 (fun H locs hP hD hS => ?_)
  refine lv_iinc (v := 3) (lv' := [(2, .int 3), (3, .int 120), (1, .int 2), (0, .ref h0)]) hx hb dX1_free_53 hl (k := 1) rfl (by decide) (by decide) rfl (fun ls hl => ?_)
  refine lv_goto (tgt := 10) hx hb dX1_free_56 (by decide) ?_
  refine lv_iload_n hx hb dX1_free_10 rfl (lv_at hl 0 rfl) ?_
  refine lv_bipush (v := 6) hx hb dX1_free_11 (by decide) ?_
  refine lv_icmp_ge (tgt := 59) hx hb dX1_free_13 (by decide) (fun c9 => absurd c9 (by decide)) (fun _ => ?_)
  refine lv_iload_n hx hb dX1_free_16 rfl (lv_at hl 2 rfl) ?_
  refine lv_if_eq (tgt := 24) hx hb dX1_free_17 (by decide) (fun c9 => absurd c9 (by decide)) (fun _ => ?_)
  refine lv_iload_n hx hb dX1_free_20 rfl (lv_at hl 0 rfl) ?_
  refine lv_if_ne (tgt := 29) hx hb dX1_free_21 (by decide) (fun _ => ?_) (fun c9 => absurd c9 (by decide))
  refine lv_bipush (v := 120) hx hb dX1_free_29 (by decide) ?_
  refine lv_istore_n (lv' := [(3, .int 120), (2, .int 3), (1, .int 2), (0, .ref h0)]) hx hb dX1_free_31 rfl hl (by decide) rfl (fun ls hl => ?_)
  refine lv_aload_n hx hb dX1_free_32 rfl (lv_at hl 3 rfl) ?_
  refine gf_X1_9 hC rfl hK hP 0 rfl rfl dX1_free_33 ?_
  refine lv_iload_n hx hb dX1_free_36 rfl (lv_at hl 2 rfl) ?_
  refine lv_bipush (v := 6) hx hb dX1_free_37 (by decide) ?_
  refine lv_imul hx hb dX1_free_39 ?_
  refine eqi (x1 := 12) (by decide) ?_
  refine lv_iload_n hx hb dX1_free_40 rfl (lv_at hl 1 rfl) ?_
  refine lv_iadd hx hb dX1_free_41 ?_
  refine eqi (x1 := 15) (by decide) ?_
  refine lv_iload_n hx hb dX1_free_42 rfl (lv_at hl 2 rfl) ?_
  refine lv_iload_n hx hb dX1_free_43 rfl (lv_at hl 1 rfl) ?_
  refine lv_icmp_ne (tgt := 51) hx hb dX1_free_44 (by decide) (fun _ => ?_) (fun c9 => absurd c9 (by decide))
  refine lv_iload_n hx hb dX1_free_51 rfl (lv_at hl 0 rfl) ?_
  refine ast hC hK hP hD hS 1 (ws' := [(h0, .inr (1, [.ref cm])), (cm, .inl (G.2.1, 36, .inl (upd (upd (upd (upd (upd (upd (upd (upd (upd (upd (upd (upd (upd (upd (upd (upd (fun _ => 0) 0 0) 1 60) 2 60) 3 60) 4 60) 5 60) 6 60) 7 0) 8 120) 9 120) 10 120) 11 120) 12 60) 13 120) 14 0) 15 120)))]) rfl (vin (by decide +kernel)) (k := 15) (by decide +kernel) (rfl) dX1_free_52 (fun H locs hP hD hS => ?_)
  refine lv_iinc (v := 4) (lv' := [(2, .int 4), (3, .int 120), (1, .int 2), (0, .ref h0)]) hx hb dX1_free_53 hl (k := 1) rfl (by decide) (by decide) rfl (fun ls hl => ?_)
  refine lv_goto (tgt := 10) hx hb dX1_free_56 (by decide) ?_
  refine lv_iload_n hx hb dX1_free_10 rfl (lv_at hl 0 rfl) ?_
  refine lv_bipush (v := 6) hx hb dX1_free_11 (by decide) ?_
  refine lv_icmp_ge (tgt := 59) hx hb dX1_free_13 (by decide) (fun c9 => absurd c9 (by decide)) (fun _ => ?_)
  refine lv_iload_n hx hb dX1_free_16 rfl (lv_at hl 2 rfl) ?_
  refine lv_if_eq (tgt := 24) hx hb dX1_free_17 (by decide) (fun c9 => absurd c9 (by decide)) (fun _ => ?_)
  refine lv_iload_n hx hb dX1_free_20 rfl (lv_at hl 0 rfl) ?_
  refine lv_if_ne (tgt := 29) hx hb dX1_free_21 (by decide) (fun _ => ?_) (fun c9 => absurd c9 (by decide))
  refine lv_bipush (v := 120) hx hb dX1_free_29 (by decide) ?_
  refine lv_istore_n (lv' := [(3, .int 120), (2, .int 4), (1, .int 2), (0, .ref h0)]) hx hb dX1_free_31 rfl hl (by decide) rfl (fun ls hl => ?_)
  refine lv_aload_n hx hb dX1_free_32 rfl (lv_at hl 3 rfl) ?_
  refine gf_X1_9 hC rfl hK hP 0 rfl rfl dX1_free_33 ?_
  refine lv_iload_n hx hb dX1_free_36 rfl (lv_at hl 2 rfl) ?_
  refine lv_bipush (v := 6) hx hb dX1_free_37 (by decide) ?_
  refine lv_imul hx hb dX1_free_39 ?_
  refine eqi (x1 := 12) (by decide) ?_
  refine lv_iload_n hx hb dX1_free_40 rfl (lv_at hl 1 rfl) ?_
  refine lv_iadd hx hb dX1_free_41 ?_
  refine eqi (x1 := 16) (by decide) ?_
  refine lv_iload_n hx hb dX1_free_42 rfl (lv_at hl 2 rfl) ?_
  refine lv_iload_n hx hb dX1_free_43 rfl (lv_at hl 1 rfl) ?_
  refine lv_icmp_ne (tgt := 51) hx hb dX1_free_44 (by decide) (fun _ => ?_) (fun c9 => absurd c9 (by decide))
  refine lv_iload_n hx hb dX1_free_51 rfl (lv_at hl 0 rfl) ?_
  refine ast hC hK hP hD hS 1 (ws' := [(h0, .inr (1, [.ref cm])), (cm, .inl (G.2.1, 36, .inl (upd (upd (upd (upd (upd (upd (upd (upd (upd (upd (upd (upd (upd (upd (upd (upd (upd (fun _ => 0) 0 0) 1 60) 2 60) 3 60) 4 60) 5 60) 6 60) 7 0) 8 120) 9 120) 10 120) 11 120) 12 60) 13 120) 14 0) 15 120) 16 120)))]) rfl (vin (by decide +kernel)) (k := 16) (by decide +kernel) (rfl) dX1_free_52 (fun H locs hP hD hS => ?_)
  refine lv_iinc (v := 5) (lv' := [(2, .int 5), (3, .int 120), (1, .int 2), (0, .ref h0)]) hx hb dX1_free_53 hl (k := 1) rfl (by decide) (by decide) rfl (fun ls hl => ?_)
  refine lv_goto (tgt := 10) hx hb dX1_free_56 (by decide) ?_
  refine lv_iload_n hx hb dX1_free_10 rfl (lv_at hl 0 rfl) ?_
  refine lv_bipush (v := 6) hx hb dX1_free_11 (by decide) ?_
  refine lv_icmp_ge (tgt := 59) hx hb dX1_free_13 (by decide) (fun c9 => absurd c9 (by decide)) (fun _ => ?_)
  refine lv_iload_n hx hb dX1_free_16 rfl (lv_at hl 2 rfl) ?_
  refine lv_if_eq (tgt := 24) hx hb dX1_free_17 (by decide) (fun c9 => absurd c9 (by decide)) (fun _ => ?_)
  refine lv_iload_n hx hb dX1_free_20 rfl (lv_at hl 0 rfl) ?_
  refine lv_if_ne (tgt := 29) hx hb dX1_free_21 (by decide) (fun _ => ?_) (fun c9 => absurd c9 (by decide))
  refine lv_bipush (v := 120) hx hb dX1_free_29 (by decide) ?_
  refine lv_istore_n (lv' := [(3, .int 120), (2, .int 5), (1, .int 2), (0, .ref h0)]) hx hb dX1_free_31 rfl hl (by decide) rfl (fun ls hl => ?_)
  refine lv_aload_n hx hb dX1_free_32 rfl (lv_at hl 3 rfl) ?_
  refine gf_X1_9 hC rfl hK hP 0 rfl rfl dX1_free_33 ?_
  refine lv_iload_n hx hb dX1_free_36 rfl (lv_at hl 2 rfl) ?_
  refine lv_bipush (v := 6) hx hb dX1_free_37 (by decide) ?_
  refine lv_imul hx hb dX1_free_39 ?_
  refine eqi (x1 := 12) (by decide) ?_
  refine lv_iload_n hx hb dX1_free_40 rfl (lv_at hl 1 rfl) ?_
  refine lv_iadd hx hb dX1_free_41 ?_
  refine eqi (x1 := 17) (by decide) ?_
  refine lv_iload_n hx hb dX1_free_42 rfl (lv_at hl 2 rfl) ?_
  refine lv_iload_n hx hb dX1_free_43 rfl (lv_at hl 1 rfl) ?_
  refine lv_icmp_ne (tgt := 51) hx hb dX1_free_44 (by decide) (fun _ => ?_) (fun c9 => absurd c9 (by decide))
  refine lv_iload_n hx hb dX1_free_51 rfl (lv_at hl 0 rfl) ?_
  refine ast hC hK hP hD hS 1 (ws' := [(h0, .inr (1, [.ref cm])), (cm, .inl (G.2.1, 36, .inl (upd (upd (upd (upd (upd (upd (upd (upd (upd (upd (upd (upd (upd (upd (upd (upd (upd (upd (fun _ => 0) 0 0) 1 60) 2 60) 3 60) 4 60) 5 60) 6 60) 7 0) 8 120) 9 120) 10 120) 11 120) 12 60) 13 120) 14 0) 15 120) 16 120) 17 120)))]) rfl (vin (by decide +kernel)) (k := 17) (by decide +kernel) (rfl) dX1_free_52 (fun H locs hP hD hS => ?_)
  refine lv_iinc (v := 6) (lv' := [(2, .int 6), (3, .int 120), (1, .int 2), (0, .ref h0)]) hx hb dX1_free_53 hl (k := 1) rfl (by decide) (by decide) rfl (fun ls hl => ?_)
  refine lv_goto (tgt := 10) hx hb dX1_free_56 (by decide) ?_
  refine lv_iload_n hx hb dX1_free_10 rfl (lv_at hl 0 rfl) ?_
  refine lv_bipush (v := 6) hx hb dX1_free_11 (by decide) ?_
  refine lv_icmp_ge (tgt := 59) hx hb dX1_free_13 (by decide) (fun _ => ?_) (fun c9 => absurd (by decide) c9)
  refine lv_iinc (v := 3) (lv' := [(1, .int 3), (2, .int 6), (3, .int 120), (0, .ref h0)]) hx hb dX1_free_59 hl (k := 2) rfl (by decide) (by decide) rfl (fun ls hl => ?_)
  refine lv_goto (tgt := 2) hx hb dX1_free_62 (by decide) ?_
  refine lv_iload_n hx hb dX1_free_2 rfl (lv_at hl 0 rfl) ?_
  refine lv_bipush (v := 6) hx hb dX1_free_3 (by decide) ?_
  refine lv_icmp_ge (tgt := 65) hx hb dX1_free_5 (by decide) (fun c9 => absurd c9 (by decide)) (fun _ => ?_)
  refine lv_iconst (v := 0) hx hb dX1_free_8 (by decide) ?_
  refine lv_istore_n (lv' := [(2, .int 0), (1, .int 3), (3, .int 120), (0, .ref h0)]) hx hb dX1_free_9 rfl hl (by decide) rfl (fun ls hl => ?_)
  refine lv_iload_n hx hb dX1_free_10 rfl (lv_at hl 0 rfl) ?_
  refine lv_bipush (v := 6) hx hb dX1_free_11 (by decide) ?_
  refine lv_icmp_ge (tgt := 59) hx hb dX1_free_13 (by decide) (fun c9 => absurd c9 (by decide)) (fun _ => ?_)
  refine lv_iload_n hx hb dX1_free_16 rfl (lv_at hl 1 rfl) ?_
  refine lv_if_eq (tgt := 24) hx hb dX1_free_17 (by decide) (fun c9 => absurd c9 (by decide)) (fun _ => ?_)
  refine lv_iload_n hx hb dX1_free_20 rfl (lv_at hl 0 rfl) ?_
  refine lv_if_ne (tgt := 29) hx hb dX1_free_21 (by decide) (fun c9 => absurd (by decide) c9) (fun _ => ?_)
  refine lv_bipush (v := 60) hx hb dX1_free_24 (by decide) ?_
  refine lv_goto (tgt := 31) hx hb dX1_free_26 (by decide) ?_
  refine lv_istore_n (lv' := [(3, .int 60), (2, .int 0), (1, .int 3), (0, .ref h0)]) hx hb dX1_free_31 rfl hl (by decide) rfl (fun ls hl => ?_)
  refine lv_aload_n hx hb dX1_free_32 rfl (lv_at hl 3 rfl) ?_
  refine gf_X1_9 hC rfl hK hP 0 rfl rfl dX1_free_33 ?_
  refine lv_iload_n hx hb dX1_free_36 rfl (lv_at hl 2 rfl) ?_
  refine lv_bipush (v := 6) hx hb dX1_free_37 (by decide) ?_
  refine lv_imul hx hb dX1_free_39 ?_
  refine eqi (x1 := 18) (by decide) ?_
  refine lv_iload_n hx hb dX1_free_40 rfl (lv_at hl 1 rfl) ?_
  refine lv_iadd hx hb dX1_free_41 ?_
  refine eqi (x1 := 18) (by decide) ?_
  refine lv_iload_n hx hb dX1_free_42 rfl (lv_at hl 2 rfl) ?_
  refine lv_iload_n hx hb dX1_free_43 rfl (lv_at hl 1 rfl) ?_
  refine lv_icmp_ne (tgt := 51) hx hb dX1_free_44 (by decide) (fun _ => ?_) (fun c9 => absurd c9 (by decide))
  refine lv_iload_n hx hb dX1_free_51 rfl (lv_at hl 0 rfl) ?_
  refine ast hC hK hP hD hS 1 (ws' := [(h0, .inr (1, [.ref cm])), (cm, .inl (G.2.1, 36, .inl (upd (upd (upd (upd (upd (upd (upd (upd (upd (upd (upd (upd (upd (upd (upd (upd (upd (upd (upd (fun _ => 0) 0 0) 1 60) 2 60) 3 60) 4 60) 5 60) 6 60) 7 0) 8 120) 9 120) 10 120) 11 120) 12 60) 13 120) 14 0) 15 120) 16 120) 17 120) 18 60)))]) rfl (vin (by decide +kernel)) (k := 18) (by decide +kernel) (rfl) dX1_free_52 (fun H locs hP hD hS => ?_)
  refine lv_iinc (v := 1) (lv' := [(2, .int 1), (3, .int 60), (1, .int 3), (0, .ref h0)]) hx hb dX1_free_53 hl (k := 1) rfl (by decide) (by decide) rfl (fun ls hl => ?_)
  refine lv_goto (tgt := 10) hx hb dX1_free_56 (by decide) ?_
  refine lv_iload_n hx hb dX1_free_10 rfl (lv_at hl 0 rfl) ?_
  refine lv_bipush (v := 6) hx hb dX1_free_11 (by decide) ?_
  refine lv_icmp_ge (tgt := 59) hx hb dX1_free_13 (by decide) (fun c9 => absurd c9 (by decide)) (fun _ => ?_)
  refine lv_iload_n hx hb dX1_free_16 rfl (lv_at hl 2 rfl) ?_
  refine lv_if_eq (tgt := 24) hx hb dX1_free_17 (by decide) (fun c9 => absurd c9 (by decide)) (fun _ => ?_)
  refine lv_iload_n hx hb dX1_free_20 rfl (lv_at hl 0 rfl) ?_
  refine lv_if_ne (tgt := 29) hx hb dX1_free_21 (by decide) (fun _ => ?_) (fun c9 => absurd c9 (by decide))
  refine lv_bipush (v := 120) hx hb dX1_free_29 (by decide) ?_
  refine lv_istore_n (lv' := [(3, .int 120), (2, .int 1), (1, .int 3), (0, .ref h0)]) hx hb dX1_free_31 rfl hl (by decide) rfl (fun ls hl => ?_)
  refine lv_aload_n hx hb dX1_free_32 rfl (lv_at hl 3 rfl) ?_
  refine gf_X1_9 hC rfl hK hP 0 rfl rfl dX1_free_33 ?_
  refine lv_iload_n hx hb dX1_free_36 rfl (lv_at hl 2 rfl) ?_
  refine lv_bipush (v := 6) hx hb dX1_free_37 (by decide) ?_
  refine lv_imul hx hb dX1_free_39 ?_
  refine eqi (x1 := 18) (by decide) ?_
  refine lv_iload_n hx hb dX1_free_40 rfl (lv_at hl 1 rfl) ?_
  refine lv_iadd hx hb dX1_free_41 ?_
  refine eqi (x1 := 19) (by decide) ?_
  refine lv_iload_n hx hb dX1_free_42 rfl (lv_at hl 2 rfl) ?_
  refine lv_iload_n hx hb dX1_free_43 rfl (lv_at hl 1 rfl) ?_
  refine lv_icmp_ne (tgt := 51) hx hb dX1_free_44 (by decide) (fun _ => ?_) (fun c9 => absurd c9 (by decide))
  refine lv_iload_n hx hb dX1_free_51 rfl (lv_at hl 0 rfl) ?_
  refine ast hC hK hP hD hS 1 (ws' := [(h0, .inr (1, [.ref cm])), (cm, .inl (G.2.1, 36, .inl (upd (upd (upd (upd (upd (upd (upd (upd (upd (upd (upd (upd (upd (upd (upd (upd (upd (upd (upd (upd (fun _ => 0) 0 0) 1 60) 2 60) 3 60) 4 60) 5 60) 6 60) 7 0) 8 120) 9 120) 10 120) 11 120) 12 60) 13 120) 14 0) 15 120) 16 120) 17 120) 18 60) 19 120)))]) rfl (vin (by decide +kernel)) (k := 19) (by decide +kernel) (rfl) dX1_free_52 (fun H locs hP hD hS => ?_)
  refine lv_iinc (v := 2) (lv' := [(2, .int 2), (3, .int 120), (1, .int 3), (0, .ref h0)]) hx hb dX1_free_53 hl (k := 1) rfl (by decide) (by decide) rfl (fun ls hl => ?_)
  refine lv_goto (tgt := 10) hx hb dX1_free_56 (by decide) ?_
  refine lv_iload_n hx hb dX1_free_10 rfl (lv_at hl 0 rfl) ?_
  refine lv_bipush (v := 6) hx hb dX1_free_11 (by decide) ?_
  refine lv_icmp_ge (tgt := 59) hx hb dX1_free_13 (by decide) (fun c9 => absurd c9 (by decide)) (fun _ => ?_)
  refine lv_iload_n hx hb dX1_free_16 rfl (lv_at hl 2 rfl) ?_
  refine lv_if_eq (tgt := 24) hx hb dX1_free_17 (by decide) (fun c9 => absurd c9 (by decide)) (fun _ => ?_)
  refine lv_iload_n hx hb dX1_free_20 rfl (lv_at hl 0 rfl) ?_
  refine lv_if_ne (tgt := 29) hx hb dX1_free_21 (by decide) (fun _ => ?_) (fun c9 => absurd c9 (by decide))
  refine lv_bipush (v := 120) hx hb dX1_free_29 (by decide) ?_
  refine lv_istore_n (lv' := [(3, .int 120), (2, .int 2), (1, .int 3), (0, .ref h0)]) hx hb dX1_free_31 rfl hl (by decide) rfl (fun ls hl => ?_)
  refine lv_aload_n hx hb dX1_free_32 rfl (lv_at hl 3 rfl) ?_
  refine gf_X1_9 hC rfl hK hP 0 rfl rfl dX1_free_33 ?_
  refine lv_iload_n hx hb dX1_free_36 rfl (lv_at hl 2 rfl) ?_
  refine lv_bipush (v := 6) hx hb dX1_free_37 (by decide) ?_
  refine lv_imul hx hb dX1_free_39 ?_
  refine eqi (x1 := 18) (by decide) ?_
  refine lv_iload_n hx hb dX1_free_40 rfl (lv_at hl 1 rfl) ?_
  refine lv_iadd hx hb dX1_free_41 ?_
  refine eqi (x1 := 20) (by decide) ?_
  refine lv_iload_n hx hb dX1_free_42 rfl (lv_at hl 2 rfl) ?_
  refine lv_iload_n hx hb dX1_free_43 rfl (lv_at hl 1 rfl) ?_
  refine lv_icmp_ne (tgt := 51) hx hb dX1_free_44 (by decide) (fun _ => ?_) (fun c9 => absurd c9 (by decide))
  refine lv_iload_n hx hb dX1_free_51 rfl (lv_at hl 0 rfl) ?_
  refine ast hC hK hP hD hS 1 (ws' := [(h0, .inr (1, [.ref cm])), (cm, .inl (G.2.1, 36, .inl (upd (upd (upd (upd (upd (upd (upd (upd (upd (upd (upd (upd (upd (upd (upd (upd (upd (upd (upd (upd (upd (fun _ => 0) 0 0) 1 60) 2 60) 3 60) 4 60) 5 60) 6 60) 7 0) 8 120) 9 120) 10 120) 11 120) 12 60) 13 120) 14 0) 15 120) 16 120) 17 120) 18 60) 19 120) 20 120)))]) rfl (vin (by decide +kernel)) (k := 20) (by decide +kernel) (rfl) dX1_free_52 (fun H locs hP hD hS => ?_)
  refine lv_iinc (v := 3) (lv' := [(2, .int 3), (3, .int 120), (1, .int 3), (0, .ref h0)]) hx hb dX1_free_53 hl (k := 1) rfl (by decide) (by decide) rfl (fun ls hl => ?_)
  refine lv_goto (tgt := 10) hx hb dX1_free_56 (by decide) ?_
  refine lv_iload_n hx hb dX1_free_10 rfl (lv_at hl 0 rfl) ?_
  refine lv_bipush (v := 6) hx hb dX1_free_11 (by decide) ?_
  refine lv_icmp_ge (tgt := 59) hx hb dX1_free_13 (by decide) (fun c9 => absurd c9 (by decide)) (fun _ => ?_)
  refine lv_iload_n hx hb dX1_free_16 rfl (lv_at hl 2 rfl) ?_
  refine lv_if_eq (tgt := 24) hx hb dX1_free_17 (by decide) (fun c9 => absurd c9 (by decide)) (fun _ => ?_)
  refine lv_iload_n hx hb dX1_free_20 rfl (lv_at hl 0 rfl) ?_
  refine lv_if_ne (tgt := 29) hx hb dX1_free_21 (by decide) (fun _ => ?_) (fun c9 => absurd c9 (by decide))
  refine lv_bipush (v := 120) hx hb dX1_free_29 (by decide) ?_
  refine lv_istore_n (lv' := [(3, .int 120), (2, .int 3), (1, .int 3), (0, .ref h0)]) hx hb dX1_free_31 rfl hl (by decide) rfl (fun ls hl => ?_)
  refine lv_aload_n hx hb dX1_free_32 rfl (lv_at hl 3 rfl) ?_
  refine gf_X1_9 hC rfl hK hP 0 rfl rfl dX1_free_33 ?_
  refine lv_iload_n hx hb dX1_free_36 rfl (lv_at hl 2 rfl) ?_
  refine lv_bipush (v := 6) hx hb dX1_free_37 (by decide) ?_
  refine lv_imul hx hb dX1_free_39 ?_
  refine eqi (x1 := 18) (by decide) ?_
  refine lv_iload_n hx hb dX1_free_40 rfl (lv_at hl 1 rfl) ?_
  refine lv_iadd hx hb dX1_free_41 ?_
  refine eqi (x1 := 21) (by decide) ?_
  refine lv_iload_n hx hb dX1_free_42 rfl (lv_at hl 2 rfl) ?_
  refine lv_iload_n hx hb dX1_free_43 rfl (lv_at hl 1 rfl) ?_
  refine lv_icmp_ne (tgt := 51) hx hb dX1_free_44 (by decide) (fun c9 => absurd (by decide) c9) (fun _ => ?_)
  refine lv_iconst (v := 0) hx hb dX1_free_47 (by decide) ?_
  refine lv_goto (tgt := 52) hx hb dX1_free_48 (by decide) ?_
  refine ast hC hK hP hD hS 1 (ws' := [(h0, .inr (1, [.ref cm])), (cm, .inl (G.2.1, 36, .inl (upd (upd (upd (upd (upd (upd (upd (upd (upd (upd (upd (upd (upd (upd (upd (upd (upd (upd (upd (upd (upd (upd (fun _ => 0) 0 0) 1 60) 2 60) 3 60) 4 60) 5 60) 6 60) 7 0) 8 120) 9 120) 10 120) 11 120) 12 60) 13 120) 14 0) 15 120) 16 120) 17 120) 18 60) 19 120) 20 120) 21 0)))]) rfl (vin (by decide +kernel)) (k := 21) (by decide +kernel) (rfl) dX1_free_52 (fun H locs hP hD hS => ?_)
  refine lv_iinc (v := 4) (lv' := [(2, .int 4), (3, .int 120), (1, .int 3), (0, .ref h0)]) hx hb dX1_free_53 hl (k := 1) rfl (by decide) (by decide) rfl (fun ls hl => ?_)
  refine lv_goto (tgt := 10) hx hb dX1_free_56 (by decide) ?_
  refine lv_iload_n hx hb dX1_free_10 rfl (lv_at hl 0 rfl) ?_
  refine lv_bipush (v := 6) hx hb dX1_free_11 (by decide) ?_
  refine lv_icmp_ge (tgt := 59) hx hb dX1_free_13 (by decide) (fun c9 => absurd c9 (by decide)) (fun _ => ?_)
  refine lv_iload_n hx hb dX1_free_16 rfl (lv_at hl 2 rfl) ?_
  refine lv_if_eq (tgt := 24) hx hb dX1_free_17 (by decide) (fun c9 => absurd c9 (by decide)) (fun _ => ?_)
  refine lv_iload_n hx hb dX1_free_20 rfl (lv_at hl 0 rfl) ?_
  refine lv_if_ne (tgt := 29) hx hb dX1_free_21 (by decide) (fun _ => ?_) (fun c9 => absurd c9 (by decide))
  refine lv_bipush (v := 120) hx hb dX1_free_29 (by decide) ?_
  refine lv_istore_n (lv' := [(3, .int 120), (2, .int 4), (1, .int 3), (0, .ref h0)]) hx hb dX1_free_31 rfl hl (by decide) rfl (fun ls hl => ?_)
  refine lv_aload_n hx hb dX1_free_32 rfl (lv_at hl 3 rfl) ?_
  refine gf_X1_9 hC rfl hK hP 0 rfl rfl dX1_free_33 ?_
  refine lv_iload_n hx hb dX1_free_36 rfl (lv_at hl 2 rfl) ?_
  refine lv_bipush (v := 6) hx hb dX1_free_37 (by decide) ?_
  refine lv_imul hx hb dX1_free_39 ?_
  refine eqi (x1 := 18) (by decide) ?_
  refine lv_iload_n hx hb dX1_free_40 rfl (lv_at hl 1 rfl) ?_
  refine lv_iadd hx hb dX1_free_41 ?_
  refine eqi (x1 := 22) (by decide) ?_
  refine lv_iload_n hx hb dX1_free_42 rfl (lv_at hl 2 rfl) ?_
  refine lv_iload_n hx hb dX1_free_43 rfl (lv_at hl 1 rfl) ?_
  refine lv_icmp_ne (tgt := 51) hx hb dX1_free_44 (by decide) (fun _ => ?_) (fun c9 => absurd c9 (by decide))
  refine lv_iload_n hx hb dX1_free_51 rfl (lv_at hl 0 rfl) ?_
  refine ast hC hK hP hD hS 1 (ws' := [(h0, .inr (1, [.ref cm])), (cm, .inl (G.2.1, 36, .inl (upd (upd (upd (upd (upd (upd (upd (upd (upd (upd (upd (upd (upd (upd (upd (upd (upd (upd (upd (upd (upd (upd (upd (fun _ => 0) 0 0) 1 60) 2 60) 3 60) 4 60) 5 60) 6 60) 7 0) 8 120) 9 120) 10 120) 11 120) 12 60) 13 120) 14 0) 15 120) 16 120) 17 120) 18 60) 19 120) 20 120) 21 0) 22 120)))]) rfl (vin (by decide +kernel)) (k := 22) (by decide +kernel) (rfl) dX1_free_52 (fun H locs hP hD hS => ?_)
  refine lv_iinc (v := 5) (lv' := [(2, .int 5), (3, .int 120), (1, .int 3), (0, .ref h0)]) hx hb dX1_free_53 hl (k := 1) rfl (by decide) (by decide) rfl (fun ls hl => ?_)
  refine lv_goto (tgt := 10) hx hb dX1_free_56 (by decide) ?_
  refine lv_iload_n hx hb dX1_free_10 rfl (lv_at hl 0 rfl) ?_
  refine lv_bipush (v := 6) hx hb dX1_free_11 (by decide) ?_
  refine lv_icmp_ge (tgt := 59) hx hb dX1_free_13 (by decide) (fun c9 => absurd c9 (by decide)) (fun _ => ?_)
  refine lv_iload_n hx hb dX1_free_16 rfl (lv_at hl 2 rfl) ?_
  refine lv_if_eq (tgt := 24) hx hb dX1_free_17 (by decide) (fun c9 => absurd c9 (by decide)) (fun _ => ?_)
  refine lv_iload_n hx hb dX1_free_20 rfl (lv_at hl 0 rfl) ?_
  refine lv_if_ne (tgt := 29) hx hb dX1_free_21 (by decide) (fun _ => ?_) (fun c9 => absurd c9 (by decide))
  refine lv_bipush (v := 120) hx hb dX1_free_29 (by decide) ?_
  refine lv_istore_n (lv' := [(3, .int 120), (2, .int 5), (1, .int 3), (0, .ref h0)]) hx hb dX1_free_31 rfl hl (by decide) rfl (fun ls hl => ?_)
  refine lv_aload_n hx hb dX1_free_32 rfl (lv_at hl 3 rfl) ?_
  refine gf_X1_9 hC rfl hK hP 0 rfl rfl dX1_free_33 ?_
  refine lv_iload_n hx hb dX1_free_36 rfl (lv_at hl 2 rfl) ?_
  refine lv_bipush (v := 6) hx hb dX1_free_37 (by decide) ?_
  refine lv_imul hx hb dX1_free_39 ?_
  refine eqi (x1 := 18) (by decide) ?_
  refine lv_iload_n hx hb dX1_free_40 rfl (lv_at hl 1 rfl) ?_
  refine lv_iadd hx hb dX1_free_41 ?_
  refine eqi (x1 := 23) (by decide) ?_
  refine lv_iload_n hx hb dX1_free_42 rfl (lv_at hl 2 rfl) ?_
  refine lv_iload_n hx hb dX1_free_43 rfl (lv_at hl 1 rfl) ?_
  refine lv_icmp_ne (tgt := 51) hx hb dX1_free_44 (by decide) (fun _ => ?_) (fun c9 => absurd c9 (by decide))
  refine lv_iload_n hx hb dX1_free_51 rfl (lv_at hl 0 rfl) ?_
  refine ast hC hK hP hD hS 1 (ws' := [(h0, .inr (1, [.ref cm])), (cm, .inl (G.2.1, 36, .inl (upd (upd (upd (upd (upd (upd (upd (upd (upd (upd (upd (upd (upd (upd (upd (upd (upd (upd (upd (upd (upd (upd (upd (upd (fun _ => 0) 0 0) 1 60) 2 60) 3 60) 4 60) 5 60) 6 60) 7 0) 8 120) 9 120) 10 120) 11 120) 12 60) 13 120) 14 0) 15 120) 16 120) 17 120) 18 60) 19 120) 20 120) 21 0) 22 120) 23 120)))]) rfl (vin (by decide +kernel)) (k := 23) (by decide +kernel) (rfl) dX1_free_52 (fun H locs hP hD hS => ?_)
  refine lv_iinc (v := 6) (lv' := [(2, .int 6), (3, .int 120), (1, .int 3), (0, .ref h0)]) hx hb dX1_free_53 hl (k := 1) rfl (by decide) (by decide) rfl (fun ls hl => ?_)
  refine lv_goto (tgt := 10) hx hb dX1_free_56 (by decide) ?_
  refine lv_iload_n hx hb dX1_free_10 rfl (lv_at hl 0 rfl) ?_
  refine lv_bipush (v := 6) hx hb dX1_free_11 (by decide) ?_
  refine lv_icmp_ge (tgt := 59) hx hb dX1_free_13 (by decide) (fun _ => ?_) (fun c9 => absurd (by decide) c9)
  refine lv_iinc (v := 4) (lv' := [(1, .int 4), (2, .int 6), (3, .int 120), (0, .ref h0)]) hx hb dX1_free_59 hl (k := 2) rfl (by decide) (by decide) rfl (fun ls hl => ?_)
  refine lv_goto (tgt := 2) hx hb dX1_free_62 (by decide) ?_
  refine lv_iload_n hx hb dX1_free_2 rfl (lv_at hl 0 rfl) ?_
  refine lv_bipush (v := 6) hx hb dX1_free_3 (by decide) ?_
  refine lv_icmp_ge (tgt := 65) hx hb dX1_free_5 (by decide) (fun c9 => absurd c9 (by decide)) (fun _ => ?_)
  refine lv_iconst (v := 0) hx hb dX1_free_8 (by decide) ?_
  refine lv_istore_n (lv' := [(2, .int 0), (1, .int 4), (3, .int 120), (0, .ref h0)]) hx hb dX1_free_9 rfl hl (by decide) rfl (fun ls hl => ?_)
  refine lv_iload_n hx hb dX1_free_10 rfl (lv_at hl 0 rfl) ?_
  refine lv_bipush (v := 6) hx hb dX1_free_11 (by decide) ?_
  refine lv_icmp_ge (tgt := 59) hx hb dX1_free_13 (by decide) (fun c9 => absurd c9 (by decide)) (fun _ => ?_)
  refine lv_iload_n hx hb dX1_free_16 rfl (lv_at hl 1 rfl) ?_
  refine lv_if_eq (tgt := 24) hx hb dX1_free_17 (by decide) (fun c9 => absurd c9 (by decide)) (fun _ => ?_)
  refine lv_iload_n hx hb dX1_free_20 rfl (lv_at hl 0 rfl) ?_
  refine lv_if_ne (tgt := 29) hx hb dX1_free_21 (by decide) (fun c9 => absurd (by decide) c9) (fun _ => ?_)
  refine lv_bipush (v := 60) hx hb dX1_free_24 (by decide) ?_
  refine lv_goto (tgt := 31) hx hb dX1_free_26 (by decide) ?_
  refine lv_istore_n (lv' := [(3, .int 60), (2, .int 0), (1, .int 4), (0, .ref h0)]) hx hb dX1_free_31 rfl hl (by decide) rfl (fun ls hl => ?_)
  refine lv_aload_n hx hb dX1_free_32 rfl (lv_at hl 3 rfl) ?_
  refine gf_X1_9 hC rfl hK hP 0 rfl rfl dX1_free_33 ?_
  refine lv_iload_n hx hb dX1_free_36 rfl (lv_at hl 2 rfl) ?_
  refine lv_bipush (v := 6) hx hb dX1_free_37 (by decide) ?_
  refine lv_imul hx hb dX1_free_39 ?_
  refine eqi (x1 := 24) (by decide) ?_
  refine lv_iload_n hx hb dX1_free_40 rfl (lv_at hl 1 rfl) ?_
  refine lv_iadd hx hb dX1_free_41 ?_
  refine eqi (x1 := 24) (by decide) ?_
  refine lv_iload_n hx hb dX1_free_42 rfl (lv_at hl 2 rfl) ?_
  refine lv_iload_n hx hb dX1_free_43 rfl (lv_at hl 1 rfl) ?_
  refine lv_icmp_ne (tgt := 51) hx hb dX1_free_44 (by decide) (fun _ => ?_) (fun c9 => absurd c9 (by decide))
  refine lv_iload_n hx hb dX1_free_51 rfl (lv_at hl 0 rfl) ?_
  refine ast hC hK hP hD hS 1 (ws' := [(h0, .inr (1, [.ref cm])), (cm, .inl (G.2.1, 36, .inl (upd (upd (upd (upd (upd (upd (upd (upd (upd (upd (upd (upd (upd (upd (upd (upd (upd (upd (upd (upd (upd (upd (upd (upd (upd (fun _ => 0) 0 0) 1 60) 2 60) 3 60) 4 60) 5 60) 6 60) 7 0) 8 120) 9 120) 10 120) 11 120) 12 60) 13 120) 14 0) 15 120) 16 120) 17 120) 18 60) 19 120) 20 120) 21 0) 22 120) 23 120) 24 60)))]) rfl (vin (by decide +kernel)) (k := 24) (by decide +kernel) (rfl) dX1_free_52 (fun H locs hP hD hS => ?_)
  refine lv_iinc (v := 1) (lv' := [(2, .int 1), (3, .int 60), (1, .int 4), (0, .ref h0)]) hx hb dX1_free_53 hl (k := 1) rfl (by decide) (by decide) rfl (fun ls hl => ?_)
  refine lv_goto (tgt := 10) hx hb dX1_free_56 (by decide) ?_
  refine lv_iload_n hx hb dX1_free_10 rfl (lv_at hl 0 rfl) ?_
  refine lv_bipush (v := 6) hx hb dX1_free_11 (by decide) ?_
  refine lv_icmp_ge (tgt := 59) hx hb dX1_free_13 (by decide) (fun c9 => absurd c9 (by decide)) (fun _ => ?_)
  refine lv_iload_n hx hb dX1_free_16 rfl (lv_at hl 2 rfl) ?_
  refine lv_if_eq (tgt := 24) hx hb dX1_free_17 (by decide) (fun c9 => absurd c9 (by decide)) (fun _ => ?_)
  refine lv_iload_n hx hb dX1_free_20 rfl (lv_at hl 0 rfl) ?_
  refine lv_if_ne (tgt := 29) hx hb dX1_free_21 (by decide) (fun _ => ?_) (fun c9 => absurd c9 (by decide))
  refine lv_bipush (v := 120) hx hb dX1_free_29 (by decide) ?_
  refine lv_istore_n (lv' := [(3, .int 120), (2, .int 1), (1, .int 4), (0, .ref h0)]) hx hb dX1_free_31 rfl hl (by decide) rfl (fun ls hl => ?_)
  refine lv_aload_n hx hb dX1_free_32 rfl (lv_at hl 3 rfl) ?_
  refine gf_X1_9 hC rfl hK hP 0 rfl rfl dX1_free_33 ?_
  refine lv_iload_n hx hb dX1_free_36 rfl (lv_at hl 2 rfl) ?_
  refine lv_bipush (v := 6) hx hb dX1_free_37 (by decide) ?_
  refine lv_imul hx hb dX1_free_39 ?_
  refine eqi (x1 := 24) (by decide) ?_
  refine lv_iload_n hx hb dX1_free_40 rfl (lv_at hl 1 rfl) ?_
  refine lv_iadd hx hb dX1_free_41 ?_
  refine eqi (x1 := 25) (by decide) ?_
  refine lv_iload_n hx hb dX1_free_42 rfl (lv_at hl 2 rfl) ?_
  refine lv_iload_n hx hb dX1_free_43 rfl (lv_at hl 1 rfl) ?_
  refine lv_icmp_ne (tgt := 51) hx hb dX1_free_44 (by decide) (fun _ => ?_) (fun c9 => absurd c9 (by decide))
  refine lv_iload_n hx hb dX1_free_51 rfl (lv_at hl 0 rfl) ?_
  refine ast hC hK hP hD hS 1 (ws' := [(h0, .inr (1, [.ref cm])), (cm, .inl (G.2.1, 36, .inl (upd (upd (upd (upd (upd (upd (upd (upd (upd (upd (upd (upd (upd (upd (upd (upd (upd (upd (upd (upd (upd (upd (upd (upd (upd (upd (fun _ => 0) 0 0) 1 60) 2 60) 3 60) 4 60) 5 60) 6 60) 7 0) 8 120) 9 120) 10 120) 11 120) 12 60) 13 120) 14 0) 15 120) 16 120) 17 120) 18 60) 19 120) 20 120) 21 0) 22 120) 23 120) 24 60) 25 120)))]) rfl (vin (by decide +kernel)) (k := 25) (by decide +kernel) (rfl) dX1_free_52 (fun H locs hP hD hS => ?_)
  refine lv_iinc (v := 2) (lv' := [(2, .int 2), (3, .int 120), (1, .int 4), (0, .ref h0)]) hx hb dX1_free_53 hl (k := 1) rfl (by decide) (by decide) rfl (fun ls hl => ?_)
  refine lv_goto (tgt := 10) hx hb dX1_free_56 (by decide) ?_
  refine lv_iload_n hx hb dX1_free_10 rfl (lv_at hl 0 rfl) ?_
  refine lv_bipush (v := 6) hx hb dX1_free_11 (by decide) ?_
  refine lv_icmp_ge (tgt := 59) hx hb dX1_free_13 (by decide) (fun c9 => absurd c9 (by decide)) (fun _ => ?_)
  refine lv_iload_n hx hb dX1_free_16 rfl (lv_at hl 2 rfl) ?_
  refine lv_if_eq (tgt := 24) hx hb dX1_free_17 (by decide) (fun c9 => absurd c9 (by decide)) (fun _ => ?_)
  refine lv_iload_n hx hb dX1_free_20 rfl (lv_at hl 0 rfl) ?_
  refine lv_if_ne (tgt := 29) hx hb dX1_free_21 (by decide) (fun _ => ?_) (fun c9 => absurd c9 (by decide))
  refine lv_bipush (v := 120) hx hb dX1_free_29 (by decide) ?_
  refine lv_istore_n (lv' := [(3, .int 120), (2, .int 2), (1, .int 4), (0, .ref h0)]) hx hb dX1_free_31 rfl hl (by decide) rfl (fun ls hl => ?_)
  refine lv_aload_n hx hb dX1_free_32 rfl (lv_at hl 3 rfl) ?_
  refine gf_X1_9 hC rfl hK hP 0 rfl rfl dX1_free_33 ?_
  refine lv_iload_n hx hb dX1_free_36 rfl (lv_at hl 2 rfl) ?_
  refine lv_bipush (v := 6) hx hb dX1_free_37 (by decide) ?_
  refine lv_imul hx hb dX1_free_39 ?_
  refine eqi (x1 := 24) (by decide) ?_
  refine lv_iload_n hx hb dX1_free_40 rfl (lv_at hl 1 rfl) ?_
  refine lv_iadd hx hb dX1_free_41 ?_
  refine eqi (x1 := 26) (by decide) ?_
  refine lv_iload_n hx hb dX1_free_42 rfl (lv_at hl 2 rfl) ?_
  refine lv_iload_n hx hb dX1_free_43 rfl (lv_at hl 1 rfl) ?_
  refine lv_icmp_ne (tgt := 51) hx hb dX1_free_44 (by decide) (fun _ => ?_) (fun c9 => absurd c9 (by decide))
  refine lv_iload_n hx hb dX1_free_51 rfl (lv_at hl 0 rfl) ?_
  refine ast hC hK hP hD hS 1 (ws' := [(h0, .inr (1, [.ref cm])), (cm, .inl (G.2.1, 36, .inl (upd (upd (upd (upd (upd (upd (upd (upd (upd (upd (upd (upd (upd (upd (upd (upd (upd (upd (upd (upd (upd (upd (upd (upd (upd (upd (upd (fun _ => 0) 0 0) 1 60) 2 60) 3 60) 4 60) 5 60) 6 60) 7 0) 8 120) 9 120) 10 120) 11 120) 12 60) 13 120) 14 0) 15 120) 16 120) 17 120) 18 60) 19 120) 20 120) 21 0) 22 120) 23 120) 24 60) 25 120) 26 120)))]) rfl (vin (by decide +kernel)) (k := 26) (by decide +kernel) (rfl) dX1_free_52 (fun H locs hP hD hS => ?_)
  refine lv_iinc (v := 3) (lv' := [(2, .int 3), (3, .int 120), (1, .int 4), (0, .ref h0)]) hx hb dX1_free_53 hl (k := 1) rfl (by decide) (by decide) rfl (fun ls hl => ?_)
  refine lv_goto (tgt := 10) hx hb dX1_free_56 (by decide) ?_
  refine lv_iload_n hx hb dX1_free_10 rfl (lv_at hl 0 rfl) ?_
  refine lv_bipush (v := 6) hx hb dX1_free_11 (by decide) ?_
  refine lv_icmp_ge (tgt := 59) hx hb dX1_free_13 (by decide) (fun c9 => absurd c9 (by decide)) (fun _ => ?_)
  refine lv_iload_n hx hb dX1_free_16 rfl (lv_at hl 2 rfl) ?_
  refine lv_if_eq (tgt := 24) hx hb dX1_free_17 (by decide) (fun c9 => absurd c9 (by decide)) (fun _ => ?_)
  refine lv_iload_n hx hb dX1_free_20 rfl (lv_at hl 0 rfl) ?_
  refine lv_if_ne (tgt := 29) hx hb dX1_free_21 (by decide) (fun _ => ?_) (fun c9 => absurd c9 (by decide))
  refine lv_bipush (v := 120) hx hb dX1_free_29 (by decide) ?_
  refine lv_istore_n (lv' := [(3, .int 120), (2, .int 3), (1, .int 4), (0, .ref h0)]) hx hb dX1_free_31 rfl hl (by decide) rfl (fun ls hl => ?_)
  refine lv_aload_n hx hb dX1_free_32 rfl (lv_at hl 3 rfl) ?_
  refine gf_X1_9 hC rfl hK hP 0 rfl rfl dX1_free_33 ?_
  refine lv_iload_n hx hb dX1_free_36 rfl (lv_at hl 2 rfl) ?_
  refine lv_bipush (v := 6) hx hb dX1_free_37 (by decide) ?_
  refine lv_imul hx hb dX1_free_39 ?_
  refine eqi (x1 := 24) (by decide) ?_
  refine lv_iload_n hx hb dX1_free_40 rfl (lv_at hl 1 rfl) ?_
  refine lv_iadd hx hb dX1_free_41 ?_
  refine eqi (x1 := 27) (by decide) ?_
  refine lv_iload_n hx hb dX1_free_42 rfl (lv_at hl 2 rfl) ?_
  refine lv_iload_n hx hb dX1_free_43 rfl (lv_at hl 1 rfl) ?_
  refine lv_icmp_ne (tgt := 51) hx hb dX1_free_44 (by decide) (fun _ => ?_) (fun c9 => absurd c9 (by decide))
  refine lv_iload_n hx hb dX1_free_51 rfl (lv_at hl 0 rfl) ?_
  refine ast hC hK hP hD hS 1 (ws' := [(h0, .inr (1, [.ref cm])), (cm, .inl (G.2.1, 36, .inl (upd (upd (upd (upd (upd (upd (upd (upd (upd (upd (upd (upd (upd (upd (upd (upd (upd (upd (upd (upd (upd (upd (upd (upd (upd (upd (upd (upd (fun _ => 0) 0 0) 1 60) 2 60) 3 60) 4 60) 5 60) 6 60) 7 0) 8 120) 9 120) 10 120) 11 120) 12 60) 13 120) 14 0) 15 120) 16 120) 17 120) 18 60) 19 120) 20 120) 21 0) 22 120) 23 120) 24 60) 25 120) 26 120) 27 120)))]) rfl (vin (by decide +kernel)) (k := 27) (by decide +kernel) (rfl) dX1_free_52 (fun H locs hP hD hS => ?_)
  refine lv_iinc (v := 4) (lv' := [(2, .int 4), (3, .int 120), (1, .int 4), (0, .ref h0)]) hx hb dX1_free_53 hl (k := 1) rfl (by decide) (by decide) rfl (fun ls hl => ?_)
  refine lv_goto (tgt := 10) hx hb dX1_free_56 (by decide) ?_
  refine lv_iload_n hx hb dX1_free_10 rfl (lv_at hl 0 rfl) ?_
  refine lv_bipush (v := 6) hx hb dX1_free_11 (by decide) ?_
  refine lv_icmp_ge (tgt := 59) hx hb dX1_free_13 (by decide) (fun c9 => absurd c9 (by decide)) (fun _ => ?_)
  refine lv_iload_n hx hb dX1_free_16 rfl (lv_at hl 2 rfl) ?_
  refine lv_if_eq (tgt := 24) hx hb dX1_free_17 (by decide) (fun c9 => absurd c9 (by decide)) (fun _ => ?_)
  refine lv_iload_n hx hb dX1_free_20 rfl (lv_at hl 0 rfl) ?_
  refine lv_if_ne (tgt := 29) hx hb dX1_free_21 (by decide) (fun _ => ?_) (fun c9 => absurd c9 (by decide))
  refine lv_bipush (v := 120) hx hb dX1_free_29 (by decide) ?_
  refine lv_istore_n (lv' := [(3, .int 120), (2, .int 4), (1, .int 4), (0, .ref h0)]) hx hb dX1_free_31 rfl hl (by decide) rfl (fun ls hl => ?_)
  refine lv_aload_n hx hb dX1_free_32 rfl (lv_at hl 3 rfl) ?_
  refine gf_X1_9 hC rfl hK hP 0 rfl rfl dX1_free_33 ?_
  refine lv_iload_n hx hb dX1_free_36 rfl (lv_at hl 2 rfl) ?_
  refine lv_bipush (v := 6) hx hb dX1_free_37 (by decide) ?_
  refine lv_imul hx hb dX1_free_39 ?_
  refine eqi (x1 := 24) (by decide) ?_
  refine lv_iload_n hx hb dX1_free_40 rfl (lv_at hl 1 rfl) ?_
  refine lv_iadd hx hb dX1_free_41 ?_
  refine eqi (x1 := 28) (by decide) ?_
  refine lv_iload_n hx hb dX1_free_42 rfl (lv_at hl 2 rfl) ?_
  refine lv_iload_n hx hb dX1_free_43 rfl (lv_at hl 1 rfl) ?_
  refine lv_icmp_ne (tgt := 51) hx hb dX1_free_44 (by decide) (fun c9 => absurd (by decide) c9) (fun _ => ?_)
  refine lv_iconst (v := 0) hx hb dX1_free_47 (by decide) ?_
  refine lv_goto (tgt := 52) hx hb dX1_free_48 (by decide) ?_
  refine ast hC hK hP hD hS 1 (ws' := [(h0, .inr (1, [.ref cm])), (cm, .inl (G.2.1, 36, .inl (upd (upd (upd (upd (upd (upd (upd (upd (upd (upd (upd (upd (upd (upd (upd (upd (upd (upd (upd (upd (upd (upd (upd (upd (upd (upd (upd (upd (upd (fun _ => 0) 0 0) 1 60) 2 60) 3 60) 4 60) 5 60) 6 60) 7 0) 8 120) 9 120) 10 120) 11 120) 12 60) 13 120) 14 0) 15 120) 16 120) 17 120) 18 60) 19 120) 20 120) 21 0) 22 120) 23 120) 24 60) 25 120) 26 120) 27 120) 28 0)))]) rfl (vin (by decide +kernel)) (k := 28) (by decide +kernel) (rfl) dX1_free_52 (fun H locs hP hD hS => ?_)
  refine lv_iinc (v := 5) (lv' := [(2, .int 5), (3, .int 120), (1, .int 4), (0, .ref h0)]) hx hb dX1_free_53 hl (k := 1) rfl (by decide) (by decide) rfl (fun ls hl => ?_)
  refine lv_goto (tgt := 10) hx hb dX1_free_56 (by decide) ?_
  refine lv_iload_n hx hb dX1_free_10 rfl (lv_at hl 0 rfl) ?_
  refine lv_bipush (v := 6) hx hb dX1_free_11 (by decide) ?_
  refine lv_icmp_ge (tgt := 59) hx hb dX1_free_13 (by decide) (fun c9 => absurd c9 (by decide)) (fun _ => ?_)
  refine lv_iload_n hx hb dX1_free_16 rfl (lv_at hl 2 rfl) ?_
  refine lv_if_eq (tgt := 24) hx hb dX1_free_17 (by decide) (fun c9 => absurd c9 (by decide)) (fun _ => ?_)
  refine lv_iload_n hx hb dX1_free_20 rfl (lv_at hl 0 rfl) ?_
  refine lv_if_ne (tgt := 29) hx hb dX1_free_21 (by decide) (fun _ => ?_) (fun c9 => absurd c9 (by decide))
  refine lv_bipush (v := 120) hx hb dX1_free_29 (by decide) ?_
  refine lv_istore_n (lv' := [(3, .int 120), (2, .int 5), (1, .int 4), (0, .ref h0)]) hx hb dX1_free_31 rfl hl (by decide) rfl (fun ls hl => ?_)
  refine lv_aload_n hx hb dX1_free_32 rfl (lv_at hl 3 rfl) ?_
  refine gf_X1_9 hC rfl hK hP 0 rfl rfl dX1_free_33 ?_
  refine lv_iload_n hx hb dX1_free_36 rfl (lv_at hl 2 rfl) ?_
  refine lv_bipush (v := 6) hx hb dX1_free_37 (by decide) ?_
  refine lv_imul hx hb dX1_free_39 ?_
  refine eqi (x1 := 24) (by decide) ?_
  refine lv_iload_n hx hb dX1_free_40 rfl (lv_at hl 1 rfl) ?_
  refine lv_iadd hx hb dX1_free_41 ?_
  refine eqi (x1 := 29) (by decide) ?_
  refine lv_iload_n hx hb dX1_free_42 rfl (lv_at hl 2 rfl) ?_
  refine lv_iload_n hx hb dX1_free_43 rfl (lv_at hl 1 rfl) ?_
  refine lv_icmp_ne (tgt := 51) hx hb dX1_free_44 (by decide) (fun _ => ?_) (fun c9 => absurd c9 (by decide))
  refine lv_iload_n hx hb dX1_free_51 rfl (lv_at hl 0 rfl) ?_
  refine ast hC hK hP hD hS 1 (ws' := [(h0, .inr (1, [.ref cm])), (cm, .inl (G.2.1, 36, .inl (upd (upd (upd (upd (upd (upd (upd (upd (upd (upd (upd (upd (upd (upd (upd (upd (upd (upd (upd (upd (upd (upd (upd (upd (upd (upd (upd (upd (upd (upd (fun _ => 0) 0 0) 1 60) 2 60) 3 60) 4 60) 5 60) 6 60) 7 0) 8 120) 9 120) 10 120) 11 120) 12 60) 13 120) 14 0) 15 120) 16 120) 17 120) 18 60) 19 120) 20 120) 21 0) 22 120) 23 120) 24 60) 25 120) 26 120) 27 120) 28 0) 29 120)))]) rfl (vin (by decide +kernel)) (k := 29) (by decide +kernel) (rfl) dX1_free_52 (fun H locs hP hD hS => ?_)
  refine lv_iinc (v := 6) (lv' := [(2, .int 6), (3, .int 120), (1, .int 4), (0, .ref h0)]) hx hb dX1_free_53 hl (k := 1) rfl (by decide) (by decide) rfl (fun ls hl => ?_)
  refine lv_goto (tgt := 10) hx hb dX1_free_56 (by decide) ?_
  refine lv_iload_n hx hb dX1_free_10 rfl (lv_at hl 0 rfl) ?_
  refine lv_bipush (v := 6) hx hb dX1_free_11 (by decide) ?_
  refine lv_icmp_ge (tgt := 59) hx hb dX1_free_13 (by decide) (fun _ => ?_) (fun c9 => absurd (by decide) c9)
  refine lv_iinc (v := 5) (lv' := [(1, .int 5), (2, .int 6), (3, .int 120), (0, .ref h0)]) hx hb dX1_free_59 hl (k := 2) rfl (by decide) (by decide) rfl (fun ls hl => ?_)
  refine lv_goto (tgt := 2) hx hb dX1_free_62 (by decide) ?_
  refine lv_iload_n hx hb dX1_free_2 rfl (lv_at hl 0 rfl) ?_
  refine lv_bipush (v := 6) hx hb dX1_free_3 (by decide) ?_
  refine lv_icmp_ge (tgt := 65) hx hb dX1_free_5 (by decide) (fun c9 => absurd c9 (by decide)) (fun _ => ?_)
  refine lv_iconst (v := 0) hx hb dX1_free_8 (by decide) ?_
  refine lv_istore_n (lv' := [(2, .int 0), (1, .int 5), (3, .int 120), (0, .ref h0)]) hx hb dX1_free_9 rfl hl (by decide) rfl (fun ls hl => ?_)
  refine lv_iload_n hx hb dX1_free_10 rfl (lv_at hl 0 rfl) ?_
  refine lv_bipush (v := 6) hx hb dX1_free_11 (by decide) ?_
  refine lv_icmp_ge (tgt := 59) hx hb dX1_free_13 (by decide) (fun c9 => absurd c9 (by decide)) (fun _ => ?_)
  refine lv_iload_n hx hb dX1_free_16 rfl (lv_at hl 1 rfl) ?_
  refine lv_if_eq (tgt := 24) hx hb dX1_free_17 (by decide) (fun c9 => absurd c9 (by decide)) (fun _ => ?_)
  refine lv_iload_n hx hb dX1_free_20 rfl (lv_at hl 0 rfl) ?_
  refine lv_if_ne (tgt := 29) hx hb dX1_free_21 (by decide) (fun c9 => absurd (by decide) c9) (fun _ => ?_)
  refine lv_bipush (v := 60) hx hb dX1_free_24 (by decide) ?_
  refine lv_goto (tgt := 31) hx hb dX1_free_26 (by decide) ?_
  refine lv_istore_n (lv' := [(3, .int 60), (2, .int 0), (1, .int 5), (0, .ref h0)]) hx hb dX1_free_31 rfl hl (by decide) rfl (fun ls hl => ?_)
  refine lv_aload_n hx hb dX1_free_32 rfl (lv_at hl 3 rfl) ?_
  refine gf_X1_9 hC rfl hK hP 0 rfl rfl dX1_free_33 ?_
  refine lv_iload_n hx hb dX1_free_36 rfl (lv_at hl 2 rfl) ?_
  refine lv_bipush (v := 6) hx hb dX1_free_37 (by decide) ?_
  refine lv_imul hx hb dX1_free_39 ?_
  refine eqi (x1 := 30) (by decide) ?_
  refine lv_iload_n hx hb dX1_free_40 rfl (lv_at hl 1 rfl) ?_
  refine lv_iadd hx hb dX1_free_41 ?_
  refine eqi (x1 := 30) (by decide) ?_
  refine lv_iload_n hx hb dX1_free_42 rfl (lv_at hl 2 rfl) ?_
  refine lv_iload_n hx hb dX1_free_43 rfl (lv_at hl 1 rfl) ?_
  refine lv_icmp_ne (tgt := 51) hx hb dX1_free_44 (by decide) (fun _ => ?_) (fun c9 => absurd c9 (by decide))
  refine lv_iload_n hx hb dX1_free_51 rfl (lv_at hl 0 rfl) ?_
  refine ast hC hK hP hD hS 1 (ws' := [(h0, .inr (1, [.ref cm])), (cm, .inl (G.2.1, 36, .inl (upd (upd (upd (upd (upd (upd (upd (upd (upd (upd (upd (upd (upd (upd (upd (upd (upd (upd (upd (upd (upd (upd (upd (upd (upd (upd (upd (upd (upd (upd (upd (fun _ => 0) 0 0) 1 60) 2 60) 3 60) 4 60) 5 60) 6 60) 7 0) 8 120) 9 120) 10 120) 11 120) 12 60) 13 120) 14 0) 15 120) 16 120) 17 120) 18 60) 19 120) 20 120) 21 0) 22 120) 23 120) 24 60) 25 120) 26 120) 27 120) 28 0) 29 120) 30 60)))]) rfl (vin (by decide +kernel)) (k := 30) (by decide +kernel) (rfl) dX1_free_52 (fun H locs hP hD hS => ?_)
  refine lv_iinc (v := 1) (lv' := [(2, .int 1), (3, .int 60), (1, .int 5), (0, .ref h0)]) hx hb dX1_free_53 hl (k := 1) rfl (by decide) (by decide) rfl (fun ls hl => ?_)
  refine lv_goto (tgt := 10) hx hb dX1_free_56 (by decide) ?_
  refine lv_iload_n hx hb dX1_free_10 rfl (lv_at hl 0 rfl) ?_
  refine lv_bipush (v := 6) hx hb dX1_free_11 (by decide) ?_
  refine lv_icmp_ge (tgt := 59) hx hb dX1_free_13 (by decide) (fun c9 => absurd c9 (by decide)) (fun _ => ?_)
  refine lv_iload_n hx hb dX1_free_16 rfl (lv_at hl 2 rfl) ?_
  refine lv_if_eq (tgt := 24) hx hb dX1_free_17 (by decide) (fun c9 => absurd c9 (by decide)) (fun _ => ?_)
  refine lv_iload_n hx hb dX1_free_20 rfl (lv_at hl 0 rfl) ?_
  refine lv_if_ne (tgt := 29) hx hb dX1_free_21 (by decide) (fun _ => ?_) (fun c9 => absurd c9 (by decide))
  refine lv_bipush (v := 120) hx hb dX1_free_29 (by decide) ?_
  refine lv_istore_n (lv' := [(3, .int 120), (2, .int 1), (1, .int 5), (0, .ref h0)]) hx hb dX1_free_31 rfl hl (by decide) rfl (fun ls hl => ?_)
  refine lv_aload_n hx hb dX1_free_32 rfl (lv_at hl 3 rfl) ?_
  refine gf_X1_9 hC rfl hK hP 0 rfl rfl dX1_free_33 ?_
  refine lv_iload_n hx hb dX1_free_36 rfl (lv_at hl 2 rfl) ?_
  refine lv_bipush (v := 6) hx hb dX1_free_37 (by decide) ?_
  refine lv_imul hx hb dX1_free_39 ?_
  refine eqi (x1 := 30) (by decide) ?_
  refine lv_iload_n hx hb dX1_free_40 rfl (lv_at hl 1 rfl) ?_
  refine lv_iadd hx hb dX1_free_41 ?_
  refine eqi (x1 := 31) (by decide) ?_
  refine lv_iload_n hx hb dX1_free_42 rfl (lv_at hl 2 rfl) ?_
  refine lv_iload_n hx hb dX1_free_43 rfl (lv_at hl 1 rfl) ?_
  refine lv_icmp_ne (tgt := 51) hx hb dX1_free_44 (by decide) (fun _ => ?_) (fun c9 => absurd c9 (by decide))
  refine lv_iload_n hx hb dX1_free_51 rfl (lv_at hl 0 rfl) ?_
  refine ast hC hK hP hD hS 1 (ws' := [(h0, .inr (1, [.ref cm])), (cm, .inl (G.2.1, 36, .inl (upd (upd (upd (upd (upd (upd (upd (upd (upd (upd (upd (upd (upd (upd (upd (upd (upd (upd (upd (upd (upd (upd (upd (upd (upd (upd (upd (upd (upd (upd (upd (upd (fun _ => 0) 0 0) 1 60) 2 60) 3 60) 4 60) 5 60) 6 60) 7 0) 8 120) 9 120) 10 120) 11 120) 12 60) 13 120) 14 0) 15 120) 16 120) 17 120) 18 60) 19 120) 20 120) 21 0) 22 120) 23 120) 24 60) 25 120) 26 120) 27 120) 28 0) 29 120) 30 60) 31 120)))]) rfl (vin (by decide +kernel)) (k := 31) (by decide +kernel) (rfl) dX1_free_52 (fun H locs hP hD hS => ?_)
  refine lv_iinc (v := 2) (lv' := [(2, .int 2), (3, .int 120), (1, .int 5), (0, .ref h0)]) hx hb dX1_free_53 hl (k := 1) rfl (by decide) (by decide) rfl (fun ls hl => ?_)
  refine lv_goto (tgt := 10) hx hb dX1_free_56 (by decide) ?_
  refine lv_iload_n hx hb dX1_free_10 rfl (lv_at hl 0 rfl) ?_
  refine lv_bipush (v := 6) hx hb dX1_free_11 (by decide) ?_
  refine lv_icmp_ge (tgt := 59) hx hb dX1_free_13 (by decide) (fun c9 => absurd c9 (by decide)) (fun _ => ?_)
  refine lv_iload_n hx hb dX1_free_16 rfl (lv_at hl 2 rfl) ?_
  refine lv_if_eq (tgt := 24) hx hb dX1_free_17 (by decide) (fun c9 => absurd c9 (by decide)) (fun _ => ?_)
  refine lv_iload_n hx hb dX1_free_20 rfl (lv_at hl 0 rfl) ?_
  refine lv_if_ne (tgt := 29) hx hb dX1_free_21 (by decide) (fun _ => ?_) (fun c9 => absurd c9 (by decide))
  refine lv_bipush (v := 120) hx hb dX1_free_29 (by decide) ?_
  refine lv_istore_n (lv' := [(3, .int 120), (2, .int 2), (1, .int 5), (0, .ref h0)]) hx hb dX1_free_31 rfl hl (by decide) rfl (fun ls hl => ?_)
  refine lv_aload_n hx hb dX1_free_32 rfl (lv_at hl 3 rfl) ?_
  refine gf_X1_9 hC rfl hK hP 0 rfl rfl dX1_free_33 ?_
  refine lv_iload_n hx hb dX1_free_36 rfl (lv_at hl 2 rfl) ?_
  refine lv_bipush (v := 6) hx hb dX1_free_37 (by decide) ?_
  refine lv_imul hx hb dX1_free_39 ?_
  refine eqi (x1 := 30) (by decide) ?_
  refine lv_iload_n hx hb dX1_free_40 rfl (lv_at hl 1 rfl) ?_
  refine lv_iadd hx hb dX1_free_41 ?_
  refine eqi (x1 := 32) (by decide) ?_
  refine lv_iload_n hx hb dX1_free_42 rfl (lv_at hl 2 rfl) ?_
  refine lv_iload_n hx hb dX1_free_43 rfl (lv_at hl 1 rfl) ?_
  refine lv_icmp_ne (tgt := 51) hx hb dX1_free_44 (by decide) (fun _ => ?_) (fun c9 => absurd c9 (by decide))
  refine lv_iload_n hx hb dX1_free_51 rfl (lv_at hl 0 rfl) ?_
  refine ast hC hK hP hD hS 1 (ws' := [(h0, .inr (1, [.ref cm])), (cm, .inl (G.2.1, 36, .inl (upd (upd (upd (upd (upd (upd (upd (upd (upd (upd (upd (upd (upd (upd (upd (upd (upd (upd (upd (upd (upd (upd (upd (upd (upd (upd (upd (upd (upd (upd (upd (upd (upd (fun _ => 0) 0 0) 1 60) 2 60) 3 60) 4 60) 5 60) 6 60) 7 0) 8 120) 9 120) 10 120) 11 120) 12 60) 13 120) 14 0) 15 120) 16 120) 17 120) 18 60) 19 120) 20 120) 21 0) 22 120) 23 120) 24 60) 25 120) 26 120) 27 120) 28 0) 29 120) 30 60) 31 120) 32 120)))]) rfl (vin (by decide +kernel)) (k := 32) (by decide +kernel) (rfl) dX1_free_52 (fun H locs hP hD hS => ?_)
  refine lv_iinc (v := 3) (lv' := [(2, .int 3), (3, .int 120), (1, .int 5), (0, .ref h0)]) hx hb dX1_free_53 hl (k := 1) rfl (by decide) (by decide) rfl (fun ls hl => ?_)
  refine lv_goto (tgt := 10) hx hb dX1_free_56 (by decide) ?_
  refine lv_iload_n hx hb dX1_free_10 rfl (lv_at hl 0 rfl) ?_
  refine lv_bipush (v := 6) hx hb dX1_free_11 (by decide) ?_
  refine lv_icmp_ge (tgt := 59) hx hb dX1_free_13 (by decide) (fun c9 => absurd c9 (by decide)) (fun _ => ?_)
  refine lv_iload_n hx hb dX1_free_16 rfl (lv_at hl 2 rfl) ?_
  refine lv_if_eq (tgt := 24) hx hb dX1_free_17 (by decide) (fun c9 => absurd c9 (by decide)) (fun _ => ?_)
  refine lv_iload_n hx hb dX1_free_20 rfl (lv_at hl 0 rfl) ?_
  refine lv_if_ne (tgt := 29) hx hb dX1_free_21 (by decide) (fun _ => ?_) (fun c9 => absurd c9 (by decide))
  refine lv_bipush (v := 120) hx hb dX1_free_29 (by decide) ?_
  refine lv_istore_n (lv' := [(3, .int 120), (2, .int 3), (1, .int 5), (0, .ref h0)]) hx hb dX1_free_31 rfl hl (by decide) rfl (fun ls hl => ?_)
  refine lv_aload_n hx hb dX1_free_32 rfl (lv_at hl 3 rfl) ?_
  refine gf_X1_9 hC rfl hK hP 0 rfl rfl dX1_free_33 ?_
  refine lv_iload_n hx hb dX1_free_36 rfl (lv_at hl 2 rfl) ?_
  refine lv_bipush (v := 6) hx hb dX1_free_37 (by decide) ?_
  refine lv_imul hx hb dX1_free_39 ?_
  refine eqi (x1 := 30) (by decide) ?_
  refine lv_iload_n hx hb dX1_free_40 rfl (lv_at hl 1 rfl) ?_
  refine lv_iadd hx hb dX1_free_41 ?_
  refine eqi (x1 := 33) (by decide) ?_
  refine lv_iload_n hx hb dX1_free_42 rfl (lv_at hl 2 rfl) ?_
  refine lv_iload_n hx hb dX1_free_43 rfl (lv_at hl 1 rfl) ?_
  refine lv_icmp_ne (tgt := 51) hx hb dX1_free_44 (by decide) (fun _ => ?_) (fun c9 => absurd c9 (by decide))
  refine lv_iload_n hx hb dX1_free_51 rfl (lv_at hl 0 rfl) ?_
  refine ast hC hK hP hD hS 1 (ws' := [(h0, .inr (1, [.ref cm])), (cm, .inl (G.2.1, 36, .inl (upd (upd (upd (upd (upd (upd (upd (upd (upd (upd (upd (upd (upd (upd (upd (upd (upd (upd (upd (upd (upd (upd (upd (upd (upd (upd (upd (upd (upd (upd (upd (upd (upd (upd (fun _ => 0) 0 0) 1 60) 2 60) 3 60) 4 60) 5 60) 6 60) 7 0) 8 120) 9 120) 10 120) 11 120) 12 60) 13 120) 14 0) 15 120) 16 120) 17 120) 18 60) 19 120) 20 120) 21 0) 22 120) 23 120) 24 60) 25 120) 26 120) 27 120) 28 0) 29 120) 30 60) 31 120) 32 120) 33 120)))]) rfl (vin (by decide +kernel)) (k := 33) (by decide +kernel) (rfl) dX1_free_52 (fun H locs hP hD hS => ?_)
  refine lv_iinc (v := 4) (lv' := [(2, .int 4), (3, .int 120), (1, .int 5), (0, .ref h0)]) hx hb dX1_free_53 hl (k := 1) rfl (by decide) (by decide) rfl (fun ls hl => ?_)
  refine lv_goto (tgt := 10) hx hb dX1_free_56 (by decide) ?_
  refine lv_iload_n hx hb dX1_free_10 rfl (lv_at hl 0 rfl) ?_
  refine lv_bipush (v := 6) hx hb dX1_free_11 (by decide) ?_
  refine lv_icmp_ge (tgt := 59) hx hb dX1_free_13 (by decide) (fun c9 => absurd c9 (by decide)) (fun _ => ?_)
  refine lv_iload_n hx hb dX1_free_16 rfl (lv_at hl 2 rfl) ?_
  refine lv_if_eq (tgt := 24) hx hb dX1_free_17 (by decide) (fun c9 => absurd c9 (by decide)) (fun _ => ?_)
  refine lv_iload_n hx hb dX1_free_20 rfl (lv_at hl 0 rfl) ?_
  refine lv_if_ne (tgt := 29) hx hb dX1_free_21 (by decide) (fun _ => ?_) (fun c9 => absurd c9 (by decide))
  refine lv_bipush (v := 120) hx hb dX1_free_29 (by decide) ?_
  refine lv_istore_n (lv' := [(3, .int 120), (2, .int 4), (1, .int 5), (0, .ref h0)]) hx hb dX1_free_31 rfl hl (by decide) rfl (fun ls hl => ?_)
  refine lv_aload_n hx hb dX1_free_32 rfl (lv_at hl 3 rfl) ?_
  refine gf_X1_9 hC rfl hK hP 0 rfl rfl dX1_free_33 ?_
  refine lv_iload_n hx hb dX1_free_36 rfl (lv_at hl 2 rfl) ?_
  refine lv_bipush (v := 6) hx hb dX1_free_37 (by decide) ?_
  refine lv_imul hx hb dX1_free_39 ?_
  refine eqi (x1 := 30) (by decide) ?_
  refine lv_iload_n hx hb dX1_free_40 rfl (lv_at hl 1 rfl) ?_
  refine lv_iadd hx hb dX1_free_41 ?_
  refine eqi (x1 := 34) (by decide) ?_
  refine lv_iload_n hx hb dX1_free_42 rfl (lv_at hl 2 rfl) ?_
  refine lv_iload_n hx hb dX1_free_43 rfl (lv_at hl 1 rfl) ?_
  refine lv_icmp_ne (tgt := 51) hx hb dX1_free_44 (by decide) (fun _ => ?_) (fun c9 => absurd c9 (by decide))
  refine lv_iload_n hx hb dX1_free_51 rfl (lv_at hl 0 rfl) ?_
  refine ast hC hK hP hD hS 1 (ws' := [(h0, .inr (1, [.ref cm])), (cm, .inl (G.2.1, 36, .inl (upd (upd (upd (upd (upd (upd (upd (upd (upd (upd (upd (upd (upd (upd (upd (upd (upd (upd (upd (upd (upd (upd (upd (upd (upd (upd (upd (upd (upd (upd (upd (upd (upd (upd (upd (fun _ => 0) 0 0) 1 60) 2 60) 3 60) 4 60) 5 60) 6 60) 7 0) 8 120) 9 120) 10 120) 11 120) 12 60) 13 120) 14 0) 15 120) 16 120) 17 120) 18 60) 19 120) 20 120) 21 0) 22 120) 23 120) 24 60) 25 120) 26 120) 27 120) 28 0) 29 120) 30 60) 31 120) 32 120) 33 120) 34 120)))]) rfl (vin (by decide +kernel)) (k := 34) (by decide +kernel) (rfl) dX1_free_52 (fun H locs hP hD hS => ?_)
  refine lv_iinc (v := 5) (lv' := [(2, .int 5), (3, .int 120), (1, .int 5), (0, .ref h0)]) hx hb dX1_free_53 hl (k := 1) rfl (by decide) (by decide) rfl (fun ls hl => ?_)
  refine lv_goto (tgt := 10) hx hb dX1_free_56 (by decide) ?_
  refine lv_iload_n hx hb dX1_free_10 rfl (lv_at hl 0 rfl) ?_
  refine lv_bipush (v := 6) hx hb dX1_free_11 (by decide) ?_
  refine lv_icmp_ge (tgt := 59) hx hb dX1_free_13 (by decide) (fun c9 => absurd c9 (by decide)) (fun _ => ?_)
  refine lv_iload_n hx hb dX1_free_16 rfl (lv_at hl 2 rfl) ?_
  refine lv_if_eq (tgt := 24) hx hb dX1_free_17 (by decide) (fun c9 => absurd c9 (by decide)) (fun _ => ?_)
  refine lv_iload_n hx hb dX1_free_20 rfl (lv_at hl 0 rfl) ?_
  refine lv_if_ne (tgt := 29) hx hb dX1_free_21 (by decide) (fun _ => ?_) (fun c9 => absurd c9 (by decide))
  refine lv_bipush (v := 120) hx hb dX1_free_29 (by decide) ?_
  refine lv_istore_n (lv' := [(3, .int 120), (2, .int 5), (1, .int 5), (0, .ref h0)]) hx hb dX1_free_31 rfl hl (by decide) rfl (fun ls hl => ?_)
  refine lv_aload_n hx hb dX1_free_32 rfl (lv_at hl 3 rfl) ?_
  refine gf_X1_9 hC rfl hK hP 0 rfl rfl dX1_free_33 ?_
  refine lv_iload_n hx hb dX1_free_36 rfl (lv_at hl 2 rfl) ?_
  refine lv_bipush (v := 6) hx hb dX1_free_37 (by decide) ?_
  refine lv_imul hx hb dX1_free_39 ?_
  refine eqi (x1 := 30) (by decide) ?_
  refine lv_iload_n hx hb dX1_free_40 rfl (lv_at hl 1 rfl) ?_
  refine lv_iadd hx hb dX1_free_41 ?_
  refine eqi (x1 := 35) (by decide) ?_
  refine lv_iload_n hx hb dX1_free_42 rfl (lv_at hl 2 rfl) ?_
  refine lv_iload_n hx hb dX1_free_43 rfl (lv_at hl 1 rfl) ?_
  refine lv_icmp_ne (tgt := 51) hx hb dX1_free_44 (by decide) (fun c9 => absurd (by decide) c9) (fun _ => ?_)
  refine lv_iconst (v := 0) hx hb dX1_free_47 (by decide) ?_
  refine lv_goto (tgt := 52) hx hb dX1_free_48 (by decide) ?_
  refine ast hC hK hP hD hS 1 (ws' := [(h0, .inr (1, [.ref cm])), (cm, .inl (G.2.1, 36, .inl (upd (upd (upd (upd (upd (upd (upd (upd (upd (upd (upd (upd (upd (upd (upd (upd (upd (upd (upd (upd (upd (upd (upd (upd (upd (upd (upd (upd (upd (upd (upd (upd (upd (upd (upd (upd (fun _ => 0) 0 0) 1 60) 2 60) 3 60) 4 60) 5 60) 6 60) 7 0) 8 120) 9 120) 10 120) 11 120) 12 60) 13 120) 14 0) 15 120) 16 120) 17 120) 18 60) 19 120) 20 120) 21 0) 22 120) 23 120) 24 60) 25 120) 26 120) 27 120) 28 0) 29 120) 30 60) 31 120) 32 120) 33 120) 34 120) 35 0)))]) rfl (vin (by decide +kernel)) (k := 35) (by decide +kernel) (rfl) dX1_free_52 (fun H locs hP hD hS => ?_)
  refine lv_iinc (v := 6) (lv' := [(2, .int 6), (3, .int 120), (1, .int 5), (0, .ref h0)]) hx hb dX1_free_53 hl (k := 1) rfl (by decide) (by decide) rfl (fun ls hl => ?_)
  refine lv_goto (tgt := 10) hx hb dX1_free_56 (by decide) ?_
  refine lv_iload_n hx hb dX1_free_10 rfl (lv_at hl 0 rfl) ?_
  refine lv_bipush (v := 6) hx hb dX1_free_11 (by decide) ?_
  refine lv_icmp_ge (tgt := 59) hx hb dX1_free_13 (by decide) (fun _ => ?_) (fun c9 => absurd (by decide) c9)
  refine lv_iinc (v := 6) (lv' := [(1, .int 6), (2, .int 6), (3, .int 120), (0, .ref h0)]) hx hb dX1_free_59 hl (k := 2) rfl (by decide) (by decide) rfl (fun ls hl => ?_)
  refine lv_goto (tgt := 2) hx hb dX1_free_62 (by decide) ?_
  refine lv_iload_n hx hb dX1_free_2 rfl (lv_at hl 0 rfl) ?_
  refine lv_bipush (v := 6) hx hb dX1_free_3 (by decide) ?_
  refine lv_icmp_ge (tgt := 65) hx hb dX1_free_5 (by decide) (fun _ => ?_) (fun c9 => absurd (by decide) c9)
  exact RV hC hP hD hS [0, 1] () rfl rfl (by decide) (trivial) dX1_free_65
set_option maxHeartbeats 4000000 in
set_option maxRecDepth 100000 in
theorem c_boundHours (l : Launch) (G : GG) (h0 : Nat) (bk : Nat) (clk : Nat) (fi : Nat) (la : Nat) (ml : Nat) (mm : Nat) (sl : Nat) (sm : Nat) : MV l G yX7_boundHours cX7_boundHours 2 1 0 0 [.ref h0] [(h0, .inr (7, [.ref bk, .ref clk, .ref fi, .ref la, .ref ml, .ref mm, .ref sl, .ref sm, .int 0])), (la, .inl (G.2.1, 12, .inl M12))] (fun u : Unit => True) (fun u : Unit => [(h0, .inr (7, [.ref bk, .ref clk, .ref fi, .ref la, .ref ml, .ref mm, .ref sl, .ref sm, .int 0])), (la, .inl (G.2.1, 12, .inl M12))]) := by
  refine MV.start (by decide +kernel) (Nat.le_of_ble_eq_true rfl) ?_
  intro p e s m below meth c A ls hC hK hP hD hS hA hl
  have hl : lv_has ls 2 [(0, .ref h0)] := hl
  obtain ⟨hx, hb, hr, hml, hB, hown, hlocks, hnm⟩ := id hC
  refine lv_iconst (v := 0) hx hb dX7_boundHours_0 (by decide) ?_
  refine lv_istore_n (lv' := [(1, .int 0), (0, .ref h0)]) hx hb dX7_boundHours_1 rfl hl (by decide) rfl (fun ls hl => ?_)
  refine lv_iload_n hx hb dX7_boundHours_2 rfl (lv_at hl 0 rfl) ?_
  refine lv_bipush (v := 12) hx hb dX7_boundHours_3 (by decide) ?_
  refine lv_icmp_ge (tgt := 94) hx hb dX7_boundHours_5 (by decide) (fun c9 => absurd c9 (by decide)) (fun _ => ?_)
  refine lv_aload_n hx hb dX7_boundHours_8 rfl (lv_at hl 1 rfl) ?_
  refine gf_X7_22 hC rfl hK hP 0 rfl rfl dX7_boundHours_9 ?_
  refine lv_iload_n hx hb dX7_boundHours_12 rfl (lv_at hl 0 rfl) ?_
  refine ald hC hK hP 1 rfl (vin (by decide +kernel)) (k := 0) (by decide +kernel) (v := (-1)) (rfl) dX7_boundHours_13 ?_
  refine lv_if_ge (tgt := 20) hx hb dX7_boundHours_14 (by decide) (fun c9 => absurd c9 (by decide)) (fun _ => ?_)
  refine lv_goto (tgt := 88) hx hb dX7_boundHours_17 (by decide) ?_
  refine lv_iinc (v := 1) (lv' := [(1, .int 1), (0, .ref h0)]) hx hb dX7_boundHours_88 hl (k := 0) rfl (by decide) (by decide) rfl (fun ls hl => ?_)
  refine lv_goto (tgt := 2) hx hb dX7_boundHours_91 (by decide) ?_
  refine lv_iload_n hx hb dX7_boundHours_2 rfl (lv_at hl 0 rfl) ?_
  refine lv_bipush (v := 12) hx hb dX7_boundHours_3 (by decide) ?_
  refine lv_icmp_ge (tgt := 94) hx hb dX7_boundHours_5 (by decide) (fun c9 => absurd c9 (by decide)) (fun _ => ?_)
  refine lv_aload_n hx hb dX7_boundHours_8 rfl (lv_at hl 1 rfl) ?_
  refine gf_X7_22 hC rfl hK hP 0 rfl rfl dX7_boundHours_9 ?_
  refine lv_iload_n hx hb dX7_boundHours_12 rfl (lv_at hl 0 rfl) ?_
  refine ald hC hK hP 1 rfl (vin (by decide +kernel)) (k := 1) (by decide +kernel) (v := (-1)) (rfl) dX7_boundHours_13 ?_
  refine lv_if_ge (tgt := 20) hx hb dX7_boundHours_14 (by decide) (fun c9 => absurd c9 (by decide)) (fun _ => ?_)
  refine lv_goto (tgt := 88) hx hb dX7_boundHours_17 (by decide) ?_
  refine lv_iinc (v := 2) (lv' := [(1, .int 2), (0, .ref h0)]) hx hb dX7_boundHours_88 hl (k := 0) rfl (by decide) (by decide) rfl (fun ls hl => ?_)
  refine lv_goto (tgt := 2) hx hb dX7_boundHours_91 (by decide) ?_
  refine lv_iload_n hx hb dX7_boundHours_2 rfl (lv_at hl 0 rfl) ?_
  refine lv_bipush (v := 12) hx hb dX7_boundHours_3 (by decide) ?_
  refine lv_icmp_ge (tgt := 94) hx hb dX7_boundHours_5 (by decide) (fun c9 => absurd c9 (by decide)) (fun _ => ?_)
  refine lv_aload_n hx hb dX7_boundHours_8 rfl (lv_at hl 1 rfl) ?_
  refine gf_X7_22 hC rfl hK hP 0 rfl rfl dX7_boundHours_9 ?_
  refine lv_iload_n hx hb dX7_boundHours_12 rfl (lv_at hl 0 rfl) ?_
  refine ald hC hK hP 1 rfl (vin (by decide +kernel)) (k := 2) (by decide +kernel) (v := (-1)) (rfl) dX7_boundHours_13 ?_
  refine lv_if_ge (tgt := 20) hx hb dX7_boundHours_14 (by decide) (fun c9 => absurd c9 (by decide)) (fun _ => ?_)
  refine lv_goto (tgt := 88) hx hb dX7_boundHours_17 (by decide) ?_
  refine lv_iinc (v := 3) (lv' := [(1, .int 3), (0, .ref h0)]) hx hb dX7_boundHours_88 hl (k := 0) rfl (by decide) (by decide) rfl (fun ls hl => ?_)
  refine lv_goto (tgt := 2) hx hb dX7_boundHours_91 (by decide) ?_
  refine lv_iload_n hx hb dX7_boundHours_2 rfl (lv_at hl 0 rfl) ?_
  refine lv_bipush (v := 12) hx hb dX7_boundHours_3 (by decide) ?_
  refine lv_icmp_ge (tgt := 94) hx hb dX7_boundHours_5 (by decide) (fun c9 => absurd c9 (by decide)) (fun _ => ?_)
  refine lv_aload_n hx hb dX7_boundHours_8 rfl (lv_at hl 1 rfl) ?_
  refine gf_X7_22 hC rfl hK hP 0 rfl rfl dX7_boundHours_9 ?_
  refine lv_iload_n hx hb dX7_boundHours_12 rfl (lv_at hl 0 rfl) ?_
  refine ald hC hK hP 1 rfl (vin (by decide +kernel)) (k := 3) (by decide +kernel) (v := (-1)) (rfl) dX7_boundHours_13 ?_
  refine lv_if_ge (tgt := 20) hx hb dX7_boundHours_14 (by decide) (fun c9 => absurd c9 (by decide)) (fun _ => ?_)
  refine lv_goto (tgt := 88) hx hb dX7_boundHours_17 (by decide) ?_
  refine lv_iinc (v := 4) (lv' := [(1, .int 4), (0, .ref h0)]) hx hb dX7_boundHours_88 hl (k := 0) rfl (by decide) (by decide) rfl (fun ls hl => ?_)
  refine lv_goto (tgt := 2) hx hb dX7_boundHours_91 (by decide) ?_
  refine lv_iload_n hx hb dX7_boundHours_2 rfl (lv_at hl 0 rfl) ?_
  refine lv_bipush (v := 12) hx hb dX7_boundHours_3 (by decide) ?_
  refine lv_icmp_ge (tgt := 94) hx hb dX7_boundHours_5 (by decide) (fun c9 => absurd c9 (by decide)) (fun _ => ?_)
  refine lv_aload_n hx hb dX7_boundHours_8 rfl (lv_at hl 1 rfl) ?_
  refine gf_X7_22 hC rfl hK hP 0 rfl rfl dX7_boundHours_9 ?_
  refine lv_iload_n hx hb dX7_boundHours_12 rfl (lv_at hl 0 rfl) ?_
  refine ald hC hK hP 1 rfl (vin (by decide +kernel)) (k := 4) (by decide +kernel) (v := (-1)) (rfl) dX7_boundHours_13 ?_
  refine lv_if_ge (tgt := 20) hx hb dX7_boundHours_14 (by decide) (fun c9 => absurd c9 (by decide)) (fun _ => ?_)
  refine lv_goto (tgt := 88) hx hb dX7_boundHours_17 (by decide) ?_
  refine lv_iinc (v := 5) (lv' := [(1, .int 5), (0, .ref h0)]) hx hb dX7_boundHours_88 hl (k := 0) rfl (by decide) (by decide) rfl (fun ls hl => ?_)
  refine lv_goto (tgt := 2) hx hb dX7_boundHours_91 (by decide) ?_
  refine lv_iload_n hx hb dX7_boundHours_2 rfl (lv_at hl 0 rfl) ?_
  refine lv_bipush (v := 12) hx hb dX7_boundHours_3 (by decide) ?_
  refine lv_icmp_ge (tgt := 94) hx hb dX7_boundHours_5 (by decide) (fun c9 => absurd c9 (by decide)) (fun _ => ?_)
  refine lv_aload_n hx hb dX7_boundHours_8 rfl (lv_at hl 1 rfl) ?_
  refine gf_X7_22 hC rfl hK hP 0 rfl rfl dX7_boundHours_9 ?_
  refine lv_iload_n hx hb dX7_boundHours_12 rfl (lv_at hl 0 rfl) ?_
  refine ald hC hK hP 1 rfl (vin (by decide +kernel)) (k := 5) (by decide +kernel) (v := (-1)) (rfl) dX7_boundHours_13 ?_
  refine lv_if_ge (tgt := 20) hx hb dX7_boundHours_14 (by decide) (fun c9 => absurd c9 (by decide)) (fun _ => ?_)
  refine lv_goto (tgt := 88) hx hb dX7_boundHours_17 (by decide) ?_
  refine lv_iinc (v := 6) (lv' := [(1, .int 6), (0, .ref h0)]) hx hb dX7_boundHours_88 hl (k := 0) rfl (by decide) (by decide) rfl (fun ls hl => ?_)
  refine lv_goto (tgt := 2) hx hb dX7_boundHours_91 (by decide) ?_
  refine lv_iload_n hx hb dX7_boundHours_2 rfl (lv_at hl 0 rfl) ?_
  refine lv_bipush (v := 12) hx hb dX7_boundHours_3 (by decide) ?_
  refine lv_icmp_ge (tgt := 94) hx hb dX7_boundHours_5 (by decide) (fun c9 => absurd c9 (by decide)) (fun _ => ?_)
  refine lv_aload_n hx hb dX7_boundHours_8 rfl (lv_at hl 1 rfl) ?_
  refine gf_X7_22 hC rfl hK hP 0 rfl rfl dX7_boundHours_9 ?_
  refine lv_iload_n hx hb dX7_boundHours_12 rfl (lv_at hl 0 rfl) ?_
  refine ald hC hK hP 1 rfl (vin (by decide +kernel)) (k := 6) (by decide +kernel) (v := (-1)) (rfl) dX7_boundHours_13 ?_
  refine lv_if_ge (tgt := 20) hx hb dX7_boundHours_14 (by decide) (fun c9 => absurd c9 (by decide)) (fun _ => ?_)
  refine lv_goto (tgt := 88) hx hb dX7_boundHours_17 (by decide) ?_
  refine lv_iinc (v := 7) (lv' := [(1, .int 7), (0, .ref h0)]) hx hb dX7_boundHours_88 hl (k := 0) rfl (by decide) (by decide) rfl (fun ls hl => ?_)
  refine lv_goto (tgt := 2) hx hb dX7_boundHours_91 (by decide) ?_
  refine lv_iload_n hx hb dX7_boundHours_2 rfl (lv_at hl 0 rfl) ?_
  refine lv_bipush (v := 12) hx hb dX7_boundHours_3 (by decide) ?_
  refine lv_icmp_ge (tgt := 94) hx hb dX7_boundHours_5 (by decide) (fun c9 => absurd c9 (by decide)) (fun _ => ?_)
  refine lv_aload_n hx hb dX7_boundHours_8 rfl (lv_at hl 1 rfl) ?_
  refine gf_X7_22 hC rfl hK hP 0 rfl rfl dX7_boundHours_9 ?_
  refine lv_iload_n hx hb dX7_boundHours_12 rfl (lv_at hl 0 rfl) ?_
  refine ald hC hK hP 1 rfl (vin (by decide +kernel)) (k := 7) (by decide +kernel) (v := (-1)) (rfl) dX7_boundHours_13 ?_
  refine lv_if_ge (tgt := 20) hx hb dX7_boundHours_14 (by decide) (fun c9 => absurd c9 (by decide)) (fun _ => ?_)
  refine lv_goto (tgt := 88) hx hb dX7_boundHours_17 (by decide) ?_
  refine lv_iinc (v := 8) (lv' := [(1, .int 8), (0, .ref h0)]) hx hb dX7_boundHours_88 hl (k := 0) rfl (by decide) (by decide) rfl (fun ls hl => ?_)
  refine lv_goto (tgt := 2) hx hb dX7_boundHours_91 (by decide) ?_
  refine lv_iload_n hx hb dX7_boundHours_2 rfl (lv_at hl 0 rfl) ?_
  refine lv_bipush (v := 12) hx hb dX7_boundHours_3 (by decide) ?_
  refine lv_icmp_ge (tgt := 94) hx hb dX7_boundHours_5 (by decide) (fun c9 => absurd c9 (by decide)) (fun _ => ?_)
  refine lv_aload_n hx hb dX7_boundHours_8 rfl (lv_at hl 1 rfl) ?_
  refine gf_X7_22 hC rfl hK hP 0 rfl rfl dX7_boundHours_9 ?_
  refine lv_iload_n hx hb dX7_boundHours_12 rfl (lv_at hl 0 rfl) ?_
  refine ald hC hK hP 1 rfl (vin (by decide +kernel)) (k := 8) (by decide +kernel) (v := (-1)) (rfl) dX7_boundHours_13 ?_
  refine lv_if_ge (tgt := 20) hx hb dX7_boundHours_14 (by decide) (fun c9 => absurd c9 (by decide)) (fun _ => ?_)
  refine lv_goto (tgt := 88) hx hb dX7_boundHours_17 (by decide) ?_
  refine lv_iinc (v := 9) (lv' := [(1, .int 9), (0, .ref h0)]) hx hb dX7_boundHours_88 hl (k := 0) rfl (by decide) (by decide) rfl (fun ls hl => ?_)
  refine lv_goto (tgt := 2) hx hb dX7_boundHours_91 (by decide) ?_
  refine lv_iload_n hx hb dX7_boundHours_2 rfl (lv_at hl 0 rfl) ?_
  refine lv_bipush (v := 12) hx hb dX7_boundHours_3 (by decide) ?_
  refine lv_icmp_ge (tgt := 94) hx hb dX7_boundHours_5 (by decide) (fun c9 => absurd c9 (by decide)) (fun _ => ?_)
  refine lv_aload_n hx hb dX7_boundHours_8 rfl (lv_at hl 1 rfl) ?_
  refine gf_X7_22 hC rfl hK hP 0 rfl rfl dX7_boundHours_9 ?_
  refine lv_iload_n hx hb dX7_boundHours_12 rfl (lv_at hl 0 rfl) ?_
  refine ald hC hK hP 1 rfl (vin (by decide +kernel)) (k := 9) (by decide +kernel) (v := (-1)) (rfl) dX7_boundHours_13 ?_
  refine lv_if_ge (tgt := 20) hx hb dX7_boundHours_14 (by decide) (fun c9 => absurd c9 (by decide)) (fun _ => ?_)
  refine lv_goto (tgt := 88) hx hb dX7_boundHours_17 (by decide) ?_
  refine lv_iinc (v := 10) (lv' := [(1, .int 10), (0, .ref h0)]) hx hb dX7_boundHours_88 hl (k := 0) rfl (by decide) (by decide) rfl (fun ls hl => ?_)
  refine lv_goto (tgt := 2) hx hb dX7_boundHours_91 (by decide) ?_
  refine lv_iload_n hx hb dX7_boundHours_2 rfl (lv_at hl 0 rfl) ?_
  refine lv_bipush (v := 12) hx hb dX7_boundHours_3 (by decide) ?_
  refine lv_icmp_ge (tgt := 94) hx hb dX7_boundHours_5 (by decide) (fun c9 => absurd c9 (by decide)) (fun _ => ?_)
  refine lv_aload_n hx hb dX7_boundHours_8 rfl (lv_at hl 1 rfl) ?_
  refine gf_X7_22 hC rfl hK hP 0 rfl rfl dX7_boundHours_9 ?_
  refine lv_iload_n hx hb dX7_boundHours_12 rfl (lv_at hl 0 rfl) ?_
  refine ald hC hK hP 1 rfl (vin (by decide +kernel)) (k := 10) (by decide +kernel) (v := (-1)) (rfl) dX7_boundHours_13 ?_
  refine lv_if_ge (tgt := 20) hx hb dX7_boundHours_14 (by decide) (fun c9 => absurd c9 (by decide)) (fun _ => ?_)
  refine lv_goto (tgt := 88) hx hb dX7_boundHours_17 (by decide) ?_
  refine lv_iinc (v := 11) (lv' := [(1, .int 11), (0, .ref h0)]) hx hb dX7_boundHours_88 hl (k := 0) rfl (by decide) (by decide) rfl (fun ls hl => ?_)
  refine lv_goto (tgt := 2) hx hb dX7_boundHours_91 (by decide) ?_
  refine lv_iload_n hx hb dX7_boundHours_2 rfl (lv_at hl 0 rfl) ?_
  refine lv_bipush (v := 12) hx hb dX7_boundHours_3 (by decide) ?_
  refine lv_icmp_ge (tgt := 94) hx hb dX7_boundHours_5 (by decide) (fun c9 => absurd c9 (by decide)) (fun _ => ?_)
  refine lv_aload_n hx hb dX7_boundHours_8 rfl (lv_at hl 1 rfl) ?_
  refine gf_X7_22 hC rfl hK hP 0 rfl rfl dX7_boundHours_9 ?_
  refine lv_iload_n hx hb dX7_boundHours_12 rfl (lv_at hl 0 rfl) ?_
  refine ald hC hK hP 1 rfl (vin (by decide +kernel)) (k := 11) (by decide +kernel) (v := (-1)) (rfl) dX7_boundHours_13 ?_
  refine lv_if_ge (tgt := 20) hx hb dX7_boundHours_14 (by decide) (fun c9 => absurd c9 (by decide)) (fun _ => ?_)
  refine lv_goto (tgt := 88) hx hb dX7_boundHours_17 (by decide) ?_
  refine lv_iinc (v := 12) (lv' := [(1, .int 12), (0, .ref h0)]) hx hb dX7_boundHours_88 hl (k := 0) rfl (by decide) (by decide) rfl (fun ls hl => ?_)
  refine lv_goto (tgt := 2) hx hb dX7_boundHours_91 (by decide) ?_
  refine lv_iload_n hx hb dX7_boundHours_2 rfl (lv_at hl 0 rfl) ?_
  refine lv_bipush (v := 12) hx hb dX7_boundHours_3 (by decide) ?_
  refine lv_icmp_ge (tgt := 94) hx hb dX7_boundHours_5 (by decide) (fun _ => ?_) (fun c9 => absurd (by decide) c9)
  exact RV hC hP hD hS [0, 1] () rfl rfl (by decide) (trivial) dX7_boundHours_94
set_option maxHeartbeats 4000000 in
set_option maxRecDepth 100000 in
/-- look() with no stamp -/
theorem c_look (l : Launch) (G : GG) (h0 : Nat) (bk : Nat) (clk : Nat) (fi : Nat) (la : Nat) (ml : Nat) (mm : Nat) (sl : Nat) (sm : Nat) (clm : Nat) (bpersons : Nat) (bpapers : Nat) (bstamps : Nat) (bversions : Nat) (blines : Nat) (bsteps : Nat) (bsayings : Nat) (bfindings : Nat) (bwarnings : Nat) (bquestions : Nat) (td : Int32) (vd : Int32) (vl : Int32) (gp : Int32) (bstampsc : Nat) : MV l G yX7_look cX7_look 4 3 0 0 [.ref h0, .int 0] [(h0, .inr (7, [.ref bk, .ref clk, .ref fi, .ref la, .ref ml, .ref mm, .ref sl, .ref sm, .int 0])), (clk, .inr (1, [.ref clm])), (clm, .inl (G.2.1, 36, .inl (fun _ => 0))), (fi, .inl (G.2.1, 12, .inl (fun _ => 0))), (la, .inl (G.2.1, 12, .inl (fun _ => 0))), (bk, .inr (0, [.ref bpersons, .ref bpapers, .ref bstamps, .ref bversions, .ref blines, .ref bsteps, .ref bsayings, .ref bfindings, .ref bwarnings, .ref bquestions, .int td, .int vd, .int vl, .int gp])), (bstamps, .inr (8, [.int 24, .int 3, .ref bstampsc, .int 0]))] (fun u : Unit => True) (fun u : Unit => [(h0, .inr (7, [.ref bk, .ref clk, .ref fi, .ref la, .ref ml, .ref mm, .ref sl, .ref sm, .int 0])), (clk, .inr (1, [.ref clm])), (clm, .inl (G.2.1, 36, .inl CL0)), (fi, .inl (G.2.1, 12, .inl M12)), (la, .inl (G.2.1, 12, .inl M12)), (bk, .inr (0, [.ref bpersons, .ref bpapers, .ref bstamps, .ref bversions, .ref blines, .ref bsteps, .ref bsayings, .ref bfindings, .ref bwarnings, .ref bquestions, .int td, .int vd, .int vl, .int gp])), (bstamps, .inr (8, [.int 24, .int 3, .ref bstampsc, .int 0]))]) := by
  refine MV.start (by decide +kernel) (Nat.le_of_ble_eq_true rfl) ?_
  intro p e s m below meth c A ls hC hK hP hD hS hA hl
  have hl : lv_has ls 4 [(0, .ref h0), (1, .int 0)] := hl
  obtain ⟨hx, hb, hr, hml, hB, hown, hlocks, hnm⟩ := id hC
  refine lv_aload_n hx hb dX7_look_0 rfl (lv_at hl 0 rfl) ?_
  refine lv_iconst (v := 0) hx hb dX7_look_1 (by decide) ?_
  refine pf_X7_41 hC rfl hK hP hD hS 0 (ws' := [(h0, .inr (7, [.ref bk, .ref clk, .ref fi, .ref la, .ref ml, .ref mm, .ref sl, .ref sm, .int 0])), (clk, .inr (1, [.ref clm])), (clm, .inl (G.2.1, 36, .inl (fun _ => 0))), (fi, .inl (G.2.1, 12, .inl (fun _ => 0))), (la, .inl (G.2.1, 12, .inl (fun _ => 0))), (bk, .inr (0, [.ref bpersons, .ref bpapers, .ref bstamps, .ref bversions, .ref blines, .ref bsteps, .ref bsayings, .ref bfindings, .ref bwarnings, .ref bquestions, .int td, .int vd, .int vl, .int gp])), (bstamps, .inr (8, [.int 24, .int 3, .ref bstampsc, .int 0]))]) rfl (Nat.le_of_ble_eq_true rfl) rfl (by decide +kernel) (by decide +kernel) dX7_look_2 (fun H locs hP hD hS => ?_)
  refine lv_aload_n hx hb dX7_look_5 rfl (lv_at hl 0 rfl) ?_
  refine gf_X7_12 hC rfl hK hP 0 rfl rfl dX7_look_6 ?_
  refine vV (wr := [(h0, .inr (7, [.ref bk, .ref clk, .ref fi, .ref la, .ref ml, .ref mm, .ref sl, .ref sm, .int 0])), (fi, .inl (G.2.1, 12, .inl (fun _ => 0))), (la, .inl (G.2.1, 12, .inl (fun _ => 0))), (bk, .inr (0, [.ref bpersons, .ref bpapers, .ref bstamps, .ref bversions, .ref blines, .ref bsteps, .ref bsayings, .ref bfindings, .ref bwarnings, .ref bquestions, .int td, .int vd, .int vl, .int gp])), (bstamps, .inr (8, [.int 24, .int 3, .ref bstampsc, .int 0]))]) hC hK hl hP hD hS hA (c_free l G clk clm) si_X7_45 [1, 2] [0, 3, 4, 5, 6] rfl rfl (by decide) rfl (by decide) (by decide) rfl rfl rfl rfl rfl (Nat.le_of_ble_eq_true rfl) ⟨Nat.le_of_ble_eq_true rfl, Nat.le_of_ble_eq_true rfl⟩ ⟨Nat.le_of_ble_eq_true rfl, Nat.le_of_ble_eq_true rfl⟩ dX7_look_9 (fun u357 H locs hr356 hP hD hS => ?_)
  have hP : va_P G.1 vwCl [(h0, .inr (7, [.ref bk, .ref clk, .ref fi, .ref la, .ref ml, .ref mm, .ref sl, .ref sm, .int 0])), (fi, .inl (G.2.1, 12, .inl (fun _ => 0))), (la, .inl (G.2.1, 12, .inl (fun _ => 0))), (bk, .inr (0, [.ref bpersons, .ref bpapers, .ref bstamps, .ref bversions, .ref blines, .ref bsteps, .ref bsayings, .ref bfindings, .ref bwarnings, .ref bquestions, .int td, .int vd, .int vl, .int gp])), (bstamps, .inr (8, [.int 24, .int 3, .ref bstampsc, .int 0])), (clk, .inr (1, [.ref clm])), (clm, .inl (G.2.1, 36, .inl CL0))] H := hP
  have hD : va_D A [(h0, .inr (7, [.ref bk, .ref clk, .ref fi, .ref la, .ref ml, .ref mm, .ref sl, .ref sm, .int 0])), (fi, .inl (G.2.1, 12, .inl (fun _ => 0))), (la, .inl (G.2.1, 12, .inl (fun _ => 0))), (bk, .inr (0, [.ref bpersons, .ref bpapers, .ref bstamps, .ref bversions, .ref blines, .ref bsteps, .ref bsayings, .ref bfindings, .ref bwarnings, .ref bquestions, .int td, .int vd, .int vl, .int gp])), (bstamps, .inr (8, [.int 24, .int 3, .ref bstampsc, .int 0])), (clk, .inr (1, [.ref clm])), (clm, .inl (G.2.1, 36, .inl CL0))] := hD
  refine lv_iconst (v := 0) hx hb dX7_look_12 (by decide) ?_
  refine lv_istore_n (lv' := [(2, .int 0), (0, .ref h0), (1, .int 0)]) hx hb dX7_look_13 rfl hl (by decide) rfl (fun ls hl => ?_)
  refine lv_iload_n hx hb dX7_look_14 rfl (lv_at hl 0 rfl) ?_
  refine lv_bipush (v := 12) hx hb dX7_look_15 (by decide) ?_
  refine lv_icmp_ge (tgt := 40) hx hb dX7_look_17 (by decide) (fun c9 => absurd c9 (by decide)) (fun _ => ?_)
  refine lv_aload_n hx hb dX7_look_20 rfl (lv_at hl 1 rfl) ?_
  refine gf_X7_18 hC rfl hK hP 0 rfl rfl dX7_look_21 ?_
  refine lv_iload_n hx hb dX7_look_24 rfl (lv_at hl 0 rfl) ?_
  refine lv_iconst (v := (-1)) hx hb dX7_look_25 (by decide) ?_
  refine ast hC hK hP hD hS 1 (ws' := [(h0, .inr (7, [.ref bk, .ref clk, .ref fi, .ref la, .ref ml, .ref mm, .ref sl, .ref sm, .int 0])), (fi, .inl (G.2.1, 12, .inl (upd (fun _ => 0) 0 (-1)))), (la, .inl (G.2.1, 12, .inl (fun _ => 0))), (bk, .inr (0, [.ref bpersons, .ref bpapers, .ref bstamps, .ref bversions, .ref blines, .ref bsteps, .ref bsayings, .ref bfindings, .ref bwarnings, .ref bquestions, .int td, .int vd, .int vl, .int gp])), (bstamps, .inr (8, [.int 24, .int 3, .ref bstampsc, .int 0])), (clk, .inr (1, [.ref clm])), (clm, .inl (G.2.1, 36, .inl CL0))]) rfl (vin (by decide +kernel)) (k := 0) (by decide +kernel) (rfl) dX7_look_26 (fun H locs hP hD hS => ?_)
  refine lv_aload_n hx hb dX7_look_27 rfl (lv_at hl 1 rfl) ?_
  refine gf_X7_22 hC rfl hK hP 0 rfl rfl dX7_look_28 ?_
  refine lv_iload_n hx hb dX7_look_31 rfl (lv_at hl 0 rfl) ?_
  refine lv_iconst (v := (-1)) hx hb dX7_look_32 (by decide) ?_
  refine ast hC hK hP hD hS 2 (ws' := [(h0, .inr (7, [.ref bk, .ref clk, .ref fi, .ref la, .ref ml, .ref mm, .ref sl, .ref sm, .int 0])), (fi, .inl (G.2.1, 12, .inl (upd (fun _ => 0) 0 (-1)))), (la, .inl (G.2.1, 12, .inl (upd (fun _ => 0) 0 (-1)))), (bk, .inr (0, [.ref bpersons, .ref bpapers, .ref bstamps, .ref bversions, .ref blines, .ref bsteps, .ref bsayings, .ref bfindings, .ref bwarnings, .ref bquestions, .int td, .int vd, .int vl, .int gp])), (bstamps, .inr (8, [.int 24, .int 3, .ref bstampsc, .int 0])), (clk, .inr (1, [.ref clm])), (clm, .inl (G.2.1, 36, .inl CL0))]) rfl (vin (by decide +kernel)) (k := 0) (by decide +kernel) (rfl) dX7_look_33 (fun H locs hP hD hS => ?_)
  refine lv_iinc (v := 1) (lv' := [(2, .int 1), (0, .ref h0), (1, .int 0)]) hx hb dX7_look_34 hl (k := 0) rfl (by decide) (by decide) rfl (fun ls hl => ?_)
  refine lv_goto (tgt := 14) hx hb dX7_look_37 (by decide) ?_
  refine lv_iload_n hx hb dX7_look_14 rfl (lv_at hl 0 rfl) ?_
  refine lv_bipush (v := 12) hx hb dX7_look_15 (by decide) ?_
  refine lv_icmp_ge (tgt := 40) hx hb dX7_look_17 (by decide) (fun c9 => absurd c9 (by decide)) (fun _ => ?_)
  refine lv_aload_n hx hb dX7_look_20 rfl (lv_at hl 1 rfl) ?_
  refine gf_X7_18 hC rfl hK hP 0 rfl rfl dX7_look_21 ?_
  refine lv_iload_n hx hb dX7_look_24 rfl (lv_at hl 0 rfl) ?_
  refine lv_iconst (v := (-1)) hx hb dX7_look_25 (by decide) ?_
  refine ast hC hK hP hD hS 1 (ws' := [(h0, .inr (7, [.ref bk, .ref clk, .ref fi, .ref la, .ref ml, .ref mm, .ref sl, .ref sm, .int 0])), (fi, .inl (G.2.1, 12, .inl (upd (upd (fun _ => 0) 0 (-1)) 1 (-1)))), (la, .inl (G.2.1, 12, .inl (upd (fun _ => 0) 0 (-1)))), (bk, .inr (0, [.ref bpersons, .ref bpapers, .ref bstamps, .ref bversions, .ref blines, .ref bsteps, .ref bsayings, .ref bfindings, .ref bwarnings, .ref bquestions, .int td, .int vd, .int vl, .int gp])), (bstamps, .inr (8, [.int 24, .int 3, .ref bstampsc, .int 0])), (clk, .inr (1, [.ref clm])), (clm, .inl (G.2.1, 36, .inl CL0))]) rfl (vin (by decide +kernel)) (k := 1) (by decide +kernel) (rfl) dX7_look_26 (fun H locs hP hD hS => ?_)
  refine lv_aload_n hx hb dX7_look_27 rfl (lv_at hl 1 rfl) ?_
  refine gf_X7_22 hC rfl hK hP 0 rfl rfl dX7_look_28 ?_
  refine lv_iload_n hx hb dX7_look_31 rfl (lv_at hl 0 rfl) ?_
  refine lv_iconst (v := (-1)) hx hb dX7_look_32 (by decide) ?_
  refine ast hC hK hP hD hS 2 (ws' := [(h0, .inr (7, [.ref bk, .ref clk, .ref fi, .ref la, .ref ml, .ref mm, .ref sl, .ref sm, .int 0])), (fi, .inl (G.2.1, 12, .inl (upd (upd (fun _ => 0) 0 (-1)) 1 (-1)))), (la, .inl (G.2.1, 12, .inl (upd (upd (fun _ => 0) 0 (-1)) 1 (-1)))), (bk, .inr (0, [.ref bpersons, .ref bpapers, .ref bstamps, .ref bversions, .ref blines, .ref bsteps, .ref bsayings, .ref bfindings, .ref bwarnings, .ref bquestions, .int td, .int vd, .int vl, .int gp])), (bstamps, .inr (8, [.int 24, .int 3, .ref bstampsc, .int 0])), (clk, .inr (1, [.ref clm])), (clm, .inl (G.2.1, 36, .inl CL0))]) rfl (vin (by decide +kernel)) (k := 1) (by decide +kernel) (rfl) dX7_look_33 (fun H locs hP hD hS => ?_)
  refine lv_iinc (v := 2) (lv' := [(2, .int 2), (0, .ref h0), (1, .int 0)]) hx hb dX7_look_34 hl (k := 0) rfl (by decide) (by decide) rfl (fun ls hl => ?_)
  refine lv_goto (tgt := 14) hx hb dX7_look_37 (by decide) ?_
  refine lv_iload_n hx hb dX7_look_14 rfl (lv_at hl 0 rfl) ?_
  refine lv_bipush (v := 12) hx hb dX7_look_15 (by decide) ?_
  refine lv_icmp_ge (tgt := 40) hx hb dX7_look_17 (by decide) (fun c9 => absurd c9 (by decide)) (fun _ => ?_)
  refine lv_aload_n hx hb dX7_look_20 rfl (lv_at hl 1 rfl) ?_
  refine gf_X7_18 hC rfl hK hP 0 rfl rfl dX7_look_21 ?_
  refine lv_iload_n hx hb dX7_look_24 rfl (lv_at hl 0 rfl) ?_
  refine lv_iconst (v := (-1)) hx hb dX7_look_25 (by decide) ?_
  refine ast hC hK hP hD hS 1 (ws' := [(h0, .inr (7, [.ref bk, .ref clk, .ref fi, .ref la, .ref ml, .ref mm, .ref sl, .ref sm, .int 0])), (fi, .inl (G.2.1, 12, .inl (upd (upd (upd (fun _ => 0) 0 (-1)) 1 (-1)) 2 (-1)))), (la, .inl (G.2.1, 12, .inl (upd (upd (fun _ => 0) 0 (-1)) 1 (-1)))), (bk, .inr (0, [.ref bpersons, .ref bpapers, .ref bstamps, .ref bversions, .ref blines, .ref bsteps, .ref bsayings, .ref bfindings, .ref bwarnings, .ref bquestions, .int td, .int vd, .int vl, .int gp])), (bstamps, .inr (8, [.int 24, .int 3, .ref bstampsc, .int 0])), (clk, .inr (1, [.ref clm])), (clm, .inl (G.2.1, 36, .inl CL0))]) rfl (vin (by decide +kernel)) (k := 2) (by decide +kernel) (rfl) dX7_look_26 (fun H locs hP hD hS => ?_)
  refine lv_aload_n hx hb dX7_look_27 rfl (lv_at hl 1 rfl) ?_
  refine gf_X7_22 hC rfl hK hP 0 rfl rfl dX7_look_28 ?_
  refine lv_iload_n hx hb dX7_look_31 rfl (lv_at hl 0 rfl) ?_
  refine lv_iconst (v := (-1)) hx hb dX7_look_32 (by decide) ?_
  refine ast hC hK hP hD hS 2 (ws' := [(h0, .inr (7, [.ref bk, .ref clk, .ref fi, .ref la, .ref ml, .ref mm, .ref sl, .ref sm, .int 0])), (fi, .inl (G.2.1, 12, .inl (upd (upd (upd (fun _ => 0) 0 (-1)) 1 (-1)) 2 (-1)))), (la, .inl (G.2.1, 12, .inl (upd (upd (upd (fun _ => 0) 0 (-1)) 1 (-1)) 2 (-1)))), (bk, .inr (0, [.ref bpersons, .ref bpapers, .ref bstamps, .ref bversions, .ref blines, .ref bsteps, .ref bsayings, .ref bfindings, .ref bwarnings, .ref bquestions, .int td, .int vd, .int vl, .int gp])), (bstamps, .inr (8, [.int 24, .int 3, .ref bstampsc, .int 0])), (clk, .inr (1, [.ref clm])), (clm, .inl (G.2.1, 36, .inl CL0))]) rfl (vin (by decide +kernel)) (k := 2) (by decide +kernel) (rfl) dX7_look_33 (fun H locs hP hD hS => ?_)
  refine lv_iinc (v := 3) (lv' := [(2, .int 3), (0, .ref h0), (1, .int 0)]) hx hb dX7_look_34 hl (k := 0) rfl (by decide) (by decide) rfl (fun ls hl => ?_)
  refine lv_goto (tgt := 14) hx hb dX7_look_37 (by decide) ?_
  refine lv_iload_n hx hb dX7_look_14 rfl (lv_at hl 0 rfl) ?_
  refine lv_bipush (v := 12) hx hb dX7_look_15 (by decide) ?_
  refine lv_icmp_ge (tgt := 40) hx hb dX7_look_17 (by decide) (fun c9 => absurd c9 (by decide)) (fun _ => ?_)
  refine lv_aload_n hx hb dX7_look_20 rfl (lv_at hl 1 rfl) ?_
  refine gf_X7_18 hC rfl hK hP 0 rfl rfl dX7_look_21 ?_
  refine lv_iload_n hx hb dX7_look_24 rfl (lv_at hl 0 rfl) ?_
  refine lv_iconst (v := (-1)) hx hb dX7_look_25 (by decide) ?_
  refine ast hC hK hP hD hS 1 (ws' := [(h0, .inr (7, [.ref bk, .ref clk, .ref fi, .ref la, .ref ml, .ref mm, .ref sl, .ref sm, .int 0])), (fi, .inl (G.2.1, 12, .inl (upd (upd (upd (upd (fun _ => 0) 0 (-1)) 1 (-1)) 2 (-1)) 3 (-1)))), (la, .inl (G.2.1, 12, .inl (upd (upd (upd (fun _ => 0) 0 (-1)) 1 (-1)) 2 (-1)))), (bk, .inr (0, [.ref bpersons, .ref bpapers, .ref bstamps, .ref bversions, .ref blines, .ref bsteps, .ref bsayings, .ref bfindings, .ref bwarnings, .ref bquestions, .int td, .int vd, .int vl, .int gp])), (bstamps, .inr (8, [.int 24, .int 3, .ref bstampsc, .int 0])), (clk, .inr (1, [.ref clm])), (clm, .inl (G.2.1, 36, .inl CL0))]) rfl (vin (by decide +kernel)) (k := 3) (by decide +kernel) (rfl) dX7_look_26 (fun H locs hP hD hS => ?_)
  refine lv_aload_n hx hb dX7_look_27 rfl (lv_at hl 1 rfl) ?_
  refine gf_X7_22 hC rfl hK hP 0 rfl rfl dX7_look_28 ?_
  refine lv_iload_n hx hb dX7_look_31 rfl (lv_at hl 0 rfl) ?_
  refine lv_iconst (v := (-1)) hx hb dX7_look_32 (by decide) ?_
  refine ast hC hK hP hD hS 2 (ws' := [(h0, .inr (7, [.ref bk, .ref clk, .ref fi, .ref la, .ref ml, .ref mm, .ref sl, .ref sm, .int 0])), (fi, .inl (G.2.1, 12, .inl (upd (upd (upd (upd (fun _ => 0) 0 (-1)) 1 (-1)) 2 (-1)) 3 (-1)))), (la, .inl (G.2.1, 12, .inl (upd (upd (upd (upd (fun _ => 0) 0 (-1)) 1 (-1)) 2 (-1)) 3 (-1)))), (bk, .inr (0, [.ref bpersons, .ref bpapers, .ref bstamps, .ref bversions, .ref blines, .ref bsteps, .ref bsayings, .ref bfindings, .ref bwarnings, .ref bquestions, .int td, .int vd, .int vl, .int gp])), (bstamps, .inr (8, [.int 24, .int 3, .ref bstampsc, .int 0])), (clk, .inr (1, [.ref clm])), (clm, .inl (G.2.1, 36, .inl CL0))]) rfl (vin (by decide +kernel)) (k := 3) (by decide +kernel) (rfl) dX7_look_33 (fun H locs hP hD hS => ?_)
  refine lv_iinc (v := 4) (lv' := [(2, .int 4), (0, .ref h0), (1, .int 0)]) hx hb dX7_look_34 hl (k := 0) rfl (by decide) (by decide) rfl (fun ls hl => ?_)
  refine lv_goto (tgt := 14) hx hb dX7_look_37 (by decide) ?_
  refine lv_iload_n hx hb dX7_look_14 rfl (lv_at hl 0 rfl) ?_
  refine lv_bipush (v := 12) hx hb dX7_look_15 (by decide) ?_
  refine lv_icmp_ge (tgt := 40) hx hb dX7_look_17 (by decide) (fun c9 => absurd c9 (by decide)) (fun _ => ?_)
  refine lv_aload_n hx hb dX7_look_20 rfl (lv_at hl 1 rfl) ?_
  refine gf_X7_18 hC rfl hK hP 0 rfl rfl dX7_look_21 ?_
  refine lv_iload_n hx hb dX7_look_24 rfl (lv_at hl 0 rfl) ?_
  refine lv_iconst (v := (-1)) hx hb dX7_look_25 (by decide) ?_
  refine ast hC hK hP hD hS 1 (ws' := [(h0, .inr (7, [.ref bk, .ref clk, .ref fi, .ref la, .ref ml, .ref mm, .ref sl, .ref sm, .int 0])), (fi, .inl (G.2.1, 12, .inl (upd (upd (upd (upd (upd (fun _ => 0) 0 (-1)) 1 (-1)) 2 (-1)) 3 (-1)) 4 (-1)))), (la, .inl (G.2.1, 12, .inl (upd (upd (upd (upd (fun _ => 0) 0 (-1)) 1 (-1)) 2 (-1)) 3 (-1)))), (bk, .inr (0, [.ref bpersons, .ref bpapers, .ref bstamps, .ref bversions, .ref blines, .ref bsteps, .ref bsayings, .ref bfindings, .ref bwarnings, .ref bquestions, .int td, .int vd, .int vl, .int gp])), (bstamps, .inr (8, [.int 24, .int 3, .ref bstampsc, .int 0])), (clk, .inr (1, [.ref clm])), (clm, .inl (G.2.1, 36, .inl CL0))]) rfl (vin (by decide +kernel)) (k := 4) (by decide +kernel) (rfl) dX7_look_26 (fun H locs hP hD hS => ?_)
  refine lv_aload_n hx hb dX7_look_27 rfl (lv_at hl 1 rfl) ?_
  refine gf_X7_22 hC rfl hK hP 0 rfl rfl dX7_look_28 ?_
  refine lv_iload_n hx hb dX7_look_31 rfl (lv_at hl 0 rfl) ?_
  refine lv_iconst (v := (-1)) hx hb dX7_look_32 (by decide) ?_
  refine ast hC hK hP hD hS 2 (ws' := [(h0, .inr (7, [.ref bk, .ref clk, .ref fi, .ref la, .ref ml, .ref mm, .ref sl, .ref sm, .int 0])), (fi, .inl (G.2.1, 12, .inl (upd (upd (upd (upd (upd (fun _ => 0) 0 (-1)) 1 (-1)) 2 (-1)) 3 (-1)) 4 (-1)))), (la, .inl (G.2.1, 12, .inl (upd (upd (upd (upd (upd (fun _ => 0) 0 (-1)) 1 (-1)) 2 (-1)) 3 (-1)) 4 (-1)))), (bk, .inr (0, [.ref bpersons, .ref bpapers, .ref bstamps, .ref bversions, .ref blines, .ref bsteps, .ref bsayings, .ref bfindings, .ref bwarnings, .ref bquestions, .int td, .int vd, .int vl, .int gp])), (bstamps, .inr (8, [.int 24, .int 3, .ref bstampsc, .int 0])), (clk, .inr (1, [.ref clm])), (clm, .inl (G.2.1, 36, .inl CL0))]) rfl (vin (by decide +kernel)) (k := 4) (by decide +kernel) (rfl) dX7_look_33 (fun H locs hP hD hS => ?_)
  refine lv_iinc (v := 5) (lv' := [(2, .int 5), (0, .ref h0), (1, .int 0)]) hx hb dX7_look_34 hl (k := 0) rfl (by decide) (by decide) rfl (fun ls hl => ?_)
  refine lv_goto (tgt := 14) hx hb dX7_look_37 (by decide) ?_
  refine lv_iload_n hx hb dX7_look_14 rfl (lv_at hl 0 rfl) ?_
  refine lv_bipush (v := 12) hx hb dX7_look_15 (by decide) ?_
  refine lv_icmp_ge (tgt := 40) hx hb dX7_look_17 (by decide) (fun c9 => absurd c9 (by decide)) (fun _ => ?_)
  refine lv_aload_n hx hb dX7_look_20 rfl (lv_at hl 1 rfl) ?_
  refine gf_X7_18 hC rfl hK hP 0 rfl rfl dX7_look_21 ?_
  refine lv_iload_n hx hb dX7_look_24 rfl (lv_at hl 0 rfl) ?_
  refine lv_iconst (v := (-1)) hx hb dX7_look_25 (by decide) ?_
  refine ast hC hK hP hD hS 1 (ws' := [(h0, .inr (7, [.ref bk, .ref clk, .ref fi, .ref la, .ref ml, .ref mm, .ref sl, .ref sm, .int 0])), (fi, .inl (G.2.1, 12, .inl (upd (upd (upd (upd (upd (upd (fun _ => 0) 0 (-1)) 1 (-1)) 2 (-1)) 3 (-1)) 4 (-1)) 5 (-1)))), (la, .inl (G.2.1, 12, .inl (upd (upd (upd (upd (upd (fun _ => 0) 0 (-1)) 1 (-1)) 2 (-1)) 3 (-1)) 4 (-1)))), (bk, .inr (0, [.ref bpersons, .ref bpapers, .ref bstamps, .ref bversions, .ref blines, .ref bsteps, .ref bsayings, .ref bfindings, .ref bwarnings, .ref bquestions, .int td, .int vd, .int vl, .int gp])), (bstamps, .inr (8, [.int 24, .int 3, .ref bstampsc, .int 0])), (clk, .inr (1, [.ref clm])), (clm, .inl (G.2.1, 36, .inl CL0))]) rfl (vin (by decide +kernel)) (k := 5) (by decide +kernel) (rfl) dX7_look_26 (fun H locs hP hD hS => ?_)
  refine lv_aload_n hx hb dX7_look_27 rfl (lv_at hl 1 rfl) ?_
  refine gf_X7_22 hC rfl hK hP 0 rfl rfl dX7_look_28 ?_
  refine lv_iload_n hx hb dX7_look_31 rfl (lv_at hl 0 rfl) ?_
  refine lv_iconst (v := (-1)) hx hb dX7_look_32 (by decide) ?_
  refine ast hC hK hP hD hS 2 (ws' := [(h0, .inr (7, [.ref bk, .ref clk, .ref fi, .ref la, .ref ml, .ref mm, .ref sl, .ref sm, .int 0])), (fi, .inl (G.2.1, 12, .inl (upd (upd (upd (upd (upd (upd (fun _ => 0) 0 (-1)) 1 (-1)) 2 (-1)) 3 (-1)) 4 (-1)) 5 (-1)))), (la, .inl (G.2.1, 12, .inl (upd (upd (upd (upd (upd (upd (fun _ => 0) 0 (-1)) 1 (-1)) 2 (-1)) 3 (-1)) 4 (-1)) 5 (-1)))), (bk, .inr (0, [.ref bpersons, .ref bpapers, .ref bstamps, .ref bversions, .ref blines, .ref bsteps, .ref bsayings, .ref bfindings, .ref bwarnings, .ref bquestions, .int td, .int vd, .int vl, .int gp])), (bstamps, .inr (8, [.int 24, .int 3, .ref bstampsc, .int 0])), (clk, .inr (1, [.ref clm])), (clm, .inl (G.2.1, 36, .inl CL0))]) rfl (vin (by decide +kernel)) (k := 5) (by decide +kernel) (rfl) dX7_look_33 (fun H locs hP hD hS => ?_)
  refine lv_iinc (v := 6) (lv' := [(2, .int 6), (0, .ref h0), (1, .int 0)]) hx hb dX7_look_34 hl (k := 0) rfl (by decide) (by decide) rfl (fun ls hl => ?_)
  refine lv_goto (tgt := 14) hx hb dX7_look_37 (by decide) ?_
  refine lv_iload_n hx hb dX7_look_14 rfl (lv_at hl 0 rfl) ?_
  refine lv_bipush (v := 12) hx hb dX7_look_15 (by decide) ?_
  refine lv_icmp_ge (tgt := 40) hx hb dX7_look_17 (by decide) (fun c9 => absurd c9 (by decide)) (fun _ => ?_)
  refine lv_aload_n hx hb dX7_look_20 rfl (lv_at hl 1 rfl) ?_
  refine gf_X7_18 hC rfl hK hP 0 rfl rfl dX7_look_21 ?_
  refine lv_iload_n hx hb dX7_look_24 rfl (lv_at hl 0 rfl) ?_
  refine lv_iconst (v := (-1)) hx hb dX7_look_25 (by decide) ?_
  refine ast hC hK hP hD hS 1 (ws' := [(h0, .inr (7, [.ref bk, .ref clk, .ref fi, .ref la, .ref ml, .ref mm, .ref sl, .ref sm, .int 0])), (fi, .inl (G.2.1, 12, .inl (upd (upd (upd (upd (upd (upd (upd (fun _ => 0) 0 (-1)) 1 (-1)) 2 (-1)) 3 (-1)) 4 (-1)) 5 (-1)) 6 (-1)))), (la, .inl (G.2.1, 12, .inl (upd (upd (upd (upd (upd (upd (fun _ => 0) 0 (-1)) 1 (-1)) 2 (-1)) 3 (-1)) 4 (-1)) 5 (-1)))), (bk, .inr (0, [.ref bpersons, .ref bpapers, .ref bstamps, .ref bversions, .ref blines, .ref bsteps, .ref bsayings, .ref bfindings, .ref bwarnings, .ref bquestions, .int td, .int vd, .int vl, .int gp])), (bstamps, .inr (8, [.int 24, .int 3, .ref bstampsc, .int 0])), (clk, .inr (1, [.ref clm])), (clm, .inl (G.2.1, 36, .inl CL0))]) rfl (vin (by decide +kernel)) (k := 6) (by decide +kernel) (rfl) dX7_look_26 (fun H locs hP hD hS => ?_)
  refine lv_aload_n hx hb dX7_look_27 rfl (lv_at hl 1 rfl) ?_
  refine gf_X7_22 hC rfl hK hP 0 rfl rfl dX7_look_28 ?_
  refine lv_iload_n hx hb dX7_look_31 rfl (lv_at hl 0 rfl) ?_
  refine lv_iconst (v := (-1)) hx hb dX7_look_32 (by decide) ?_
  refine ast hC hK hP hD hS 2 (ws' := [(h0, .inr (7, [.ref bk, .ref clk, .ref fi, .ref la, .ref ml, .ref mm, .ref sl, .ref sm, .int 0])), (fi, .inl (G.2.1, 12, .inl (upd (upd (upd (upd (upd (upd (upd (fun _ => 0) 0 (-1)) 1 (-1)) 2 (-1)) 3 (-1)) 4 (-1)) 5 (-1)) 6 (-1)))), (la, .inl (G.2.1, 12, .inl (upd (upd (upd (upd (upd (upd (upd (fun _ => 0) 0 (-1)) 1 (-1)) 2 (-1)) 3 (-1)) 4 (-1)) 5 (-1)) 6 (-1)))), (bk, .inr (0, [.ref bpersons, .ref bpapers, .ref bstamps, .ref bversions, .ref blines, .ref bsteps, .ref bsayings, .ref bfindings, .ref bwarnings, .ref bquestions, .int td, .int vd, .int vl, .int gp])), (bstamps, .inr (8, [.int 24, .int 3, .ref bstampsc, .int 0])), (clk, .inr (1, [.ref clm])), (clm, .inl (G.2.1, 36, .inl CL0))]) rfl (vin (by decide +kernel)) (k := 6) (by decide +kernel) (rfl) dX7_look_33 (fun H locs hP hD hS => ?_)
  refine lv_iinc (v := 7) (lv' := [(2, .int 7), (0, .ref h0), (1, .int 0)]) hx hb dX7_look_34 hl (k := 0) rfl (by decide) (by decide) rfl (fun ls hl => ?_)
  refine lv_goto (tgt := 14) hx hb dX7_look_37 (by decide) ?_
  refine lv_iload_n hx hb dX7_look_14 rfl (lv_at hl 0 rfl) ?_
  refine lv_bipush (v := 12) hx hb dX7_look_15 (by decide) ?_
  refine lv_icmp_ge (tgt := 40) hx hb dX7_look_17 (by decide) (fun c9 => absurd c9 (by decide)) (fun _ => ?_)
  refine lv_aload_n hx hb dX7_look_20 rfl (lv_at hl 1 rfl) ?_
  refine gf_X7_18 hC rfl hK hP 0 rfl rfl dX7_look_21 ?_
  refine lv_iload_n hx hb dX7_look_24 rfl (lv_at hl 0 rfl) ?_
  refine lv_iconst (v := (-1)) hx hb dX7_look_25 (by decide) ?_
  refine ast hC hK hP hD hS 1 (ws' := [(h0, .inr (7, [.ref bk, .ref clk, .ref fi, .ref la, .ref ml, .ref mm, .ref sl, .ref sm, .int 0])), (fi, .inl (G.2.1, 12, .inl (upd (upd (upd (upd (upd (upd (upd (upd (fun _ => 0) 0 (-1)) 1 (-1)) 2 (-1)) 3 (-1)) 4 (-1)) 5 (-1)) 6 (-1)) 7 (-1)))), (la, .inl (G.2.1, 12, .inl (upd (upd (upd (upd (upd (upd (upd (fun _ => 0) 0 (-1)) 1 (-1)) 2 (-1)) 3 (-1)) 4 (-1)) 5 (-1)) 6 (-1)))), (bk, .inr (0, [.ref bpersons, .ref bpapers, .ref bstamps, .ref bversions, .ref blines, .ref bsteps, .ref bsayings, .ref bfindings, .ref bwarnings, .ref bquestions, .int td, .int vd, .int vl, .int gp])), (bstamps, .inr (8, [.int 24, .int 3, .ref bstampsc, .int 0])), (clk, .inr (1, [.ref clm])), (clm, .inl (G.2.1, 36, .inl CL0))]) rfl (vin (by decide +kernel)) (k := 7) (by decide +kernel) (rfl) dX7_look_26 (fun H locs hP hD hS => ?_)
  refine lv_aload_n hx hb dX7_look_27 rfl (lv_at hl 1 rfl) ?_
  refine gf_X7_22 hC rfl hK hP 0 rfl rfl dX7_look_28 ?_
  refine lv_iload_n hx hb dX7_look_31 rfl (lv_at hl 0 rfl) ?_
  refine lv_iconst (v := (-1)) hx hb dX7_look_32 (by decide) ?_
  refine ast hC hK hP hD hS 2 (ws' := [(h0, .inr (7, [.ref bk, .ref clk, .ref fi, .ref la, .ref ml, .ref mm, .ref sl, .ref sm, .int 0])), (fi, .inl (G.2.1, 12, .inl (upd (upd (upd (upd (upd (upd (upd (upd (fun _ => 0) 0 (-1)) 1 (-1)) 2 (-1)) 3 (-1)) 4 (-1)) 5 (-1)) 6 (-1)) 7 (-1)))), (la, .inl (G.2.1, 12, .inl (upd (upd (upd (upd (upd (upd (upd (upd (fun _ => 0) 0 (-1)) 1 (-1)) 2 (-1)) 3 (-1)) 4 (-1)) 5 (-1)) 6 (-1)) 7 (-1)))), (bk, .inr (0, [.ref bpersons, .ref bpapers, .ref bstamps, .ref bversions, .ref blines, .ref bsteps, .ref bsayings, .ref bfindings, .ref bwarnings, .ref bquestions, .int td, .int vd, .int vl, .int gp])), (bstamps, .inr (8, [.int 24, .int 3, .ref bstampsc, .int 0])), (clk, .inr (1, [.ref clm])), (clm, .inl (G.2.1, 36, .inl CL0))]) rfl (vin (by decide +kernel)) (k := 7) (by decide +kernel) (rfl) dX7_look_33 (fun H locs hP hD hS => ?_)
  refine lv_iinc (v := 8) (lv' := [(2, .int 8), (0, .ref h0), (1, .int 0)]) hx hb dX7_look_34 hl (k := 0) rfl (by decide) (by decide) rfl (fun ls hl => ?_)
  refine lv_goto (tgt := 14) hx hb dX7_look_37 (by decide) ?_
  refine lv_iload_n hx hb dX7_look_14 rfl (lv_at hl 0 rfl) ?_
  refine lv_bipush (v := 12) hx hb dX7_look_15 (by decide) ?_
  refine lv_icmp_ge (tgt := 40) hx hb dX7_look_17 (by decide) (fun c9 => absurd c9 (by decide)) (fun _ => ?_)
  refine lv_aload_n hx hb dX7_look_20 rfl (lv_at hl 1 rfl) ?_
  refine gf_X7_18 hC rfl hK hP 0 rfl rfl dX7_look_21 ?_
  refine lv_iload_n hx hb dX7_look_24 rfl (lv_at hl 0 rfl) ?_
  refine lv_iconst (v := (-1)) hx hb dX7_look_25 (by decide) ?_
  refine ast hC hK hP hD hS 1 (ws' := [(h0, .inr (7, [.ref bk, .ref clk, .ref fi, .ref la, .ref ml, .ref mm, .ref sl, .ref sm, .int 0])), (fi, .inl (G.2.1, 12, .inl (upd (upd (upd (upd (upd (upd (upd (upd (upd (fun _ => 0) 0 (-1)) 1 (-1)) 2 (-1)) 3 (-1)) 4 (-1)) 5 (-1)) 6 (-1)) 7 (-1)) 8 (-1)))), (la, .inl (G.2.1, 12, .inl (upd (upd (upd (upd (upd (upd (upd (upd (fun _ => 0) 0 (-1)) 1 (-1)) 2 (-1)) 3 (-1)) 4 (-1)) 5 (-1)) 6 (-1)) 7 (-1)))), (bk, .inr (0, [.ref bpersons, .ref bpapers, .ref bstamps, .ref bversions, .ref blines, .ref bsteps, .ref bsayings, .ref bfindings, .ref bwarnings, .ref bquestions, .int td, .int vd, .int vl, .int gp])), (bstamps, .inr (8, [.int 24, .int 3, .ref bstampsc, .int 0])), (clk, .inr (1, [.ref clm])), (clm, .inl (G.2.1, 36, .inl CL0))]) rfl (vin (by decide +kernel)) (k := 8) (by decide +kernel) (rfl) dX7_look_26 (fun H locs hP hD hS => ?_)
  refine lv_aload_n hx hb dX7_look_27 rfl (lv_at hl 1 rfl) ?_
  refine gf_X7_22 hC rfl hK hP 0 rfl rfl dX7_look_28 ?_
  refine lv_iload_n hx hb dX7_look_31 rfl (lv_at hl 0 rfl) ?_
  refine lv_iconst (v := (-1)) hx hb dX7_look_32 (by decide) ?_
  refine ast hC hK hP hD hS 2 (ws' := [(h0, .inr (7, [.ref bk, .ref clk, .ref fi, .ref la, .ref ml, .ref mm, .ref sl, .ref sm, .int 0])), (fi, .inl (G.2.1, 12, .inl (upd (upd (upd (upd (upd (upd (upd (upd (upd (fun _ => 0) 0 (-1)) 1 (-1)) 2 (-1)) 3 (-1)) 4 (-1)) 5 (-1)) 6 (-1)) 7 (-1)) 8 (-1)))), (la, .inl (G.2.1, 12, .inl (upd (upd (upd (upd (upd (upd (upd (upd (upd (fun _ => 0) 0 (-1)) 1 (-1)) 2 (-1)) 3 (-1)) 4 (-1)) 5 (-1)) 6 (-1)) 7 (-1)) 8 (-1)))), (bk, .inr (0, [.ref bpersons, .ref bpapers, .ref bstamps, .ref bversions, .ref blines, .ref bsteps, .ref bsayings, .ref bfindings, .ref bwarnings, .ref bquestions, .int td, .int vd, .int vl, .int gp])), (bstamps, .inr (8, [.int 24, .int 3, .ref bstampsc, .int 0])), (clk, .inr (1, [.ref clm])), (clm, .inl (G.2.1, 36, .inl CL0))]) rfl (vin (by decide +kernel)) (k := 8) (by decide +kernel) (rfl) dX7_look_33 (fun H locs hP hD hS => ?_)
  refine lv_iinc (v := 9) (lv' := [(2, .int 9), (0, .ref h0), (1, .int 0)]) hx hb dX7_look_34 hl (k := 0) rfl (by decide) (by decide) rfl (fun ls hl => ?_)
  refine lv_goto (tgt := 14) hx hb dX7_look_37 (by decide) ?_
  refine lv_iload_n hx hb dX7_look_14 rfl (lv_at hl 0 rfl) ?_
  refine lv_bipush (v := 12) hx hb dX7_look_15 (by decide) ?_
  refine lv_icmp_ge (tgt := 40) hx hb dX7_look_17 (by decide) (fun c9 => absurd c9 (by decide)) (fun _ => ?_)
  refine lv_aload_n hx hb dX7_look_20 rfl (lv_at hl 1 rfl) ?_
  refine gf_X7_18 hC rfl hK hP 0 rfl rfl dX7_look_21 ?_
  refine lv_iload_n hx hb dX7_look_24 rfl (lv_at hl 0 rfl) ?_
  refine lv_iconst (v := (-1)) hx hb dX7_look_25 (by decide) ?_
  refine ast hC hK hP hD hS 1 (ws' := [(h0, .inr (7, [.ref bk, .ref clk, .ref fi, .ref la, .ref ml, .ref mm, .ref sl, .ref sm, .int 0])), (fi, .inl (G.2.1, 12, .inl (upd (upd (upd (upd (upd (upd (upd (upd (upd (upd (fun _ => 0) 0 (-1)) 1 (-1)) 2 (-1)) 3 (-1)) 4 (-1)) 5 (-1)) 6 (-1)) 7 (-1)) 8 (-1)) 9 (-1)))), (la, .inl (G.2.1, 12, .inl (upd (upd (upd (upd (upd (upd (upd (upd (upd (fun _ => 0) 0 (-1)) 1 (-1)) 2 (-1)) 3 (-1)) 4 (-1)) 5 (-1)) 6 (-1)) 7 (-1)) 8 (-1)))), (bk, .inr (0, [.ref bpersons, .ref bpapers, .ref bstamps, .ref bversions, .ref blines, .ref bsteps, .ref bsayings, .ref bfindings, .ref bwarnings, .ref bquestions, .int td, .int vd, .int vl, .int gp])), (bstamps, .inr (8, [.int 24, .int 3, .ref bstampsc, .int 0])), (clk, .inr (1, [.ref clm])), (clm, .inl (G.2.1, 36, .inl CL0))]) rfl (vin (by decide +kernel)) (k := 9) (by decide +kernel) (rfl) dX7_look_26 (fun H locs hP hD hS => ?_)
  refine lv_aload_n hx hb dX7_look_27 rfl (lv_at hl 1 rfl) ?_
  refine gf_X7_22 hC rfl hK hP 0 rfl rfl dX7_look_28 ?_
  refine lv_iload_n hx hb dX7_look_31 rfl (lv_at hl 0 rfl) ?_
  refine lv_iconst (v := (-1)) hx hb dX7_look_32 (by decide) ?_
  refine ast hC hK hP hD hS 2 (ws' := [(h0, .inr (7, [.ref bk, .ref clk, .ref fi, .ref la, .ref ml, .ref mm, .ref sl, .ref sm, .int 0])), (fi, .inl (G.2.1, 12, .inl (upd (upd (upd (upd (upd (upd (upd (upd (upd (upd (fun _ => 0) 0 (-1)) 1 (-1)) 2 (-1)) 3 (-1)) 4 (-1)) 5 (-1)) 6 (-1)) 7 (-1)) 8 (-1)) 9 (-1)))), (la, .inl (G.2.1, 12, .inl (upd (upd (upd (upd (upd (upd (upd (upd (upd (upd (fun _ => 0) 0 (-1)) 1 (-1)) 2 (-1)) 3 (-1)) 4 (-1)) 5 (-1)) 6 (-1)) 7 (-1)) 8 (-1)) 9 (-1)))), (bk, .inr (0, [.ref bpersons, .ref bpapers, .ref bstamps, .ref bversions, .ref blines, .ref bsteps, .ref bsayings, .ref bfindings, .ref bwarnings, .ref bquestions, .int td, .int vd, .int vl, .int gp])), (bstamps, .inr (8, [.int 24, .int 3, .ref bstampsc, .int 0])), (clk, .inr (1, [.ref clm])), (clm, .inl (G.2.1, 36, .inl CL0))]) rfl (vin (by decide +kernel)) (k := 9) (by decide +kernel) (rfl) dX7_look_33 (fun H locs hP hD hS => ?_)
  refine lv_iinc (v := 10) (lv' := [(2, .int 10), (0, .ref h0), (1, .int 0)]) hx hb dX7_look_34 hl (k := 0) rfl (by decide) (by decide) rfl (fun ls hl => ?_)
  refine lv_goto (tgt := 14) hx hb dX7_look_37 (by decide) ?_
  refine lv_iload_n hx hb dX7_look_14 rfl (lv_at hl 0 rfl) ?_
  refine lv_bipush (v := 12) hx hb dX7_look_15 (by decide) ?_
  refine lv_icmp_ge (tgt := 40) hx hb dX7_look_17 (by decide) (fun c9 => absurd c9 (by decide)) (fun _ => ?_)
  refine lv_aload_n hx hb dX7_look_20 rfl (lv_at hl 1 rfl) ?_
  refine gf_X7_18 hC rfl hK hP 0 rfl rfl dX7_look_21 ?_
  refine lv_iload_n hx hb dX7_look_24 rfl (lv_at hl 0 rfl) ?_
  refine lv_iconst (v := (-1)) hx hb dX7_look_25 (by decide) ?_
  refine ast hC hK hP hD hS 1 (ws' := [(h0, .inr (7, [.ref bk, .ref clk, .ref fi, .ref la, .ref ml, .ref mm, .ref sl, .ref sm, .int 0])), (fi, .inl (G.2.1, 12, .inl (upd (upd (upd (upd (upd (upd (upd (upd (upd (upd (upd (fun _ => 0) 0 (-1)) 1 (-1)) 2 (-1)) 3 (-1)) 4 (-1)) 5 (-1)) 6 (-1)) 7 (-1)) 8 (-1)) 9 (-1)) 10 (-1)))), (la, .inl (G.2.1, 12, .inl (upd (upd (upd (upd (upd (upd (upd (upd (upd (upd (fun _ => 0) 0 (-1)) 1 (-1)) 2 (-1)) 3 (-1)) 4 (-1)) 5 (-1)) 6 (-1)) 7 (-1)) 8 (-1)) 9 (-1)))), (bk, .inr (0, [.ref bpersons, .ref bpapers, .ref bstamps, .ref bversions, .ref blines, .ref bsteps, .ref bsayings, .ref bfindings, .ref bwarnings, .ref bquestions, .int td, .int vd, .int vl, .int gp])), (bstamps, .inr (8, [.int 24, .int 3, .ref bstampsc, .int 0])), (clk, .inr (1, [.ref clm])), (clm, .inl (G.2.1, 36, .inl CL0))]) rfl (vin (by decide +kernel)) (k := 10) (by decide +kernel) (rfl) dX7_look_26 (fun H locs hP hD hS => ?_)
  refine lv_aload_n hx hb dX7_look_27 rfl (lv_at hl 1 rfl) ?_
  refine gf_X7_22 hC rfl hK hP 0 rfl rfl dX7_look_28 ?_
  refine lv_iload_n hx hb dX7_look_31 rfl (lv_at hl 0 rfl) ?_
  refine lv_iconst (v := (-1)) hx hb dX7_look_32 (by decide) ?_
  refine ast hC hK hP hD hS 2 (ws' := [(h0, .inr (7, [.ref bk, .ref clk, .ref fi, .ref la, .ref ml, .ref mm, .ref sl, .ref sm, .int 0])), (fi, .inl (G.2.1, 12, .inl (upd (upd (upd (upd (upd (upd (upd (upd (upd (upd (upd (fun _ => 0) 0 (-1)) 1 (-1)) 2 (-1)) 3 (-1)) 4 (-1)) 5 (-1)) 6 (-1)) 7 (-1)) 8 (-1)) 9 (-1)) 10 (-1)))), (la, .inl (G.2.1, 12, .inl (upd (upd (upd (upd (upd (upd (upd (upd (upd (upd (upd (fun _ => 0) 0 (-1)) 1 (-1)) 2 (-1)) 3 (-1)) 4 (-1)) 5 (-1)) 6 (-1)) 7 (-1)) 8 (-1)) 9 (-1)) 10 (-1)))), (bk, .inr (0, [.ref bpersons, .ref bpapers, .ref bstamps, .ref bversions, .ref blines, .ref bsteps, .ref bsayings, .ref bfindings, .ref bwarnings, .ref bquestions, .int td, .int vd, .int vl, .int gp])), (bstamps, .inr (8, [.int 24, .int 3, .ref bstampsc, .int 0])), (clk, .inr (1, [.ref clm])), (clm, .inl (G.2.1, 36, .inl CL0))]) rfl (vin (by decide +kernel)) (k := 10) (by decide +kernel) (rfl) dX7_look_33 (fun H locs hP hD hS => ?_)
  refine lv_iinc (v := 11) (lv' := [(2, .int 11), (0, .ref h0), (1, .int 0)]) hx hb dX7_look_34 hl (k := 0) rfl (by decide) (by decide) rfl (fun ls hl => ?_)
  refine lv_goto (tgt := 14) hx hb dX7_look_37 (by decide) ?_
  refine lv_iload_n hx hb dX7_look_14 rfl (lv_at hl 0 rfl) ?_
  refine lv_bipush (v := 12) hx hb dX7_look_15 (by decide) ?_
  refine lv_icmp_ge (tgt := 40) hx hb dX7_look_17 (by decide) (fun c9 => absurd c9 (by decide)) (fun _ => ?_)
  refine lv_aload_n hx hb dX7_look_20 rfl (lv_at hl 1 rfl) ?_
  refine gf_X7_18 hC rfl hK hP 0 rfl rfl dX7_look_21 ?_
  refine lv_iload_n hx hb dX7_look_24 rfl (lv_at hl 0 rfl) ?_
  refine lv_iconst (v := (-1)) hx hb dX7_look_25 (by decide) ?_
  refine ast hC hK hP hD hS 1 (ws' := [(h0, .inr (7, [.ref bk, .ref clk, .ref fi, .ref la, .ref ml, .ref mm, .ref sl, .ref sm, .int 0])), (fi, .inl (G.2.1, 12, .inl (upd (upd (upd (upd (upd (upd (upd (upd (upd (upd (upd (upd (fun _ => 0) 0 (-1)) 1 (-1)) 2 (-1)) 3 (-1)) 4 (-1)) 5 (-1)) 6 (-1)) 7 (-1)) 8 (-1)) 9 (-1)) 10 (-1)) 11 (-1)))), (la, .inl (G.2.1, 12, .inl (upd (upd (upd (upd (upd (upd (upd (upd (upd (upd (upd (fun _ => 0) 0 (-1)) 1 (-1)) 2 (-1)) 3 (-1)) 4 (-1)) 5 (-1)) 6 (-1)) 7 (-1)) 8 (-1)) 9 (-1)) 10 (-1)))), (bk, .inr (0, [.ref bpersons, .ref bpapers, .ref bstamps, .ref bversions, .ref blines, .ref bsteps, .ref bsayings, .ref bfindings, .ref bwarnings, .ref bquestions, .int td, .int vd, .int vl, .int gp])), (bstamps, .inr (8, [.int 24, .int 3, .ref bstampsc, .int 0])), (clk, .inr (1, [.ref clm])), (clm, .inl (G.2.1, 36, .inl CL0))]) rfl (vin (by decide +kernel)) (k := 11) (by decide +kernel) (rfl) dX7_look_26 (fun H locs hP hD hS => ?_)
  refine lv_aload_n hx hb dX7_look_27 rfl (lv_at hl 1 rfl) ?_
  refine gf_X7_22 hC rfl hK hP 0 rfl rfl dX7_look_28 ?_
  refine lv_iload_n hx hb dX7_look_31 rfl (lv_at hl 0 rfl) ?_
  refine lv_iconst (v := (-1)) hx hb dX7_look_32 (by decide) ?_
  refine ast hC hK hP hD hS 2 (ws' := [(h0, .inr (7, [.ref bk, .ref clk, .ref fi, .ref la, .ref ml, .ref mm, .ref sl, .ref sm, .int 0])), (fi, .inl (G.2.1, 12, .inl (upd (upd (upd (upd (upd (upd (upd (upd (upd (upd (upd (upd (fun _ => 0) 0 (-1)) 1 (-1)) 2 (-1)) 3 (-1)) 4 (-1)) 5 (-1)) 6 (-1)) 7 (-1)) 8 (-1)) 9 (-1)) 10 (-1)) 11 (-1)))), (la, .inl (G.2.1, 12, .inl (upd (upd (upd (upd (upd (upd (upd (upd (upd (upd (upd (upd (fun _ => 0) 0 (-1)) 1 (-1)) 2 (-1)) 3 (-1)) 4 (-1)) 5 (-1)) 6 (-1)) 7 (-1)) 8 (-1)) 9 (-1)) 10 (-1)) 11 (-1)))), (bk, .inr (0, [.ref bpersons, .ref bpapers, .ref bstamps, .ref bversions, .ref blines, .ref bsteps, .ref bsayings, .ref bfindings, .ref bwarnings, .ref bquestions, .int td, .int vd, .int vl, .int gp])), (bstamps, .inr (8, [.int 24, .int 3, .ref bstampsc, .int 0])), (clk, .inr (1, [.ref clm])), (clm, .inl (G.2.1, 36, .inl CL0))]) rfl (vin (by decide +kernel)) (k := 11) (by decide +kernel) (rfl) dX7_look_33 (fun H locs hP hD hS => ?_)
  refine lv_iinc (v := 12) (lv' := [(2, .int 12), (0, .ref h0), (1, .int 0)]) hx hb dX7_look_34 hl (k := 0) rfl (by decide) (by decide) rfl (fun ls hl => ?_)
  refine lv_goto (tgt := 14) hx hb dX7_look_37 (by decide) ?_
  refine lv_iload_n hx hb dX7_look_14 rfl (lv_at hl 0 rfl) ?_
  refine lv_bipush (v := 12) hx hb dX7_look_15 (by decide) ?_
  refine lv_icmp_ge (tgt := 40) hx hb dX7_look_17 (by decide) (fun _ => ?_) (fun c9 => absurd (by decide) c9)
  refine lv_iconst (v := 0) hx hb dX7_look_40 (by decide) ?_
  refine lv_istore_n (lv' := [(2, .int 0), (0, .ref h0), (1, .int 0)]) hx hb dX7_look_41 rfl hl (by decide) rfl (fun ls hl => ?_)
  refine lv_iload_n hx hb dX7_look_42 rfl (lv_at hl 0 rfl) ?_
  refine lv_aload_n hx hb dX7_look_43 rfl (lv_at hl 1 rfl) ?_
  refine gf_X7_37 hC rfl hK hP 0 rfl rfl dX7_look_44 ?_
  refine gf_X7_48 hC rfl hK hP 3 rfl rfl dX7_look_47 ?_
  refine pV hC hK hl hP hD (c_T_count l G bstamps bstampsc 24 3 0) si_X7_54 [4] rfl rfl (by decide) rfl rfl rfl rfl rfl (Nat.le_of_ble_eq_true rfl) ⟨Nat.le_of_ble_eq_true rfl, Nat.le_of_ble_eq_true rfl⟩ ⟨by first | exact Nat.le_of_ble_eq_true rfl | exact Nat.zero_le _, by first | exact Nat.le_of_ble_eq_true rfl | exact Nat.zero_le _⟩ dX7_look_50 (fun r358 hr358 => ?_)
  obtain rfl := hr358
  refine lv_icmp_ge (tgt := 169) hx hb dX7_look_53 (by decide) (fun _ => ?_) (fun c9 => absurd (by decide) c9)
  refine lv_aload_n hx hb dX7_look_169 rfl (lv_at hl 1 rfl) ?_
  refine vV (wr := [(fi, .inl (G.2.1, 12, .inl (upd (upd (upd (upd (upd (upd (upd (upd (upd (upd (upd (upd (fun _ => 0) 0 (-1)) 1 (-1)) 2 (-1)) 3 (-1)) 4 (-1)) 5 (-1)) 6 (-1)) 7 (-1)) 8 (-1)) 9 (-1)) 10 (-1)) 11 (-1)))), (bk, .inr (0, [.ref bpersons, .ref bpapers, .ref bstamps, .ref bversions, .ref blines, .ref bsteps, .ref bsayings, .ref bfindings, .ref bwarnings, .ref bquestions, .int td, .int vd, .int vl, .int gp])), (bstamps, .inr (8, [.int 24, .int 3, .ref bstampsc, .int 0])), (clk, .inr (1, [.ref clm])), (clm, .inl (G.2.1, 36, .inl CL0))]) hC hK hl hP hD hS hA (c_boundHours l G h0 bk clk fi la ml mm sl sm) si_X7_80 [0, 2] [1, 3, 4, 5, 6] rfl rfl (by decide) rfl (by decide) (by decide) rfl rfl rfl rfl rfl (Nat.le_of_ble_eq_true rfl) ⟨Nat.le_of_ble_eq_true rfl, Nat.le_of_ble_eq_true rfl⟩ ⟨Nat.le_of_ble_eq_true rfl, Nat.le_of_ble_eq_true rfl⟩ dX7_look_170 (fun u361 H locs hr360 hP hD hS => ?_)
  have hP : va_P G.1 vwCl [(fi, .inl (G.2.1, 12, .inl (upd (upd (upd (upd (upd (upd (upd (upd (upd (upd (upd (upd (fun _ => 0) 0 (-1)) 1 (-1)) 2 (-1)) 3 (-1)) 4 (-1)) 5 (-1)) 6 (-1)) 7 (-1)) 8 (-1)) 9 (-1)) 10 (-1)) 11 (-1)))), (bk, .inr (0, [.ref bpersons, .ref bpapers, .ref bstamps, .ref bversions, .ref blines, .ref bsteps, .ref bsayings, .ref bfindings, .ref bwarnings, .ref bquestions, .int td, .int vd, .int vl, .int gp])), (bstamps, .inr (8, [.int 24, .int 3, .ref bstampsc, .int 0])), (clk, .inr (1, [.ref clm])), (clm, .inl (G.2.1, 36, .inl CL0)), (h0, .inr (7, [.ref bk, .ref clk, .ref fi, .ref la, .ref ml, .ref mm, .ref sl, .ref sm, .int 0])), (la, .inl (G.2.1, 12, .inl M12))] H := hP
  have hD : va_D A [(fi, .inl (G.2.1, 12, .inl (upd (upd (upd (upd (upd (upd (upd (upd (upd (upd (upd (upd (fun _ => 0) 0 (-1)) 1 (-1)) 2 (-1)) 3 (-1)) 4 (-1)) 5 (-1)) 6 (-1)) 7 (-1)) 8 (-1)) 9 (-1)) 10 (-1)) 11 (-1)))), (bk, .inr (0, [.ref bpersons, .ref bpapers, .ref bstamps, .ref bversions, .ref blines, .ref bsteps, .ref bsayings, .ref bfindings, .ref bwarnings, .ref bquestions, .int td, .int vd, .int vl, .int gp])), (bstamps, .inr (8, [.int 24, .int 3, .ref bstampsc, .int 0])), (clk, .inr (1, [.ref clm])), (clm, .inl (G.2.1, 36, .inl CL0)), (h0, .inr (7, [.ref bk, .ref clk, .ref fi, .ref la, .ref ml, .ref mm, .ref sl, .ref sm, .int 0])), (la, .inl (G.2.1, 12, .inl M12))] := hD
  exact RV hC hP hD hS [5, 3, 4, 0, 6, 1, 2] () rfl rfl (by decide) (trivial) dX7_look_173
set_option maxHeartbeats 4000000 in
set_option maxRecDepth 100000 in
theorem c_clashes (l : Launch) (G : GG) (h0 : Nat) (bk : Nat) (clk : Nat) (fi : Nat) (la : Nat) (ml : Nat) (mm : Nat) (sl : Nat) (sm : Nat) : MP l G yX7_clashes cX7_clashes 1 (some .boolean) 1 [.ref h0] [(h0, .inr (7, [.ref bk, .ref clk, .ref fi, .ref la, .ref ml, .ref mm, .ref sl, .ref sm, .int 0]))] (fun r : Int32 => r = 0) := by
  refine MP.start (by decide +kernel) (Nat.le_of_ble_eq_true rfl) ?_
  intro p e s m below meth c ls hC hK hP hD hl
  have hl : lv_has ls 1 [(0, .ref h0)] := hl
  obtain ⟨hx, hb, hr, hml, hB, hown, hlocks, hnm⟩ := id hC
  refine lv_aload_n hx hb dX7_clashes_0 rfl (lv_at hl 0 rfl) ?_
  refine gf_X7_41 hC rfl hK hP 0 rfl rfl dX7_clashes_1 ?_
  exact RP (v := 0) hC (rfl) (by decide +kernel) dX7_clashes_4
set_option maxHeartbeats 4000000 in
set_option maxRecDepth 100000 in
theorem c_mA_0_0 (l : Launch) (G : GG) (h0 : Nat) (cm : Nat) : MP l G yX1_mostAhead cX1_mostAhead 3 (some .int) 1 [.ref h0, .int 0, .int 0] [(h0, .inr (1, [.ref cm])), (cm, .inl (G.2.1, 36, .inl CL0))] (fun r : Int32 => r = 0) := by
  refine MP.start (by decide +kernel) (Nat.le_of_ble_eq_true rfl) ?_
  intro p e s m below meth c ls hC hK hP hD hl
  have hl : lv_has ls 3 [(0, .ref h0), (1, .int 0), (2, .int 0)] := hl
  obtain ⟨hx, hb, hr, hml, hB, hown, hlocks, hnm⟩ := id hC
  refine lv_iload_n hx hb dX1_mostAhead_0 rfl (lv_at hl 1 rfl) ?_
  refine lv_if_lt (tgt := 20) hx hb dX1_mostAhead_1 (by decide) (fun c9 => absurd c9 (by decide)) (fun _ => ?_)
  refine lv_iload_n hx hb dX1_mostAhead_4 rfl (lv_at hl 1 rfl) ?_
  refine lv_bipush (v := 6) hx hb dX1_mostAhead_5 (by decide) ?_
  refine lv_icmp_ge (tgt := 20) hx hb dX1_mostAhead_7 (by decide) (fun c9 => absurd c9 (by decide)) (fun _ => ?_)
  refine lv_iload_n hx hb dX1_mostAhead_10 rfl (lv_at hl 2 rfl) ?_
  refine lv_if_lt (tgt := 20) hx hb dX1_mostAhead_11 (by decide) (fun c9 => absurd c9 (by decide)) (fun _ => ?_)
  refine lv_iload_n hx hb dX1_mostAhead_14 rfl (lv_at hl 2 rfl) ?_
  refine lv_bipush (v := 6) hx hb dX1_mostAhead_15 (by decide) ?_
  refine lv_icmp_lt (tgt := 22) hx hb dX1_mostAhead_17 (by decide) (fun _ => ?_) (fun c9 => absurd (by decide) c9)
  refine lv_aload_n hx hb dX1_mostAhead_22 rfl (lv_at hl 0 rfl) ?_
  refine gf_X1_9 hC rfl hK hP 0 rfl rfl dX1_mostAhead_23 ?_
  refine lv_iload_n hx hb dX1_mostAhead_26 rfl (lv_at hl 1 rfl) ?_
  refine lv_bipush (v := 6) hx hb dX1_mostAhead_27 (by decide) ?_
  refine lv_imul hx hb dX1_mostAhead_29 ?_
  refine eqi (x1 := 0) (by decide) ?_
  refine lv_iload_n hx hb dX1_mostAhead_30 rfl (lv_at hl 2 rfl) ?_
  refine lv_iadd hx hb dX1_mostAhead_31 ?_
  refine eqi (x1 := 0) (by decide) ?_
  refine ald hC hK hP 1 rfl (vin (by decide +kernel)) (k := 0) (by decide +kernel) (v := 0) (rfl) dX1_mostAhead_32 ?_
  exact RP (v := 0) hC (rfl) rfl dX1_mostAhead_33
set_option maxHeartbeats 4000000 in
set_option maxRecDepth 100000 in
theorem c_mA_0_1 (l : Launch) (G : GG) (h0 : Nat) (cm : Nat) : MP l G yX1_mostAhead cX1_mostAhead 3 (some .int) 1 [.ref h0, .int 0, .int 1] [(h0, .inr (1, [.ref cm])), (cm, .inl (G.2.1, 36, .inl CL0))] (fun r : Int32 => r = 60) := by
  refine MP.start (by decide +kernel) (Nat.le_of_ble_eq_true rfl) ?_
  intro p e s m below meth c ls hC hK hP hD hl
  have hl : lv_has ls 3 [(0, .ref h0), (1, .int 0), (2, .int 1)] := hl
  obtain ⟨hx, hb, hr, hml, hB, hown, hlocks, hnm⟩ := id hC
  refine lv_iload_n hx hb dX1_mostAhead_0 rfl (lv_at hl 1 rfl) ?_
  refine lv_if_lt (tgt := 20) hx hb dX1_mostAhead_1 (by decide) (fun c9 => absurd c9 (by decide)) (fun _ => ?_)
  refine lv_iload_n hx hb dX1_mostAhead_4 rfl (lv_at hl 1 rfl) ?_
  refine lv_bipush (v := 6) hx hb dX1_mostAhead_5 (by decide) ?_
  refine lv_icmp_ge (tgt := 20) hx hb dX1_mostAhead_7 (by decide) (fun c9 => absurd c9 (by decide)) (fun _ => ?_)
  refine lv_iload_n hx hb dX1_mostAhead_10 rfl (lv_at hl 2 rfl) ?_
  refine lv_if_lt (tgt := 20) hx hb dX1_mostAhead_11 (by decide) (fun c9 => absurd c9 (by decide)) (fun _ => ?_)
  refine lv_iload_n hx hb dX1_mostAhead_14 rfl (lv_at hl 2 rfl) ?_
  refine lv_bipush (v := 6) hx hb dX1_mostAhead_15 (by decide) ?_
  refine lv_icmp_lt (tgt := 22) hx hb dX1_mostAhead_17 (by decide) (fun _ => ?_) (fun c9 => absurd (by decide) c9)
  refine lv_aload_n hx hb dX1_mostAhead_22 rfl (lv_at hl 0 rfl) ?_
  refine gf_X1_9 hC rfl hK hP 0 rfl rfl dX1_mostAhead_23 ?_
  refine lv_iload_n hx hb dX1_mostAhead_26 rfl (lv_at hl 1 rfl) ?_
  refine lv_bipush (v := 6) hx hb dX1_mostAhead_27 (by decide) ?_
  refine lv_imul hx hb dX1_mostAhead_29 ?_
  refine eqi (x1 := 0) (by decide) ?_
  refine lv_iload_n hx hb dX1_mostAhead_30 rfl (lv_at hl 2 rfl) ?_
  refine lv_iadd hx hb dX1_mostAhead_31 ?_
  refine eqi (x1 := 1) (by decide) ?_
  refine ald hC hK hP 1 rfl (vin (by decide +kernel)) (k := 1) (by decide +kernel) (v := 60) (rfl) dX1_mostAhead_32 ?_
  exact RP (v := 60) hC (rfl) rfl dX1_mostAhead_33
set_option maxHeartbeats 4000000 in
set_option maxRecDepth 100000 in
theorem c_mA_1_0 (l : Launch) (G : GG) (h0 : Nat) (cm : Nat) : MP l G yX1_mostAhead cX1_mostAhead 3 (some .int) 1 [.ref h0, .int 1, .int 0] [(h0, .inr (1, [.ref cm])), (cm, .inl (G.2.1, 36, .inl CL0))] (fun r : Int32 => r = 60) := by
  refine MP.start (by decide +kernel) (Nat.le_of_ble_eq_true rfl) ?_
  intro p e s m below meth c ls hC hK hP hD hl
  have hl : lv_has ls 3 [(0, .ref h0), (1, .int 1), (2, .int 0)] := hl
  obtain ⟨hx, hb, hr, hml, hB, hown, hlocks, hnm⟩ := id hC
  refine lv_iload_n hx hb dX1_mostAhead_0 rfl (lv_at hl 1 rfl) ?_
  refine lv_if_lt (tgt := 20) hx hb dX1_mostAhead_1 (by decide) (fun c9 => absurd c9 (by decide)) (fun _ => ?_)
  refine lv_iload_n hx hb dX1_mostAhead_4 rfl (lv_at hl 1 rfl) ?_
  refine lv_bipush (v := 6) hx hb dX1_mostAhead_5 (by decide) ?_
  refine lv_icmp_ge (tgt := 20) hx hb dX1_mostAhead_7 (by decide) (fun c9 => absurd c9 (by decide)) (fun _ => ?_)
  refine lv_iload_n hx hb dX1_mostAhead_10 rfl (lv_at hl 2 rfl) ?_
  refine lv_if_lt (tgt := 20) hx hb dX1_mostAhead_11 (by decide) (fun c9 => absurd c9 (by decide)) (fun _ => ?_)
  refine lv_iload_n hx hb dX1_mostAhead_14 rfl (lv_at hl 2 rfl) ?_
  refine lv_bipush (v := 6) hx hb dX1_mostAhead_15 (by decide) ?_
  refine lv_icmp_lt (tgt := 22) hx hb dX1_mostAhead_17 (by decide) (fun _ => ?_) (fun c9 => absurd (by decide) c9)
  refine lv_aload_n hx hb dX1_mostAhead_22 rfl (lv_at hl 0 rfl) ?_
  refine gf_X1_9 hC rfl hK hP 0 rfl rfl dX1_mostAhead_23 ?_
  refine lv_iload_n hx hb dX1_mostAhead_26 rfl (lv_at hl 1 rfl) ?_
  refine lv_bipush (v := 6) hx hb dX1_mostAhead_27 (by decide) ?_
  refine lv_imul hx hb dX1_mostAhead_29 ?_
  refine eqi (x1 := 6) (by decide) ?_
  refine lv_iload_n hx hb dX1_mostAhead_30 rfl (lv_at hl 2 rfl) ?_
  refine lv_iadd hx hb dX1_mostAhead_31 ?_
  refine eqi (x1 := 6) (by decide) ?_
  refine ald hC hK hP 1 rfl (vin (by decide +kernel)) (k := 6) (by decide +kernel) (v := 60) (rfl) dX1_mostAhead_32 ?_
  exact RP (v := 60) hC (rfl) rfl dX1_mostAhead_33
set_option maxHeartbeats 4000000 in
set_option maxRecDepth 100000 in
theorem c_mA_0_2 (l : Launch) (G : GG) (h0 : Nat) (cm : Nat) : MP l G yX1_mostAhead cX1_mostAhead 3 (some .int) 1 [.ref h0, .int 0, .int 2] [(h0, .inr (1, [.ref cm])), (cm, .inl (G.2.1, 36, .inl CL0))] (fun r : Int32 => r = 60) := by
  refine MP.start (by decide +kernel) (Nat.le_of_ble_eq_true rfl) ?_
  intro p e s m below meth c ls hC hK hP hD hl
  have hl : lv_has ls 3 [(0, .ref h0), (1, .int 0), (2, .int 2)] := hl
  obtain ⟨hx, hb, hr, hml, hB, hown, hlocks, hnm⟩ := id hC
  refine lv_iload_n hx hb dX1_mostAhead_0 rfl (lv_at hl 1 rfl) ?_
  refine lv_if_lt (tgt := 20) hx hb dX1_mostAhead_1 (by decide) (fun c9 => absurd c9 (by decide)) (fun _ => ?_)
  refine lv_iload_n hx hb dX1_mostAhead_4 rfl (lv_at hl 1 rfl) ?_
  refine lv_bipush (v := 6) hx hb dX1_mostAhead_5 (by decide) ?_
  refine lv_icmp_ge (tgt := 20) hx hb dX1_mostAhead_7 (by decide) (fun c9 => absurd c9 (by decide)) (fun _ => ?_)
  refine lv_iload_n hx hb dX1_mostAhead_10 rfl (lv_at hl 2 rfl) ?_
  refine lv_if_lt (tgt := 20) hx hb dX1_mostAhead_11 (by decide) (fun c9 => absurd c9 (by decide)) (fun _ => ?_)
  refine lv_iload_n hx hb dX1_mostAhead_14 rfl (lv_at hl 2 rfl) ?_
  refine lv_bipush (v := 6) hx hb dX1_mostAhead_15 (by decide) ?_
  refine lv_icmp_lt (tgt := 22) hx hb dX1_mostAhead_17 (by decide) (fun _ => ?_) (fun c9 => absurd (by decide) c9)
  refine lv_aload_n hx hb dX1_mostAhead_22 rfl (lv_at hl 0 rfl) ?_
  refine gf_X1_9 hC rfl hK hP 0 rfl rfl dX1_mostAhead_23 ?_
  refine lv_iload_n hx hb dX1_mostAhead_26 rfl (lv_at hl 1 rfl) ?_
  refine lv_bipush (v := 6) hx hb dX1_mostAhead_27 (by decide) ?_
  refine lv_imul hx hb dX1_mostAhead_29 ?_
  refine eqi (x1 := 0) (by decide) ?_
  refine lv_iload_n hx hb dX1_mostAhead_30 rfl (lv_at hl 2 rfl) ?_
  refine lv_iadd hx hb dX1_mostAhead_31 ?_
  refine eqi (x1 := 2) (by decide) ?_
  refine ald hC hK hP 1 rfl (vin (by decide +kernel)) (k := 2) (by decide +kernel) (v := 60) (rfl) dX1_mostAhead_32 ?_
  exact RP (v := 60) hC (rfl) rfl dX1_mostAhead_33
set_option maxHeartbeats 4000000 in
set_option maxRecDepth 100000 in
theorem c_mA_2_0 (l : Launch) (G : GG) (h0 : Nat) (cm : Nat) : MP l G yX1_mostAhead cX1_mostAhead 3 (some .int) 1 [.ref h0, .int 2, .int 0] [(h0, .inr (1, [.ref cm])), (cm, .inl (G.2.1, 36, .inl CL0))] (fun r : Int32 => r = 60) := by
  refine MP.start (by decide +kernel) (Nat.le_of_ble_eq_true rfl) ?_
  intro p e s m below meth c ls hC hK hP hD hl
  have hl : lv_has ls 3 [(0, .ref h0), (1, .int 2), (2, .int 0)] := hl
  obtain ⟨hx, hb, hr, hml, hB, hown, hlocks, hnm⟩ := id hC
  refine lv_iload_n hx hb dX1_mostAhead_0 rfl (lv_at hl 1 rfl) ?_
  refine lv_if_lt (tgt := 20) hx hb dX1_mostAhead_1 (by decide) (fun c9 => absurd c9 (by decide)) (fun _ => ?_)
  refine lv_iload_n hx hb dX1_mostAhead_4 rfl (lv_at hl 1 rfl) ?_
  refine lv_bipush (v := 6) hx hb dX1_mostAhead_5 (by decide) ?_
  refine lv_icmp_ge (tgt := 20) hx hb dX1_mostAhead_7 (by decide) (fun c9 => absurd c9 (by decide)) (fun _ => ?_)
  refine lv_iload_n hx hb dX1_mostAhead_10 rfl (lv_at hl 2 rfl) ?_
  refine lv_if_lt (tgt := 20) hx hb dX1_mostAhead_11 (by decide) (fun c9 => absurd c9 (by decide)) (fun _ => ?_)
  refine lv_iload_n hx hb dX1_mostAhead_14 rfl (lv_at hl 2 rfl) ?_
  refine lv_bipush (v := 6) hx hb dX1_mostAhead_15 (by decide) ?_
  refine lv_icmp_lt (tgt := 22) hx hb dX1_mostAhead_17 (by decide) (fun _ => ?_) (fun c9 => absurd (by decide) c9)
  refine lv_aload_n hx hb dX1_mostAhead_22 rfl (lv_at hl 0 rfl) ?_
  refine gf_X1_9 hC rfl hK hP 0 rfl rfl dX1_mostAhead_23 ?_
  refine lv_iload_n hx hb dX1_mostAhead_26 rfl (lv_at hl 1 rfl) ?_
  refine lv_bipush (v := 6) hx hb dX1_mostAhead_27 (by decide) ?_
  refine lv_imul hx hb dX1_mostAhead_29 ?_
  refine eqi (x1 := 12) (by decide) ?_
  refine lv_iload_n hx hb dX1_mostAhead_30 rfl (lv_at hl 2 rfl) ?_
  refine lv_iadd hx hb dX1_mostAhead_31 ?_
  refine eqi (x1 := 12) (by decide) ?_
  refine ald hC hK hP 1 rfl (vin (by decide +kernel)) (k := 12) (by decide +kernel) (v := 60) (rfl) dX1_mostAhead_32 ?_
  exact RP (v := 60) hC (rfl) rfl dX1_mostAhead_33
set_option maxHeartbeats 4000000 in
set_option maxRecDepth 100000 in
theorem c_mA_0_3 (l : Launch) (G : GG) (h0 : Nat) (cm : Nat) : MP l G yX1_mostAhead cX1_mostAhead 3 (some .int) 1 [.ref h0, .int 0, .int 3] [(h0, .inr (1, [.ref cm])), (cm, .inl (G.2.1, 36, .inl CL0))] (fun r : Int32 => r = 60) := by
  refine MP.start (by decide +kernel) (Nat.le_of_ble_eq_true rfl) ?_
  intro p e s m below meth c ls hC hK hP hD hl
  have hl : lv_has ls 3 [(0, .ref h0), (1, .int 0), (2, .int 3)] := hl
  obtain ⟨hx, hb, hr, hml, hB, hown, hlocks, hnm⟩ := id hC
  refine lv_iload_n hx hb dX1_mostAhead_0 rfl (lv_at hl 1 rfl) ?_
  refine lv_if_lt (tgt := 20) hx hb dX1_mostAhead_1 (by decide) (fun c9 => absurd c9 (by decide)) (fun _ => ?_)
  refine lv_iload_n hx hb dX1_mostAhead_4 rfl (lv_at hl 1 rfl) ?_
  refine lv_bipush (v := 6) hx hb dX1_mostAhead_5 (by decide) ?_
  refine lv_icmp_ge (tgt := 20) hx hb dX1_mostAhead_7 (by decide) (fun c9 => absurd c9 (by decide)) (fun _ => ?_)
  refine lv_iload_n hx hb dX1_mostAhead_10 rfl (lv_at hl 2 rfl) ?_
  refine lv_if_lt (tgt := 20) hx hb dX1_mostAhead_11 (by decide) (fun c9 => absurd c9 (by decide)) (fun _ => ?_)
  refine lv_iload_n hx hb dX1_mostAhead_14 rfl (lv_at hl 2 rfl) ?_
  refine lv_bipush (v := 6) hx hb dX1_mostAhead_15 (by decide) ?_
  refine lv_icmp_lt (tgt := 22) hx hb dX1_mostAhead_17 (by decide) (fun _ => ?_) (fun c9 => absurd (by decide) c9)
  refine lv_aload_n hx hb dX1_mostAhead_22 rfl (lv_at hl 0 rfl) ?_
  refine gf_X1_9 hC rfl hK hP 0 rfl rfl dX1_mostAhead_23 ?_
  refine lv_iload_n hx hb dX1_mostAhead_26 rfl (lv_at hl 1 rfl) ?_
  refine lv_bipush (v := 6) hx hb dX1_mostAhead_27 (by decide) ?_
  refine lv_imul hx hb dX1_mostAhead_29 ?_
  refine eqi (x1 := 0) (by decide) ?_
  refine lv_iload_n hx hb dX1_mostAhead_30 rfl (lv_at hl 2 rfl) ?_
  refine lv_iadd hx hb dX1_mostAhead_31 ?_
  refine eqi (x1 := 3) (by decide) ?_
  refine ald hC hK hP 1 rfl (vin (by decide +kernel)) (k := 3) (by decide +kernel) (v := 60) (rfl) dX1_mostAhead_32 ?_
  exact RP (v := 60) hC (rfl) rfl dX1_mostAhead_33
set_option maxHeartbeats 4000000 in
set_option maxRecDepth 100000 in
theorem c_mA_3_0 (l : Launch) (G : GG) (h0 : Nat) (cm : Nat) : MP l G yX1_mostAhead cX1_mostAhead 3 (some .int) 1 [.ref h0, .int 3, .int 0] [(h0, .inr (1, [.ref cm])), (cm, .inl (G.2.1, 36, .inl CL0))] (fun r : Int32 => r = 60) := by
  refine MP.start (by decide +kernel) (Nat.le_of_ble_eq_true rfl) ?_
  intro p e s m below meth c ls hC hK hP hD hl
  have hl : lv_has ls 3 [(0, .ref h0), (1, .int 3), (2, .int 0)] := hl
  obtain ⟨hx, hb, hr, hml, hB, hown, hlocks, hnm⟩ := id hC
  refine lv_iload_n hx hb dX1_mostAhead_0 rfl (lv_at hl 1 rfl) ?_
  refine lv_if_lt (tgt := 20) hx hb dX1_mostAhead_1 (by decide) (fun c9 => absurd c9 (by decide)) (fun _ => ?_)
  refine lv_iload_n hx hb dX1_mostAhead_4 rfl (lv_at hl 1 rfl) ?_
  refine lv_bipush (v := 6) hx hb dX1_mostAhead_5 (by decide) ?_
  refine lv_icmp_ge (tgt := 20) hx hb dX1_mostAhead_7 (by decide) (fun c9 => absurd c9 (by decide)) (fun _ => ?_)
  refine lv_iload_n hx hb dX1_mostAhead_10 rfl (lv_at hl 2 rfl) ?_
  refine lv_if_lt (tgt := 20) hx hb dX1_mostAhead_11 (by decide) (fun c9 => absurd c9 (by decide)) (fun _ => ?_)
  refine lv_iload_n hx hb dX1_mostAhead_14 rfl (lv_at hl 2 rfl) ?_
  refine lv_bipush (v := 6) hx hb dX1_mostAhead_15 (by decide) ?_
  refine lv_icmp_lt (tgt := 22) hx hb dX1_mostAhead_17 (by decide) (fun _ => ?_) (fun c9 => absurd (by decide) c9)
  refine lv_aload_n hx hb dX1_mostAhead_22 rfl (lv_at hl 0 rfl) ?_
  refine gf_X1_9 hC rfl hK hP 0 rfl rfl dX1_mostAhead_23 ?_
  refine lv_iload_n hx hb dX1_mostAhead_26 rfl (lv_at hl 1 rfl) ?_
  refine lv_bipush (v := 6) hx hb dX1_mostAhead_27 (by decide) ?_
  refine lv_imul hx hb dX1_mostAhead_29 ?_
  refine eqi (x1 := 18) (by decide) ?_
  refine lv_iload_n hx hb dX1_mostAhead_30 rfl (lv_at hl 2 rfl) ?_
  refine lv_iadd hx hb dX1_mostAhead_31 ?_
  refine eqi (x1 := 18) (by decide) ?_
  refine ald hC hK hP 1 rfl (vin (by decide +kernel)) (k := 18) (by decide +kernel) (v := 60) (rfl) dX1_mostAhead_32 ?_
  exact RP (v := 60) hC (rfl) rfl dX1_mostAhead_33
set_option maxHeartbeats 4000000 in
set_option maxRecDepth 100000 in
theorem c_mA_0_4 (l : Launch) (G : GG) (h0 : Nat) (cm : Nat) : MP l G yX1_mostAhead cX1_mostAhead 3 (some .int) 1 [.ref h0, .int 0, .int 4] [(h0, .inr (1, [.ref cm])), (cm, .inl (G.2.1, 36, .inl CL0))] (fun r : Int32 => r = 60) := by
  refine MP.start (by decide +kernel) (Nat.le_of_ble_eq_true rfl) ?_
  intro p e s m below meth c ls hC hK hP hD hl
  have hl : lv_has ls 3 [(0, .ref h0), (1, .int 0), (2, .int 4)] := hl
  obtain ⟨hx, hb, hr, hml, hB, hown, hlocks, hnm⟩ := id hC
  refine lv_iload_n hx hb dX1_mostAhead_0 rfl (lv_at hl 1 rfl) ?_
  refine lv_if_lt (tgt := 20) hx hb dX1_mostAhead_1 (by decide) (fun c9 => absurd c9 (by decide)) (fun _ => ?_)
  refine lv_iload_n hx hb dX1_mostAhead_4 rfl (lv_at hl 1 rfl) ?_
  refine lv_bipush (v := 6) hx hb dX1_mostAhead_5 (by decide) ?_
  refine lv_icmp_ge (tgt := 20) hx hb dX1_mostAhead_7 (by decide) (fun c9 => absurd c9 (by decide)) (fun _ => ?_)
  refine lv_iload_n hx hb dX1_mostAhead_10 rfl (lv_at hl 2 rfl) ?_
  refine lv_if_lt (tgt := 20) hx hb dX1_mostAhead_11 (by decide) (fun c9 => absurd c9 (by decide)) (fun _ => ?_)
  refine lv_iload_n hx hb dX1_mostAhead_14 rfl (lv_at hl 2 rfl) ?_
  refine lv_bipush (v := 6) hx hb dX1_mostAhead_15 (by decide) ?_
  refine lv_icmp_lt (tgt := 22) hx hb dX1_mostAhead_17 (by decide) (fun _ => ?_) (fun c9 => absurd (by decide) c9)
  refine lv_aload_n hx hb dX1_mostAhead_22 rfl (lv_at hl 0 rfl) ?_
  refine gf_X1_9 hC rfl hK hP 0 rfl rfl dX1_mostAhead_23 ?_
  refine lv_iload_n hx hb dX1_mostAhead_26 rfl (lv_at hl 1 rfl) ?_
  refine lv_bipush (v := 6) hx hb dX1_mostAhead_27 (by decide) ?_
  refine lv_imul hx hb dX1_mostAhead_29 ?_
  refine eqi (x1 := 0) (by decide) ?_
  refine lv_iload_n hx hb dX1_mostAhead_30 rfl (lv_at hl 2 rfl) ?_
  refine lv_iadd hx hb dX1_mostAhead_31 ?_
  refine eqi (x1 := 4) (by decide) ?_
  refine ald hC hK hP 1 rfl (vin (by decide +kernel)) (k := 4) (by decide +kernel) (v := 60) (rfl) dX1_mostAhead_32 ?_
  exact RP (v := 60) hC (rfl) rfl dX1_mostAhead_33
set_option maxHeartbeats 4000000 in
set_option maxRecDepth 100000 in
theorem c_mA_4_0 (l : Launch) (G : GG) (h0 : Nat) (cm : Nat) : MP l G yX1_mostAhead cX1_mostAhead 3 (some .int) 1 [.ref h0, .int 4, .int 0] [(h0, .inr (1, [.ref cm])), (cm, .inl (G.2.1, 36, .inl CL0))] (fun r : Int32 => r = 60) := by
  refine MP.start (by decide +kernel) (Nat.le_of_ble_eq_true rfl) ?_
  intro p e s m below meth c ls hC hK hP hD hl
  have hl : lv_has ls 3 [(0, .ref h0), (1, .int 4), (2, .int 0)] := hl
  obtain ⟨hx, hb, hr, hml, hB, hown, hlocks, hnm⟩ := id hC
  refine lv_iload_n hx hb dX1_mostAhead_0 rfl (lv_at hl 1 rfl) ?_
  refine lv_if_lt (tgt := 20) hx hb dX1_mostAhead_1 (by decide) (fun c9 => absurd c9 (by decide)) (fun _ => ?_)
  refine lv_iload_n hx hb dX1_mostAhead_4 rfl (lv_at hl 1 rfl) ?_
  refine lv_bipush (v := 6) hx hb dX1_mostAhead_5 (by decide) ?_
  refine lv_icmp_ge (tgt := 20) hx hb dX1_mostAhead_7 (by decide) (fun c9 => absurd c9 (by decide)) (fun _ => ?_)
  refine lv_iload_n hx hb dX1_mostAhead_10 rfl (lv_at hl 2 rfl) ?_
  refine lv_if_lt (tgt := 20) hx hb dX1_mostAhead_11 (by decide) (fun c9 => absurd c9 (by decide)) (fun _ => ?_)
  refine lv_iload_n hx hb dX1_mostAhead_14 rfl (lv_at hl 2 rfl) ?_
  refine lv_bipush (v := 6) hx hb dX1_mostAhead_15 (by decide) ?_
  refine lv_icmp_lt (tgt := 22) hx hb dX1_mostAhead_17 (by decide) (fun _ => ?_) (fun c9 => absurd (by decide) c9)
  refine lv_aload_n hx hb dX1_mostAhead_22 rfl (lv_at hl 0 rfl) ?_
  refine gf_X1_9 hC rfl hK hP 0 rfl rfl dX1_mostAhead_23 ?_
  refine lv_iload_n hx hb dX1_mostAhead_26 rfl (lv_at hl 1 rfl) ?_
  refine lv_bipush (v := 6) hx hb dX1_mostAhead_27 (by decide) ?_
  refine lv_imul hx hb dX1_mostAhead_29 ?_
  refine eqi (x1 := 24) (by decide) ?_
  refine lv_iload_n hx hb dX1_mostAhead_30 rfl (lv_at hl 2 rfl) ?_
  refine lv_iadd hx hb dX1_mostAhead_31 ?_
  refine eqi (x1 := 24) (by decide) ?_
  refine ald hC hK hP 1 rfl (vin (by decide +kernel)) (k := 24) (by decide +kernel) (v := 60) (rfl) dX1_mostAhead_32 ?_
  exact RP (v := 60) hC (rfl) rfl dX1_mostAhead_33
set_option maxHeartbeats 4000000 in
set_option maxRecDepth 100000 in
theorem c_mA_0_5 (l : Launch) (G : GG) (h0 : Nat) (cm : Nat) : MP l G yX1_mostAhead cX1_mostAhead 3 (some .int) 1 [.ref h0, .int 0, .int 5] [(h0, .inr (1, [.ref cm])), (cm, .inl (G.2.1, 36, .inl CL0))] (fun r : Int32 => r = 60) := by
  refine MP.start (by decide +kernel) (Nat.le_of_ble_eq_true rfl) ?_
  intro p e s m below meth c ls hC hK hP hD hl
  have hl : lv_has ls 3 [(0, .ref h0), (1, .int 0), (2, .int 5)] := hl
  obtain ⟨hx, hb, hr, hml, hB, hown, hlocks, hnm⟩ := id hC
  refine lv_iload_n hx hb dX1_mostAhead_0 rfl (lv_at hl 1 rfl) ?_
  refine lv_if_lt (tgt := 20) hx hb dX1_mostAhead_1 (by decide) (fun c9 => absurd c9 (by decide)) (fun _ => ?_)
  refine lv_iload_n hx hb dX1_mostAhead_4 rfl (lv_at hl 1 rfl) ?_
  refine lv_bipush (v := 6) hx hb dX1_mostAhead_5 (by decide) ?_
  refine lv_icmp_ge (tgt := 20) hx hb dX1_mostAhead_7 (by decide) (fun c9 => absurd c9 (by decide)) (fun _ => ?_)
  refine lv_iload_n hx hb dX1_mostAhead_10 rfl (lv_at hl 2 rfl) ?_
  refine lv_if_lt (tgt := 20) hx hb dX1_mostAhead_11 (by decide) (fun c9 => absurd c9 (by decide)) (fun _ => ?_)
  refine lv_iload_n hx hb dX1_mostAhead_14 rfl (lv_at hl 2 rfl) ?_
  refine lv_bipush (v := 6) hx hb dX1_mostAhead_15 (by decide) ?_
  refine lv_icmp_lt (tgt := 22) hx hb dX1_mostAhead_17 (by decide) (fun _ => ?_) (fun c9 => absurd (by decide) c9)
  refine lv_aload_n hx hb dX1_mostAhead_22 rfl (lv_at hl 0 rfl) ?_
  refine gf_X1_9 hC rfl hK hP 0 rfl rfl dX1_mostAhead_23 ?_
  refine lv_iload_n hx hb dX1_mostAhead_26 rfl (lv_at hl 1 rfl) ?_
  refine lv_bipush (v := 6) hx hb dX1_mostAhead_27 (by decide) ?_
  refine lv_imul hx hb dX1_mostAhead_29 ?_
  refine eqi (x1 := 0) (by decide) ?_
  refine lv_iload_n hx hb dX1_mostAhead_30 rfl (lv_at hl 2 rfl) ?_
  refine lv_iadd hx hb dX1_mostAhead_31 ?_
  refine eqi (x1 := 5) (by decide) ?_
  refine ald hC hK hP 1 rfl (vin (by decide +kernel)) (k := 5) (by decide +kernel) (v := 60) (rfl) dX1_mostAhead_32 ?_
  exact RP (v := 60) hC (rfl) rfl dX1_mostAhead_33
set_option maxHeartbeats 4000000 in
set_option maxRecDepth 100000 in
theorem c_mA_5_0 (l : Launch) (G : GG) (h0 : Nat) (cm : Nat) : MP l G yX1_mostAhead cX1_mostAhead 3 (some .int) 1 [.ref h0, .int 5, .int 0] [(h0, .inr (1, [.ref cm])), (cm, .inl (G.2.1, 36, .inl CL0))] (fun r : Int32 => r = 60) := by
  refine MP.start (by decide +kernel) (Nat.le_of_ble_eq_true rfl) ?_
  intro p e s m below meth c ls hC hK hP hD hl
  have hl : lv_has ls 3 [(0, .ref h0), (1, .int 5), (2, .int 0)] := hl
  obtain ⟨hx, hb, hr, hml, hB, hown, hlocks, hnm⟩ := id hC
  refine lv_iload_n hx hb dX1_mostAhead_0 rfl (lv_at hl 1 rfl) ?_
  refine lv_if_lt (tgt := 20) hx hb dX1_mostAhead_1 (by decide) (fun c9 => absurd c9 (by decide)) (fun _ => ?_)
  refine lv_iload_n hx hb dX1_mostAhead_4 rfl (lv_at hl 1 rfl) ?_
  refine lv_bipush (v := 6) hx hb dX1_mostAhead_5 (by decide) ?_
  refine lv_icmp_ge (tgt := 20) hx hb dX1_mostAhead_7 (by decide) (fun c9 => absurd c9 (by decide)) (fun _ => ?_)
  refine lv_iload_n hx hb dX1_mostAhead_10 rfl (lv_at hl 2 rfl) ?_
  refine lv_if_lt (tgt := 20) hx hb dX1_mostAhead_11 (by decide) (fun c9 => absurd c9 (by decide)) (fun _ => ?_)
  refine lv_iload_n hx hb dX1_mostAhead_14 rfl (lv_at hl 2 rfl) ?_
  refine lv_bipush (v := 6) hx hb dX1_mostAhead_15 (by decide) ?_
  refine lv_icmp_lt (tgt := 22) hx hb dX1_mostAhead_17 (by decide) (fun _ => ?_) (fun c9 => absurd (by decide) c9)
  refine lv_aload_n hx hb dX1_mostAhead_22 rfl (lv_at hl 0 rfl) ?_
  refine gf_X1_9 hC rfl hK hP 0 rfl rfl dX1_mostAhead_23 ?_
  refine lv_iload_n hx hb dX1_mostAhead_26 rfl (lv_at hl 1 rfl) ?_
  refine lv_bipush (v := 6) hx hb dX1_mostAhead_27 (by decide) ?_
  refine lv_imul hx hb dX1_mostAhead_29 ?_
  refine eqi (x1 := 30) (by decide) ?_
  refine lv_iload_n hx hb dX1_mostAhead_30 rfl (lv_at hl 2 rfl) ?_
  refine lv_iadd hx hb dX1_mostAhead_31 ?_
  refine eqi (x1 := 30) (by decide) ?_
  refine ald hC hK hP 1 rfl (vin (by decide +kernel)) (k := 30) (by decide +kernel) (v := 60) (rfl) dX1_mostAhead_32 ?_
  exact RP (v := 60) hC (rfl) rfl dX1_mostAhead_33
set_option maxHeartbeats 4000000 in
set_option maxRecDepth 100000 in
theorem c_ahead_0_0 (l : Launch) (G : GG) (h0 : Nat) (bk : Nat) (clk : Nat) (fi : Nat) (la : Nat) (ml : Nat) (mm : Nat) (sl : Nat) (sm : Nat) (clm : Nat) : MP l G yX7_ahead cX7_ahead 3 (some .int) 2 [.ref h0, .int 0, .int 0] [(h0, .inr (7, [.ref bk, .ref clk, .ref fi, .ref la, .ref ml, .ref mm, .ref sl, .ref sm, .int 0])), (clk, .inr (1, [.ref clm])), (clm, .inl (G.2.1, 36, .inl CL0))] (fun r : Int32 => r = 0) := by
  refine MP.start (by decide +kernel) (Nat.le_of_ble_eq_true rfl) ?_
  intro p e s m below meth c ls hC hK hP hD hl
  have hl : lv_has ls 3 [(0, .ref h0), (1, .int 0), (2, .int 0)] := hl
  obtain ⟨hx, hb, hr, hml, hB, hown, hlocks, hnm⟩ := id hC
  refine lv_iload_n hx hb dX7_ahead_0 rfl (lv_at hl 2 rfl) ?_
  refine lv_if_eq (tgt := 16) hx hb dX7_ahead_1 (by decide) (fun _ => ?_) (fun c9 => absurd (by decide) c9)
  refine lv_aload_n hx hb dX7_ahead_16 rfl (lv_at hl 0 rfl) ?_
  refine gf_X7_12 hC rfl hK hP 0 rfl rfl dX7_ahead_17 ?_
  refine lv_iload_n hx hb dX7_ahead_20 rfl (lv_at hl 1 rfl) ?_
  refine lv_iconst (v := 0) hx hb dX7_ahead_21 (by decide) ?_
  refine pV hC hK hl hP hD (c_mA_0_0 l G clk clm) si_X7_87 [1, 2] rfl rfl (by decide) rfl rfl rfl rfl rfl (Nat.le_of_ble_eq_true rfl) ⟨Nat.le_of_ble_eq_true rfl, Nat.le_of_ble_eq_true rfl⟩ ⟨by first | exact Nat.le_of_ble_eq_true rfl | exact Nat.zero_le _, by first | exact Nat.le_of_ble_eq_true rfl | exact Nat.zero_le _⟩ dX7_ahead_22 (fun r362 hr362 => ?_)
  obtain rfl := hr362
  refine lv_ineg hx hb dX7_ahead_25 ?_
  refine eqi (x1 := 0) (by decide) ?_
  exact RP (v := 0) hC (rfl) rfl dX7_ahead_26
set_option maxHeartbeats 4000000 in
set_option maxRecDepth 100000 in
theorem c_ahead_0_1 (l : Launch) (G : GG) (h0 : Nat) (bk : Nat) (clk : Nat) (fi : Nat) (la : Nat) (ml : Nat) (mm : Nat) (sl : Nat) (sm : Nat) (clm : Nat) : MP l G yX7_ahead cX7_ahead 3 (some .int) 2 [.ref h0, .int 0, .int 1] [(h0, .inr (7, [.ref bk, .ref clk, .ref fi, .ref la, .ref ml, .ref mm, .ref sl, .ref sm, .int 0])), (clk, .inr (1, [.ref clm])), (clm, .inl (G.2.1, 36, .inl CL0))] (fun r : Int32 => r = 0) := by
  refine MP.start (by decide +kernel) (Nat.le_of_ble_eq_true rfl) ?_
  intro p e s m below meth c ls hC hK hP hD hl
  have hl : lv_has ls 3 [(0, .ref h0), (1, .int 0), (2, .int 1)] := hl
  obtain ⟨hx, hb, hr, hml, hB, hown, hlocks, hnm⟩ := id hC
  refine lv_iload_n hx hb dX7_ahead_0 rfl (lv_at hl 2 rfl) ?_
  refine lv_if_eq (tgt := 16) hx hb dX7_ahead_1 (by decide) (fun c9 => absurd c9 (by decide)) (fun _ => ?_)
  refine lv_aload_n hx hb dX7_ahead_4 rfl (lv_at hl 0 rfl) ?_
  refine gf_X7_12 hC rfl hK hP 0 rfl rfl dX7_ahead_5 ?_
  refine lv_iconst (v := 0) hx hb dX7_ahead_8 (by decide) ?_
  refine lv_iload_n hx hb dX7_ahead_9 rfl (lv_at hl 1 rfl) ?_
  refine pV hC hK hl hP hD (c_mA_0_0 l G clk clm) si_X7_87 [1, 2] rfl rfl (by decide) rfl rfl rfl rfl rfl (Nat.le_of_ble_eq_true rfl) ⟨Nat.le_of_ble_eq_true rfl, Nat.le_of_ble_eq_true rfl⟩ ⟨by first | exact Nat.le_of_ble_eq_true rfl | exact Nat.zero_le _, by first | exact Nat.le_of_ble_eq_true rfl | exact Nat.zero_le _⟩ dX7_ahead_10 (fun r364 hr364 => ?_)
  obtain rfl := hr364
  refine lv_goto (tgt := 26) hx hb dX7_ahead_13 (by decide) ?_
  exact RP (v := 0) hC (rfl) rfl dX7_ahead_26
set_option maxHeartbeats 4000000 in
set_option maxRecDepth 100000 in
theorem c_ahead_1_0 (l : Launch) (G : GG) (h0 : Nat) (bk : Nat) (clk : Nat) (fi : Nat) (la : Nat) (ml : Nat) (mm : Nat) (sl : Nat) (sm : Nat) (clm : Nat) : MP l G yX7_ahead cX7_ahead 3 (some .int) 2 [.ref h0, .int 1, .int 0] [(h0, .inr (7, [.ref bk, .ref clk, .ref fi, .ref la, .ref ml, .ref mm, .ref sl, .ref sm, .int 0])), (clk, .inr (1, [.ref clm])), (clm, .inl (G.2.1, 36, .inl CL0))] (fun r : Int32 => r = (-60)) := by
  refine MP.start (by decide +kernel) (Nat.le_of_ble_eq_true rfl) ?_
  intro p e s m below meth c ls hC hK hP hD hl
  have hl : lv_has ls 3 [(0, .ref h0), (1, .int 1), (2, .int 0)] := hl
  obtain ⟨hx, hb, hr, hml, hB, hown, hlocks, hnm⟩ := id hC
  refine lv_iload_n hx hb dX7_ahead_0 rfl (lv_at hl 2 rfl) ?_
  refine lv_if_eq (tgt := 16) hx hb dX7_ahead_1 (by decide) (fun _ => ?_) (fun c9 => absurd (by decide) c9)
  refine lv_aload_n hx hb dX7_ahead_16 rfl (lv_at hl 0 rfl) ?_
  refine gf_X7_12 hC rfl hK hP 0 rfl rfl dX7_ahead_17 ?_
  refine lv_iload_n hx hb dX7_ahead_20 rfl (lv_at hl 1 rfl) ?_
  refine lv_iconst (v := 0) hx hb dX7_ahead_21 (by decide) ?_
  refine pV hC hK hl hP hD (c_mA_1_0 l G clk clm) si_X7_87 [1, 2] rfl rfl (by decide) rfl rfl rfl rfl rfl (Nat.le_of_ble_eq_true rfl) ⟨Nat.le_of_ble_eq_true rfl, Nat.le_of_ble_eq_true rfl⟩ ⟨by first | exact Nat.le_of_ble_eq_true rfl | exact Nat.zero_le _, by first | exact Nat.le_of_ble_eq_true rfl | exact Nat.zero_le _⟩ dX7_ahead_22 (fun r366 hr366 => ?_)
  obtain rfl := hr366
  refine lv_ineg hx hb dX7_ahead_25 ?_
  refine eqi (x1 := (-60)) (by decide) ?_
  exact RP (v := (-60)) hC (rfl) rfl dX7_ahead_26
set_option maxHeartbeats 4000000 in
set_option maxRecDepth 100000 in
theorem c_ahead_1_1 (l : Launch) (G : GG) (h0 : Nat) (bk : Nat) (clk : Nat) (fi : Nat) (la : Nat) (ml : Nat) (mm : Nat) (sl : Nat) (sm : Nat) (clm : Nat) : MP l G yX7_ahead cX7_ahead 3 (some .int) 2 [.ref h0, .int 1, .int 1] [(h0, .inr (7, [.ref bk, .ref clk, .ref fi, .ref la, .ref ml, .ref mm, .ref sl, .ref sm, .int 0])), (clk, .inr (1, [.ref clm])), (clm, .inl (G.2.1, 36, .inl CL0))] (fun r : Int32 => r = 60) := by
  refine MP.start (by decide +kernel) (Nat.le_of_ble_eq_true rfl) ?_
  intro p e s m below meth c ls hC hK hP hD hl
  have hl : lv_has ls 3 [(0, .ref h0), (1, .int 1), (2, .int 1)] := hl
  obtain ⟨hx, hb, hr, hml, hB, hown, hlocks, hnm⟩ := id hC
  refine lv_iload_n hx hb dX7_ahead_0 rfl (lv_at hl 2 rfl) ?_
  refine lv_if_eq (tgt := 16) hx hb dX7_ahead_1 (by decide) (fun c9 => absurd c9 (by decide)) (fun _ => ?_)
  refine lv_aload_n hx hb dX7_ahead_4 rfl (lv_at hl 0 rfl) ?_
  refine gf_X7_12 hC rfl hK hP 0 rfl rfl dX7_ahead_5 ?_
  refine lv_iconst (v := 0) hx hb dX7_ahead_8 (by decide) ?_
  refine lv_iload_n hx hb dX7_ahead_9 rfl (lv_at hl 1 rfl) ?_
  refine pV hC hK hl hP hD (c_mA_0_1 l G clk clm) si_X7_87 [1, 2] rfl rfl (by decide) rfl rfl rfl rfl rfl (Nat.le_of_ble_eq_true rfl) ⟨Nat.le_of_ble_eq_true rfl, Nat.le_of_ble_eq_true rfl⟩ ⟨by first | exact Nat.le_of_ble_eq_true rfl | exact Nat.zero_le _, by first | exact Nat.le_of_ble_eq_true rfl | exact Nat.zero_le _⟩ dX7_ahead_10 (fun r368 hr368 => ?_)
  obtain rfl := hr368
  refine lv_goto (tgt := 26) hx hb dX7_ahead_13 (by decide) ?_
  exact RP (v := 60) hC (rfl) rfl dX7_ahead_26
set_option maxHeartbeats 4000000 in
set_option maxRecDepth 100000 in
theorem c_ahead_2_0 (l : Launch) (G : GG) (h0 : Nat) (bk : Nat) (clk : Nat) (fi : Nat) (la : Nat) (ml : Nat) (mm : Nat) (sl : Nat) (sm : Nat) (clm : Nat) : MP l G yX7_ahead cX7_ahead 3 (some .int) 2 [.ref h0, .int 2, .int 0] [(h0, .inr (7, [.ref bk, .ref clk, .ref fi, .ref la, .ref ml, .ref mm, .ref sl, .ref sm, .int 0])), (clk, .inr (1, [.ref clm])), (clm, .inl (G.2.1, 36, .inl CL0))] (fun r : Int32 => r = (-60)) := by
  refine MP.start (by decide +kernel) (Nat.le_of_ble_eq_true rfl) ?_
  intro p e s m below meth c ls hC hK hP hD hl
  have hl : lv_has ls 3 [(0, .ref h0), (1, .int 2), (2, .int 0)] := hl
  obtain ⟨hx, hb, hr, hml, hB, hown, hlocks, hnm⟩ := id hC
  refine lv_iload_n hx hb dX7_ahead_0 rfl (lv_at hl 2 rfl) ?_
  refine lv_if_eq (tgt := 16) hx hb dX7_ahead_1 (by decide) (fun _ => ?_) (fun c9 => absurd (by decide) c9)
  refine lv_aload_n hx hb dX7_ahead_16 rfl (lv_at hl 0 rfl) ?_
  refine gf_X7_12 hC rfl hK hP 0 rfl rfl dX7_ahead_17 ?_
  refine lv_iload_n hx hb dX7_ahead_20 rfl (lv_at hl 1 rfl) ?_
  refine lv_iconst (v := 0) hx hb dX7_ahead_21 (by decide) ?_
  refine pV hC hK hl hP hD (c_mA_2_0 l G clk clm) si_X7_87 [1, 2] rfl rfl (by decide) rfl rfl rfl rfl rfl (Nat.le_of_ble_eq_true rfl) ⟨Nat.le_of_ble_eq_true rfl, Nat.le_of_ble_eq_true rfl⟩ ⟨by first | exact Nat.le_of_ble_eq_true rfl | exact Nat.zero_le _, by first | exact Nat.le_of_ble_eq_true rfl | exact Nat.zero_le _⟩ dX7_ahead_22 (fun r370 hr370 => ?_)
  obtain rfl := hr370
  refine lv_ineg hx hb dX7_ahead_25 ?_
  refine eqi (x1 := (-60)) (by decide) ?_
  exact RP (v := (-60)) hC (rfl) rfl dX7_ahead_26
set_option maxHeartbeats 4000000 in
set_option maxRecDepth 100000 in
theorem c_ahead_2_1 (l : Launch) (G : GG) (h0 : Nat) (bk : Nat) (clk : Nat) (fi : Nat) (la : Nat) (ml : Nat) (mm : Nat) (sl : Nat) (sm : Nat) (clm : Nat) : MP l G yX7_ahead cX7_ahead 3 (some .int) 2 [.ref h0, .int 2, .int 1] [(h0, .inr (7, [.ref bk, .ref clk, .ref fi, .ref la, .ref ml, .ref mm, .ref sl, .ref sm, .int 0])), (clk, .inr (1, [.ref clm])), (clm, .inl (G.2.1, 36, .inl CL0))] (fun r : Int32 => r = 60) := by
  refine MP.start (by decide +kernel) (Nat.le_of_ble_eq_true rfl) ?_
  intro p e s m below meth c ls hC hK hP hD hl
  have hl : lv_has ls 3 [(0, .ref h0), (1, .int 2), (2, .int 1)] := hl
  obtain ⟨hx, hb, hr, hml, hB, hown, hlocks, hnm⟩ := id hC
  refine lv_iload_n hx hb dX7_ahead_0 rfl (lv_at hl 2 rfl) ?_
  refine lv_if_eq (tgt := 16) hx hb dX7_ahead_1 (by decide) (fun c9 => absurd c9 (by decide)) (fun _ => ?_)
  refine lv_aload_n hx hb dX7_ahead_4 rfl (lv_at hl 0 rfl) ?_
  refine gf_X7_12 hC rfl hK hP 0 rfl rfl dX7_ahead_5 ?_
  refine lv_iconst (v := 0) hx hb dX7_ahead_8 (by decide) ?_
  refine lv_iload_n hx hb dX7_ahead_9 rfl (lv_at hl 1 rfl) ?_
  refine pV hC hK hl hP hD (c_mA_0_2 l G clk clm) si_X7_87 [1, 2] rfl rfl (by decide) rfl rfl rfl rfl rfl (Nat.le_of_ble_eq_true rfl) ⟨Nat.le_of_ble_eq_true rfl, Nat.le_of_ble_eq_true rfl⟩ ⟨by first | exact Nat.le_of_ble_eq_true rfl | exact Nat.zero_le _, by first | exact Nat.le_of_ble_eq_true rfl | exact Nat.zero_le _⟩ dX7_ahead_10 (fun r372 hr372 => ?_)
  obtain rfl := hr372
  refine lv_goto (tgt := 26) hx hb dX7_ahead_13 (by decide) ?_
  exact RP (v := 60) hC (rfl) rfl dX7_ahead_26
set_option maxHeartbeats 4000000 in
set_option maxRecDepth 100000 in
theorem c_ahead_3_0 (l : Launch) (G : GG) (h0 : Nat) (bk : Nat) (clk : Nat) (fi : Nat) (la : Nat) (ml : Nat) (mm : Nat) (sl : Nat) (sm : Nat) (clm : Nat) : MP l G yX7_ahead cX7_ahead 3 (some .int) 2 [.ref h0, .int 3, .int 0] [(h0, .inr (7, [.ref bk, .ref clk, .ref fi, .ref la, .ref ml, .ref mm, .ref sl, .ref sm, .int 0])), (clk, .inr (1, [.ref clm])), (clm, .inl (G.2.1, 36, .inl CL0))] (fun r : Int32 => r = (-60)) := by
  refine MP.start (by decide +kernel) (Nat.le_of_ble_eq_true rfl) ?_
  intro p e s m below meth c ls hC hK hP hD hl
  have hl : lv_has ls 3 [(0, .ref h0), (1, .int 3), (2, .int 0)] := hl
  obtain ⟨hx, hb, hr, hml, hB, hown, hlocks, hnm⟩ := id hC
  refine lv_iload_n hx hb dX7_ahead_0 rfl (lv_at hl 2 rfl) ?_
  refine lv_if_eq (tgt := 16) hx hb dX7_ahead_1 (by decide) (fun _ => ?_) (fun c9 => absurd (by decide) c9)
  refine lv_aload_n hx hb dX7_ahead_16 rfl (lv_at hl 0 rfl) ?_
  refine gf_X7_12 hC rfl hK hP 0 rfl rfl dX7_ahead_17 ?_
  refine lv_iload_n hx hb dX7_ahead_20 rfl (lv_at hl 1 rfl) ?_
  refine lv_iconst (v := 0) hx hb dX7_ahead_21 (by decide) ?_
  refine pV hC hK hl hP hD (c_mA_3_0 l G clk clm) si_X7_87 [1, 2] rfl rfl (by decide) rfl rfl rfl rfl rfl (Nat.le_of_ble_eq_true rfl) ⟨Nat.le_of_ble_eq_true rfl, Nat.le_of_ble_eq_true rfl⟩ ⟨by first | exact Nat.le_of_ble_eq_true rfl | exact Nat.zero_le _, by first | exact Nat.le_of_ble_eq_true rfl | exact Nat.zero_le _⟩ dX7_ahead_22 (fun r374 hr374 => ?_)
  obtain rfl := hr374
  refine lv_ineg hx hb dX7_ahead_25 ?_
  refine eqi (x1 := (-60)) (by decide) ?_
  exact RP (v := (-60)) hC (rfl) rfl dX7_ahead_26
set_option maxHeartbeats 4000000 in
set_option maxRecDepth 100000 in
theorem c_ahead_3_1 (l : Launch) (G : GG) (h0 : Nat) (bk : Nat) (clk : Nat) (fi : Nat) (la : Nat) (ml : Nat) (mm : Nat) (sl : Nat) (sm : Nat) (clm : Nat) : MP l G yX7_ahead cX7_ahead 3 (some .int) 2 [.ref h0, .int 3, .int 1] [(h0, .inr (7, [.ref bk, .ref clk, .ref fi, .ref la, .ref ml, .ref mm, .ref sl, .ref sm, .int 0])), (clk, .inr (1, [.ref clm])), (clm, .inl (G.2.1, 36, .inl CL0))] (fun r : Int32 => r = 60) := by
  refine MP.start (by decide +kernel) (Nat.le_of_ble_eq_true rfl) ?_
  intro p e s m below meth c ls hC hK hP hD hl
  have hl : lv_has ls 3 [(0, .ref h0), (1, .int 3), (2, .int 1)] := hl
  obtain ⟨hx, hb, hr, hml, hB, hown, hlocks, hnm⟩ := id hC
  refine lv_iload_n hx hb dX7_ahead_0 rfl (lv_at hl 2 rfl) ?_
  refine lv_if_eq (tgt := 16) hx hb dX7_ahead_1 (by decide) (fun c9 => absurd c9 (by decide)) (fun _ => ?_)
  refine lv_aload_n hx hb dX7_ahead_4 rfl (lv_at hl 0 rfl) ?_
  refine gf_X7_12 hC rfl hK hP 0 rfl rfl dX7_ahead_5 ?_
  refine lv_iconst (v := 0) hx hb dX7_ahead_8 (by decide) ?_
  refine lv_iload_n hx hb dX7_ahead_9 rfl (lv_at hl 1 rfl) ?_
  refine pV hC hK hl hP hD (c_mA_0_3 l G clk clm) si_X7_87 [1, 2] rfl rfl (by decide) rfl rfl rfl rfl rfl (Nat.le_of_ble_eq_true rfl) ⟨Nat.le_of_ble_eq_true rfl, Nat.le_of_ble_eq_true rfl⟩ ⟨by first | exact Nat.le_of_ble_eq_true rfl | exact Nat.zero_le _, by first | exact Nat.le_of_ble_eq_true rfl | exact Nat.zero_le _⟩ dX7_ahead_10 (fun r376 hr376 => ?_)
  obtain rfl := hr376
  refine lv_goto (tgt := 26) hx hb dX7_ahead_13 (by decide) ?_
  exact RP (v := 60) hC (rfl) rfl dX7_ahead_26
set_option maxHeartbeats 4000000 in
set_option maxRecDepth 100000 in
theorem c_ahead_4_0 (l : Launch) (G : GG) (h0 : Nat) (bk : Nat) (clk : Nat) (fi : Nat) (la : Nat) (ml : Nat) (mm : Nat) (sl : Nat) (sm : Nat) (clm : Nat) : MP l G yX7_ahead cX7_ahead 3 (some .int) 2 [.ref h0, .int 4, .int 0] [(h0, .inr (7, [.ref bk, .ref clk, .ref fi, .ref la, .ref ml, .ref mm, .ref sl, .ref sm, .int 0])), (clk, .inr (1, [.ref clm])), (clm, .inl (G.2.1, 36, .inl CL0))] (fun r : Int32 => r = (-60)) := by
  refine MP.start (by decide +kernel) (Nat.le_of_ble_eq_true rfl) ?_
  intro p e s m below meth c ls hC hK hP hD hl
  have hl : lv_has ls 3 [(0, .ref h0), (1, .int 4), (2, .int 0)] := hl
  obtain ⟨hx, hb, hr, hml, hB, hown, hlocks, hnm⟩ := id hC
  refine lv_iload_n hx hb dX7_ahead_0 rfl (lv_at hl 2 rfl) ?_
  refine lv_if_eq (tgt := 16) hx hb dX7_ahead_1 (by decide) (fun _ => ?_) (fun c9 => absurd (by decide) c9)
  refine lv_aload_n hx hb dX7_ahead_16 rfl (lv_at hl 0 rfl) ?_
  refine gf_X7_12 hC rfl hK hP 0 rfl rfl dX7_ahead_17 ?_
  refine lv_iload_n hx hb dX7_ahead_20 rfl (lv_at hl 1 rfl) ?_
  refine lv_iconst (v := 0) hx hb dX7_ahead_21 (by decide) ?_
  refine pV hC hK hl hP hD (c_mA_4_0 l G clk clm) si_X7_87 [1, 2] rfl rfl (by decide) rfl rfl rfl rfl rfl (Nat.le_of_ble_eq_true rfl) ⟨Nat.le_of_ble_eq_true rfl, Nat.le_of_ble_eq_true rfl⟩ ⟨by first | exact Nat.le_of_ble_eq_true rfl | exact Nat.zero_le _, by first | exact Nat.le_of_ble_eq_true rfl | exact Nat.zero_le _⟩ dX7_ahead_22 (fun r378 hr378 => ?_)
  obtain rfl := hr378
  refine lv_ineg hx hb dX7_ahead_25 ?_
  refine eqi (x1 := (-60)) (by decide) ?_
  exact RP (v := (-60)) hC (rfl) rfl dX7_ahead_26
set_option maxHeartbeats 4000000 in
set_option maxRecDepth 100000 in
theorem c_ahead_4_1 (l : Launch) (G : GG) (h0 : Nat) (bk : Nat) (clk : Nat) (fi : Nat) (la : Nat) (ml : Nat) (mm : Nat) (sl : Nat) (sm : Nat) (clm : Nat) : MP l G yX7_ahead cX7_ahead 3 (some .int) 2 [.ref h0, .int 4, .int 1] [(h0, .inr (7, [.ref bk, .ref clk, .ref fi, .ref la, .ref ml, .ref mm, .ref sl, .ref sm, .int 0])), (clk, .inr (1, [.ref clm])), (clm, .inl (G.2.1, 36, .inl CL0))] (fun r : Int32 => r = 60) := by
  refine MP.start (by decide +kernel) (Nat.le_of_ble_eq_true rfl) ?_
  intro p e s m below meth c ls hC hK hP hD hl
  have hl : lv_has ls 3 [(0, .ref h0), (1, .int 4), (2, .int 1)] := hl
  obtain ⟨hx, hb, hr, hml, hB, hown, hlocks, hnm⟩ := id hC
  refine lv_iload_n hx hb dX7_ahead_0 rfl (lv_at hl 2 rfl) ?_
  refine lv_if_eq (tgt := 16) hx hb dX7_ahead_1 (by decide) (fun c9 => absurd c9 (by decide)) (fun _ => ?_)
  refine lv_aload_n hx hb dX7_ahead_4 rfl (lv_at hl 0 rfl) ?_
  refine gf_X7_12 hC rfl hK hP 0 rfl rfl dX7_ahead_5 ?_
  refine lv_iconst (v := 0) hx hb dX7_ahead_8 (by decide) ?_
  refine lv_iload_n hx hb dX7_ahead_9 rfl (lv_at hl 1 rfl) ?_
  refine pV hC hK hl hP hD (c_mA_0_4 l G clk clm) si_X7_87 [1, 2] rfl rfl (by decide) rfl rfl rfl rfl rfl (Nat.le_of_ble_eq_true rfl) ⟨Nat.le_of_ble_eq_true rfl, Nat.le_of_ble_eq_true rfl⟩ ⟨by first | exact Nat.le_of_ble_eq_true rfl | exact Nat.zero_le _, by first | exact Nat.le_of_ble_eq_true rfl | exact Nat.zero_le _⟩ dX7_ahead_10 (fun r380 hr380 => ?_)
  obtain rfl := hr380
  refine lv_goto (tgt := 26) hx hb dX7_ahead_13 (by decide) ?_
  exact RP (v := 60) hC (rfl) rfl dX7_ahead_26
set_option maxHeartbeats 4000000 in
set_option maxRecDepth 100000 in
theorem c_ahead_5_0 (l : Launch) (G : GG) (h0 : Nat) (bk : Nat) (clk : Nat) (fi : Nat) (la : Nat) (ml : Nat) (mm : Nat) (sl : Nat) (sm : Nat) (clm : Nat) : MP l G yX7_ahead cX7_ahead 3 (some .int) 2 [.ref h0, .int 5, .int 0] [(h0, .inr (7, [.ref bk, .ref clk, .ref fi, .ref la, .ref ml, .ref mm, .ref sl, .ref sm, .int 0])), (clk, .inr (1, [.ref clm])), (clm, .inl (G.2.1, 36, .inl CL0))] (fun r : Int32 => r = (-60)) := by
  refine MP.start (by decide +kernel) (Nat.le_of_ble_eq_true rfl) ?_
  intro p e s m below meth c ls hC hK hP hD hl
  have hl : lv_has ls 3 [(0, .ref h0), (1, .int 5), (2, .int 0)] := hl
  obtain ⟨hx, hb, hr, hml, hB, hown, hlocks, hnm⟩ := id hC
  refine lv_iload_n hx hb dX7_ahead_0 rfl (lv_at hl 2 rfl) ?_
  refine lv_if_eq (tgt := 16) hx hb dX7_ahead_1 (by decide) (fun _ => ?_) (fun c9 => absurd (by decide) c9)
  refine lv_aload_n hx hb dX7_ahead_16 rfl (lv_at hl 0 rfl) ?_
  refine gf_X7_12 hC rfl hK hP 0 rfl rfl dX7_ahead_17 ?_
  refine lv_iload_n hx hb dX7_ahead_20 rfl (lv_at hl 1 rfl) ?_
  refine lv_iconst (v := 0) hx hb dX7_ahead_21 (by decide) ?_
  refine pV hC hK hl hP hD (c_mA_5_0 l G clk clm) si_X7_87 [1, 2] rfl rfl (by decide) rfl rfl rfl rfl rfl (Nat.le_of_ble_eq_true rfl) ⟨Nat.le_of_ble_eq_true rfl, Nat.le_of_ble_eq_true rfl⟩ ⟨by first | exact Nat.le_of_ble_eq_true rfl | exact Nat.zero_le _, by first | exact Nat.le_of_ble_eq_true rfl | exact Nat.zero_le _⟩ dX7_ahead_22 (fun r382 hr382 => ?_)
  obtain rfl := hr382
  refine lv_ineg hx hb dX7_ahead_25 ?_
  refine eqi (x1 := (-60)) (by decide) ?_
  exact RP (v := (-60)) hC (rfl) rfl dX7_ahead_26
set_option maxHeartbeats 4000000 in
set_option maxRecDepth 100000 in
theorem c_ahead_5_1 (l : Launch) (G : GG) (h0 : Nat) (bk : Nat) (clk : Nat) (fi : Nat) (la : Nat) (ml : Nat) (mm : Nat) (sl : Nat) (sm : Nat) (clm : Nat) : MP l G yX7_ahead cX7_ahead 3 (some .int) 2 [.ref h0, .int 5, .int 1] [(h0, .inr (7, [.ref bk, .ref clk, .ref fi, .ref la, .ref ml, .ref mm, .ref sl, .ref sm, .int 0])), (clk, .inr (1, [.ref clm])), (clm, .inl (G.2.1, 36, .inl CL0))] (fun r : Int32 => r = 60) := by
  refine MP.start (by decide +kernel) (Nat.le_of_ble_eq_true rfl) ?_
  intro p e s m below meth c ls hC hK hP hD hl
  have hl : lv_has ls 3 [(0, .ref h0), (1, .int 5), (2, .int 1)] := hl
  obtain ⟨hx, hb, hr, hml, hB, hown, hlocks, hnm⟩ := id hC
  refine lv_iload_n hx hb dX7_ahead_0 rfl (lv_at hl 2 rfl) ?_
  refine lv_if_eq (tgt := 16) hx hb dX7_ahead_1 (by decide) (fun c9 => absurd c9 (by decide)) (fun _ => ?_)
  refine lv_aload_n hx hb dX7_ahead_4 rfl (lv_at hl 0 rfl) ?_
  refine gf_X7_12 hC rfl hK hP 0 rfl rfl dX7_ahead_5 ?_
  refine lv_iconst (v := 0) hx hb dX7_ahead_8 (by decide) ?_
  refine lv_iload_n hx hb dX7_ahead_9 rfl (lv_at hl 1 rfl) ?_
  refine pV hC hK hl hP hD (c_mA_0_5 l G clk clm) si_X7_87 [1, 2] rfl rfl (by decide) rfl rfl rfl rfl rfl (Nat.le_of_ble_eq_true rfl) ⟨Nat.le_of_ble_eq_true rfl, Nat.le_of_ble_eq_true rfl⟩ ⟨by first | exact Nat.le_of_ble_eq_true rfl | exact Nat.zero_le _, by first | exact Nat.le_of_ble_eq_true rfl | exact Nat.zero_le _⟩ dX7_ahead_10 (fun r384 hr384 => ?_)
  obtain rfl := hr384
  refine lv_goto (tgt := 26) hx hb dX7_ahead_13 (by decide) ?_
  exact RP (v := 60) hC (rfl) rfl dX7_ahead_26
set_option maxHeartbeats 4000000 in
set_option maxRecDepth 100000 in
theorem c_span_0 (l : Launch) (G : GG) (h0 : Nat) (ck : Int32) (B : Nat) (K : Nat) (S : Nat) (D : Nat) (R : Nat) (Ta : Nat) (Tp : Nat) (Ro : Nat) (Ho : Nat) (De : Nat) (bpersons : Nat) (bpapers : Nat) (bstamps : Nat) (bversions : Nat) (blines : Nat) (bsteps : Nat) (bsayings : Nat) (bfindings : Nat) (bwarnings : Nat) (bquestions : Nat) (bpapersc : Nat) (bstampsc : Nat) (clk : Nat) (fi : Nat) (la : Nat) (ml : Nat) (mm : Nat) (sl : Nat) (sm : Nat) (clm : Nat) : MI l G yX11_span cX11_span 3 (some .int) 5 0 0 [.ref h0, .int ck, .int 0] [(h0, .inr (11, [.ref B, .ref K, .int 0, .ref S, .ref D, .ref R, .ref Ta, .ref Tp, .ref Ro, .ref Ho, .ref De])), (B, .inr (0, [.ref bpersons, .ref bpapers, .ref bstamps, .ref bversions, .ref blines, .ref bsteps, .ref bsayings, .ref bfindings, .ref bwarnings, .ref bquestions, .int 0, .int (-1), .int 3, .int 24])), (bpapers, .inr (8, [.int 12, .int 6, .ref bpapersc, .int 0])), (bstamps, .inr (8, [.int 24, .int 3, .ref bstampsc, .int 0])), (S, .inr (7, [.ref B, .ref clk, .ref fi, .ref la, .ref ml, .ref mm, .ref sl, .ref sm, .int 0])), (clk, .inr (1, [.ref clm])), (clm, .inl (G.2.1, 36, .inl (fun _ => 0))), (fi, .inl (G.2.1, 12, .inl (fun _ => 0))), (la, .inl (G.2.1, 12, .inl (fun _ => 0)))] (fun (r : Int32) (u : Unit) => (r = A_span ck 0)) (fun u : Unit => []) := by
  refine MI.start (by decide +kernel) (Nat.le_of_ble_eq_true rfl) ?_
  intro p e s m below meth c A ls hC hK hP hD hS hA hl
  have hl : lv_has ls 3 [(0, .ref h0), (1, .int ck), (2, .int 0)] := hl
  obtain ⟨hx, hb, hr, hml, hB, hown, hlocks, hnm⟩ := id hC
  refine lv_iload_n hx hb dX11_span_0 rfl (lv_at hl 1 rfl) ?_
  refine lv_iconst (v := 0) hx hb dX11_span_1 (by decide) ?_
  refine lv_iconst (v := 5) hx hb dX11_span_2 (by decide) ?_
  refine pS hC hK hl (c_within l G ck 0 5) si_X11_83 rfl rfl (Nat.le_of_ble_eq_true rfl) ⟨Nat.le_of_ble_eq_true rfl, Nat.le_of_ble_eq_true rfl⟩ ⟨by first | exact Nat.le_of_ble_eq_true rfl | exact Nat.zero_le _, by first | exact Nat.le_of_ble_eq_true rfl | exact Nat.zero_le _⟩ dX11_span_3 (fun r386 hr386 => ?_)
  rcases hr386 with ⟨rfl, a387⟩ | ⟨rfl, a387⟩
  · rcases Wi_c5 a387 with rfl | rfl | rfl | rfl | rfl | rfl
    · refine lv_if_ne (tgt := 11) hx hb dX11_span_6 (by decide) (fun _ => ?_) (fun c9 => absurd c9 (by decide))
      refine lv_aload_n hx hb dX11_span_11 rfl (lv_at hl 0 rfl) ?_
      refine gf_X11_28 hC rfl hK hP 0 rfl rfl dX11_span_12 ?_
      refine lv_aload_n hx hb dX11_span_15 rfl (lv_at hl 0 rfl) ?_
      refine gf_X11_15 hC rfl hK hP 0 rfl rfl dX11_span_16 ?_
      refine pV hC hK hl hP hD (c_inView l G B bpersons bpapers bstamps bversions blines bsteps bsayings bfindings bwarnings bquestions 0 (-1) 3 24 bpapersc) si_X11_97 [1, 2] rfl rfl (by decide) rfl rfl rfl rfl rfl (Nat.le_of_ble_eq_true rfl) ⟨Nat.le_of_ble_eq_true rfl, Nat.le_of_ble_eq_true rfl⟩ ⟨by first | exact Nat.le_of_ble_eq_true rfl | exact Nat.zero_le _, by first | exact Nat.le_of_ble_eq_true rfl | exact Nat.zero_le _⟩ dX11_span_19 (fun r388 hr388 => ?_)
      obtain rfl := hr388
      refine vV (wr := [(h0, .inr (11, [.ref B, .ref K, .int 0, .ref S, .ref D, .ref R, .ref Ta, .ref Tp, .ref Ro, .ref Ho, .ref De])), (bpapers, .inr (8, [.int 12, .int 6, .ref bpapersc, .int 0]))]) hC hK hl hP hD hS hA (c_look l G S B clk fi la ml mm sl sm clm bpersons bpapers bstamps bversions blines bsteps bsayings bfindings bwarnings bquestions 0 (-1) 3 24 bstampsc) si_X11_183 [4, 5, 6, 7, 8, 1, 3] [0, 2] rfl rfl (by decide) rfl (by decide) (by decide) rfl rfl rfl rfl rfl (Nat.le_of_ble_eq_true rfl) ⟨Nat.le_of_ble_eq_true rfl, Nat.le_of_ble_eq_true rfl⟩ ⟨Nat.le_of_ble_eq_true rfl, Nat.le_of_ble_eq_true rfl⟩ dX11_span_22 (fun u391 H locs hr390 hP hD hS => ?_)
      have hP : va_P G.1 vwCl [(h0, .inr (11, [.ref B, .ref K, .int 0, .ref S, .ref D, .ref R, .ref Ta, .ref Tp, .ref Ro, .ref Ho, .ref De])), (bpapers, .inr (8, [.int 12, .int 6, .ref bpapersc, .int 0])), (S, .inr (7, [.ref B, .ref clk, .ref fi, .ref la, .ref ml, .ref mm, .ref sl, .ref sm, .int 0])), (clk, .inr (1, [.ref clm])), (clm, .inl (G.2.1, 36, .inl CL0)), (fi, .inl (G.2.1, 12, .inl M12)), (la, .inl (G.2.1, 12, .inl M12)), (B, .inr (0, [.ref bpersons, .ref bpapers, .ref bstamps, .ref bversions, .ref blines, .ref bsteps, .ref bsayings, .ref bfindings, .ref bwarnings, .ref bquestions, .int 0, .int (-1), .int 3, .int 24])), (bstamps, .inr (8, [.int 24, .int 3, .ref bstampsc, .int 0]))] H := hP
      have hD : va_D A [(h0, .inr (11, [.ref B, .ref K, .int 0, .ref S, .ref D, .ref R, .ref Ta, .ref Tp, .ref Ro, .ref Ho, .ref De])), (bpapers, .inr (8, [.int 12, .int 6, .ref bpapersc, .int 0])), (S, .inr (7, [.ref B, .ref clk, .ref fi, .ref la, .ref ml, .ref mm, .ref sl, .ref sm, .int 0])), (clk, .inr (1, [.ref clm])), (clm, .inl (G.2.1, 36, .inl CL0)), (fi, .inl (G.2.1, 12, .inl M12)), (la, .inl (G.2.1, 12, .inl M12)), (B, .inr (0, [.ref bpersons, .ref bpapers, .ref bstamps, .ref bversions, .ref blines, .ref bsteps, .ref bsayings, .ref bfindings, .ref bwarnings, .ref bquestions, .int 0, .int (-1), .int 3, .int 24])), (bstamps, .inr (8, [.int 24, .int 3, .ref bstampsc, .int 0]))] := hD
      refine lv_aload_n hx hb dX11_span_25 rfl (lv_at hl 0 rfl) ?_
      refine gf_X11_28 hC rfl hK hP 0 rfl rfl dX11_span_26 ?_
      refine pV hC hK hl hP hD (c_clashes l G S B clk fi la ml mm sl sm) si_X11_187 [2] rfl rfl (by decide) rfl rfl rfl rfl rfl (Nat.le_of_ble_eq_true rfl) ⟨Nat.le_of_ble_eq_true rfl, Nat.le_of_ble_eq_true rfl⟩ ⟨by first | exact Nat.le_of_ble_eq_true rfl | exact Nat.zero_le _, by first | exact Nat.le_of_ble_eq_true rfl | exact Nat.zero_le _⟩ dX11_span_29 (fun r392 hr392 => ?_)
      obtain rfl := hr392
      refine lv_if_eq (tgt := 38) hx hb dX11_span_32 (by decide) (fun _ => ?_) (fun c9 => absurd (by decide) c9)
      refine lv_aload_n hx hb dX11_span_38 rfl (lv_at hl 0 rfl) ?_
      refine gf_X11_28 hC rfl hK hP 0 rfl rfl dX11_span_39 ?_
      refine lv_iload_n hx hb dX11_span_42 rfl (lv_at hl 1 rfl) ?_
      refine lv_iload_n hx hb dX11_span_43 rfl (lv_at hl 2 rfl) ?_
      refine pV hC hK hl hP hD (c_ahead_0_0 l G S B clk fi la ml mm sl sm clm) si_X11_190 [2, 3, 4] rfl rfl (by decide) rfl rfl rfl rfl rfl (Nat.le_of_ble_eq_true rfl) ⟨Nat.le_of_ble_eq_true rfl, Nat.le_of_ble_eq_true rfl⟩ ⟨by first | exact Nat.le_of_ble_eq_true rfl | exact Nat.zero_le _, by first | exact Nat.le_of_ble_eq_true rfl | exact Nat.zero_le _⟩ dX11_span_44 (fun r394 hr394 => ?_)
      obtain rfl := hr394
      refine lv_sipush (v := 1000) hx hb dX11_span_47 (by decide) ?_
      refine lv_iadd hx hb dX11_span_50 ?_
      refine eqi (x1 := 1000) (by decide) ?_
      exact RI (v := 1000) hC hP hD hS [] () rfl rfl (by decide) ((by unfold A_span; rw [ifc_t a387, ifc_t rfl])) rfl dX11_span_51
    · refine lv_if_ne (tgt := 11) hx hb dX11_span_6 (by decide) (fun _ => ?_) (fun c9 => absurd c9 (by decide))
      refine lv_aload_n hx hb dX11_span_11 rfl (lv_at hl 0 rfl) ?_
      refine gf_X11_28 hC rfl hK hP 0 rfl rfl dX11_span_12 ?_
      refine lv_aload_n hx hb dX11_span_15 rfl (lv_at hl 0 rfl) ?_
      refine gf_X11_15 hC rfl hK hP 0 rfl rfl dX11_span_16 ?_
      refine pV hC hK hl hP hD (c_inView l G B bpersons bpapers bstamps bversions blines bsteps bsayings bfindings bwarnings bquestions 0 (-1) 3 24 bpapersc) si_X11_97 [1, 2] rfl rfl (by decide) rfl rfl rfl rfl rfl (Nat.le_of_ble_eq_true rfl) ⟨Nat.le_of_ble_eq_true rfl, Nat.le_of_ble_eq_true rfl⟩ ⟨by first | exact Nat.le_of_ble_eq_true rfl | exact Nat.zero_le _, by first | exact Nat.le_of_ble_eq_true rfl | exact Nat.zero_le _⟩ dX11_span_19 (fun r396 hr396 => ?_)
      obtain rfl := hr396
      refine vV (wr := [(h0, .inr (11, [.ref B, .ref K, .int 0, .ref S, .ref D, .ref R, .ref Ta, .ref Tp, .ref Ro, .ref Ho, .ref De])), (bpapers, .inr (8, [.int 12, .int 6, .ref bpapersc, .int 0]))]) hC hK hl hP hD hS hA (c_look l G S B clk fi la ml mm sl sm clm bpersons bpapers bstamps bversions blines bsteps bsayings bfindings bwarnings bquestions 0 (-1) 3 24 bstampsc) si_X11_183 [4, 5, 6, 7, 8, 1, 3] [0, 2] rfl rfl (by decide) rfl (by decide) (by decide) rfl rfl rfl rfl rfl (Nat.le_of_ble_eq_true rfl) ⟨Nat.le_of_ble_eq_true rfl, Nat.le_of_ble_eq_true rfl⟩ ⟨Nat.le_of_ble_eq_true rfl, Nat.le_of_ble_eq_true rfl⟩ dX11_span_22 (fun u399 H locs hr398 hP hD hS => ?_)
      have hP : va_P G.1 vwCl [(h0, .inr (11, [.ref B, .ref K, .int 0, .ref S, .ref D, .ref R, .ref Ta, .ref Tp, .ref Ro, .ref Ho, .ref De])), (bpapers, .inr (8, [.int 12, .int 6, .ref bpapersc, .int 0])), (S, .inr (7, [.ref B, .ref clk, .ref fi, .ref la, .ref ml, .ref mm, .ref sl, .ref sm, .int 0])), (clk, .inr (1, [.ref clm])), (clm, .inl (G.2.1, 36, .inl CL0)), (fi, .inl (G.2.1, 12, .inl M12)), (la, .inl (G.2.1, 12, .inl M12)), (B, .inr (0, [.ref bpersons, .ref bpapers, .ref bstamps, .ref bversions, .ref blines, .ref bsteps, .ref bsayings, .ref bfindings, .ref bwarnings, .ref bquestions, .int 0, .int (-1), .int 3, .int 24])), (bstamps, .inr (8, [.int 24, .int 3, .ref bstampsc, .int 0]))] H := hP
      have hD : va_D A [(h0, .inr (11, [.ref B, .ref K, .int 0, .ref S, .ref D, .ref R, .ref Ta, .ref Tp, .ref Ro, .ref Ho, .ref De])), (bpapers, .inr (8, [.int 12, .int 6, .ref bpapersc, .int 0])), (S, .inr (7, [.ref B, .ref clk, .ref fi, .ref la, .ref ml, .ref mm, .ref sl, .ref sm, .int 0])), (clk, .inr (1, [.ref clm])), (clm, .inl (G.2.1, 36, .inl CL0)), (fi, .inl (G.2.1, 12, .inl M12)), (la, .inl (G.2.1, 12, .inl M12)), (B, .inr (0, [.ref bpersons, .ref bpapers, .ref bstamps, .ref bversions, .ref blines, .ref bsteps, .ref bsayings, .ref bfindings, .ref bwarnings, .ref bquestions, .int 0, .int (-1), .int 3, .int 24])), (bstamps, .inr (8, [.int 24, .int 3, .ref bstampsc, .int 0]))] := hD
      refine lv_aload_n hx hb dX11_span_25 rfl (lv_at hl 0 rfl) ?_
      refine gf_X11_28 hC rfl hK hP 0 rfl rfl dX11_span_26 ?_
      refine pV hC hK hl hP hD (c_clashes l G S B clk fi la ml mm sl sm) si_X11_187 [2] rfl rfl (by decide) rfl rfl rfl rfl rfl (Nat.le_of_ble_eq_true rfl) ⟨Nat.le_of_ble_eq_true rfl, Nat.le_of_ble_eq_true rfl⟩ ⟨by first | exact Nat.le_of_ble_eq_true rfl | exact Nat.zero_le _, by first | exact Nat.le_of_ble_eq_true rfl | exact Nat.zero_le _⟩ dX11_span_29 (fun r400 hr400 => ?_)
      obtain rfl := hr400
      refine lv_if_eq (tgt := 38) hx hb dX11_span_32 (by decide) (fun _ => ?_) (fun c9 => absurd (by decide) c9)
      refine lv_aload_n hx hb dX11_span_38 rfl (lv_at hl 0 rfl) ?_
      refine gf_X11_28 hC rfl hK hP 0 rfl rfl dX11_span_39 ?_
      refine lv_iload_n hx hb dX11_span_42 rfl (lv_at hl 1 rfl) ?_
      refine lv_iload_n hx hb dX11_span_43 rfl (lv_at hl 2 rfl) ?_
      refine pV hC hK hl hP hD (c_ahead_1_0 l G S B clk fi la ml mm sl sm clm) si_X11_190 [2, 3, 4] rfl rfl (by decide) rfl rfl rfl rfl rfl (Nat.le_of_ble_eq_true rfl) ⟨Nat.le_of_ble_eq_true rfl, Nat.le_of_ble_eq_true rfl⟩ ⟨by first | exact Nat.le_of_ble_eq_true rfl | exact Nat.zero_le _, by first | exact Nat.le_of_ble_eq_true rfl | exact Nat.zero_le _⟩ dX11_span_44 (fun r402 hr402 => ?_)
      obtain rfl := hr402
      refine lv_sipush (v := 1000) hx hb dX11_span_47 (by decide) ?_
      refine lv_iadd hx hb dX11_span_50 ?_
      refine eqi (x1 := 940) (by decide) ?_
      exact RI (v := 940) hC hP hD hS [] () rfl rfl (by decide) ((by unfold A_span; rw [ifc_t a387, ifc_f (by decide), ifc_t rfl])) rfl dX11_span_51
    · refine lv_if_ne (tgt := 11) hx hb dX11_span_6 (by decide) (fun _ => ?_) (fun c9 => absurd c9 (by decide))
      refine lv_aload_n hx hb dX11_span_11 rfl (lv_at hl 0 rfl) ?_
      refine gf_X11_28 hC rfl hK hP 0 rfl rfl dX11_span_12 ?_
      refine lv_aload_n hx hb dX11_span_15 rfl (lv_at hl 0 rfl) ?_
      refine gf_X11_15 hC rfl hK hP 0 rfl rfl dX11_span_16 ?_
      refine pV hC hK hl hP hD (c_inView l G B bpersons bpapers bstamps bversions blines bsteps bsayings bfindings bwarnings bquestions 0 (-1) 3 24 bpapersc) si_X11_97 [1, 2] rfl rfl (by decide) rfl rfl rfl rfl rfl (Nat.le_of_ble_eq_true rfl) ⟨Nat.le_of_ble_eq_true rfl, Nat.le_of_ble_eq_true rfl⟩ ⟨by first | exact Nat.le_of_ble_eq_true rfl | exact Nat.zero_le _, by first | exact Nat.le_of_ble_eq_true rfl | exact Nat.zero_le _⟩ dX11_span_19 (fun r404 hr404 => ?_)
      obtain rfl := hr404
      refine vV (wr := [(h0, .inr (11, [.ref B, .ref K, .int 0, .ref S, .ref D, .ref R, .ref Ta, .ref Tp, .ref Ro, .ref Ho, .ref De])), (bpapers, .inr (8, [.int 12, .int 6, .ref bpapersc, .int 0]))]) hC hK hl hP hD hS hA (c_look l G S B clk fi la ml mm sl sm clm bpersons bpapers bstamps bversions blines bsteps bsayings bfindings bwarnings bquestions 0 (-1) 3 24 bstampsc) si_X11_183 [4, 5, 6, 7, 8, 1, 3] [0, 2] rfl rfl (by decide) rfl (by decide) (by decide) rfl rfl rfl rfl rfl (Nat.le_of_ble_eq_true rfl) ⟨Nat.le_of_ble_eq_true rfl, Nat.le_of_ble_eq_true rfl⟩ ⟨Nat.le_of_ble_eq_true rfl, Nat.le_of_ble_eq_true rfl⟩ dX11_span_22 (fun u407 H locs hr406 hP hD hS => ?_)
      have hP : va_P G.1 vwCl [(h0, .inr (11, [.ref B, .ref K, .int 0, .ref S, .ref D, .ref R, .ref Ta, .ref Tp, .ref Ro, .ref Ho, .ref De])), (bpapers, .inr (8, [.int 12, .int 6, .ref bpapersc, .int 0])), (S, .inr (7, [.ref B, .ref clk, .ref fi, .ref la, .ref ml, .ref mm, .ref sl, .ref sm, .int 0])), (clk, .inr (1, [.ref clm])), (clm, .inl (G.2.1, 36, .inl CL0)), (fi, .inl (G.2.1, 12, .inl M12)), (la, .inl (G.2.1, 12, .inl M12)), (B, .inr (0, [.ref bpersons, .ref bpapers, .ref bstamps, .ref bversions, .ref blines, .ref bsteps, .ref bsayings, .ref bfindings, .ref bwarnings, .ref bquestions, .int 0, .int (-1), .int 3, .int 24])), (bstamps, .inr (8, [.int 24, .int 3, .ref bstampsc, .int 0]))] H := hP
      have hD : va_D A [(h0, .inr (11, [.ref B, .ref K, .int 0, .ref S, .ref D, .ref R, .ref Ta, .ref Tp, .ref Ro, .ref Ho, .ref De])), (bpapers, .inr (8, [.int 12, .int 6, .ref bpapersc, .int 0])), (S, .inr (7, [.ref B, .ref clk, .ref fi, .ref la, .ref ml, .ref mm, .ref sl, .ref sm, .int 0])), (clk, .inr (1, [.ref clm])), (clm, .inl (G.2.1, 36, .inl CL0)), (fi, .inl (G.2.1, 12, .inl M12)), (la, .inl (G.2.1, 12, .inl M12)), (B, .inr (0, [.ref bpersons, .ref bpapers, .ref bstamps, .ref bversions, .ref blines, .ref bsteps, .ref bsayings, .ref bfindings, .ref bwarnings, .ref bquestions, .int 0, .int (-1), .int 3, .int 24])), (bstamps, .inr (8, [.int 24, .int 3, .ref bstampsc, .int 0]))] := hD
      refine lv_aload_n hx hb dX11_span_25 rfl (lv_at hl 0 rfl) ?_
      refine gf_X11_28 hC rfl hK hP 0 rfl rfl dX11_span_26 ?_
      refine pV hC hK hl hP hD (c_clashes l G S B clk fi la ml mm sl sm) si_X11_187 [2] rfl rfl (by decide) rfl rfl rfl rfl rfl (Nat.le_of_ble_eq_true rfl) ⟨Nat.le_of_ble_eq_true rfl, Nat.le_of_ble_eq_true rfl⟩ ⟨by first | exact Nat.le_of_ble_eq_true rfl | exact Nat.zero_le _, by first | exact Nat.le_of_ble_eq_true rfl | exact Nat.zero_le _⟩ dX11_span_29 (fun r408 hr408 => ?_)
      obtain rfl := hr408
      refine lv_if_eq (tgt := 38) hx hb dX11_span_32 (by decide) (fun _ => ?_) (fun c9 => absurd (by decide) c9)
      refine lv_aload_n hx hb dX11_span_38 rfl (lv_at hl 0 rfl) ?_
      refine gf_X11_28 hC rfl hK hP 0 rfl rfl dX11_span_39 ?_
      refine lv_iload_n hx hb dX11_span_42 rfl (lv_at hl 1 rfl) ?_
      refine lv_iload_n hx hb dX11_span_43 rfl (lv_at hl 2 rfl) ?_
      refine pV hC hK hl hP hD (c_ahead_2_0 l G S B clk fi la ml mm sl sm clm) si_X11_190 [2, 3, 4] rfl rfl (by decide) rfl rfl rfl rfl rfl (Nat.le_of_ble_eq_true rfl) ⟨Nat.le_of_ble_eq_true rfl, Nat.le_of_ble_eq_true rfl⟩ ⟨by first | exact Nat.le_of_ble_eq_true rfl | exact Nat.zero_le _, by first | exact Nat.le_of_ble_eq_true rfl | exact Nat.zero_le _⟩ dX11_span_44 (fun r410 hr410 => ?_)
      obtain rfl := hr410
      refine lv_sipush (v := 1000) hx hb dX11_span_47 (by decide) ?_
      refine lv_iadd hx hb dX11_span_50 ?_
      refine eqi (x1 := 940) (by decide) ?_
      exact RI (v := 940) hC hP hD hS [] () rfl rfl (by decide) ((by unfold A_span; rw [ifc_t a387, ifc_f (by decide), ifc_t rfl])) rfl dX11_span_51
    · refine lv_if_ne (tgt := 11) hx hb dX11_span_6 (by decide) (fun _ => ?_) (fun c9 => absurd c9 (by decide))
      refine lv_aload_n hx hb dX11_span_11 rfl (lv_at hl 0 rfl) ?_
      refine gf_X11_28 hC rfl hK hP 0 rfl rfl dX11_span_12 ?_
      refine lv_aload_n hx hb dX11_span_15 rfl (lv_at hl 0 rfl) ?_
      refine gf_X11_15 hC rfl hK hP 0 rfl rfl dX11_span_16 ?_
      refine pV hC hK hl hP hD (c_inView l G B bpersons bpapers bstamps bversions blines bsteps bsayings bfindings bwarnings bquestions 0 (-1) 3 24 bpapersc) si_X11_97 [1, 2] rfl rfl (by decide) rfl rfl rfl rfl rfl (Nat.le_of_ble_eq_true rfl) ⟨Nat.le_of_ble_eq_true rfl, Nat.le_of_ble_eq_true rfl⟩ ⟨by first | exact Nat.le_of_ble_eq_true rfl | exact Nat.zero_le _, by first | exact Nat.le_of_ble_eq_true rfl | exact Nat.zero_le _⟩ dX11_span_19 (fun r412 hr412 => ?_)
      obtain rfl := hr412
      refine vV (wr := [(h0, .inr (11, [.ref B, .ref K, .int 0, .ref S, .ref D, .ref R, .ref Ta, .ref Tp, .ref Ro, .ref Ho, .ref De])), (bpapers, .inr (8, [.int 12, .int 6, .ref bpapersc, .int 0]))]) hC hK hl hP hD hS hA (c_look l G S B clk fi la ml mm sl sm clm bpersons bpapers bstamps bversions blines bsteps bsayings bfindings bwarnings bquestions 0 (-1) 3 24 bstampsc) si_X11_183 [4, 5, 6, 7, 8, 1, 3] [0, 2] rfl rfl (by decide) rfl (by decide) (by decide) rfl rfl rfl rfl rfl (Nat.le_of_ble_eq_true rfl) ⟨Nat.le_of_ble_eq_true rfl, Nat.le_of_ble_eq_true rfl⟩ ⟨Nat.le_of_ble_eq_true rfl, Nat.le_of_ble_eq_true rfl⟩ dX11_span_22 (fun u415 H locs hr414 hP hD hS => ?_)
      have hP : va_P G.1 vwCl [(h0, .inr (11, [.ref B, .ref K, .int 0, .ref S, .ref D, .ref R, .ref Ta, .ref Tp, .ref Ro, .ref Ho, .ref De])), (bpapers, .inr (8, [.int 12, .int 6, .ref bpapersc, .int 0])), (S, .inr (7, [.ref B, .ref clk, .ref fi, .ref la, .ref ml, .ref mm, .ref sl, .ref sm, .int 0])), (clk, .inr (1, [.ref clm])), (clm, .inl (G.2.1, 36, .inl CL0)), (fi, .inl (G.2.1, 12, .inl M12)), (la, .inl (G.2.1, 12, .inl M12)), (B, .inr (0, [.ref bpersons, .ref bpapers, .ref bstamps, .ref bversions, .ref blines, .ref bsteps, .ref bsayings, .ref bfindings, .ref bwarnings, .ref bquestions, .int 0, .int (-1), .int 3, .int 24])), (bstamps, .inr (8, [.int 24, .int 3, .ref bstampsc, .int 0]))] H := hP
      have hD : va_D A [(h0, .inr (11, [.ref B, .ref K, .int 0, .ref S, .ref D, .ref R, .ref Ta, .ref Tp, .ref Ro, .ref Ho, .ref De])), (bpapers, .inr (8, [.int 12, .int 6, .ref bpapersc, .int 0])), (S, .inr (7, [.ref B, .ref clk, .ref fi, .ref la, .ref ml, .ref mm, .ref sl, .ref sm, .int 0])), (clk, .inr (1, [.ref clm])), (clm, .inl (G.2.1, 36, .inl CL0)), (fi, .inl (G.2.1, 12, .inl M12)), (la, .inl (G.2.1, 12, .inl M12)), (B, .inr (0, [.ref bpersons, .ref bpapers, .ref bstamps, .ref bversions, .ref blines, .ref bsteps, .ref bsayings, .ref bfindings, .ref bwarnings, .ref bquestions, .int 0, .int (-1), .int 3, .int 24])), (bstamps, .inr (8, [.int 24, .int 3, .ref bstampsc, .int 0]))] := hD
      refine lv_aload_n hx hb dX11_span_25 rfl (lv_at hl 0 rfl) ?_
      refine gf_X11_28 hC rfl hK hP 0 rfl rfl dX11_span_26 ?_
      refine pV hC hK hl hP hD (c_clashes l G S B clk fi la ml mm sl sm) si_X11_187 [2] rfl rfl (by decide) rfl rfl rfl rfl rfl (Nat.le_of_ble_eq_true rfl) ⟨Nat.le_of_ble_eq_true rfl, Nat.le_of_ble_eq_true rfl⟩ ⟨by first | exact Nat.le_of_ble_eq_true rfl | exact Nat.zero_le _, by first | exact Nat.le_of_ble_eq_true rfl | exact Nat.zero_le _⟩ dX11_span_29 (fun r416 hr416 => ?_)
      obtain rfl := hr416
      refine lv_if_eq (tgt := 38) hx hb dX11_span_32 (by decide) (fun _ => ?_) (fun c9 => absurd (by decide) c9)
      refine lv_aload_n hx hb dX11_span_38 rfl (lv_at hl 0 rfl) ?_
      refine gf_X11_28 hC rfl hK hP 0 rfl rfl dX11_span_39 ?_
      refine lv_iload_n hx hb dX11_span_42 rfl (lv_at hl 1 rfl) ?_
      refine lv_iload_n hx hb dX11_span_43 rfl (lv_at hl 2 rfl) ?_
      refine pV hC hK hl hP hD (c_ahead_3_0 l G S B clk fi la ml mm sl sm clm) si_X11_190 [2, 3, 4] rfl rfl (by decide) rfl rfl rfl rfl rfl (Nat.le_of_ble_eq_true rfl) ⟨Nat.le_of_ble_eq_true rfl, Nat.le_of_ble_eq_true rfl⟩ ⟨by first | exact Nat.le_of_ble_eq_true rfl | exact Nat.zero_le _, by first | exact Nat.le_of_ble_eq_true rfl | exact Nat.zero_le _⟩ dX11_span_44 (fun r418 hr418 => ?_)
      obtain rfl := hr418
      refine lv_sipush (v := 1000) hx hb dX11_span_47 (by decide) ?_
      refine lv_iadd hx hb dX11_span_50 ?_
      refine eqi (x1 := 940) (by decide) ?_
      exact RI (v := 940) hC hP hD hS [] () rfl rfl (by decide) ((by unfold A_span; rw [ifc_t a387, ifc_f (by decide), ifc_t rfl])) rfl dX11_span_51
    · refine lv_if_ne (tgt := 11) hx hb dX11_span_6 (by decide) (fun _ => ?_) (fun c9 => absurd c9 (by decide))
      refine lv_aload_n hx hb dX11_span_11 rfl (lv_at hl 0 rfl) ?_
      refine gf_X11_28 hC rfl hK hP 0 rfl rfl dX11_span_12 ?_
      refine lv_aload_n hx hb dX11_span_15 rfl (lv_at hl 0 rfl) ?_
      refine gf_X11_15 hC rfl hK hP 0 rfl rfl dX11_span_16 ?_
      refine pV hC hK hl hP hD (c_inView l G B bpersons bpapers bstamps bversions blines bsteps bsayings bfindings bwarnings bquestions 0 (-1) 3 24 bpapersc) si_X11_97 [1, 2] rfl rfl (by decide) rfl rfl rfl rfl rfl (Nat.le_of_ble_eq_true rfl) ⟨Nat.le_of_ble_eq_true rfl, Nat.le_of_ble_eq_true rfl⟩ ⟨by first | exact Nat.le_of_ble_eq_true rfl | exact Nat.zero_le _, by first | exact Nat.le_of_ble_eq_true rfl | exact Nat.zero_le _⟩ dX11_span_19 (fun r420 hr420 => ?_)
      obtain rfl := hr420
      refine vV (wr := [(h0, .inr (11, [.ref B, .ref K, .int 0, .ref S, .ref D, .ref R, .ref Ta, .ref Tp, .ref Ro, .ref Ho, .ref De])), (bpapers, .inr (8, [.int 12, .int 6, .ref bpapersc, .int 0]))]) hC hK hl hP hD hS hA (c_look l G S B clk fi la ml mm sl sm clm bpersons bpapers bstamps bversions blines bsteps bsayings bfindings bwarnings bquestions 0 (-1) 3 24 bstampsc) si_X11_183 [4, 5, 6, 7, 8, 1, 3] [0, 2] rfl rfl (by decide) rfl (by decide) (by decide) rfl rfl rfl rfl rfl (Nat.le_of_ble_eq_true rfl) ⟨Nat.le_of_ble_eq_true rfl, Nat.le_of_ble_eq_true rfl⟩ ⟨Nat.le_of_ble_eq_true rfl, Nat.le_of_ble_eq_true rfl⟩ dX11_span_22 (fun u423 H locs hr422 hP hD hS => ?_)
      have hP : va_P G.1 vwCl [(h0, .inr (11, [.ref B, .ref K, .int 0, .ref S, .ref D, .ref R, .ref Ta, .ref Tp, .ref Ro, .ref Ho, .ref De])), (bpapers, .inr (8, [.int 12, .int 6, .ref bpapersc, .int 0])), (S, .inr (7, [.ref B, .ref clk, .ref fi, .ref la, .ref ml, .ref mm, .ref sl, .ref sm, .int 0])), (clk, .inr (1, [.ref clm])), (clm, .inl (G.2.1, 36, .inl CL0)), (fi, .inl (G.2.1, 12, .inl M12)), (la, .inl (G.2.1, 12, .inl M12)), (B, .inr (0, [.ref bpersons, .ref bpapers, .ref bstamps, .ref bversions, .ref blines, .ref bsteps, .ref bsayings, .ref bfindings, .ref bwarnings, .ref bquestions, .int 0, .int (-1), .int 3, .int 24])), (bstamps, .inr (8, [.int 24, .int 3, .ref bstampsc, .int 0]))] H := hP
      have hD : va_D A [(h0, .inr (11, [.ref B, .ref K, .int 0, .ref S, .ref D, .ref R, .ref Ta, .ref Tp, .ref Ro, .ref Ho, .ref De])), (bpapers, .inr (8, [.int 12, .int 6, .ref bpapersc, .int 0])), (S, .inr (7, [.ref B, .ref clk, .ref fi, .ref la, .ref ml, .ref mm, .ref sl, .ref sm, .int 0])), (clk, .inr (1, [.ref clm])), (clm, .inl (G.2.1, 36, .inl CL0)), (fi, .inl (G.2.1, 12, .inl M12)), (la, .inl (G.2.1, 12, .inl M12)), (B, .inr (0, [.ref bpersons, .ref bpapers, .ref bstamps, .ref bversions, .ref blines, .ref bsteps, .ref bsayings, .ref bfindings, .ref bwarnings, .ref bquestions, .int 0, .int (-1), .int 3, .int 24])), (bstamps, .inr (8, [.int 24, .int 3, .ref bstampsc, .int 0]))] := hD
      refine lv_aload_n hx hb dX11_span_25 rfl (lv_at hl 0 rfl) ?_
      refine gf_X11_28 hC rfl hK hP 0 rfl rfl dX11_span_26 ?_
      refine pV hC hK hl hP hD (c_clashes l G S B clk fi la ml mm sl sm) si_X11_187 [2] rfl rfl (by decide) rfl rfl rfl rfl rfl (Nat.le_of_ble_eq_true rfl) ⟨Nat.le_of_ble_eq_true rfl, Nat.le_of_ble_eq_true rfl⟩ ⟨by first | exact Nat.le_of_ble_eq_true rfl | exact Nat.zero_le _, by first | exact Nat.le_of_ble_eq_true rfl | exact Nat.zero_le _⟩ dX11_span_29 (fun r424 hr424 => ?_)
      obtain rfl := hr424
      refine lv_if_eq (tgt := 38) hx hb dX11_span_32 (by decide) (fun _ => ?_) (fun c9 => absurd (by decide) c9)
      refine lv_aload_n hx hb dX11_span_38 rfl (lv_at hl 0 rfl) ?_
      refine gf_X11_28 hC rfl hK hP 0 rfl rfl dX11_span_39 ?_
      refine lv_iload_n hx hb dX11_span_42 rfl (lv_at hl 1 rfl) ?_
      refine lv_iload_n hx hb dX11_span_43 rfl (lv_at hl 2 rfl) ?_
      refine pV hC hK hl hP hD (c_ahead_4_0 l G S B clk fi la ml mm sl sm clm) si_X11_190 [2, 3, 4] rfl rfl (by decide) rfl rfl rfl rfl rfl (Nat.le_of_ble_eq_true rfl) ⟨Nat.le_of_ble_eq_true rfl, Nat.le_of_ble_eq_true rfl⟩ ⟨by first | exact Nat.le_of_ble_eq_true rfl | exact Nat.zero_le _, by first | exact Nat.le_of_ble_eq_true rfl | exact Nat.zero_le _⟩ dX11_span_44 (fun r426 hr426 => ?_)
      obtain rfl := hr426
      refine lv_sipush (v := 1000) hx hb dX11_span_47 (by decide) ?_
      refine lv_iadd hx hb dX11_span_50 ?_
      refine eqi (x1 := 940) (by decide) ?_
      exact RI (v := 940) hC hP hD hS [] () rfl rfl (by decide) ((by unfold A_span; rw [ifc_t a387, ifc_f (by decide), ifc_t rfl])) rfl dX11_span_51
    · refine lv_if_ne (tgt := 11) hx hb dX11_span_6 (by decide) (fun _ => ?_) (fun c9 => absurd c9 (by decide))
      refine lv_aload_n hx hb dX11_span_11 rfl (lv_at hl 0 rfl) ?_
      refine gf_X11_28 hC rfl hK hP 0 rfl rfl dX11_span_12 ?_
      refine lv_aload_n hx hb dX11_span_15 rfl (lv_at hl 0 rfl) ?_
      refine gf_X11_15 hC rfl hK hP 0 rfl rfl dX11_span_16 ?_
      refine pV hC hK hl hP hD (c_inView l G B bpersons bpapers bstamps bversions blines bsteps bsayings bfindings bwarnings bquestions 0 (-1) 3 24 bpapersc) si_X11_97 [1, 2] rfl rfl (by decide) rfl rfl rfl rfl rfl (Nat.le_of_ble_eq_true rfl) ⟨Nat.le_of_ble_eq_true rfl, Nat.le_of_ble_eq_true rfl⟩ ⟨by first | exact Nat.le_of_ble_eq_true rfl | exact Nat.zero_le _, by first | exact Nat.le_of_ble_eq_true rfl | exact Nat.zero_le _⟩ dX11_span_19 (fun r428 hr428 => ?_)
      obtain rfl := hr428
      refine vV (wr := [(h0, .inr (11, [.ref B, .ref K, .int 0, .ref S, .ref D, .ref R, .ref Ta, .ref Tp, .ref Ro, .ref Ho, .ref De])), (bpapers, .inr (8, [.int 12, .int 6, .ref bpapersc, .int 0]))]) hC hK hl hP hD hS hA (c_look l G S B clk fi la ml mm sl sm clm bpersons bpapers bstamps bversions blines bsteps bsayings bfindings bwarnings bquestions 0 (-1) 3 24 bstampsc) si_X11_183 [4, 5, 6, 7, 8, 1, 3] [0, 2] rfl rfl (by decide) rfl (by decide) (by decide) rfl rfl rfl rfl rfl (Nat.le_of_ble_eq_true rfl) ⟨Nat.le_of_ble_eq_true rfl, Nat.le_of_ble_eq_true rfl⟩ ⟨Nat.le_of_ble_eq_true rfl, Nat.le_of_ble_eq_true rfl⟩ dX11_span_22 (fun u431 H locs hr430 hP hD hS => ?_)
      have hP : va_P G.1 vwCl [(h0, .inr (11, [.ref B, .ref K, .int 0, .ref S, .ref D, .ref R, .ref Ta, .ref Tp, .ref Ro, .ref Ho, .ref De])), (bpapers, .inr (8, [.int 12, .int 6, .ref bpapersc, .int 0])), (S, .inr (7, [.ref B, .ref clk, .ref fi, .ref la, .ref ml, .ref mm, .ref sl, .ref sm, .int 0])), (clk, .inr (1, [.ref clm])), (clm, .inl (G.2.1, 36, .inl CL0)), (fi, .inl (G.2.1, 12, .inl M12)), (la, .inl (G.2.1, 12, .inl M12)), (B, .inr (0, [.ref bpersons, .ref bpapers, .ref bstamps, .ref bversions, .ref blines, .ref bsteps, .ref bsayings, .ref bfindings, .ref bwarnings, .ref bquestions, .int 0, .int (-1), .int 3, .int 24])), (bstamps, .inr (8, [.int 24, .int 3, .ref bstampsc, .int 0]))] H := hP
      have hD : va_D A [(h0, .inr (11, [.ref B, .ref K, .int 0, .ref S, .ref D, .ref R, .ref Ta, .ref Tp, .ref Ro, .ref Ho, .ref De])), (bpapers, .inr (8, [.int 12, .int 6, .ref bpapersc, .int 0])), (S, .inr (7, [.ref B, .ref clk, .ref fi, .ref la, .ref ml, .ref mm, .ref sl, .ref sm, .int 0])), (clk, .inr (1, [.ref clm])), (clm, .inl (G.2.1, 36, .inl CL0)), (fi, .inl (G.2.1, 12, .inl M12)), (la, .inl (G.2.1, 12, .inl M12)), (B, .inr (0, [.ref bpersons, .ref bpapers, .ref bstamps, .ref bversions, .ref blines, .ref bsteps, .ref bsayings, .ref bfindings, .ref bwarnings, .ref bquestions, .int 0, .int (-1), .int 3, .int 24])), (bstamps, .inr (8, [.int 24, .int 3, .ref bstampsc, .int 0]))] := hD
      refine lv_aload_n hx hb dX11_span_25 rfl (lv_at hl 0 rfl) ?_
      refine gf_X11_28 hC rfl hK hP 0 rfl rfl dX11_span_26 ?_
      refine pV hC hK hl hP hD (c_clashes l G S B clk fi la ml mm sl sm) si_X11_187 [2] rfl rfl (by decide) rfl rfl rfl rfl rfl (Nat.le_of_ble_eq_true rfl) ⟨Nat.le_of_ble_eq_true rfl, Nat.le_of_ble_eq_true rfl⟩ ⟨by first | exact Nat.le_of_ble_eq_true rfl | exact Nat.zero_le _, by first | exact Nat.le_of_ble_eq_true rfl | exact Nat.zero_le _⟩ dX11_span_29 (fun r432 hr432 => ?_)
      obtain rfl := hr432
      refine lv_if_eq (tgt := 38) hx hb dX11_span_32 (by decide) (fun _ => ?_) (fun c9 => absurd (by decide) c9)
      refine lv_aload_n hx hb dX11_span_38 rfl (lv_at hl 0 rfl) ?_
      refine gf_X11_28 hC rfl hK hP 0 rfl rfl dX11_span_39 ?_
      refine lv_iload_n hx hb dX11_span_42 rfl (lv_at hl 1 rfl) ?_
      refine lv_iload_n hx hb dX11_span_43 rfl (lv_at hl 2 rfl) ?_
      refine pV hC hK hl hP hD (c_ahead_5_0 l G S B clk fi la ml mm sl sm clm) si_X11_190 [2, 3, 4] rfl rfl (by decide) rfl rfl rfl rfl rfl (Nat.le_of_ble_eq_true rfl) ⟨Nat.le_of_ble_eq_true rfl, Nat.le_of_ble_eq_true rfl⟩ ⟨by first | exact Nat.le_of_ble_eq_true rfl | exact Nat.zero_le _, by first | exact Nat.le_of_ble_eq_true rfl | exact Nat.zero_le _⟩ dX11_span_44 (fun r434 hr434 => ?_)
      obtain rfl := hr434
      refine lv_sipush (v := 1000) hx hb dX11_span_47 (by decide) ?_
      refine lv_iadd hx hb dX11_span_50 ?_
      refine eqi (x1 := 940) (by decide) ?_
      exact RI (v := 940) hC hP hD hS [] () rfl rfl (by decide) ((by unfold A_span; rw [ifc_t a387, ifc_f (by decide), ifc_t rfl])) rfl dX11_span_51
  · refine lv_if_ne (tgt := 11) hx hb dX11_span_6 (by decide) (fun c9 => absurd (by decide) c9) (fun _ => ?_)
    refine lv_iconst (v := (-1)) hx hb dX11_span_9 (by decide) ?_
    exact RI (v := (-1)) hC hP hD hS [] () rfl rfl (by decide) ((by unfold A_span; rw [ifc_f a387])) rfl dX11_span_10
set_option maxHeartbeats 4000000 in
set_option maxRecDepth 100000 in
theorem c_span_1 (l : Launch) (G : GG) (h0 : Nat) (ck : Int32) (B : Nat) (K : Nat) (S : Nat) (D : Nat) (R : Nat) (Ta : Nat) (Tp : Nat) (Ro : Nat) (Ho : Nat) (De : Nat) (bpersons : Nat) (bpapers : Nat) (bstamps : Nat) (bversions : Nat) (blines : Nat) (bsteps : Nat) (bsayings : Nat) (bfindings : Nat) (bwarnings : Nat) (bquestions : Nat) (bpapersc : Nat) (bstampsc : Nat) (clk : Nat) (fi : Nat) (la : Nat) (ml : Nat) (mm : Nat) (sl : Nat) (sm : Nat) (clm : Nat) : MI l G yX11_span cX11_span 3 (some .int) 5 0 0 [.ref h0, .int ck, .int 1] [(h0, .inr (11, [.ref B, .ref K, .int 0, .ref S, .ref D, .ref R, .ref Ta, .ref Tp, .ref Ro, .ref Ho, .ref De])), (B, .inr (0, [.ref bpersons, .ref bpapers, .ref bstamps, .ref bversions, .ref blines, .ref bsteps, .ref bsayings, .ref bfindings, .ref bwarnings, .ref bquestions, .int 0, .int (-1), .int 3, .int 24])), (bpapers, .inr (8, [.int 12, .int 6, .ref bpapersc, .int 0])), (bstamps, .inr (8, [.int 24, .int 3, .ref bstampsc, .int 0])), (S, .inr (7, [.ref B, .ref clk, .ref fi, .ref la, .ref ml, .ref mm, .ref sl, .ref sm, .int 0])), (clk, .inr (1, [.ref clm])), (clm, .inl (G.2.1, 36, .inl (fun _ => 0))), (fi, .inl (G.2.1, 12, .inl (fun _ => 0))), (la, .inl (G.2.1, 12, .inl (fun _ => 0)))] (fun (r : Int32) (u : Unit) => (r = A_span ck 1)) (fun u : Unit => []) := by
  refine MI.start (by decide +kernel) (Nat.le_of_ble_eq_true rfl) ?_
  intro p e s m below meth c A ls hC hK hP hD hS hA hl
  have hl : lv_has ls 3 [(0, .ref h0), (1, .int ck), (2, .int 1)] := hl
  obtain ⟨hx, hb, hr, hml, hB, hown, hlocks, hnm⟩ := id hC
  refine lv_iload_n hx hb dX11_span_0 rfl (lv_at hl 1 rfl) ?_
  refine lv_iconst (v := 0) hx hb dX11_span_1 (by decide) ?_
  refine lv_iconst (v := 5) hx hb dX11_span_2 (by decide) ?_
  refine pS hC hK hl (c_within l G ck 0 5) si_X11_83 rfl rfl (Nat.le_of_ble_eq_true rfl) ⟨Nat.le_of_ble_eq_true rfl, Nat.le_of_ble_eq_true rfl⟩ ⟨by first | exact Nat.le_of_ble_eq_true rfl | exact Nat.zero_le _, by first | exact Nat.le_of_ble_eq_true rfl | exact Nat.zero_le _⟩ dX11_span_3 (fun r436 hr436 => ?_)
  rcases hr436 with ⟨rfl, a437⟩ | ⟨rfl, a437⟩
  · rcases Wi_c5 a437 with rfl | rfl | rfl | rfl | rfl | rfl
    · refine lv_if_ne (tgt := 11) hx hb dX11_span_6 (by decide) (fun _ => ?_) (fun c9 => absurd c9 (by decide))
      refine lv_aload_n hx hb dX11_span_11 rfl (lv_at hl 0 rfl) ?_
      refine gf_X11_28 hC rfl hK hP 0 rfl rfl dX11_span_12 ?_
      refine lv_aload_n hx hb dX11_span_15 rfl (lv_at hl 0 rfl) ?_
      refine gf_X11_15 hC rfl hK hP 0 rfl rfl dX11_span_16 ?_
      refine pV hC hK hl hP hD (c_inView l G B bpersons bpapers bstamps bversions blines bsteps bsayings bfindings bwarnings bquestions 0 (-1) 3 24 bpapersc) si_X11_97 [1, 2] rfl rfl (by decide) rfl rfl rfl rfl rfl (Nat.le_of_ble_eq_true rfl) ⟨Nat.le_of_ble_eq_true rfl, Nat.le_of_ble_eq_true rfl⟩ ⟨by first | exact Nat.le_of_ble_eq_true rfl | exact Nat.zero_le _, by first | exact Nat.le_of_ble_eq_true rfl | exact Nat.zero_le _⟩ dX11_span_19 (fun r438 hr438 => ?_)
      obtain rfl := hr438
      refine vV (wr := [(h0, .inr (11, [.ref B, .ref K, .int 0, .ref S, .ref D, .ref R, .ref Ta, .ref Tp, .ref Ro, .ref Ho, .ref De])), (bpapers, .inr (8, [.int 12, .int 6, .ref bpapersc, .int 0]))]) hC hK hl hP hD hS hA (c_look l G S B clk fi la ml mm sl sm clm bpersons bpapers bstamps bversions blines bsteps bsayings bfindings bwarnings bquestions 0 (-1) 3 24 bstampsc) si_X11_183 [4, 5, 6, 7, 8, 1, 3] [0, 2] rfl rfl (by decide) rfl (by decide) (by decide) rfl rfl rfl rfl rfl (Nat.le_of_ble_eq_true rfl) ⟨Nat.le_of_ble_eq_true rfl, Nat.le_of_ble_eq_true rfl⟩ ⟨Nat.le_of_ble_eq_true rfl, Nat.le_of_ble_eq_true rfl⟩ dX11_span_22 (fun u441 H locs hr440 hP hD hS => ?_)
      have hP : va_P G.1 vwCl [(h0, .inr (11, [.ref B, .ref K, .int 0, .ref S, .ref D, .ref R, .ref Ta, .ref Tp, .ref Ro, .ref Ho, .ref De])), (bpapers, .inr (8, [.int 12, .int 6, .ref bpapersc, .int 0])), (S, .inr (7, [.ref B, .ref clk, .ref fi, .ref la, .ref ml, .ref mm, .ref sl, .ref sm, .int 0])), (clk, .inr (1, [.ref clm])), (clm, .inl (G.2.1, 36, .inl CL0)), (fi, .inl (G.2.1, 12, .inl M12)), (la, .inl (G.2.1, 12, .inl M12)), (B, .inr (0, [.ref bpersons, .ref bpapers, .ref bstamps, .ref bversions, .ref blines, .ref bsteps, .ref bsayings, .ref bfindings, .ref bwarnings, .ref bquestions, .int 0, .int (-1), .int 3, .int 24])), (bstamps, .inr (8, [.int 24, .int 3, .ref bstampsc, .int 0]))] H := hP
      have hD : va_D A [(h0, .inr (11, [.ref B, .ref K, .int 0, .ref S, .ref D, .ref R, .ref Ta, .ref Tp, .ref Ro, .ref Ho, .ref De])), (bpapers, .inr (8, [.int 12, .int 6, .ref bpapersc, .int 0])), (S, .inr (7, [.ref B, .ref clk, .ref fi, .ref la, .ref ml, .ref mm, .ref sl, .ref sm, .int 0])), (clk, .inr (1, [.ref clm])), (clm, .inl (G.2.1, 36, .inl CL0)), (fi, .inl (G.2.1, 12, .inl M12)), (la, .inl (G.2.1, 12, .inl M12)), (B, .inr (0, [.ref bpersons, .ref bpapers, .ref bstamps, .ref bversions, .ref blines, .ref bsteps, .ref bsayings, .ref bfindings, .ref bwarnings, .ref bquestions, .int 0, .int (-1), .int 3, .int 24])), (bstamps, .inr (8, [.int 24, .int 3, .ref bstampsc, .int 0]))] := hD
      refine lv_aload_n hx hb dX11_span_25 rfl (lv_at hl 0 rfl) ?_
      refine gf_X11_28 hC rfl hK hP 0 rfl rfl dX11_span_26 ?_
      refine pV hC hK hl hP hD (c_clashes l G S B clk fi la ml mm sl sm) si_X11_187 [2] rfl rfl (by decide) rfl rfl rfl rfl rfl (Nat.le_of_ble_eq_true rfl) ⟨Nat.le_of_ble_eq_true rfl, Nat.le_of_ble_eq_true rfl⟩ ⟨by first | exact Nat.le_of_ble_eq_true rfl | exact Nat.zero_le _, by first | exact Nat.le_of_ble_eq_true rfl | exact Nat.zero_le _⟩ dX11_span_29 (fun r442 hr442 => ?_)
      obtain rfl := hr442
      refine lv_if_eq (tgt := 38) hx hb dX11_span_32 (by decide) (fun _ => ?_) (fun c9 => absurd (by decide) c9)
      refine lv_aload_n hx hb dX11_span_38 rfl (lv_at hl 0 rfl) ?_
      refine gf_X11_28 hC rfl hK hP 0 rfl rfl dX11_span_39 ?_
      refine lv_iload_n hx hb dX11_span_42 rfl (lv_at hl 1 rfl) ?_
      refine lv_iload_n hx hb dX11_span_43 rfl (lv_at hl 2 rfl) ?_
      refine pV hC hK hl hP hD (c_ahead_0_1 l G S B clk fi la ml mm sl sm clm) si_X11_190 [2, 3, 4] rfl rfl (by decide) rfl rfl rfl rfl rfl (Nat.le_of_ble_eq_true rfl) ⟨Nat.le_of_ble_eq_true rfl, Nat.le_of_ble_eq_true rfl⟩ ⟨by first | exact Nat.le_of_ble_eq_true rfl | exact Nat.zero_le _, by first | exact Nat.le_of_ble_eq_true rfl | exact Nat.zero_le _⟩ dX11_span_44 (fun r444 hr444 => ?_)
      obtain rfl := hr444
      refine lv_sipush (v := 1000) hx hb dX11_span_47 (by decide) ?_
      refine lv_iadd hx hb dX11_span_50 ?_
      refine eqi (x1 := 1000) (by decide) ?_
      exact RI (v := 1000) hC hP hD hS [] () rfl rfl (by decide) ((by unfold A_span; rw [ifc_t a437, ifc_t rfl])) rfl dX11_span_51
    · refine lv_if_ne (tgt := 11) hx hb dX11_span_6 (by decide) (fun _ => ?_) (fun c9 => absurd c9 (by decide))
      refine lv_aload_n hx hb dX11_span_11 rfl (lv_at hl 0 rfl) ?_
      refine gf_X11_28 hC rfl hK hP 0 rfl rfl dX11_span_12 ?_
      refine lv_aload_n hx hb dX11_span_15 rfl (lv_at hl 0 rfl) ?_
      refine gf_X11_15 hC rfl hK hP 0 rfl rfl dX11_span_16 ?_
      refine pV hC hK hl hP hD (c_inView l G B bpersons bpapers bstamps bversions blines bsteps bsayings bfindings bwarnings bquestions 0 (-1) 3 24 bpapersc) si_X11_97 [1, 2] rfl rfl (by decide) rfl rfl rfl rfl rfl (Nat.le_of_ble_eq_true rfl) ⟨Nat.le_of_ble_eq_true rfl, Nat.le_of_ble_eq_true rfl⟩ ⟨by first | exact Nat.le_of_ble_eq_true rfl | exact Nat.zero_le _, by first | exact Nat.le_of_ble_eq_true rfl | exact Nat.zero_le _⟩ dX11_span_19 (fun r446 hr446 => ?_)
      obtain rfl := hr446
      refine vV (wr := [(h0, .inr (11, [.ref B, .ref K, .int 0, .ref S, .ref D, .ref R, .ref Ta, .ref Tp, .ref Ro, .ref Ho, .ref De])), (bpapers, .inr (8, [.int 12, .int 6, .ref bpapersc, .int 0]))]) hC hK hl hP hD hS hA (c_look l G S B clk fi la ml mm sl sm clm bpersons bpapers bstamps bversions blines bsteps bsayings bfindings bwarnings bquestions 0 (-1) 3 24 bstampsc) si_X11_183 [4, 5, 6, 7, 8, 1, 3] [0, 2] rfl rfl (by decide) rfl (by decide) (by decide) rfl rfl rfl rfl rfl (Nat.le_of_ble_eq_true rfl) ⟨Nat.le_of_ble_eq_true rfl, Nat.le_of_ble_eq_true rfl⟩ ⟨Nat.le_of_ble_eq_true rfl, Nat.le_of_ble_eq_true rfl⟩ dX11_span_22 (fun u449 H locs hr448 hP hD hS => ?_)
      have hP : va_P G.1 vwCl [(h0, .inr (11, [.ref B, .ref K, .int 0, .ref S, .ref D, .ref R, .ref Ta, .ref Tp, .ref Ro, .ref Ho, .ref De])), (bpapers, .inr (8, [.int 12, .int 6, .ref bpapersc, .int 0])), (S, .inr (7, [.ref B, .ref clk, .ref fi, .ref la, .ref ml, .ref mm, .ref sl, .ref sm, .int 0])), (clk, .inr (1, [.ref clm])), (clm, .inl (G.2.1, 36, .inl CL0)), (fi, .inl (G.2.1, 12, .inl M12)), (la, .inl (G.2.1, 12, .inl M12)), (B, .inr (0, [.ref bpersons, .ref bpapers, .ref bstamps, .ref bversions, .ref blines, .ref bsteps, .ref bsayings, .ref bfindings, .ref bwarnings, .ref bquestions, .int 0, .int (-1), .int 3, .int 24])), (bstamps, .inr (8, [.int 24, .int 3, .ref bstampsc, .int 0]))] H := hP
      have hD : va_D A [(h0, .inr (11, [.ref B, .ref K, .int 0, .ref S, .ref D, .ref R, .ref Ta, .ref Tp, .ref Ro, .ref Ho, .ref De])), (bpapers, .inr (8, [.int 12, .int 6, .ref bpapersc, .int 0])), (S, .inr (7, [.ref B, .ref clk, .ref fi, .ref la, .ref ml, .ref mm, .ref sl, .ref sm, .int 0])), (clk, .inr (1, [.ref clm])), (clm, .inl (G.2.1, 36, .inl CL0)), (fi, .inl (G.2.1, 12, .inl M12)), (la, .inl (G.2.1, 12, .inl M12)), (B, .inr (0, [.ref bpersons, .ref bpapers, .ref bstamps, .ref bversions, .ref blines, .ref bsteps, .ref bsayings, .ref bfindings, .ref bwarnings, .ref bquestions, .int 0, .int (-1), .int 3, .int 24])), (bstamps, .inr (8, [.int 24, .int 3, .ref bstampsc, .int 0]))] := hD
      refine lv_aload_n hx hb dX11_span_25 rfl (lv_at hl 0 rfl) ?_
      refine gf_X11_28 hC rfl hK hP 0 rfl rfl dX11_span_26 ?_
      refine pV hC hK hl hP hD (c_clashes l G S B clk fi la ml mm sl sm) si_X11_187 [2] rfl rfl (by decide) rfl rfl rfl rfl rfl (Nat.le_of_ble_eq_true rfl) ⟨Nat.le_of_ble_eq_true rfl, Nat.le_of_ble_eq_true rfl⟩ ⟨by first | exact Nat.le_of_ble_eq_true rfl | exact Nat.zero_le _, by first | exact Nat.le_of_ble_eq_true rfl | exact Nat.zero_le _⟩ dX11_span_29 (fun r450 hr450 => ?_)
      obtain rfl := hr450
      refine lv_if_eq (tgt := 38) hx hb dX11_span_32 (by decide) (fun _ => ?_) (fun c9 => absurd (by decide) c9)
      refine lv_aload_n hx hb dX11_span_38 rfl (lv_at hl 0 rfl) ?_
      refine gf_X11_28 hC rfl hK hP 0 rfl rfl dX11_span_39 ?_
      refine lv_iload_n hx hb dX11_span_42 rfl (lv_at hl 1 rfl) ?_
      refine lv_iload_n hx hb dX11_span_43 rfl (lv_at hl 2 rfl) ?_
      refine pV hC hK hl hP hD (c_ahead_1_1 l G S B clk fi la ml mm sl sm clm) si_X11_190 [2, 3, 4] rfl rfl (by decide) rfl rfl rfl rfl rfl (Nat.le_of_ble_eq_true rfl) ⟨Nat.le_of_ble_eq_true rfl, Nat.le_of_ble_eq_true rfl⟩ ⟨by first | exact Nat.le_of_ble_eq_true rfl | exact Nat.zero_le _, by first | exact Nat.le_of_ble_eq_true rfl | exact Nat.zero_le _⟩ dX11_span_44 (fun r452 hr452 => ?_)
      obtain rfl := hr452
      refine lv_sipush (v := 1000) hx hb dX11_span_47 (by decide) ?_
      refine lv_iadd hx hb dX11_span_50 ?_
      refine eqi (x1 := 1060) (by decide) ?_
      exact RI (v := 1060) hC hP hD hS [] () rfl rfl (by decide) ((by unfold A_span; rw [ifc_t a437, ifc_f (by decide), ifc_f (by decide)])) rfl dX11_span_51
    · refine lv_if_ne (tgt := 11) hx hb dX11_span_6 (by decide) (fun _ => ?_) (fun c9 => absurd c9 (by decide))
      refine lv_aload_n hx hb dX11_span_11 rfl (lv_at hl 0 rfl) ?_
      refine gf_X11_28 hC rfl hK hP 0 rfl rfl dX11_span_12 ?_
      refine lv_aload_n hx hb dX11_span_15 rfl (lv_at hl 0 rfl) ?_
      refine gf_X11_15 hC rfl hK hP 0 rfl rfl dX11_span_16 ?_
      refine pV hC hK hl hP hD (c_inView l G B bpersons bpapers bstamps bversions blines bsteps bsayings bfindings bwarnings bquestions 0 (-1) 3 24 bpapersc) si_X11_97 [1, 2] rfl rfl (by decide) rfl rfl rfl rfl rfl (Nat.le_of_ble_eq_true rfl) ⟨Nat.le_of_ble_eq_true rfl, Nat.le_of_ble_eq_true rfl⟩ ⟨by first | exact Nat.le_of_ble_eq_true rfl | exact Nat.zero_le _, by first | exact Nat.le_of_ble_eq_true rfl | exact Nat.zero_le _⟩ dX11_span_19 (fun r454 hr454 => ?_)
      obtain rfl := hr454
      refine vV (wr := [(h0, .inr (11, [.ref B, .ref K, .int 0, .ref S, .ref D, .ref R, .ref Ta, .ref Tp, .ref Ro, .ref Ho, .ref De])), (bpapers, .inr (8, [.int 12, .int 6, .ref bpapersc, .int 0]))]) hC hK hl hP hD hS hA (c_look l G S B clk fi la ml mm sl sm clm bpersons bpapers bstamps bversions blines bsteps bsayings bfindings bwarnings bquestions 0 (-1) 3 24 bstampsc) si_X11_183 [4, 5, 6, 7, 8, 1, 3] [0, 2] rfl rfl (by decide) rfl (by decide) (by decide) rfl rfl rfl rfl rfl (Nat.le_of_ble_eq_true rfl) ⟨Nat.le_of_ble_eq_true rfl, Nat.le_of_ble_eq_true rfl⟩ ⟨Nat.le_of_ble_eq_true rfl, Nat.le_of_ble_eq_true rfl⟩ dX11_span_22 (fun u457 H locs hr456 hP hD hS => ?_)
      have hP : va_P G.1 vwCl [(h0, .inr (11, [.ref B, .ref K, .int 0, .ref S, .ref D, .ref R, .ref Ta, .ref Tp, .ref Ro, .ref Ho, .ref De])), (bpapers, .inr (8, [.int 12, .int 6, .ref bpapersc, .int 0])), (S, .inr (7, [.ref B, .ref clk, .ref fi, .ref la, .ref ml, .ref mm, .ref sl, .ref sm, .int 0])), (clk, .inr (1, [.ref clm])), (clm, .inl (G.2.1, 36, .inl CL0)), (fi, .inl (G.2.1, 12, .inl M12)), (la, .inl (G.2.1, 12, .inl M12)), (B, .inr (0, [.ref bpersons, .ref bpapers, .ref bstamps, .ref bversions, .ref blines, .ref bsteps, .ref bsayings, .ref bfindings, .ref bwarnings, .ref bquestions, .int 0, .int (-1), .int 3, .int 24])), (bstamps, .inr (8, [.int 24, .int 3, .ref bstampsc, .int 0]))] H := hP
      have hD : va_D A [(h0, .inr (11, [.ref B, .ref K, .int 0, .ref S, .ref D, .ref R, .ref Ta, .ref Tp, .ref Ro, .ref Ho, .ref De])), (bpapers, .inr (8, [.int 12, .int 6, .ref bpapersc, .int 0])), (S, .inr (7, [.ref B, .ref clk, .ref fi, .ref la, .ref ml, .ref mm, .ref sl, .ref sm, .int 0])), (clk, .inr (1, [.ref clm])), (clm, .inl (G.2.1, 36, .inl CL0)), (fi, .inl (G.2.1, 12, .inl M12)), (la, .inl (G.2.1, 12, .inl M12)), (B, .inr (0, [.ref bpersons, .ref bpapers, .ref bstamps, .ref bversions, .ref blines, .ref bsteps, .ref bsayings, .ref bfindings, .ref bwarnings, .ref bquestions, .int 0, .int (-1), .int 3, .int 24])), (bstamps, .inr (8, [.int 24, .int 3, .ref bstampsc, .int 0]))] := hD
      refine lv_aload_n hx hb dX11_span_25 rfl (lv_at hl 0 rfl) ?_
      refine gf_X11_28 hC rfl hK hP 0 rfl rfl dX11_span_26 ?_
      refine pV hC hK hl hP hD (c_clashes l G S B clk fi la ml mm sl sm) si_X11_187 [2] rfl rfl (by decide) rfl rfl rfl rfl rfl (Nat.le_of_ble_eq_true rfl) ⟨Nat.le_of_ble_eq_true rfl, Nat.le_of_ble_eq_true rfl⟩ ⟨by first | exact Nat.le_of_ble_eq_true rfl | exact Nat.zero_le _, by first | exact Nat.le_of_ble_eq_true rfl | exact Nat.zero_le _⟩ dX11_span_29 (fun r458 hr458 => ?_)
      obtain rfl := hr458
      refine lv_if_eq (tgt := 38) hx hb dX11_span_32 (by decide) (fun _ => ?_) (fun c9 => absurd (by decide) c9)
      refine lv_aload_n hx hb dX11_span_38 rfl (lv_at hl 0 rfl) ?_
      refine gf_X11_28 hC rfl hK hP 0 rfl rfl dX11_span_39 ?_
      refine lv_iload_n hx hb dX11_span_42 rfl (lv_at hl 1 rfl) ?_
      refine lv_iload_n hx hb dX11_span_43 rfl (lv_at hl 2 rfl) ?_
      refine pV hC hK hl hP hD (c_ahead_2_1 l G S B clk fi la ml mm sl sm clm) si_X11_190 [2, 3, 4] rfl rfl (by decide) rfl rfl rfl rfl rfl (Nat.le_of_ble_eq_true rfl) ⟨Nat.le_of_ble_eq_true rfl, Nat.le_of_ble_eq_true rfl⟩ ⟨by first | exact Nat.le_of_ble_eq_true rfl | exact Nat.zero_le _, by first | exact Nat.le_of_ble_eq_true rfl | exact Nat.zero_le _⟩ dX11_span_44 (fun r460 hr460 => ?_)
      obtain rfl := hr460
      refine lv_sipush (v := 1000) hx hb dX11_span_47 (by decide) ?_
      refine lv_iadd hx hb dX11_span_50 ?_
      refine eqi (x1 := 1060) (by decide) ?_
      exact RI (v := 1060) hC hP hD hS [] () rfl rfl (by decide) ((by unfold A_span; rw [ifc_t a437, ifc_f (by decide), ifc_f (by decide)])) rfl dX11_span_51
    · refine lv_if_ne (tgt := 11) hx hb dX11_span_6 (by decide) (fun _ => ?_) (fun c9 => absurd c9 (by decide))
      refine lv_aload_n hx hb dX11_span_11 rfl (lv_at hl 0 rfl) ?_
      refine gf_X11_28 hC rfl hK hP 0 rfl rfl dX11_span_12 ?_
      refine lv_aload_n hx hb dX11_span_15 rfl (lv_at hl 0 rfl) ?_
      refine gf_X11_15 hC rfl hK hP 0 rfl rfl dX11_span_16 ?_
      refine pV hC hK hl hP hD (c_inView l G B bpersons bpapers bstamps bversions blines bsteps bsayings bfindings bwarnings bquestions 0 (-1) 3 24 bpapersc) si_X11_97 [1, 2] rfl rfl (by decide) rfl rfl rfl rfl rfl (Nat.le_of_ble_eq_true rfl) ⟨Nat.le_of_ble_eq_true rfl, Nat.le_of_ble_eq_true rfl⟩ ⟨by first | exact Nat.le_of_ble_eq_true rfl | exact Nat.zero_le _, by first | exact Nat.le_of_ble_eq_true rfl | exact Nat.zero_le _⟩ dX11_span_19 (fun r462 hr462 => ?_)
      obtain rfl := hr462
      refine vV (wr := [(h0, .inr (11, [.ref B, .ref K, .int 0, .ref S, .ref D, .ref R, .ref Ta, .ref Tp, .ref Ro, .ref Ho, .ref De])), (bpapers, .inr (8, [.int 12, .int 6, .ref bpapersc, .int 0]))]) hC hK hl hP hD hS hA (c_look l G S B clk fi la ml mm sl sm clm bpersons bpapers bstamps bversions blines bsteps bsayings bfindings bwarnings bquestions 0 (-1) 3 24 bstampsc) si_X11_183 [4, 5, 6, 7, 8, 1, 3] [0, 2] rfl rfl (by decide) rfl (by decide) (by decide) rfl rfl rfl rfl rfl (Nat.le_of_ble_eq_true rfl) ⟨Nat.le_of_ble_eq_true rfl, Nat.le_of_ble_eq_true rfl⟩ ⟨Nat.le_of_ble_eq_true rfl, Nat.le_of_ble_eq_true rfl⟩ dX11_span_22 (fun u465 H locs hr464 hP hD hS => ?_)
      have hP : va_P G.1 vwCl [(h0, .inr (11, [.ref B, .ref K, .int 0, .ref S, .ref D, .ref R, .ref Ta, .ref Tp, .ref Ro, .ref Ho, .ref De])), (bpapers, .inr (8, [.int 12, .int 6, .ref bpapersc, .int 0])), (S, .inr (7, [.ref B, .ref clk, .ref fi, .ref la, .ref ml, .ref mm, .ref sl, .ref sm, .int 0])), (clk, .inr (1, [.ref clm])), (clm, .inl (G.2.1, 36, .inl CL0)), (fi, .inl (G.2.1, 12, .inl M12)), (la, .inl (G.2.1, 12, .inl M12)), (B, .inr (0, [.ref bpersons, .ref bpapers, .ref bstamps, .ref bversions, .ref blines, .ref bsteps, .ref bsayings, .ref bfindings, .ref bwarnings, .ref bquestions, .int 0, .int (-1), .int 3, .int 24])), (bstamps, .inr (8, [.int 24, .int 3, .ref bstampsc, .int 0]))] H := hP
      have hD : va_D A [(h0, .inr (11, [.ref B, .ref K, .int 0, .ref S, .ref D, .ref R, .ref Ta, .ref Tp, .ref Ro, .ref Ho, .ref De])), (bpapers, .inr (8, [.int 12, .int 6, .ref bpapersc, .int 0])), (S, .inr (7, [.ref B, .ref clk, .ref fi, .ref la, .ref ml, .ref mm, .ref sl, .ref sm, .int 0])), (clk, .inr (1, [.ref clm])), (clm, .inl (G.2.1, 36, .inl CL0)), (fi, .inl (G.2.1, 12, .inl M12)), (la, .inl (G.2.1, 12, .inl M12)), (B, .inr (0, [.ref bpersons, .ref bpapers, .ref bstamps, .ref bversions, .ref blines, .ref bsteps, .ref bsayings, .ref bfindings, .ref bwarnings, .ref bquestions, .int 0, .int (-1), .int 3, .int 24])), (bstamps, .inr (8, [.int 24, .int 3, .ref bstampsc, .int 0]))] := hD
      refine lv_aload_n hx hb dX11_span_25 rfl (lv_at hl 0 rfl) ?_
      refine gf_X11_28 hC rfl hK hP 0 rfl rfl dX11_span_26 ?_
      refine pV hC hK hl hP hD (c_clashes l G S B clk fi la ml mm sl sm) si_X11_187 [2] rfl rfl (by decide) rfl rfl rfl rfl rfl (Nat.le_of_ble_eq_true rfl) ⟨Nat.le_of_ble_eq_true rfl, Nat.le_of_ble_eq_true rfl⟩ ⟨by first | exact Nat.le_of_ble_eq_true rfl | exact Nat.zero_le _, by first | exact Nat.le_of_ble_eq_true rfl | exact Nat.zero_le _⟩ dX11_span_29 (fun r466 hr466 => ?_)
      obtain rfl := hr466
      refine lv_if_eq (tgt := 38) hx hb dX11_span_32 (by decide) (fun _ => ?_) (fun c9 => absurd (by decide) c9)
      refine lv_aload_n hx hb dX11_span_38 rfl (lv_at hl 0 rfl) ?_
      refine gf_X11_28 hC rfl hK hP 0 rfl rfl dX11_span_39 ?_
      refine lv_iload_n hx hb dX11_span_42 rfl (lv_at hl 1 rfl) ?_
      refine lv_iload_n hx hb dX11_span_43 rfl (lv_at hl 2 rfl) ?_
      refine pV hC hK hl hP hD (c_ahead_3_1 l G S B clk fi la ml mm sl sm clm) si_X11_190 [2, 3, 4] rfl rfl (by decide) rfl rfl rfl rfl rfl (Nat.le_of_ble_eq_true rfl) ⟨Nat.le_of_ble_eq_true rfl, Nat.le_of_ble_eq_true rfl⟩ ⟨by first | exact Nat.le_of_ble_eq_true rfl | exact Nat.zero_le _, by first | exact Nat.le_of_ble_eq_true rfl | exact Nat.zero_le _⟩ dX11_span_44 (fun r468 hr468 => ?_)
      obtain rfl := hr468
      refine lv_sipush (v := 1000) hx hb dX11_span_47 (by decide) ?_
      refine lv_iadd hx hb dX11_span_50 ?_
      refine eqi (x1 := 1060) (by decide) ?_
      exact RI (v := 1060) hC hP hD hS [] () rfl rfl (by decide) ((by unfold A_span; rw [ifc_t a437, ifc_f (by decide), ifc_f (by decide)])) rfl dX11_span_51
    · refine lv_if_ne (tgt := 11) hx hb dX11_span_6 (by decide) (fun _ => ?_) (fun c9 => absurd c9 (by decide))
      refine lv_aload_n hx hb dX11_span_11 rfl (lv_at hl 0 rfl) ?_
      refine gf_X11_28 hC rfl hK hP 0 rfl rfl dX11_span_12 ?_
      refine lv_aload_n hx hb dX11_span_15 rfl (lv_at hl 0 rfl) ?_
      refine gf_X11_15 hC rfl hK hP 0 rfl rfl dX11_span_16 ?_
      refine pV hC hK hl hP hD (c_inView l G B bpersons bpapers bstamps bversions blines bsteps bsayings bfindings bwarnings bquestions 0 (-1) 3 24 bpapersc) si_X11_97 [1, 2] rfl rfl (by decide) rfl rfl rfl rfl rfl (Nat.le_of_ble_eq_true rfl) ⟨Nat.le_of_ble_eq_true rfl, Nat.le_of_ble_eq_true rfl⟩ ⟨by first | exact Nat.le_of_ble_eq_true rfl | exact Nat.zero_le _, by first | exact Nat.le_of_ble_eq_true rfl | exact Nat.zero_le _⟩ dX11_span_19 (fun r470 hr470 => ?_)
      obtain rfl := hr470
      refine vV (wr := [(h0, .inr (11, [.ref B, .ref K, .int 0, .ref S, .ref D, .ref R, .ref Ta, .ref Tp, .ref Ro, .ref Ho, .ref De])), (bpapers, .inr (8, [.int 12, .int 6, .ref bpapersc, .int 0]))]) hC hK hl hP hD hS hA (c_look l G S B clk fi la ml mm sl sm clm bpersons bpapers bstamps bversions blines bsteps bsayings bfindings bwarnings bquestions 0 (-1) 3 24 bstampsc) si_X11_183 [4, 5, 6, 7, 8, 1, 3] [0, 2] rfl rfl (by decide) rfl (by decide) (by decide) rfl rfl rfl rfl rfl (Nat.le_of_ble_eq_true rfl) ⟨Nat.le_of_ble_eq_true rfl, Nat.le_of_ble_eq_true rfl⟩ ⟨Nat.le_of_ble_eq_true rfl, Nat.le_of_ble_eq_true rfl⟩ dX11_span_22 (fun u473 H locs hr472 hP hD hS => ?_)
      have hP : va_P G.1 vwCl [(h0, .inr (11, [.ref B, .ref K, .int 0, .ref S, .ref D, .ref R, .ref Ta, .ref Tp, .ref Ro, .ref Ho, .ref De])), (bpapers, .inr (8, [.int 12, .int 6, .ref bpapersc, .int 0])), (S, .inr (7, [.ref B, .ref clk, .ref fi, .ref la, .ref ml, .ref mm, .ref sl, .ref sm, .int 0])), (clk, .inr (1, [.ref clm])), (clm, .inl (G.2.1, 36, .inl CL0)), (fi, .inl (G.2.1, 12, .inl M12)), (la, .inl (G.2.1, 12, .inl M12)), (B, .inr (0, [.ref bpersons, .ref bpapers, .ref bstamps, .ref bversions, .ref blines, .ref bsteps, .ref bsayings, .ref bfindings, .ref bwarnings, .ref bquestions, .int 0, .int (-1), .int 3, .int 24])), (bstamps, .inr (8, [.int 24, .int 3, .ref bstampsc, .int 0]))] H := hP
      have hD : va_D A [(h0, .inr (11, [.ref B, .ref K, .int 0, .ref S, .ref D, .ref R, .ref Ta, .ref Tp, .ref Ro, .ref Ho, .ref De])), (bpapers, .inr (8, [.int 12, .int 6, .ref bpapersc, .int 0])), (S, .inr (7, [.ref B, .ref clk, .ref fi, .ref la, .ref ml, .ref mm, .ref sl, .ref sm, .int 0])), (clk, .inr (1, [.ref clm])), (clm, .inl (G.2.1, 36, .inl CL0)), (fi, .inl (G.2.1, 12, .inl M12)), (la, .inl (G.2.1, 12, .inl M12)), (B, .inr (0, [.ref bpersons, .ref bpapers, .ref bstamps, .ref bversions, .ref blines, .ref bsteps, .ref bsayings, .ref bfindings, .ref bwarnings, .ref bquestions, .int 0, .int (-1), .int 3, .int 24])), (bstamps, .inr (8, [.int 24, .int 3, .ref bstampsc, .int 0]))] := hD
      refine lv_aload_n hx hb dX11_span_25 rfl (lv_at hl 0 rfl) ?_
      refine gf_X11_28 hC rfl hK hP 0 rfl rfl dX11_span_26 ?_
      refine pV hC hK hl hP hD (c_clashes l G S B clk fi la ml mm sl sm) si_X11_187 [2] rfl rfl (by decide) rfl rfl rfl rfl rfl (Nat.le_of_ble_eq_true rfl) ⟨Nat.le_of_ble_eq_true rfl, Nat.le_of_ble_eq_true rfl⟩ ⟨by first | exact Nat.le_of_ble_eq_true rfl | exact Nat.zero_le _, by first | exact Nat.le_of_ble_eq_true rfl | exact Nat.zero_le _⟩ dX11_span_29 (fun r474 hr474 => ?_)
      obtain rfl := hr474
      refine lv_if_eq (tgt := 38) hx hb dX11_span_32 (by decide) (fun _ => ?_) (fun c9 => absurd (by decide) c9)
      refine lv_aload_n hx hb dX11_span_38 rfl (lv_at hl 0 rfl) ?_
      refine gf_X11_28 hC rfl hK hP 0 rfl rfl dX11_span_39 ?_
      refine lv_iload_n hx hb dX11_span_42 rfl (lv_at hl 1 rfl) ?_
      refine lv_iload_n hx hb dX11_span_43 rfl (lv_at hl 2 rfl) ?_
      refine pV hC hK hl hP hD (c_ahead_4_1 l G S B clk fi la ml mm sl sm clm) si_X11_190 [2, 3, 4] rfl rfl (by decide) rfl rfl rfl rfl rfl (Nat.le_of_ble_eq_true rfl) ⟨Nat.le_of_ble_eq_true rfl, Nat.le_of_ble_eq_true rfl⟩ ⟨by first | exact Nat.le_of_ble_eq_true rfl | exact Nat.zero_le _, by first | exact Nat.le_of_ble_eq_true rfl | exact Nat.zero_le _⟩ dX11_span_44 (fun r476 hr476 => ?_)
      obtain rfl := hr476
      refine lv_sipush (v := 1000) hx hb dX11_span_47 (by decide) ?_
      refine lv_iadd hx hb dX11_span_50 ?_
      refine eqi (x1 := 1060) (by decide) ?_
      exact RI (v := 1060) hC hP hD hS [] () rfl rfl (by decide) ((by unfold A_span; rw [ifc_t a437, ifc_f (by decide), ifc_f (by decide)])) rfl dX11_span_51
    · refine lv_if_ne (tgt := 11) hx hb dX11_span_6 (by decide) (fun _ => ?_) (fun c9 => absurd c9 (by decide))
      refine lv_aload_n hx hb dX11_span_11 rfl (lv_at hl 0 rfl) ?_
      refine gf_X11_28 hC rfl hK hP 0 rfl rfl dX11_span_12 ?_
      refine lv_aload_n hx hb dX11_span_15 rfl (lv_at hl 0 rfl) ?_
      refine gf_X11_15 hC rfl hK hP 0 rfl rfl dX11_span_16 ?_
      refine pV hC hK hl hP hD (c_inView l G B bpersons bpapers bstamps bversions blines bsteps bsayings bfindings bwarnings bquestions 0 (-1) 3 24 bpapersc) si_X11_97 [1, 2] rfl rfl (by decide) rfl rfl rfl rfl rfl (Nat.le_of_ble_eq_true rfl) ⟨Nat.le_of_ble_eq_true rfl, Nat.le_of_ble_eq_true rfl⟩ ⟨by first | exact Nat.le_of_ble_eq_true rfl | exact Nat.zero_le _, by first | exact Nat.le_of_ble_eq_true rfl | exact Nat.zero_le _⟩ dX11_span_19 (fun r478 hr478 => ?_)
      obtain rfl := hr478
      refine vV (wr := [(h0, .inr (11, [.ref B, .ref K, .int 0, .ref S, .ref D, .ref R, .ref Ta, .ref Tp, .ref Ro, .ref Ho, .ref De])), (bpapers, .inr (8, [.int 12, .int 6, .ref bpapersc, .int 0]))]) hC hK hl hP hD hS hA (c_look l G S B clk fi la ml mm sl sm clm bpersons bpapers bstamps bversions blines bsteps bsayings bfindings bwarnings bquestions 0 (-1) 3 24 bstampsc) si_X11_183 [4, 5, 6, 7, 8, 1, 3] [0, 2] rfl rfl (by decide) rfl (by decide) (by decide) rfl rfl rfl rfl rfl (Nat.le_of_ble_eq_true rfl) ⟨Nat.le_of_ble_eq_true rfl, Nat.le_of_ble_eq_true rfl⟩ ⟨Nat.le_of_ble_eq_true rfl, Nat.le_of_ble_eq_true rfl⟩ dX11_span_22 (fun u481 H locs hr480 hP hD hS => ?_)
      have hP : va_P G.1 vwCl [(h0, .inr (11, [.ref B, .ref K, .int 0, .ref S, .ref D, .ref R, .ref Ta, .ref Tp, .ref Ro, .ref Ho, .ref De])), (bpapers, .inr (8, [.int 12, .int 6, .ref bpapersc, .int 0])), (S, .inr (7, [.ref B, .ref clk, .ref fi, .ref la, .ref ml, .ref mm, .ref sl, .ref sm, .int 0])), (clk, .inr (1, [.ref clm])), (clm, .inl (G.2.1, 36, .inl CL0)), (fi, .inl (G.2.1, 12, .inl M12)), (la, .inl (G.2.1, 12, .inl M12)), (B, .inr (0, [.ref bpersons, .ref bpapers, .ref bstamps, .ref bversions, .ref blines, .ref bsteps, .ref bsayings, .ref bfindings, .ref bwarnings, .ref bquestions, .int 0, .int (-1), .int 3, .int 24])), (bstamps, .inr (8, [.int 24, .int 3, .ref bstampsc, .int 0]))] H := hP
      have hD : va_D A [(h0, .inr (11, [.ref B, .ref K, .int 0, .ref S, .ref D, .ref R, .ref Ta, .ref Tp, .ref Ro, .ref Ho, .ref De])), (bpapers, .inr (8, [.int 12, .int 6, .ref bpapersc, .int 0])), (S, .inr (7, [.ref B, .ref clk, .ref fi, .ref la, .ref ml, .ref mm, .ref sl, .ref sm, .int 0])), (clk, .inr (1, [.ref clm])), (clm, .inl (G.2.1, 36, .inl CL0)), (fi, .inl (G.2.1, 12, .inl M12)), (la, .inl (G.2.1, 12, .inl M12)), (B, .inr (0, [.ref bpersons, .ref bpapers, .ref bstamps, .ref bversions, .ref blines, .ref bsteps, .ref bsayings, .ref bfindings, .ref bwarnings, .ref bquestions, .int 0, .int (-1), .int 3, .int 24])), (bstamps, .inr (8, [.int 24, .int 3, .ref bstampsc, .int 0]))] := hD
      refine lv_aload_n hx hb dX11_span_25 rfl (lv_at hl 0 rfl) ?_
      refine gf_X11_28 hC rfl hK hP 0 rfl rfl dX11_span_26 ?_
      refine pV hC hK hl hP hD (c_clashes l G S B clk fi la ml mm sl sm) si_X11_187 [2] rfl rfl (by decide) rfl rfl rfl rfl rfl (Nat.le_of_ble_eq_true rfl) ⟨Nat.le_of_ble_eq_true rfl, Nat.le_of_ble_eq_true rfl⟩ ⟨by first | exact Nat.le_of_ble_eq_true rfl | exact Nat.zero_le _, by first | exact Nat.le_of_ble_eq_true rfl | exact Nat.zero_le _⟩ dX11_span_29 (fun r482 hr482 => ?_)
      obtain rfl := hr482
      refine lv_if_eq (tgt := 38) hx hb dX11_span_32 (by decide) (fun _ => ?_) (fun c9 => absurd (by decide) c9)
      refine lv_aload_n hx hb dX11_span_38 rfl (lv_at hl 0 rfl) ?_
      refine gf_X11_28 hC rfl hK hP 0 rfl rfl dX11_span_39 ?_
      refine lv_iload_n hx hb dX11_span_42 rfl (lv_at hl 1 rfl) ?_
      refine lv_iload_n hx hb dX11_span_43 rfl (lv_at hl 2 rfl) ?_
      refine pV hC hK hl hP hD (c_ahead_5_1 l G S B clk fi la ml mm sl sm clm) si_X11_190 [2, 3, 4] rfl rfl (by decide) rfl rfl rfl rfl rfl (Nat.le_of_ble_eq_true rfl) ⟨Nat.le_of_ble_eq_true rfl, Nat.le_of_ble_eq_true rfl⟩ ⟨by first | exact Nat.le_of_ble_eq_true rfl | exact Nat.zero_le _, by first | exact Nat.le_of_ble_eq_true rfl | exact Nat.zero_le _⟩ dX11_span_44 (fun r484 hr484 => ?_)
      obtain rfl := hr484
      refine lv_sipush (v := 1000) hx hb dX11_span_47 (by decide) ?_
      refine lv_iadd hx hb dX11_span_50 ?_
      refine eqi (x1 := 1060) (by decide) ?_
      exact RI (v := 1060) hC hP hD hS [] () rfl rfl (by decide) ((by unfold A_span; rw [ifc_t a437, ifc_f (by decide), ifc_f (by decide)])) rfl dX11_span_51
  · refine lv_if_ne (tgt := 11) hx hb dX11_span_6 (by decide) (fun c9 => absurd (by decide) c9) (fun _ => ?_)
    refine lv_iconst (v := (-1)) hx hb dX11_span_9 (by decide) ?_
    exact RI (v := (-1)) hC hP hD hS [] () rfl rfl (by decide) ((by unfold A_span; rw [ifc_f a437])) rfl dX11_span_10
set_option maxHeartbeats 4000000 in
set_option maxRecDepth 100000 in
theorem c_search (l : Launch) (G : GG) (h0 : Nat) (bk : Nat) (hd : Nat) : MV l G yX3_search cX3_search 6 2 0 0 [.ref h0, .int 11, .int 0, .int 0, .int 0] [(h0, .inr (3, [.ref bk, .ref hd, .int 0, .int 13, .int 0]))] (fun u : Unit => True) (fun u : Unit => [(h0, .inr (3, [.ref bk, .ref hd, .int 0, .int 0, .int 0]))]) := by
  refine MV.start (by decide +kernel) (Nat.le_of_ble_eq_true rfl) ?_
  intro p e s m below meth c A ls hC hK hP hD hS hA hl
  have hl : lv_has ls 6 [(0, .ref h0), (1, .int 11), (2, .int 0), (3, .int 0), (4, .int 0)] := hl
  obtain ⟨hx, hb, hr, hml, hB, hown, hlocks, hnm⟩ := id hC
  refine lv_iload_n hx hb dX3_search_0 rfl (lv_at hl 3 rfl) ?_
  refine lv_aload_n hx hb dX3_search_1 rfl (lv_at hl 0 rfl) ?_
  refine gf_X3_26 hC rfl hK hP 0 rfl rfl dX3_search_2 ?_
  refine lv_icmp_lt (tgt := 9) hx hb dX3_search_5 (by decide) (fun _ => ?_) (fun c9 => absurd (by decide) c9)
  refine lv_iload_n hx hb dX3_search_9 rfl (lv_at hl 1 rfl) ?_
  refine lv_istore (lv' := [(5, .int 11), (0, .ref h0), (1, .int 11), (2, .int 0), (3, .int 0), (4, .int 0)]) hx hb dX3_search_10 hl (by decide) rfl (fun ls hl => ?_)
  refine lv_iload hx hb dX3_search_12 (lv_at hl 0 rfl) ?_
  refine lv_if_lt (tgt := 35) hx hb dX3_search_14 (by decide) (fun c9 => absurd c9 (by decide)) (fun _ => ?_)
  refine lv_aload_n hx hb dX3_search_17 rfl (lv_at hl 1 rfl) ?_
  refine gf_X3_22 hC rfl hK hP 0 rfl rfl dX3_search_18 ?_
  refine lv_iload hx hb dX3_search_21 (lv_at hl 0 rfl) ?_
  refine pSN hC hK hl (c_hasBit l G 0 11) si_X3_44 rfl rfl (Nat.le_of_ble_eq_true rfl) ⟨Nat.le_of_ble_eq_true rfl, Nat.le_of_ble_eq_true rfl⟩ ⟨by first | exact Nat.le_of_ble_eq_true rfl | exact Nat.zero_le _, by first | exact Nat.le_of_ble_eq_true rfl | exact Nat.zero_le _⟩ dX3_search_23 (fun r486 hr486 => ?_)
  rcases hr486 with ⟨rfl, a487⟩ | ⟨rfl, a487⟩
  · exact absurd a487 (by unfold HB; decide)
  · refine lv_if_ne (tgt := 35) hx hb dX3_search_26 (by decide) (fun c9 => absurd (by decide) c9) (fun _ => ?_)
    refine lv_iinc (v := 10) (lv' := [(5, .int 10), (0, .ref h0), (1, .int 11), (2, .int 0), (3, .int 0), (4, .int 0)]) hx hb dX3_search_29 hl (k := 0) rfl (by decide) (by decide) rfl (fun ls hl => ?_)
    refine lv_goto (tgt := 12) hx hb dX3_search_32 (by decide) ?_
    refine lv_iload hx hb dX3_search_12 (lv_at hl 0 rfl) ?_
    refine lv_if_lt (tgt := 35) hx hb dX3_search_14 (by decide) (fun c9 => absurd c9 (by decide)) (fun _ => ?_)
    refine lv_aload_n hx hb dX3_search_17 rfl (lv_at hl 1 rfl) ?_
    refine gf_X3_22 hC rfl hK hP 0 rfl rfl dX3_search_18 ?_
    refine lv_iload hx hb dX3_search_21 (lv_at hl 0 rfl) ?_
    refine pSN hC hK hl (c_hasBit l G 0 10) si_X3_44 rfl rfl (Nat.le_of_ble_eq_true rfl) ⟨Nat.le_of_ble_eq_true rfl, Nat.le_of_ble_eq_true rfl⟩ ⟨by first | exact Nat.le_of_ble_eq_true rfl | exact Nat.zero_le _, by first | exact Nat.le_of_ble_eq_true rfl | exact Nat.zero_le _⟩ dX3_search_23 (fun r488 hr488 => ?_)
    rcases hr488 with ⟨rfl, a489⟩ | ⟨rfl, a489⟩
    · exact absurd a489 (by unfold HB; decide)
    · refine lv_if_ne (tgt := 35) hx hb dX3_search_26 (by decide) (fun c9 => absurd (by decide) c9) (fun _ => ?_)
      refine lv_iinc (v := 9) (lv' := [(5, .int 9), (0, .ref h0), (1, .int 11), (2, .int 0), (3, .int 0), (4, .int 0)]) hx hb dX3_search_29 hl (k := 0) rfl (by decide) (by decide) rfl (fun ls hl => ?_)
      refine lv_goto (tgt := 12) hx hb dX3_search_32 (by decide) ?_
      refine lv_iload hx hb dX3_search_12 (lv_at hl 0 rfl) ?_
      refine lv_if_lt (tgt := 35) hx hb dX3_search_14 (by decide) (fun c9 => absurd c9 (by decide)) (fun _ => ?_)
      refine lv_aload_n hx hb dX3_search_17 rfl (lv_at hl 1 rfl) ?_
      refine gf_X3_22 hC rfl hK hP 0 rfl rfl dX3_search_18 ?_
      refine lv_iload hx hb dX3_search_21 (lv_at hl 0 rfl) ?_
      refine pSN hC hK hl (c_hasBit l G 0 9) si_X3_44 rfl rfl (Nat.le_of_ble_eq_true rfl) ⟨Nat.le_of_ble_eq_true rfl, Nat.le_of_ble_eq_true rfl⟩ ⟨by first | exact Nat.le_of_ble_eq_true rfl | exact Nat.zero_le _, by first | exact Nat.le_of_ble_eq_true rfl | exact Nat.zero_le _⟩ dX3_search_23 (fun r490 hr490 => ?_)
      rcases hr490 with ⟨rfl, a491⟩ | ⟨rfl, a491⟩
      · exact absurd a491 (by unfold HB; decide)
      · refine lv_if_ne (tgt := 35) hx hb dX3_search_26 (by decide) (fun c9 => absurd (by decide) c9) (fun _ => ?_)
        refine lv_iinc (v := 8) (lv' := [(5, .int 8), (0, .ref h0), (1, .int 11), (2, .int 0), (3, .int 0), (4, .int 0)]) hx hb dX3_search_29 hl (k := 0) rfl (by decide) (by decide) rfl (fun ls hl => ?_)
        refine lv_goto (tgt := 12) hx hb dX3_search_32 (by decide) ?_
        refine lv_iload hx hb dX3_search_12 (lv_at hl 0 rfl) ?_
        refine lv_if_lt (tgt := 35) hx hb dX3_search_14 (by decide) (fun c9 => absurd c9 (by decide)) (fun _ => ?_)
        refine lv_aload_n hx hb dX3_search_17 rfl (lv_at hl 1 rfl) ?_
        refine gf_X3_22 hC rfl hK hP 0 rfl rfl dX3_search_18 ?_
        refine lv_iload hx hb dX3_search_21 (lv_at hl 0 rfl) ?_
        refine pSN hC hK hl (c_hasBit l G 0 8) si_X3_44 rfl rfl (Nat.le_of_ble_eq_true rfl) ⟨Nat.le_of_ble_eq_true rfl, Nat.le_of_ble_eq_true rfl⟩ ⟨by first | exact Nat.le_of_ble_eq_true rfl | exact Nat.zero_le _, by first | exact Nat.le_of_ble_eq_true rfl | exact Nat.zero_le _⟩ dX3_search_23 (fun r492 hr492 => ?_)
        rcases hr492 with ⟨rfl, a493⟩ | ⟨rfl, a493⟩
        · exact absurd a493 (by unfold HB; decide)
        · refine lv_if_ne (tgt := 35) hx hb dX3_search_26 (by decide) (fun c9 => absurd (by decide) c9) (fun _ => ?_)
          refine lv_iinc (v := 7) (lv' := [(5, .int 7), (0, .ref h0), (1, .int 11), (2, .int 0), (3, .int 0), (4, .int 0)]) hx hb dX3_search_29 hl (k := 0) rfl (by decide) (by decide) rfl (fun ls hl => ?_)
          refine lv_goto (tgt := 12) hx hb dX3_search_32 (by decide) ?_
          refine lv_iload hx hb dX3_search_12 (lv_at hl 0 rfl) ?_
          refine lv_if_lt (tgt := 35) hx hb dX3_search_14 (by decide) (fun c9 => absurd c9 (by decide)) (fun _ => ?_)
          refine lv_aload_n hx hb dX3_search_17 rfl (lv_at hl 1 rfl) ?_
          refine gf_X3_22 hC rfl hK hP 0 rfl rfl dX3_search_18 ?_
          refine lv_iload hx hb dX3_search_21 (lv_at hl 0 rfl) ?_
          refine pSN hC hK hl (c_hasBit l G 0 7) si_X3_44 rfl rfl (Nat.le_of_ble_eq_true rfl) ⟨Nat.le_of_ble_eq_true rfl, Nat.le_of_ble_eq_true rfl⟩ ⟨by first | exact Nat.le_of_ble_eq_true rfl | exact Nat.zero_le _, by first | exact Nat.le_of_ble_eq_true rfl | exact Nat.zero_le _⟩ dX3_search_23 (fun r494 hr494 => ?_)
          rcases hr494 with ⟨rfl, a495⟩ | ⟨rfl, a495⟩
          · exact absurd a495 (by unfold HB; decide)
          · refine lv_if_ne (tgt := 35) hx hb dX3_search_26 (by decide) (fun c9 => absurd (by decide) c9) (fun _ => ?_)
            refine lv_iinc (v := 6) (lv' := [(5, .int 6), (0, .ref h0), (1, .int 11), (2, .int 0), (3, .int 0), (4, .int 0)]) hx hb dX3_search_29 hl (k := 0) rfl (by decide) (by decide) rfl (fun ls hl => ?_)
            refine lv_goto (tgt := 12) hx hb dX3_search_32 (by decide) ?_
            refine lv_iload hx hb dX3_search_12 (lv_at hl 0 rfl) ?_
            refine lv_if_lt (tgt := 35) hx hb dX3_search_14 (by decide) (fun c9 => absurd c9 (by decide)) (fun _ => ?_)
            refine lv_aload_n hx hb dX3_search_17 rfl (lv_at hl 1 rfl) ?_
            refine gf_X3_22 hC rfl hK hP 0 rfl rfl dX3_search_18 ?_
            refine lv_iload hx hb dX3_search_21 (lv_at hl 0 rfl) ?_
            refine pSN hC hK hl (c_hasBit l G 0 6) si_X3_44 rfl rfl (Nat.le_of_ble_eq_true rfl) ⟨Nat.le_of_ble_eq_true rfl, Nat.le_of_ble_eq_true rfl⟩ ⟨by first | exact Nat.le_of_ble_eq_true rfl | exact Nat.zero_le _, by first | exact Nat.le_of_ble_eq_true rfl | exact Nat.zero_le _⟩ dX3_search_23 (fun r496 hr496 => ?_)
            rcases hr496 with ⟨rfl, a497⟩ | ⟨rfl, a497⟩
            · exact absurd a497 (by unfold HB; decide)
            · refine lv_if_ne (tgt := 35) hx hb dX3_search_26 (by decide) (fun c9 => absurd (by decide) c9) (fun _ => ?_)
              refine lv_iinc (v := 5) (lv' := [(5, .int 5), (0, .ref h0), (1, .int 11), (2, .int 0), (3, .int 0), (4, .int 0)]) hx hb dX3_search_29 hl (k := 0) rfl (by decide) (by decide) rfl (fun ls hl => ?_)
              refine lv_goto (tgt := 12) hx hb dX3_search_32 (by decide) ?_
              refine lv_iload hx hb dX3_search_12 (lv_at hl 0 rfl) ?_
              refine lv_if_lt (tgt := 35) hx hb dX3_search_14 (by decide) (fun c9 => absurd c9 (by decide)) (fun _ => ?_)
              refine lv_aload_n hx hb dX3_search_17 rfl (lv_at hl 1 rfl) ?_
              refine gf_X3_22 hC rfl hK hP 0 rfl rfl dX3_search_18 ?_
              refine lv_iload hx hb dX3_search_21 (lv_at hl 0 rfl) ?_
              refine pSN hC hK hl (c_hasBit l G 0 5) si_X3_44 rfl rfl (Nat.le_of_ble_eq_true rfl) ⟨Nat.le_of_ble_eq_true rfl, Nat.le_of_ble_eq_true rfl⟩ ⟨by first | exact Nat.le_of_ble_eq_true rfl | exact Nat.zero_le _, by first | exact Nat.le_of_ble_eq_true rfl | exact Nat.zero_le _⟩ dX3_search_23 (fun r498 hr498 => ?_)
              rcases hr498 with ⟨rfl, a499⟩ | ⟨rfl, a499⟩
              · exact absurd a499 (by unfold HB; decide)
              · refine lv_if_ne (tgt := 35) hx hb dX3_search_26 (by decide) (fun c9 => absurd (by decide) c9) (fun _ => ?_)
                refine lv_iinc (v := 4) (lv' := [(5, .int 4), (0, .ref h0), (1, .int 11), (2, .int 0), (3, .int 0), (4, .int 0)]) hx hb dX3_search_29 hl (k := 0) rfl (by decide) (by decide) rfl (fun ls hl => ?_)
                refine lv_goto (tgt := 12) hx hb dX3_search_32 (by decide) ?_
                refine lv_iload hx hb dX3_search_12 (lv_at hl 0 rfl) ?_
                refine lv_if_lt (tgt := 35) hx hb dX3_search_14 (by decide) (fun c9 => absurd c9 (by decide)) (fun _ => ?_)
                refine lv_aload_n hx hb dX3_search_17 rfl (lv_at hl 1 rfl) ?_
                refine gf_X3_22 hC rfl hK hP 0 rfl rfl dX3_search_18 ?_
                refine lv_iload hx hb dX3_search_21 (lv_at hl 0 rfl) ?_
                refine pSN hC hK hl (c_hasBit l G 0 4) si_X3_44 rfl rfl (Nat.le_of_ble_eq_true rfl) ⟨Nat.le_of_ble_eq_true rfl, Nat.le_of_ble_eq_true rfl⟩ ⟨by first | exact Nat.le_of_ble_eq_true rfl | exact Nat.zero_le _, by first | exact Nat.le_of_ble_eq_true rfl | exact Nat.zero_le _⟩ dX3_search_23 (fun r500 hr500 => ?_)
                rcases hr500 with ⟨rfl, a501⟩ | ⟨rfl, a501⟩
                · exact absurd a501 (by unfold HB; decide)
                · refine lv_if_ne (tgt := 35) hx hb dX3_search_26 (by decide) (fun c9 => absurd (by decide) c9) (fun _ => ?_)
                  refine lv_iinc (v := 3) (lv' := [(5, .int 3), (0, .ref h0), (1, .int 11), (2, .int 0), (3, .int 0), (4, .int 0)]) hx hb dX3_search_29 hl (k := 0) rfl (by decide) (by decide) rfl (fun ls hl => ?_)
                  refine lv_goto (tgt := 12) hx hb dX3_search_32 (by decide) ?_
                  refine lv_iload hx hb dX3_search_12 (lv_at hl 0 rfl) ?_
                  refine lv_if_lt (tgt := 35) hx hb dX3_search_14 (by decide) (fun c9 => absurd c9 (by decide)) (fun _ => ?_)
                  refine lv_aload_n hx hb dX3_search_17 rfl (lv_at hl 1 rfl) ?_
                  refine gf_X3_22 hC rfl hK hP 0 rfl rfl dX3_search_18 ?_
                  refine lv_iload hx hb dX3_search_21 (lv_at hl 0 rfl) ?_
                  refine pSN hC hK hl (c_hasBit l G 0 3) si_X3_44 rfl rfl (Nat.le_of_ble_eq_true rfl) ⟨Nat.le_of_ble_eq_true rfl, Nat.le_of_ble_eq_true rfl⟩ ⟨by first | exact Nat.le_of_ble_eq_true rfl | exact Nat.zero_le _, by first | exact Nat.le_of_ble_eq_true rfl | exact Nat.zero_le _⟩ dX3_search_23 (fun r502 hr502 => ?_)
                  rcases hr502 with ⟨rfl, a503⟩ | ⟨rfl, a503⟩
                  · exact absurd a503 (by unfold HB; decide)
                  · refine lv_if_ne (tgt := 35) hx hb dX3_search_26 (by decide) (fun c9 => absurd (by decide) c9) (fun _ => ?_)
                    refine lv_iinc (v := 2) (lv' := [(5, .int 2), (0, .ref h0), (1, .int 11), (2, .int 0), (3, .int 0), (4, .int 0)]) hx hb dX3_search_29 hl (k := 0) rfl (by decide) (by decide) rfl (fun ls hl => ?_)
                    refine lv_goto (tgt := 12) hx hb dX3_search_32 (by decide) ?_
                    refine lv_iload hx hb dX3_search_12 (lv_at hl 0 rfl) ?_
                    refine lv_if_lt (tgt := 35) hx hb dX3_search_14 (by decide) (fun c9 => absurd c9 (by decide)) (fun _ => ?_)
                    refine lv_aload_n hx hb dX3_search_17 rfl (lv_at hl 1 rfl) ?_
                    refine gf_X3_22 hC rfl hK hP 0 rfl rfl dX3_search_18 ?_
                    refine lv_iload hx hb dX3_search_21 (lv_at hl 0 rfl) ?_
                    refine pSN hC hK hl (c_hasBit l G 0 2) si_X3_44 rfl rfl (Nat.le_of_ble_eq_true rfl) ⟨Nat.le_of_ble_eq_true rfl, Nat.le_of_ble_eq_true rfl⟩ ⟨by first | exact Nat.le_of_ble_eq_true rfl | exact Nat.zero_le _, by first | exact Nat.le_of_ble_eq_true rfl | exact Nat.zero_le _⟩ dX3_search_23 (fun r504 hr504 => ?_)
                    rcases hr504 with ⟨rfl, a505⟩ | ⟨rfl, a505⟩
                    · exact absurd a505 (by unfold HB; decide)
                    · refine lv_if_ne (tgt := 35) hx hb dX3_search_26 (by decide) (fun c9 => absurd (by decide) c9) (fun _ => ?_)
                      refine lv_iinc (v := 1) (lv' := [(5, .int 1), (0, .ref h0), (1, .int 11), (2, .int 0), (3, .int 0), (4, .int 0)]) hx hb dX3_search_29 hl (k := 0) rfl (by decide) (by decide) rfl (fun ls hl => ?_)
                      refine lv_goto (tgt := 12) hx hb dX3_search_32 (by decide) ?_
                      refine lv_iload hx hb dX3_search_12 (lv_at hl 0 rfl) ?_
                      refine lv_if_lt (tgt := 35) hx hb dX3_search_14 (by decide) (fun c9 => absurd c9 (by decide)) (fun _ => ?_)
                      refine lv_aload_n hx hb dX3_search_17 rfl (lv_at hl 1 rfl) ?_
                      refine gf_X3_22 hC rfl hK hP 0 rfl rfl dX3_search_18 ?_
                      refine lv_iload hx hb dX3_search_21 (lv_at hl 0 rfl) ?_
                      refine pSN hC hK hl (c_hasBit l G 0 1) si_X3_44 rfl rfl (Nat.le_of_ble_eq_true rfl) ⟨Nat.le_of_ble_eq_true rfl, Nat.le_of_ble_eq_true rfl⟩ ⟨by first | exact Nat.le_of_ble_eq_true rfl | exact Nat.zero_le _, by first | exact Nat.le_of_ble_eq_true rfl | exact Nat.zero_le _⟩ dX3_search_23 (fun r506 hr506 => ?_)
                      rcases hr506 with ⟨rfl, a507⟩ | ⟨rfl, a507⟩
                      · exact absurd a507 (by unfold HB; decide)
                      · refine lv_if_ne (tgt := 35) hx hb dX3_search_26 (by decide) (fun c9 => absurd (by decide) c9) (fun _ => ?_)
                        refine lv_iinc (v := 0) (lv' := [(5, .int 0), (0, .ref h0), (1, .int 11), (2, .int 0), (3, .int 0), (4, .int 0)]) hx hb dX3_search_29 hl (k := 0) rfl (by decide) (by decide) rfl (fun ls hl => ?_)
                        refine lv_goto (tgt := 12) hx hb dX3_search_32 (by decide) ?_
                        refine lv_iload hx hb dX3_search_12 (lv_at hl 0 rfl) ?_
                        refine lv_if_lt (tgt := 35) hx hb dX3_search_14 (by decide) (fun c9 => absurd c9 (by decide)) (fun _ => ?_)
                        refine lv_aload_n hx hb dX3_search_17 rfl (lv_at hl 1 rfl) ?_
                        refine gf_X3_22 hC rfl hK hP 0 rfl rfl dX3_search_18 ?_
                        refine lv_iload hx hb dX3_search_21 (lv_at hl 0 rfl) ?_
                        refine pSN hC hK hl (c_hasBit l G 0 0) si_X3_44 rfl rfl (Nat.le_of_ble_eq_true rfl) ⟨Nat.le_of_ble_eq_true rfl, Nat.le_of_ble_eq_true rfl⟩ ⟨by first | exact Nat.le_of_ble_eq_true rfl | exact Nat.zero_le _, by first | exact Nat.le_of_ble_eq_true rfl | exact Nat.zero_le _⟩ dX3_search_23 (fun r508 hr508 => ?_)
                        rcases hr508 with ⟨rfl, a509⟩ | ⟨rfl, a509⟩
                        · exact absurd a509 (by unfold HB; decide)
                        · refine lv_if_ne (tgt := 35) hx hb dX3_search_26 (by decide) (fun c9 => absurd (by decide) c9) (fun _ => ?_)
                          refine lv_iinc (v := (-1)) (lv' := [(5, .int (-1)), (0, .ref h0), (1, .int 11), (2, .int 0), (3, .int 0), (4, .int 0)]) hx hb dX3_search_29 hl (k := 0) rfl (by decide) (by decide) rfl (fun ls hl => ?_)
                          refine lv_goto (tgt := 12) hx hb dX3_search_32 (by decide) ?_
                          refine lv_iload hx hb dX3_search_12 (lv_at hl 0 rfl) ?_
                          refine lv_if_lt (tgt := 35) hx hb dX3_search_14 (by decide) (fun _ => ?_) (fun c9 => absurd (by decide) c9)
                          refine lv_iload hx hb dX3_search_35 (lv_at hl 0 rfl) ?_
                          refine lv_if_ge (tgt := 53) hx hb dX3_search_37 (by decide) (fun c9 => absurd c9 (by decide)) (fun _ => ?_)
                          refine lv_aload_n hx hb dX3_search_40 rfl (lv_at hl 1 rfl) ?_
                          refine lv_iload_n hx hb dX3_search_41 rfl (lv_at hl 4 rfl) ?_
                          refine pf_X3_26 hC rfl hK hP hD hS 0 (ws' := [(h0, .inr (3, [.ref bk, .ref hd, .int 0, .int 0, .int 0]))]) rfl (Nat.le_of_ble_eq_true rfl) rfl rfl rfl dX3_search_42 (fun H locs hP hD hS => ?_)
                          refine lv_aload_n hx hb dX3_search_45 rfl (lv_at hl 1 rfl) ?_
                          refine lv_iload_n hx hb dX3_search_46 rfl (lv_at hl 3 rfl) ?_
                          refine pf_X3_29 hC rfl hK hP hD hS 0 (ws' := [(h0, .inr (3, [.ref bk, .ref hd, .int 0, .int 0, .int 0]))]) rfl (Nat.le_of_ble_eq_true rfl) rfl rfl rfl dX3_search_47 (fun H locs hP hD hS => ?_)
                          refine lv_goto (tgt := 63) hx hb dX3_search_50 (by decide) ?_
                          exact RV hC hP hD hS [0] () rfl rfl (by decide) (trivial) dX3_search_63
set_option maxHeartbeats 4000000 in
set_option maxRecDepth 100000 in
theorem c_fewest (l : Launch) (G : GG) (D : Nat) (B : Nat) (hd : Nat) (hf : Nat → Option Nat) (k0 : Nat) (k0m : Nat) (bpersons : Nat) (bpapers : Nat) (bstamps : Nat) (bversions : Nat) (blines : Nat) (bsteps : Nat) (bsayings : Nat) (bfindings : Nat) (bwarnings : Nat) (bquestions : Nat) (bpapersc : Nat) (hhf : hf 0 = some k0) : MI l G yX3_fewest cX3_fewest 3 (some .int) 4 0 0 [.ref D, .int 0] [(D, .inr (3, [.ref B, .ref hd, .int 0, .int 0, .int 0])), (hd, .inl (G.2.2.1, 13, .inr (.inr (.inr (.inr hf))))), (k0, .inr (1, [.ref k0m])), (k0m, .inl (G.2.1, 36, .inl (fun _ => 0))), (B, .inr (0, [.ref bpersons, .ref bpapers, .ref bstamps, .ref bversions, .ref blines, .ref bsteps, .ref bsayings, .ref bfindings, .ref bwarnings, .ref bquestions, .int 0, .int (-1), .int 3, .int 24])), (bpapers, .inr (8, [.int 12, .int 6, .ref bpapersc, .int 0]))] (fun (r : Int32) (u : Unit) => (r = 0)) (fun u : Unit => []) := by
  refine MI.start (by decide +kernel) (Nat.le_of_ble_eq_true rfl) ?_
  intro p e s m below meth c A ls hC hK hP hD hS hA hl
  have hl : lv_has ls 3 [(0, .ref D), (1, .int 0)] := hl
  obtain ⟨hx, hb, hr, hml, hB, hown, hlocks, hnm⟩ := id hC
  refine lv_aload_n hx hb dX3_fewest_0 rfl (lv_at hl 0 rfl) ?_
  refine lv_iconst (v := 0) hx hb dX3_fewest_1 (by decide) ?_
  refine pf_X3_22 hC rfl hK hP hD hS 0 (ws' := [(D, .inr (3, [.ref B, .ref hd, .int 0, .int 0, .int 0])), (hd, .inl (G.2.2.1, 13, .inr (.inr (.inr (.inr hf))))), (k0, .inr (1, [.ref k0m])), (k0m, .inl (G.2.1, 36, .inl (fun _ => 0))), (B, .inr (0, [.ref bpersons, .ref bpapers, .ref bstamps, .ref bversions, .ref blines, .ref bsteps, .ref bsayings, .ref bfindings, .ref bwarnings, .ref bquestions, .int 0, .int (-1), .int 3, .int 24])), (bpapers, .inr (8, [.int 12, .int 6, .ref bpapersc, .int 0]))]) rfl (Nat.le_of_ble_eq_true rfl) rfl rfl rfl dX3_fewest_2 (fun H locs hP hD hS => ?_)
  refine lv_iconst (v := 0) hx hb dX3_fewest_5 (by decide) ?_
  refine lv_istore_n (lv' := [(2, .int 0), (0, .ref D), (1, .int 0)]) hx hb dX3_fewest_6 rfl hl (by decide) rfl (fun ls hl => ?_)
  refine lv_iload_n hx hb dX3_fewest_7 rfl (lv_at hl 0 rfl) ?_
  refine lv_aload_n hx hb dX3_fewest_8 rfl (lv_at hl 1 rfl) ?_
  refine gf_X3_17 hC rfl hK hP 0 rfl rfl dX3_fewest_9 ?_
  refine gf_X3_32 hC rfl hK hP 4 rfl rfl dX3_fewest_12 ?_
  refine pV hC hK hl hP hD (c_T_count l G bpapers bpapersc 12 6 0) si_X3_38 [5] rfl rfl (by decide) rfl rfl rfl rfl rfl (Nat.le_of_ble_eq_true rfl) ⟨Nat.le_of_ble_eq_true rfl, Nat.le_of_ble_eq_true rfl⟩ ⟨by first | exact Nat.le_of_ble_eq_true rfl | exact Nat.zero_le _, by first | exact Nat.le_of_ble_eq_true rfl | exact Nat.zero_le _⟩ dX3_fewest_15 (fun r510 hr510 => ?_)
  obtain rfl := hr510
  refine lv_icmp_ge (tgt := 59) hx hb dX3_fewest_18 (by decide) (fun _ => ?_) (fun c9 => absurd (by decide) c9)
  refine lv_aload_n hx hb dX3_fewest_59 rfl (lv_at hl 1 rfl) ?_
  refine lv_bipush (v := 13) hx hb dX3_fewest_60 (by decide) ?_
  refine pf_X3_26 hC rfl hK hP hD hS 0 (ws' := [(D, .inr (3, [.ref B, .ref hd, .int 0, .int 13, .int 0])), (hd, .inl (G.2.2.1, 13, .inr (.inr (.inr (.inr hf))))), (k0, .inr (1, [.ref k0m])), (k0m, .inl (G.2.1, 36, .inl (fun _ => 0))), (B, .inr (0, [.ref bpersons, .ref bpapers, .ref bstamps, .ref bversions, .ref blines, .ref bsteps, .ref bsayings, .ref bfindings, .ref bwarnings, .ref bquestions, .int 0, .int (-1), .int 3, .int 24])), (bpapers, .inr (8, [.int 12, .int 6, .ref bpapersc, .int 0]))]) rfl (Nat.le_of_ble_eq_true rfl) rfl rfl rfl dX3_fewest_62 (fun H locs hP hD hS => ?_)
  refine lv_aload_n hx hb dX3_fewest_65 rfl (lv_at hl 1 rfl) ?_
  refine lv_iconst (v := 0) hx hb dX3_fewest_66 (by decide) ?_
  refine pf_X3_29 hC rfl hK hP hD hS 0 (ws' := [(D, .inr (3, [.ref B, .ref hd, .int 0, .int 13, .int 0])), (hd, .inl (G.2.2.1, 13, .inr (.inr (.inr (.inr hf))))), (k0, .inr (1, [.ref k0m])), (k0m, .inl (G.2.1, 36, .inl (fun _ => 0))), (B, .inr (0, [.ref bpersons, .ref bpapers, .ref bstamps, .ref bversions, .ref blines, .ref bsteps, .ref bsayings, .ref bfindings, .ref bwarnings, .ref bquestions, .int 0, .int (-1), .int 3, .int 24])), (bpapers, .inr (8, [.int 12, .int 6, .ref bpapersc, .int 0]))]) rfl (Nat.le_of_ble_eq_true rfl) rfl rfl rfl dX3_fewest_67 (fun H locs hP hD hS => ?_)
  refine lv_aload_n hx hb dX3_fewest_70 rfl (lv_at hl 1 rfl) ?_
  refine gf_X3_11 hC rfl hK hP 0 rfl rfl dX3_fewest_71 ?_
  refine lv_iconst (v := 0) hx hb dX3_fewest_74 (by decide) ?_
  refine aldC hC hK hP 1 rfl (vin (by decide +kernel)) (k := 0) (by decide +kernel) (v := k0) (hhf) dX3_fewest_75 ?_
  refine vV (wr := [(D, .inr (3, [.ref B, .ref hd, .int 0, .int 13, .int 0])), (hd, .inl (G.2.2.1, 13, .inr (.inr (.inr (.inr hf))))), (B, .inr (0, [.ref bpersons, .ref bpapers, .ref bstamps, .ref bversions, .ref blines, .ref bsteps, .ref bsayings, .ref bfindings, .ref bwarnings, .ref bquestions, .int 0, .int (-1), .int 3, .int 24])), (bpapers, .inr (8, [.int 12, .int 6, .ref bpapersc, .int 0]))]) hC hK hl hP hD hS hA (c_free l G k0 k0m) si_X3_52 [2, 3] [0, 1, 4, 5] rfl rfl (by decide) rfl (by decide) (by decide) rfl rfl rfl rfl rfl (Nat.le_of_ble_eq_true rfl) ⟨Nat.le_of_ble_eq_true rfl, Nat.le_of_ble_eq_true rfl⟩ ⟨Nat.le_of_ble_eq_true rfl, Nat.le_of_ble_eq_true rfl⟩ dX3_fewest_76 (fun u513 H locs hr512 hP hD hS => ?_)
  have hP : va_P G.1 vwCl [(D, .inr (3, [.ref B, .ref hd, .int 0, .int 13, .int 0])), (hd, .inl (G.2.2.1, 13, .inr (.inr (.inr (.inr hf))))), (B, .inr (0, [.ref bpersons, .ref bpapers, .ref bstamps, .ref bversions, .ref blines, .ref bsteps, .ref bsayings, .ref bfindings, .ref bwarnings, .ref bquestions, .int 0, .int (-1), .int 3, .int 24])), (bpapers, .inr (8, [.int 12, .int 6, .ref bpapersc, .int 0])), (k0, .inr (1, [.ref k0m])), (k0m, .inl (G.2.1, 36, .inl CL0))] H := hP
  have hD : va_D A [(D, .inr (3, [.ref B, .ref hd, .int 0, .int 13, .int 0])), (hd, .inl (G.2.2.1, 13, .inr (.inr (.inr (.inr hf))))), (B, .inr (0, [.ref bpersons, .ref bpapers, .ref bstamps, .ref bversions, .ref blines, .ref bsteps, .ref bsayings, .ref bfindings, .ref bwarnings, .ref bquestions, .int 0, .int (-1), .int 3, .int 24])), (bpapers, .inr (8, [.int 12, .int 6, .ref bpapersc, .int 0])), (k0, .inr (1, [.ref k0m])), (k0m, .inl (G.2.1, 36, .inl CL0))] := hD
  refine lv_aload_n hx hb dX3_fewest_79 rfl (lv_at hl 1 rfl) ?_
  refine lv_bipush (v := 11) hx hb dX3_fewest_80 (by decide) ?_
  refine lv_iconst (v := 0) hx hb dX3_fewest_82 (by decide) ?_
  refine lv_iconst (v := 0) hx hb dX3_fewest_83 (by decide) ?_
  refine lv_iconst (v := 0) hx hb dX3_fewest_84 (by decide) ?_
  refine vV (wr := [(hd, .inl (G.2.2.1, 13, .inr (.inr (.inr (.inr hf))))), (B, .inr (0, [.ref bpersons, .ref bpapers, .ref bstamps, .ref bversions, .ref blines, .ref bsteps, .ref bsayings, .ref bfindings, .ref bwarnings, .ref bquestions, .int 0, .int (-1), .int 3, .int 24])), (bpapers, .inr (8, [.int 12, .int 6, .ref bpapersc, .int 0])), (k0, .inr (1, [.ref k0m])), (k0m, .inl (G.2.1, 36, .inl CL0))]) hC hK hl hP hD hS hA (c_search l G D B hd) si_X3_55 [0] [1, 2, 3, 4, 5] rfl rfl (by decide) rfl (by decide) (by decide) rfl rfl rfl rfl rfl (Nat.le_of_ble_eq_true rfl) ⟨Nat.le_of_ble_eq_true rfl, Nat.le_of_ble_eq_true rfl⟩ ⟨Nat.le_of_ble_eq_true rfl, Nat.le_of_ble_eq_true rfl⟩ dX3_fewest_85 (fun u515 H locs hr514 hP hD hS => ?_)
  have hP : va_P G.1 vwCl [(hd, .inl (G.2.2.1, 13, .inr (.inr (.inr (.inr hf))))), (B, .inr (0, [.ref bpersons, .ref bpapers, .ref bstamps, .ref bversions, .ref blines, .ref bsteps, .ref bsayings, .ref bfindings, .ref bwarnings, .ref bquestions, .int 0, .int (-1), .int 3, .int 24])), (bpapers, .inr (8, [.int 12, .int 6, .ref bpapersc, .int 0])), (k0, .inr (1, [.ref k0m])), (k0m, .inl (G.2.1, 36, .inl CL0)), (D, .inr (3, [.ref B, .ref hd, .int 0, .int 0, .int 0]))] H := hP
  have hD : va_D A [(hd, .inl (G.2.2.1, 13, .inr (.inr (.inr (.inr hf))))), (B, .inr (0, [.ref bpersons, .ref bpapers, .ref bstamps, .ref bversions, .ref blines, .ref bsteps, .ref bsayings, .ref bfindings, .ref bwarnings, .ref bquestions, .int 0, .int (-1), .int 3, .int 24])), (bpapers, .inr (8, [.int 12, .int 6, .ref bpapersc, .int 0])), (k0, .inr (1, [.ref k0m])), (k0m, .inl (G.2.1, 36, .inl CL0)), (D, .inr (3, [.ref B, .ref hd, .int 0, .int 0, .int 0]))] := hD
  refine lv_aload_n hx hb dX3_fewest_88 rfl (lv_at hl 1 rfl) ?_
  refine gf_X3_29 hC rfl hK hP 5 rfl rfl dX3_fewest_89 ?_
  exact RI (v := 0) hC hP hD hS [] () rfl rfl (by decide) (rfl) rfl dX3_fewest_92
set_option maxHeartbeats 4000000 in
set_option maxRecDepth 100000 in
theorem c_clash (l : Launch) (G : GG) (h0 : Nat) (w : Int32) (B : Nat) (K : Nat) (S : Nat) (D : Nat) (R : Nat) (Ta : Nat) (Tp : Nat) (Ro : Nat) (Ho : Nat) (De : Nat) (bpersons : Nat) (bpapers : Nat) (bstamps : Nat) (bversions : Nat) (blines : Nat) (bsteps : Nat) (bsayings : Nat) (bfindings : Nat) (bwarnings : Nat) (bquestions : Nat) (bpapersc : Nat) (bstampsc : Nat) (clk : Nat) (fi : Nat) (la : Nat) (ml : Nat) (mm : Nat) (sl : Nat) (sm : Nat) (clm : Nat) (hd : Nat) (hf : Nat → Option Nat) (k0 : Nat) (k0m : Nat) (hhf : hf 0 = some k0) : MI l G yX11_clash cX11_clash 2 (some .int) 5 0 0 [.ref h0, .int w] [(h0, .inr (11, [.ref B, .ref K, .int 0, .ref S, .ref D, .ref R, .ref Ta, .ref Tp, .ref Ro, .ref Ho, .ref De])), (B, .inr (0, [.ref bpersons, .ref bpapers, .ref bstamps, .ref bversions, .ref blines, .ref bsteps, .ref bsayings, .ref bfindings, .ref bwarnings, .ref bquestions, .int 0, .int (-1), .int 3, .int 24])), (bpapers, .inr (8, [.int 12, .int 6, .ref bpapersc, .int 0])), (bstamps, .inr (8, [.int 24, .int 3, .ref bstampsc, .int 0])), (S, .inr (7, [.ref B, .ref clk, .ref fi, .ref la, .ref ml, .ref mm, .ref sl, .ref sm, .int 0])), (clk, .inr (1, [.ref clm])), (clm, .inl (G.2.1, 36, .inl (fun _ => 0))), (fi, .inl (G.2.1, 12, .inl (fun _ => 0))), (la, .inl (G.2.1, 12, .inl (fun _ => 0))), (D, .inr (3, [.ref B, .ref hd, .int 0, .int 0, .int 0])), (hd, .inl (G.2.2.1, 13, .inr (.inr (.inr (.inr hf))))), (k0, .inr (1, [.ref k0m])), (k0m, .inl (G.2.1, 36, .inl (fun _ => 0)))] (fun (r : Int32) (u : Unit) => (r = A_clash w)) (fun u : Unit => []) := by
  refine MI.start (by decide +kernel) (Nat.le_of_ble_eq_true rfl) ?_
  intro p e s m below meth c A ls hC hK hP hD hS hA hl
  have hl : lv_has ls 2 [(0, .ref h0), (1, .int w)] := hl
  obtain ⟨hx, hb, hr, hml, hB, hown, hlocks, hnm⟩ := id hC
  refine lv_iload_n hx hb dX11_clash_0 rfl (lv_at hl 1 rfl) ?_
  refine lv_iconst (v := 0) hx hb dX11_clash_1 (by decide) ?_
  refine lv_iconst (v := 1) hx hb dX11_clash_2 (by decide) ?_
  refine pS hC hK hl (c_within l G w 0 1) si_X11_83 rfl rfl (Nat.le_of_ble_eq_true rfl) ⟨Nat.le_of_ble_eq_true rfl, Nat.le_of_ble_eq_true rfl⟩ ⟨by first | exact Nat.le_of_ble_eq_true rfl | exact Nat.zero_le _, by first | exact Nat.le_of_ble_eq_true rfl | exact Nat.zero_le _⟩ dX11_clash_3 (fun r516 hr516 => ?_)
  rcases hr516 with ⟨rfl, a517⟩ | ⟨rfl, a517⟩
  · refine lv_if_ne (tgt := 11) hx hb dX11_clash_6 (by decide) (fun _ => ?_) (fun c9 => absurd c9 (by decide))
    refine lv_iload_n hx hb dX11_clash_11 rfl (lv_at hl 1 rfl) ?_
    refine lv_iconst (v := 1) hx hb dX11_clash_12 (by decide) ?_
    refine lv_icmp_ne (tgt := 31) hx hb dX11_clash_13 (by decide) (fun c_13_518 => ?_) (fun c_13_518 => ?_)
    · refine lv_aload_n hx hb dX11_clash_31 rfl (lv_at hl 0 rfl) ?_
      refine gf_X11_28 hC rfl hK hP 0 rfl rfl dX11_clash_32 ?_
      refine lv_aload_n hx hb dX11_clash_35 rfl (lv_at hl 0 rfl) ?_
      refine gf_X11_15 hC rfl hK hP 0 rfl rfl dX11_clash_36 ?_
      refine pV hC hK hl hP hD (c_inView l G B bpersons bpapers bstamps bversions blines bsteps bsayings bfindings bwarnings bquestions 0 (-1) 3 24 bpapersc) si_X11_97 [1, 2] rfl rfl (by decide) rfl rfl rfl rfl rfl (Nat.le_of_ble_eq_true rfl) ⟨Nat.le_of_ble_eq_true rfl, Nat.le_of_ble_eq_true rfl⟩ ⟨by first | exact Nat.le_of_ble_eq_true rfl | exact Nat.zero_le _, by first | exact Nat.le_of_ble_eq_true rfl | exact Nat.zero_le _⟩ dX11_clash_39 (fun r519 hr519 => ?_)
      obtain rfl := hr519
      refine vV (wr := [(h0, .inr (11, [.ref B, .ref K, .int 0, .ref S, .ref D, .ref R, .ref Ta, .ref Tp, .ref Ro, .ref Ho, .ref De])), (bpapers, .inr (8, [.int 12, .int 6, .ref bpapersc, .int 0])), (D, .inr (3, [.ref B, .ref hd, .int 0, .int 0, .int 0])), (hd, .inl (G.2.2.1, 13, .inr (.inr (.inr (.inr hf))))), (k0, .inr (1, [.ref k0m])), (k0m, .inl (G.2.1, 36, .inl (fun _ => 0)))]) hC hK hl hP hD hS hA (c_look l G S B clk fi la ml mm sl sm clm bpersons bpapers bstamps bversions blines bsteps bsayings bfindings bwarnings bquestions 0 (-1) 3 24 bstampsc) si_X11_183 [4, 5, 6, 7, 8, 1, 3] [0, 2, 9, 10, 11, 12] rfl rfl (by decide) rfl (by decide) (by decide) rfl rfl rfl rfl rfl (Nat.le_of_ble_eq_true rfl) ⟨Nat.le_of_ble_eq_true rfl, Nat.le_of_ble_eq_true rfl⟩ ⟨Nat.le_of_ble_eq_true rfl, Nat.le_of_ble_eq_true rfl⟩ dX11_clash_42 (fun u522 H locs hr521 hP hD hS => ?_)
      have hP : va_P G.1 vwCl [(h0, .inr (11, [.ref B, .ref K, .int 0, .ref S, .ref D, .ref R, .ref Ta, .ref Tp, .ref Ro, .ref Ho, .ref De])), (bpapers, .inr (8, [.int 12, .int 6, .ref bpapersc, .int 0])), (D, .inr (3, [.ref B, .ref hd, .int 0, .int 0, .int 0])), (hd, .inl (G.2.2.1, 13, .inr (.inr (.inr (.inr hf))))), (k0, .inr (1, [.ref k0m])), (k0m, .inl (G.2.1, 36, .inl (fun _ => 0))), (S, .inr (7, [.ref B, .ref clk, .ref fi, .ref la, .ref ml, .ref mm, .ref sl, .ref sm, .int 0])), (clk, .inr (1, [.ref clm])), (clm, .inl (G.2.1, 36, .inl CL0)), (fi, .inl (G.2.1, 12, .inl M12)), (la, .inl (G.2.1, 12, .inl M12)), (B, .inr (0, [.ref bpersons, .ref bpapers, .ref bstamps, .ref bversions, .ref blines, .ref bsteps, .ref bsayings, .ref bfindings, .ref bwarnings, .ref bquestions, .int 0, .int (-1), .int 3, .int 24])), (bstamps, .inr (8, [.int 24, .int 3, .ref bstampsc, .int 0]))] H := hP
      have hD : va_D A [(h0, .inr (11, [.ref B, .ref K, .int 0, .ref S, .ref D, .ref R, .ref Ta, .ref Tp, .ref Ro, .ref Ho, .ref De])), (bpapers, .inr (8, [.int 12, .int 6, .ref bpapersc, .int 0])), (D, .inr (3, [.ref B, .ref hd, .int 0, .int 0, .int 0])), (hd, .inl (G.2.2.1, 13, .inr (.inr (.inr (.inr hf))))), (k0, .inr (1, [.ref k0m])), (k0m, .inl (G.2.1, 36, .inl (fun _ => 0))), (S, .inr (7, [.ref B, .ref clk, .ref fi, .ref la, .ref ml, .ref mm, .ref sl, .ref sm, .int 0])), (clk, .inr (1, [.ref clm])), (clm, .inl (G.2.1, 36, .inl CL0)), (fi, .inl (G.2.1, 12, .inl M12)), (la, .inl (G.2.1, 12, .inl M12)), (B, .inr (0, [.ref bpersons, .ref bpapers, .ref bstamps, .ref bversions, .ref blines, .ref bsteps, .ref bsayings, .ref bfindings, .ref bwarnings, .ref bquestions, .int 0, .int (-1), .int 3, .int 24])), (bstamps, .inr (8, [.int 24, .int 3, .ref bstampsc, .int 0]))] := hD
      refine lv_aload_n hx hb dX11_clash_45 rfl (lv_at hl 0 rfl) ?_
      refine gf_X11_28 hC rfl hK hP 0 rfl rfl dX11_clash_46 ?_
      refine pV hC hK hl hP hD (c_clashes l G S B clk fi la ml mm sl sm) si_X11_187 [6] rfl rfl (by decide) rfl rfl rfl rfl rfl (Nat.le_of_ble_eq_true rfl) ⟨Nat.le_of_ble_eq_true rfl, Nat.le_of_ble_eq_true rfl⟩ ⟨by first | exact Nat.le_of_ble_eq_true rfl | exact Nat.zero_le _, by first | exact Nat.le_of_ble_eq_true rfl | exact Nat.zero_le _⟩ dX11_clash_49 (fun r523 hr523 => ?_)
      obtain rfl := hr523
      refine lv_if_eq (tgt := 59) hx hb dX11_clash_52 (by decide) (fun _ => ?_) (fun c9 => absurd (by decide) c9)
      refine lv_iconst (v := 0) hx hb dX11_clash_59 (by decide) ?_
      exact RI (v := 0) hC hP hD hS [] () rfl rfl (by decide) ((by unfold A_clash; first | rfl | (simp only [ifc_t hhf, ifc_t a517, ifc_f c_13_518]; done) | (simp only [ifc_t hhf, ifc_t a517, ifc_f c_13_518]; rfl))) rfl dX11_clash_60
    · refine lv_aload_n hx hb dX11_clash_16 rfl (lv_at hl 0 rfl) ?_
      refine gf_X11_35 hC rfl hK hP 0 rfl rfl dX11_clash_17 ?_
      refine lv_aload_n hx hb dX11_clash_20 rfl (lv_at hl 0 rfl) ?_
      refine gf_X11_15 hC rfl hK hP 0 rfl rfl dX11_clash_21 ?_
      refine pV hC hK hl hP hD (c_inView l G B bpersons bpapers bstamps bversions blines bsteps bsayings bfindings bwarnings bquestions 0 (-1) 3 24 bpapersc) si_X11_97 [1, 2] rfl rfl (by decide) rfl rfl rfl rfl rfl (Nat.le_of_ble_eq_true rfl) ⟨Nat.le_of_ble_eq_true rfl, Nat.le_of_ble_eq_true rfl⟩ ⟨by first | exact Nat.le_of_ble_eq_true rfl | exact Nat.zero_le _, by first | exact Nat.le_of_ble_eq_true rfl | exact Nat.zero_le _⟩ dX11_clash_24 (fun r525 hr525 => ?_)
      obtain rfl := hr525
      refine iV (wr := [(h0, .inr (11, [.ref B, .ref K, .int 0, .ref S, .ref D, .ref R, .ref Ta, .ref Tp, .ref Ro, .ref Ho, .ref De])), (bstamps, .inr (8, [.int 24, .int 3, .ref bstampsc, .int 0])), (S, .inr (7, [.ref B, .ref clk, .ref fi, .ref la, .ref ml, .ref mm, .ref sl, .ref sm, .int 0])), (clk, .inr (1, [.ref clm])), (clm, .inl (G.2.1, 36, .inl (fun _ => 0))), (fi, .inl (G.2.1, 12, .inl (fun _ => 0))), (la, .inl (G.2.1, 12, .inl (fun _ => 0)))]) hC hK hl hP hD hS hA (c_fewest l G D B hd hf k0 k0m bpersons bpapers bstamps bversions blines bsteps bsayings bfindings bwarnings bquestions bpapersc (hhf)) si_X11_180 [9, 10, 11, 12, 1, 2] [0, 3, 4, 5, 6, 7, 8] rfl rfl (by decide) rfl (by decide) (by decide) rfl rfl rfl rfl rfl (Nat.le_of_ble_eq_true rfl) ⟨Nat.le_of_ble_eq_true rfl, Nat.le_of_ble_eq_true rfl⟩ ⟨Nat.le_of_ble_eq_true rfl, Nat.le_of_ble_eq_true rfl⟩ dX11_clash_27 (fun r527 u528 H locs hr527 hP hD hS => ?_)
      have hP : va_P G.1 vwCl [(h0, .inr (11, [.ref B, .ref K, .int 0, .ref S, .ref D, .ref R, .ref Ta, .ref Tp, .ref Ro, .ref Ho, .ref De])), (bstamps, .inr (8, [.int 24, .int 3, .ref bstampsc, .int 0])), (S, .inr (7, [.ref B, .ref clk, .ref fi, .ref la, .ref ml, .ref mm, .ref sl, .ref sm, .int 0])), (clk, .inr (1, [.ref clm])), (clm, .inl (G.2.1, 36, .inl (fun _ => 0))), (fi, .inl (G.2.1, 12, .inl (fun _ => 0))), (la, .inl (G.2.1, 12, .inl (fun _ => 0)))] H := hP
      have hD : va_D A [(h0, .inr (11, [.ref B, .ref K, .int 0, .ref S, .ref D, .ref R, .ref Ta, .ref Tp, .ref Ro, .ref Ho, .ref De])), (bstamps, .inr (8, [.int 24, .int 3, .ref bstampsc, .int 0])), (S, .inr (7, [.ref B, .ref clk, .ref fi, .ref la, .ref ml, .ref mm, .ref sl, .ref sm, .int 0])), (clk, .inr (1, [.ref clm])), (clm, .inl (G.2.1, 36, .inl (fun _ => 0))), (fi, .inl (G.2.1, 12, .inl (fun _ => 0))), (la, .inl (G.2.1, 12, .inl (fun _ => 0)))] := hD
      obtain rfl := hr527
      exact RI (v := 0) hC hP hD hS [] () rfl rfl (by decide) ((by unfold A_clash; first | rfl | (simp only [ifc_t hhf, ifc_t a517, ifc_t c_13_518]; done) | (simp only [ifc_t hhf, ifc_t a517, ifc_t c_13_518]; rfl))) rfl dX11_clash_30
  · refine lv_if_ne (tgt := 11) hx hb dX11_clash_6 (by decide) (fun c9 => absurd (by decide) c9) (fun _ => ?_)
    refine lv_iconst (v := (-1)) hx hb dX11_clash_9 (by decide) ?_
    exact RI (v := (-1)) hC hP hD hS [] () rfl rfl (by decide) ((by unfold A_clash; first | rfl | (simp only [ifc_t hhf, ifc_f a517]; done) | (simp only [ifc_t hhf, ifc_f a517]; rfl))) rfl dX11_clash_10
set_option maxHeartbeats 4000000 in
set_option maxRecDepth 100000 in
theorem c_impOnes (l : Launch) (G : GG) (h0 : Nat) (B : Nat) (S : Nat) (bpersons : Nat) (bpapers : Nat) (bstamps : Nat) (bversions : Nat) (blines : Nat) (bsteps : Nat) (bsayings : Nat) (bfindings : Nat) (bwarnings : Nat) (bquestions : Nat) (bsayingsc : Nat) : MP l G yX9_impossibleOnes cX9_impossibleOnes 6 (some .int) 3 [.ref h0, .int 0] [(h0, .inr (9, [.ref B, .ref S, .int 0, .int 0, .int 0, .int 0])), (B, .inr (0, [.ref bpersons, .ref bpapers, .ref bstamps, .ref bversions, .ref blines, .ref bsteps, .ref bsayings, .ref bfindings, .ref bwarnings, .ref bquestions, .int 0, .int (-1), .int 3, .int 24])), (bsayings, .inr (8, [.int 16, .int 8, .ref bsayingsc, .int 0]))] (fun r : Int32 => r = 0) := by
  refine MP.start (by decide +kernel) (Nat.le_of_ble_eq_true rfl) ?_
  intro p e s m below meth c ls hC hK hP hD hl
  have hl : lv_has ls 6 [(0, .ref h0), (1, .int 0)] := hl
  obtain ⟨hx, hb, hr, hml, hB, hown, hlocks, hnm⟩ := id hC
  refine lv_iconst (v := 0) hx hb dX9_impossibleOnes_0 (by decide) ?_
  refine lv_istore_n (lv' := [(2, .int 0), (0, .ref h0), (1, .int 0)]) hx hb dX9_impossibleOnes_1 rfl hl (by decide) rfl (fun ls hl => ?_)
  refine lv_iconst (v := 0) hx hb dX9_impossibleOnes_2 (by decide) ?_
  refine lv_istore_n (lv' := [(3, .int 0), (2, .int 0), (0, .ref h0), (1, .int 0)]) hx hb dX9_impossibleOnes_3 rfl hl (by decide) rfl (fun ls hl => ?_)
  refine lv_iload_n hx hb dX9_impossibleOnes_4 rfl (lv_at hl 0 rfl) ?_
  refine lv_aload_n hx hb dX9_impossibleOnes_5 rfl (lv_at hl 2 rfl) ?_
  refine gf_X9_9 hC rfl hK hP 0 rfl rfl dX9_impossibleOnes_6 ?_
  refine gf_X9_42 hC rfl hK hP 1 rfl rfl dX9_impossibleOnes_9 ?_
  refine pV hC hK hl hP hD (c_T_count l G bsayings bsayingsc 16 8 0) si_X9_65 [2] rfl rfl (by decide) rfl rfl rfl rfl rfl (Nat.le_of_ble_eq_true rfl) ⟨Nat.le_of_ble_eq_true rfl, Nat.le_of_ble_eq_true rfl⟩ ⟨by first | exact Nat.le_of_ble_eq_true rfl | exact Nat.zero_le _, by first | exact Nat.le_of_ble_eq_true rfl | exact Nat.zero_le _⟩ dX9_impossibleOnes_12 (fun r530 hr530 => ?_)
  obtain rfl := hr530
  refine lv_icmp_ge (tgt := 141) hx hb dX9_impossibleOnes_15 (by decide) (fun _ => ?_) (fun c9 => absurd (by decide) c9)
  refine lv_iload_n hx hb dX9_impossibleOnes_141 rfl (lv_at hl 1 rfl) ?_
  exact RP (v := 0) hC (rfl) rfl dX9_impossibleOnes_142
set_option maxHeartbeats 4000000 in
set_option maxRecDepth 100000 in
theorem c_impossible (l : Launch) (G : GG) (h0 : Nat) (B : Nat) (K : Nat) (S : Nat) (D : Nat) (R : Nat) (Ta : Nat) (Tp : Nat) (Ro : Nat) (Ho : Nat) (De : Nat) (bpersons : Nat) (bpapers : Nat) (bstamps : Nat) (bversions : Nat) (blines : Nat) (bsteps : Nat) (bsayings : Nat) (bfindings : Nat) (bwarnings : Nat) (bquestions : Nat) (bpapersc : Nat) (bstampsc : Nat) (clk : Nat) (fi : Nat) (la : Nat) (ml : Nat) (mm : Nat) (sl : Nat) (sm : Nat) (clm : Nat) (bsayingsc : Nat) : MI l G yX11_impossible cX11_impossible 2 (some .int) 5 0 0 [.ref h0] [(h0, .inr (11, [.ref B, .ref K, .int 0, .ref S, .ref D, .ref R, .ref Ta, .ref Tp, .ref Ro, .ref Ho, .ref De])), (B, .inr (0, [.ref bpersons, .ref bpapers, .ref bstamps, .ref bversions, .ref blines, .ref bsteps, .ref bsayings, .ref bfindings, .ref bwarnings, .ref bquestions, .int 0, .int (-1), .int 3, .int 24])), (bpapers, .inr (8, [.int 12, .int 6, .ref bpapersc, .int 0])), (bstamps, .inr (8, [.int 24, .int 3, .ref bstampsc, .int 0])), (S, .inr (7, [.ref B, .ref clk, .ref fi, .ref la, .ref ml, .ref mm, .ref sl, .ref sm, .int 0])), (clk, .inr (1, [.ref clm])), (clm, .inl (G.2.1, 36, .inl (fun _ => 0))), (fi, .inl (G.2.1, 12, .inl (fun _ => 0))), (la, .inl (G.2.1, 12, .inl (fun _ => 0))), (Ta, .inr (9, [.ref B, .ref S, .int 0, .int 0, .int 0, .int 0])), (bsayings, .inr (8, [.int 16, .int 8, .ref bsayingsc, .int 0]))] (fun (r : Int32) (u : Unit) => (r = 0)) (fun u : Unit => []) := by
  refine MI.start (by decide +kernel) (Nat.le_of_ble_eq_true rfl) ?_
  intro p e s m below meth c A ls hC hK hP hD hS hA hl
  have hl : lv_has ls 2 [(0, .ref h0)] := hl
  obtain ⟨hx, hb, hr, hml, hB, hown, hlocks, hnm⟩ := id hC
  refine lv_aload_n hx hb dX11_impossible_0 rfl (lv_at hl 0 rfl) ?_
  refine gf_X11_15 hC rfl hK hP 0 rfl rfl dX11_impossible_1 ?_
  refine pV hC hK hl hP hD (c_inView l G B bpersons bpapers bstamps bversions blines bsteps bsayings bfindings bwarnings bquestions 0 (-1) 3 24 bpapersc) si_X11_97 [1, 2] rfl rfl (by decide) rfl rfl rfl rfl rfl (Nat.le_of_ble_eq_true rfl) ⟨Nat.le_of_ble_eq_true rfl, Nat.le_of_ble_eq_true rfl⟩ ⟨by first | exact Nat.le_of_ble_eq_true rfl | exact Nat.zero_le _, by first | exact Nat.le_of_ble_eq_true rfl | exact Nat.zero_le _⟩ dX11_impossible_4 (fun r532 hr532 => ?_)
  obtain rfl := hr532
  refine lv_istore_n (lv' := [(1, .int 0), (0, .ref h0)]) hx hb dX11_impossible_7 rfl hl (by decide) rfl (fun ls hl => ?_)
  refine lv_aload_n hx hb dX11_impossible_8 rfl (lv_at hl 1 rfl) ?_
  refine gf_X11_28 hC rfl hK hP 0 rfl rfl dX11_impossible_9 ?_
  refine lv_iload_n hx hb dX11_impossible_12 rfl (lv_at hl 0 rfl) ?_
  refine vV (wr := [(h0, .inr (11, [.ref B, .ref K, .int 0, .ref S, .ref D, .ref R, .ref Ta, .ref Tp, .ref Ro, .ref Ho, .ref De])), (bpapers, .inr (8, [.int 12, .int 6, .ref bpapersc, .int 0])), (Ta, .inr (9, [.ref B, .ref S, .int 0, .int 0, .int 0, .int 0])), (bsayings, .inr (8, [.int 16, .int 8, .ref bsayingsc, .int 0]))]) hC hK hl hP hD hS hA (c_look l G S B clk fi la ml mm sl sm clm bpersons bpapers bstamps bversions blines bsteps bsayings bfindings bwarnings bquestions 0 (-1) 3 24 bstampsc) si_X11_183 [4, 5, 6, 7, 8, 1, 3] [0, 2, 9, 10] rfl rfl (by decide) rfl (by decide) (by decide) rfl rfl rfl rfl rfl (Nat.le_of_ble_eq_true rfl) ⟨Nat.le_of_ble_eq_true rfl, Nat.le_of_ble_eq_true rfl⟩ ⟨Nat.le_of_ble_eq_true rfl, Nat.le_of_ble_eq_true rfl⟩ dX11_impossible_13 (fun u535 H locs hr534 hP hD hS => ?_)
  have hP : va_P G.1 vwCl [(h0, .inr (11, [.ref B, .ref K, .int 0, .ref S, .ref D, .ref R, .ref Ta, .ref Tp, .ref Ro, .ref Ho, .ref De])), (bpapers, .inr (8, [.int 12, .int 6, .ref bpapersc, .int 0])), (Ta, .inr (9, [.ref B, .ref S, .int 0, .int 0, .int 0, .int 0])), (bsayings, .inr (8, [.int 16, .int 8, .ref bsayingsc, .int 0])), (S, .inr (7, [.ref B, .ref clk, .ref fi, .ref la, .ref ml, .ref mm, .ref sl, .ref sm, .int 0])), (clk, .inr (1, [.ref clm])), (clm, .inl (G.2.1, 36, .inl CL0)), (fi, .inl (G.2.1, 12, .inl M12)), (la, .inl (G.2.1, 12, .inl M12)), (B, .inr (0, [.ref bpersons, .ref bpapers, .ref bstamps, .ref bversions, .ref blines, .ref bsteps, .ref bsayings, .ref bfindings, .ref bwarnings, .ref bquestions, .int 0, .int (-1), .int 3, .int 24])), (bstamps, .inr (8, [.int 24, .int 3, .ref bstampsc, .int 0]))] H := hP
  have hD : va_D A [(h0, .inr (11, [.ref B, .ref K, .int 0, .ref S, .ref D, .ref R, .ref Ta, .ref Tp, .ref Ro, .ref Ho, .ref De])), (bpapers, .inr (8, [.int 12, .int 6, .ref bpapersc, .int 0])), (Ta, .inr (9, [.ref B, .ref S, .int 0, .int 0, .int 0, .int 0])), (bsayings, .inr (8, [.int 16, .int 8, .ref bsayingsc, .int 0])), (S, .inr (7, [.ref B, .ref clk, .ref fi, .ref la, .ref ml, .ref mm, .ref sl, .ref sm, .int 0])), (clk, .inr (1, [.ref clm])), (clm, .inl (G.2.1, 36, .inl CL0)), (fi, .inl (G.2.1, 12, .inl M12)), (la, .inl (G.2.1, 12, .inl M12)), (B, .inr (0, [.ref bpersons, .ref bpapers, .ref bstamps, .ref bversions, .ref blines, .ref bsteps, .ref bsayings, .ref bfindings, .ref bwarnings, .ref bquestions, .int 0, .int (-1), .int 3, .int 24])), (bstamps, .inr (8, [.int 24, .int 3, .ref bstampsc, .int 0]))] := hD
  refine lv_aload_n hx hb dX11_impossible_16 rfl (lv_at hl 1 rfl) ?_
  refine gf_X11_51 hC rfl hK hP 0 rfl rfl dX11_impossible_17 ?_
  refine lv_iload_n hx hb dX11_impossible_20 rfl (lv_at hl 0 rfl) ?_
  refine pV hC hK hl hP hD (c_impOnes l G Ta B S bpersons bpapers bstamps bversions blines bsteps bsayings bfindings bwarnings bquestions bsayingsc) si_X11_268 [2, 9, 3] rfl rfl (by decide) rfl rfl rfl rfl rfl (Nat.le_of_ble_eq_true rfl) ⟨Nat.le_of_ble_eq_true rfl, Nat.le_of_ble_eq_true rfl⟩ ⟨by first | exact Nat.le_of_ble_eq_true rfl | exact Nat.zero_le _, by first | exact Nat.le_of_ble_eq_true rfl | exact Nat.zero_le _⟩ dX11_impossible_21 (fun r536 hr536 => ?_)
  obtain rfl := hr536
  exact RI (v := 0) hC hP hD hS [] () rfl rfl (by decide) (rfl) rfl dX11_impossible_24
