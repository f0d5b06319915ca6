section WR
variable {p : Program} {l : Launch} {e : Env} {R : Room} {s : State} {m : MethodId} {args : Array Value} {below : List Frame} {meth : Method} {c : Code} {H : Heap} {locs : List Loc} {cells slots : Nat} {Q : State → Prop}
variable {pc : Nat} {ls : Array Slot} {rest : List Value} {G : GG} {ws : va_W} {A : Nat → Prop} {y0 : MethodName} {b0 : ByteArray} {mL0 : Nat} {rt0 : Option FieldType} {a : Nat} {H0 : Heap}
theorem dX8_init_0 : decode cX8_init 0 = .ok (.aload_n 0, 1) := by decide +kernel
theorem dX8_init_1 : decode cX8_init 1 = .ok (.invokespecial 3, 3) := by decide +kernel
theorem m_74 : Cond.methodLink RX8 3 objectInit ∈ BW := List.mem_of_getElem? (i := 74) (by decide +kernel)
theorem m_11 : Cond.instanceMethod objectInit ∈ BW := List.mem_of_getElem? (i := 11) (by decide +kernel)
theorem m_12 : Cond.code objectInit ⟨#[0xb1]⟩ 1 none ∈ BW := List.mem_of_getElem? (i := 12) (by decide +kernel)
theorem dX8_init_4 : decode cX8_init 4 = .ok (.aload_n 0, 1) := by decide +kernel
theorem dX8_init_5 : decode cX8_init 5 = .ok (.iload_n 1, 1) := by decide +kernel
theorem dX8_init_6 : decode cX8_init 6 = .ok (.iconst 0, 1) := by decide +kernel
theorem dX8_init_7 : decode cX8_init 7 = .ok (.invokestatic 9, 3) := by decide +kernel
theorem m_75 : Cond.methodLink RX8 9 Lib.Math.max.name ∈ BW := List.mem_of_getElem? (i := 75) (by decide +kernel)
theorem m_76 : Cond.static Lib.Math.max.name ∈ BW := List.mem_of_getElem? (i := 76) (by decide +kernel)
theorem m_77 : Cond.initialized "java/lang/Math" ∈ BW := List.mem_of_getElem? (i := 77) (by decide +kernel)
theorem m_78 : Cond.code Lib.Math.max.name Lib.Math.max.code 2 (some .int) ∈ BW := List.mem_of_getElem? (i := 78) (by decide +kernel)
theorem dX8_init_10 : decode cX8_init 10 = .ok (.putfield 15, 3) := by decide +kernel
theorem pf_X8_15 (hC : CX p s m meth c y0 b0 mL0 rt0 args) (hy0 : y0.cls = RX8) (hin : y0.name = "<init>") (hK : KK G s) (hP : va_P G.1 vwCl ws H) (hD : va_D A ws) (hS : va_S A H0 H locs) (q0 : Nat) {fs : List Value} {v : Value} {ws' : va_W} (he : ws[q0]? = some (a, .inr (8, fs))) (hl : 0 < fs.length) (hws : ws.set q0 (a, .inr (8, fs.set 0 v)) = ws') (hn : narrow .int v = v) (hfit : fits .int v = true) (hdg : decode b0 pc = .ok (.putfield 15, 3)) (kk : ∀ (H1 : Heap) (locs1 : List Loc), va_P G.1 vwCl ws' H1 → va_D A ws' → va_S A H0 H1 locs1 → W p l e R s m args below meth c H1 locs1 cells slots Q (F0 m (pc + 3) ls rest)) : W p l e R s m args below meth c H locs cells slots Q (F0 m pc ls (v :: .ref a :: rest)) := by
  obtain ⟨hx, hb, hr, hml, hB, hown, hlocks, hnm⟩ := hC
  rw [hy0] at hown
  subst hws
  exact va_putF (ci := 8) (ty := .int) (C := RX8) (T := TX8) (N := 4) hx hb hB in_X8 tyX8 tyX8_ok nmX8 hown hK.1 hP hD hS q0 he rfl 0 (by decide) (hB _ m_79) (fun _ h => h) rfl (hnm.trans hin) rfl (by decide +kernel) hn hfit hl hdg kk
theorem dX8_init_13 : decode cX8_init 13 = .ok (.aload_n 0, 1) := by decide +kernel
theorem dX8_init_14 : decode cX8_init 14 = .ok (.iload_n 2, 1) := by decide +kernel
theorem dX8_init_15 : decode cX8_init 15 = .ok (.iconst 1, 1) := by decide +kernel
theorem dX8_init_16 : decode cX8_init 16 = .ok (.invokestatic 9, 3) := by decide +kernel
theorem dX8_init_19 : decode cX8_init 19 = .ok (.putfield 21, 3) := by decide +kernel
theorem m_80 : Cond.fieldLink RX8 21 "InquiryBench$Table" "width" "I" ∈ BW := List.mem_of_getElem? (i := 80) (by decide +kernel)
theorem pf_X8_21 (hC : CX p s m meth c y0 b0 mL0 rt0 args) (hy0 : y0.cls = RX8) (hin : y0.name = "<init>") (hK : KK G s) (hP : va_P G.1 vwCl ws H) (hD : va_D A ws) (hS : va_S A H0 H locs) (q0 : Nat) {fs : List Value} {v : Value} {ws' : va_W} (he : ws[q0]? = some (a, .inr (8, fs))) (hl : 1 < fs.length) (hws : ws.set q0 (a, .inr (8, fs.set 1 v)) = ws') (hn : narrow .int v = v) (hfit : fits .int v = true) (hdg : decode b0 pc = .ok (.putfield 21, 3)) (kk : ∀ (H1 : Heap) (locs1 : List Loc), va_P G.1 vwCl ws' H1 → va_D A ws' → va_S A H0 H1 locs1 → W p l e R s m args below meth c H1 locs1 cells slots Q (F0 m (pc + 3) ls rest)) : W p l e R s m args below meth c H locs cells slots Q (F0 m pc ls (v :: .ref a :: rest)) := by
  obtain ⟨hx, hb, hr, hml, hB, hown, hlocks, hnm⟩ := hC
  rw [hy0] at hown
  subst hws
  exact va_putF (ci := 8) (ty := .int) (C := RX8) (T := TX8) (N := 4) hx hb hB in_X8 tyX8 tyX8_ok nmX8 hown hK.1 hP hD hS q0 he rfl 1 (by decide) (hB _ m_80) (fun _ h => h) rfl (hnm.trans hin) rfl (by decide +kernel) hn hfit hl hdg kk
theorem dX8_init_22 : decode cX8_init 22 = .ok (.aload_n 0, 1) := by decide +kernel
theorem dX8_init_23 : decode cX8_init 23 = .ok (.aload_n 0, 1) := by decide +kernel
theorem dX8_init_24 : decode cX8_init 24 = .ok (.getfield 15, 3) := by decide +kernel
theorem dX8_init_27 : decode cX8_init 27 = .ok (.aload_n 0, 1) := by decide +kernel
theorem dX8_init_28 : decode cX8_init 28 = .ok (.getfield 21, 3) := by decide +kernel
theorem gf_X8_21 (hC : CX p s m meth c y0 b0 mL0 rt0 args) (hy0 : y0.cls = RX8) (hK : KK G s) (hP : va_P G.1 vwCl ws H) (q0 : Nat) {fs : List Value} {v : Value} (he : ws[q0]? = some (a, .inr (8, fs))) (hv : fs[1]? = some v) (hdg : decode b0 pc = .ok (.getfield 21, 3)) (kk : W p l e R s m args below meth c H locs cells slots Q (F0 m (pc + 3) ls (v :: rest))) : W p l e R s m args below meth c H locs cells slots Q (F0 m pc ls (.ref a :: rest)) := by
  obtain ⟨hx, hb, hr, hml, hB, hown, hlocks, hnm⟩ := hC
  rw [hy0] at hown
  exact va_get (ci := 8) (C := RX8) (T := TX8) (N := 4) hx hb hB in_X8 hown hK.1 hP q0 he rfl 1 (by decide) (hB _ m_80) (fun _ h => h) hv hdg kk
theorem dX8_init_31 : decode cX8_init 31 = .ok (.imul, 1) := by decide +kernel
theorem dX8_init_32 : decode cX8_init 32 = .ok (.newarray .int, 2) := by decide +kernel
theorem m_81 : Cond.arrayClass .int ∈ BW := List.mem_of_getElem? (i := 81) (by decide +kernel)
theorem dX8_init_34 : decode cX8_init 34 = .ok (.putfield 24, 3) := by decide +kernel
theorem m_82 : Cond.fieldLink RX8 24 "InquiryBench$Table" "cells" "[I" ∈ BW := List.mem_of_getElem? (i := 82) (by decide +kernel)
theorem pf_X8_24 (hC : CX p s m meth c y0 b0 mL0 rt0 args) (hy0 : y0.cls = RX8) (hin : y0.name = "<init>") (hK : KK G s) (hP : va_P G.1 vwCl ws H) (hD : va_D A ws) (hS : va_S A H0 H locs) (q0 : Nat) {fs : List Value} {v : Value} {ws' : va_W} (he : ws[q0]? = some (a, .inr (8, fs))) (hl : 2 < fs.length) (hws : ws.set q0 (a, .inr (8, fs.set 2 v)) = ws') (hn : narrow (.array .int) v = v) (hfit : fits (.array .int) v = true) (hdg : decode b0 pc = .ok (.putfield 24, 3)) (kk : ∀ (H1 : Heap) (locs1 : List Loc), va_P G.1 vwCl ws' H1 → va_D A ws' → va_S A H0 H1 locs1 → W p l e R s m args below meth c H1 locs1 cells slots Q (F0 m (pc + 3) ls rest)) : W p l e R s m args below meth c H locs cells slots Q (F0 m pc ls (v :: .ref a :: rest)) := by
  obtain ⟨hx, hb, hr, hml, hB, hown, hlocks, hnm⟩ := hC
  rw [hy0] at hown
  subst hws
  exact va_putF (ci := 8) (ty := (.array .int)) (C := RX8) (T := TX8) (N := 4) hx hb hB in_X8 tyX8 tyX8_ok nmX8 hown hK.1 hP hD hS q0 he rfl 2 (by decide) (hB _ m_82) (fun _ h => h) rfl (hnm.trans hin) rfl (by decide +kernel) hn hfit hl hdg kk
theorem dX8_init_37 : decode cX8_init 37 = .ok (.aload_n 0, 1) := by decide +kernel
theorem dX8_init_38 : decode cX8_init 38 = .ok (.iconst 0, 1) := by decide +kernel
theorem dX8_init_39 : decode cX8_init 39 = .ok (.putfield 28, 3) := by decide +kernel
theorem pf_X8_28 (hC : CX p s m meth c y0 b0 mL0 rt0 args) (hy0 : y0.cls = RX8) (hK : KK G s) (hP : va_P G.1 vwCl ws H) (hD : va_D A ws) (hS : va_S A H0 H locs) (q0 : Nat) {fs : List Value} {v : Value} {ws' : va_W} (he : ws[q0]? = some (a, .inr (8, fs))) (hl : 3 < fs.length) (hws : ws.set q0 (a, .inr (8, fs.set 3 v)) = ws') (hn : narrow .int v = v) (hfit : fits .int v = true) (hdg : decode b0 pc = .ok (.putfield 28, 3)) (kk : ∀ (H1 : Heap) (locs1 : List Loc), va_P G.1 vwCl ws' H1 → va_D A ws' → va_S A H0 H1 locs1 → W p l e R s m args below meth c H1 locs1 cells slots Q (F0 m (pc + 3) ls rest)) : W p l e R s m args below meth c H locs cells slots Q (F0 m pc ls (v :: .ref a :: rest)) := by
  obtain ⟨hx, hb, hr, hml, hB, hown, hlocks, hnm⟩ := hC
  rw [hy0] at hown
  subst hws
  exact va_put (ci := 8) (ty := .int) (C := RX8) (T := TX8) (N := 4) hx hb hB in_X8 tyX8 tyX8_ok nmX8 hown hK.1 hP hD hS q0 he rfl 3 (by decide) (hB _ m_83) (fun _ h => h) rfl (by decide +kernel) hn hfit hl hdg kk
theorem dX8_init_42 : decode cX8_init 42 = .ok (.return_, 1) := by decide +kernel
theorem dX0_init_0 : decode cX0_init 0 = .ok (.aload_n 0, 1) := by decide +kernel
theorem dX0_init_1 : decode cX0_init 1 = .ok (.invokespecial 3, 3) := by decide +kernel
theorem m_53 : Cond.methodLink RX0 3 objectInit ∈ BW := List.mem_of_getElem? (i := 53) (by decide +kernel)
theorem dX0_init_4 : decode cX0_init 4 = .ok (.aload_n 0, 1) := by decide +kernel
theorem dX0_init_5 : decode cX0_init 5 = .ok (.new 9, 3) := by decide +kernel
theorem m_54 : Cond.classLink RX0 9 RX8 ∈ BW := List.mem_of_getElem? (i := 54) (by decide +kernel)
theorem m_55 : Cond.instantiable RX8 4 ∈ BW := List.mem_of_getElem? (i := 55) (by decide +kernel)
theorem m_56 : Cond.initialized RX8 ∈ BW := List.mem_of_getElem? (i := 56) (by decide +kernel)
theorem nw_X0_9 (hC : CX p s m meth c y0 b0 mL0 rt0 args) (hy0 : y0.cls = RX0) (hK : KK G s) (hP : va_P G.1 vwCl ws H) (hD : va_D A ws) (hS : va_S A H0 H locs) (hA : ∀ q : Nat, H0.size ≤ q → A q) (hcells : cells + 1 ≤ R.cells) (hslots : slots + 4 ≤ R.slots) (hdg : decode b0 pc = .ok (.new 9, 3)) (kk : ∀ (q : Nat) (H1 : Heap), va_P G.1 vwCl (ws ++ [(q, .inr (8, [.int 0, .int 0, .null, .int 0]))]) H1 → va_D A (ws ++ [(q, .inr (8, [.int 0, .int 0, .null, .int 0]))]) → va_S A H0 H1 locs → W p l e R s m args below meth c H1 locs (cells + 1) (slots + 4) Q (F0 m (pc + 3) ls (.ref q :: rest))) : W p l e R s m args below meth c H locs cells slots Q (F0 m pc ls rest) := by
  obtain ⟨hx, hb, hr, hml, hB, hown, hlocks, hnm⟩ := hC
  rw [hy0] at hown
  exact va_new (ci := 8) (C := RX8) (T := TX8) (N := 4) hx hb hB in_X8 tyX8 tyX8_ok hown (hB _ m_54) (hB _ m_55) (hB _ m_56) hK.1 hP hD hS hA rfl (fun j hj => by rcases (show j = 0 ∨ j = 1 ∨ j = 2 ∨ j = 3 by omega) with rfl | rfl | rfl | rfl <;> rfl) hcells hslots hdg kk
theorem dX0_init_8 : decode cX0_init 8 = .ok (.dup, 1) := by decide +kernel
theorem dX0_init_9 : decode cX0_init 9 = .ok (.bipush 10, 2) := by decide +kernel
theorem dX0_init_11 : decode cX0_init 11 = .ok (.iconst 2, 1) := by decide +kernel
theorem dX0_init_12 : decode cX0_init 12 = .ok (.invokespecial 11, 3) := by decide +kernel
theorem m_73 : Cond.code yX8_init cX8_init 3 none ∈ BW := List.mem_of_getElem? (i := 73) (by decide +kernel)
theorem m_71 : Cond.methodLink RX0 11 yX8_init ∈ BW := List.mem_of_getElem? (i := 71) (by decide +kernel)
theorem m_72 : Cond.instanceMethod yX8_init ∈ BW := List.mem_of_getElem? (i := 72) (by decide +kernel)
theorem si_X0_11 : SI RX0 11 yX8_init cX8_init 3 2 := ⟨⟨m_71, m_72, m_56, m_73⟩, rfl, ⟨by decide +kernel, by decide +kernel, by decide +kernel⟩⟩
theorem dX0_init_15 : decode cX0_init 15 = .ok (.putfield 14, 3) := by decide +kernel
theorem in_X0 : ∀ w ∈ wsX00, w ∈ BW := fun w h => by
  unfold BW
  simp only [List.mem_append]
  exact Or.inr (Or.inr (Or.inr (Or.inr (Or.inr (Or.inr (Or.inr (Or.inr (Or.inr (Or.inr (Or.inr (Or.inr (Or.inr (Or.inr (Or.inr (Or.inr (Or.inr (Or.inr (Or.inr (Or.inr (Or.inr (Or.inr (Or.inr (Or.inr (Or.inr (Or.inr (Or.inr (Or.inr (Or.inr (Or.inr (Or.inr (Or.inr (Or.inr (Or.inr (Or.inr (Or.inr (Or.inr (Or.inr (Or.inr (Or.inr (Or.inr (Or.inr (Or.inr (Or.inr (Or.inr (Or.inr (Or.inr (Or.inr (Or.inr (Or.inr (Or.inr (Or.inr (Or.inr (Or.inr (Or.inr (Or.inr (Or.inr (Or.inr (Or.inr (Or.inr (Or.inr (Or.inr (Or.inl h))))))))))))))))))))))))))))))))))))))))))))))))))))))))))))))
theorem m_57 : Cond.fieldLink RX0 14 "InquiryBench$Book" "persons" "LInquiryBench$Table;" ∈ BW := List.mem_of_getElem? (i := 57) (by decide +kernel)
theorem pf_X0_14 (hC : CX p s m meth c y0 b0 mL0 rt0 args) (hy0 : y0.cls = RX0) (hin : y0.name = "<init>") (hK : KK G s) (hP : va_P G.1 vwCl ws H) (hD : va_D A ws) (hS : va_S A H0 H locs) (q0 : Nat) {fs : List Value} {v : Value} {ws' : va_W} (he : ws[q0]? = some (a, .inr (0, fs))) (hl : 0 < fs.length) (hws : ws.set q0 (a, .inr (0, fs.set 0 v)) = ws') (hn : narrow (.object "InquiryBench$Table") v = v) (hfit : fits (.object "InquiryBench$Table") v = true) (hdg : decode b0 pc = .ok (.putfield 14, 3)) (kk : ∀ (H1 : Heap) (locs1 : List Loc), va_P G.1 vwCl ws' H1 → va_D A ws' → va_S A H0 H1 locs1 → W p l e R s m args below meth c H1 locs1 cells slots Q (F0 m (pc + 3) ls rest)) : W p l e R s m args below meth c H locs cells slots Q (F0 m pc ls (v :: .ref a :: rest)) := by
  obtain ⟨hx, hb, hr, hml, hB, hown, hlocks, hnm⟩ := hC
  rw [hy0] at hown
  subst hws
  exact va_putF (ci := 0) (ty := (.object "InquiryBench$Table")) (C := RX0) (T := TX0) (N := 14) hx hb hB in_X0 tyX0 tyX0_ok nmX0 hown hK.1 hP hD hS q0 he rfl 0 (by decide) (hB _ m_57) (fun _ h => h) rfl (hnm.trans hin) rfl (by decide +kernel) hn hfit hl hdg kk
theorem dX0_init_18 : decode cX0_init 18 = .ok (.aload_n 0, 1) := by decide +kernel
theorem dX0_init_19 : decode cX0_init 19 = .ok (.new 9, 3) := by decide +kernel
theorem dX0_init_22 : decode cX0_init 22 = .ok (.dup, 1) := by decide +kernel
theorem dX0_init_23 : decode cX0_init 23 = .ok (.bipush 12, 2) := by decide +kernel
theorem dX0_init_25 : decode cX0_init 25 = .ok (.bipush 6, 2) := by decide +kernel
theorem dX0_init_27 : decode cX0_init 27 = .ok (.invokespecial 11, 3) := by decide +kernel
theorem dX0_init_30 : decode cX0_init 30 = .ok (.putfield 20, 3) := by decide +kernel
theorem m_58 : Cond.fieldLink RX0 20 "InquiryBench$Book" "papers" "LInquiryBench$Table;" ∈ BW := List.mem_of_getElem? (i := 58) (by decide +kernel)
theorem pf_X0_20 (hC : CX p s m meth c y0 b0 mL0 rt0 args) (hy0 : y0.cls = RX0) (hin : y0.name = "<init>") (hK : KK G s) (hP : va_P G.1 vwCl ws H) (hD : va_D A ws) (hS : va_S A H0 H locs) (q0 : Nat) {fs : List Value} {v : Value} {ws' : va_W} (he : ws[q0]? = some (a, .inr (0, fs))) (hl : 1 < fs.length) (hws : ws.set q0 (a, .inr (0, fs.set 1 v)) = ws') (hn : narrow (.object "InquiryBench$Table") v = v) (hfit : fits (.object "InquiryBench$Table") v = true) (hdg : decode b0 pc = .ok (.putfield 20, 3)) (kk : ∀ (H1 : Heap) (locs1 : List Loc), va_P G.1 vwCl ws' H1 → va_D A ws' → va_S A H0 H1 locs1 → W p l e R s m args below meth c H1 locs1 cells slots Q (F0 m (pc + 3) ls rest)) : W p l e R s m args below meth c H locs cells slots Q (F0 m pc ls (v :: .ref a :: rest)) := by
  obtain ⟨hx, hb, hr, hml, hB, hown, hlocks, hnm⟩ := hC
  rw [hy0] at hown
  subst hws
  exact va_putF (ci := 0) (ty := (.object "InquiryBench$Table")) (C := RX0) (T := TX0) (N := 14) hx hb hB in_X0 tyX0 tyX0_ok nmX0 hown hK.1 hP hD hS q0 he rfl 1 (by decide) (hB _ m_58) (fun _ h => h) rfl (hnm.trans hin) rfl (by decide +kernel) hn hfit hl hdg kk
theorem dX0_init_33 : decode cX0_init 33 = .ok (.aload_n 0, 1) := by decide +kernel
theorem dX0_init_34 : decode cX0_init 34 = .ok (.new 9, 3) := by decide +kernel
theorem dX0_init_37 : decode cX0_init 37 = .ok (.dup, 1) := by decide +kernel
theorem dX0_init_38 : decode cX0_init 38 = .ok (.bipush 24, 2) := by decide +kernel
theorem dX0_init_40 : decode cX0_init 40 = .ok (.iconst 3, 1) := by decide +kernel
theorem dX0_init_41 : decode cX0_init 41 = .ok (.invokespecial 11, 3) := by decide +kernel
theorem dX0_init_44 : decode cX0_init 44 = .ok (.putfield 23, 3) := by decide +kernel
theorem m_59 : Cond.fieldLink RX0 23 "InquiryBench$Book" "stamps" "LInquiryBench$Table;" ∈ BW := List.mem_of_getElem? (i := 59) (by decide +kernel)
theorem pf_X0_23 (hC : CX p s m meth c y0 b0 mL0 rt0 args) (hy0 : y0.cls = RX0) (hin : y0.name = "<init>") (hK : KK G s) (hP : va_P G.1 vwCl ws H) (hD : va_D A ws) (hS : va_S A H0 H locs) (q0 : Nat) {fs : List Value} {v : Value} {ws' : va_W} (he : ws[q0]? = some (a, .inr (0, fs))) (hl : 2 < fs.length) (hws : ws.set q0 (a, .inr (0, fs.set 2 v)) = ws') (hn : narrow (.object "InquiryBench$Table") v = v) (hfit : fits (.object "InquiryBench$Table") v = true) (hdg : decode b0 pc = .ok (.putfield 23, 3)) (kk : ∀ (H1 : Heap) (locs1 : List Loc), va_P G.1 vwCl ws' H1 → va_D A ws' → va_S A H0 H1 locs1 → W p l e R s m args below meth c H1 locs1 cells slots Q (F0 m (pc + 3) ls rest)) : W p l e R s m args below meth c H locs cells slots Q (F0 m pc ls (v :: .ref a :: rest)) := by
  obtain ⟨hx, hb, hr, hml, hB, hown, hlocks, hnm⟩ := hC
  rw [hy0] at hown
  subst hws
  exact va_putF (ci := 0) (ty := (.object "InquiryBench$Table")) (C := RX0) (T := TX0) (N := 14) hx hb hB in_X0 tyX0 tyX0_ok nmX0 hown hK.1 hP hD hS q0 he rfl 2 (by decide) (hB _ m_59) (fun _ h => h) rfl (hnm.trans hin) rfl (by decide +kernel) hn hfit hl hdg kk
theorem dX0_init_47 : decode cX0_init 47 = .ok (.aload_n 0, 1) := by decide +kernel
theorem dX0_init_48 : decode cX0_init 48 = .ok (.new 9, 3) := by decide +kernel
theorem dX0_init_51 : decode cX0_init 51 = .ok (.dup, 1) := by decide +kernel
theorem dX0_init_52 : decode cX0_init 52 = .ok (.bipush 8, 2) := by decide +kernel
theorem dX0_init_54 : decode cX0_init 54 = .ok (.iconst 3, 1) := by decide +kernel
theorem dX0_init_55 : decode cX0_init 55 = .ok (.invokespecial 11, 3) := by decide +kernel
theorem dX0_init_58 : decode cX0_init 58 = .ok (.putfield 26, 3) := by decide +kernel
theorem m_60 : Cond.fieldLink RX0 26 "InquiryBench$Book" "versions" "LInquiryBench$Table;" ∈ BW := List.mem_of_getElem? (i := 60) (by decide +kernel)
theorem pf_X0_26 (hC : CX p s m meth c y0 b0 mL0 rt0 args) (hy0 : y0.cls = RX0) (hin : y0.name = "<init>") (hK : KK G s) (hP : va_P G.1 vwCl ws H) (hD : va_D A ws) (hS : va_S A H0 H locs) (q0 : Nat) {fs : List Value} {v : Value} {ws' : va_W} (he : ws[q0]? = some (a, .inr (0, fs))) (hl : 3 < fs.length) (hws : ws.set q0 (a, .inr (0, fs.set 3 v)) = ws') (hn : narrow (.object "InquiryBench$Table") v = v) (hfit : fits (.object "InquiryBench$Table") v = true) (hdg : decode b0 pc = .ok (.putfield 26, 3)) (kk : ∀ (H1 : Heap) (locs1 : List Loc), va_P G.1 vwCl ws' H1 → va_D A ws' → va_S A H0 H1 locs1 → W p l e R s m args below meth c H1 locs1 cells slots Q (F0 m (pc + 3) ls rest)) : W p l e R s m args below meth c H locs cells slots Q (F0 m pc ls (v :: .ref a :: rest)) := by
  obtain ⟨hx, hb, hr, hml, hB, hown, hlocks, hnm⟩ := hC
  rw [hy0] at hown
  subst hws
  exact va_putF (ci := 0) (ty := (.object "InquiryBench$Table")) (C := RX0) (T := TX0) (N := 14) hx hb hB in_X0 tyX0 tyX0_ok nmX0 hown hK.1 hP hD hS q0 he rfl 3 (by decide) (hB _ m_60) (fun _ h => h) rfl (hnm.trans hin) rfl (by decide +kernel) hn hfit hl hdg kk
theorem dX0_init_61 : decode cX0_init 61 = .ok (.aload_n 0, 1) := by decide +kernel
theorem dX0_init_62 : decode cX0_init 62 = .ok (.new 9, 3) := by decide +kernel
theorem dX0_init_65 : decode cX0_init 65 = .ok (.dup, 1) := by decide +kernel
theorem dX0_init_66 : decode cX0_init 66 = .ok (.bipush 72, 2) := by decide +kernel
theorem dX0_init_68 : decode cX0_init 68 = .ok (.bipush 7, 2) := by decide +kernel
theorem dX0_init_70 : decode cX0_init 70 = .ok (.invokespecial 11, 3) := by decide +kernel
theorem dX0_init_73 : decode cX0_init 73 = .ok (.putfield 29, 3) := by decide +kernel
theorem m_61 : Cond.fieldLink RX0 29 "InquiryBench$Book" "lines" "LInquiryBench$Table;" ∈ BW := List.mem_of_getElem? (i := 61) (by decide +kernel)
theorem pf_X0_29 (hC : CX p s m meth c y0 b0 mL0 rt0 args) (hy0 : y0.cls = RX0) (hin : y0.name = "<init>") (hK : KK G s) (hP : va_P G.1 vwCl ws H) (hD : va_D A ws) (hS : va_S A H0 H locs) (q0 : Nat) {fs : List Value} {v : Value} {ws' : va_W} (he : ws[q0]? = some (a, .inr (0, fs))) (hl : 4 < fs.length) (hws : ws.set q0 (a, .inr (0, fs.set 4 v)) = ws') (hn : narrow (.object "InquiryBench$Table") v = v) (hfit : fits (.object "InquiryBench$Table") v = true) (hdg : decode b0 pc = .ok (.putfield 29, 3)) (kk : ∀ (H1 : Heap) (locs1 : List Loc), va_P G.1 vwCl ws' H1 → va_D A ws' → va_S A H0 H1 locs1 → W p l e R s m args below meth c H1 locs1 cells slots Q (F0 m (pc + 3) ls rest)) : W p l e R s m args below meth c H locs cells slots Q (F0 m pc ls (v :: .ref a :: rest)) := by
  obtain ⟨hx, hb, hr, hml, hB, hown, hlocks, hnm⟩ := hC
  rw [hy0] at hown
  subst hws
  exact va_putF (ci := 0) (ty := (.object "InquiryBench$Table")) (C := RX0) (T := TX0) (N := 14) hx hb hB in_X0 tyX0 tyX0_ok nmX0 hown hK.1 hP hD hS q0 he rfl 4 (by decide) (hB _ m_61) (fun _ h => h) rfl (hnm.trans hin) rfl (by decide +kernel) hn hfit hl hdg kk
theorem dX0_init_76 : decode cX0_init 76 = .ok (.aload_n 0, 1) := by decide +kernel
theorem dX0_init_77 : decode cX0_init 77 = .ok (.new 9, 3) := by decide +kernel
theorem dX0_init_80 : decode cX0_init 80 = .ok (.dup, 1) := by decide +kernel
theorem dX0_init_81 : decode cX0_init 81 = .ok (.sipush 960, 3) := by decide +kernel
theorem dX0_init_84 : decode cX0_init 84 = .ok (.iconst 1, 1) := by decide +kernel
theorem dX0_init_85 : decode cX0_init 85 = .ok (.invokespecial 11, 3) := by decide +kernel
theorem dX0_init_88 : decode cX0_init 88 = .ok (.putfield 32, 3) := by decide +kernel
theorem m_62 : Cond.fieldLink RX0 32 "InquiryBench$Book" "steps" "LInquiryBench$Table;" ∈ BW := List.mem_of_getElem? (i := 62) (by decide +kernel)
theorem pf_X0_32 (hC : CX p s m meth c y0 b0 mL0 rt0 args) (hy0 : y0.cls = RX0) (hin : y0.name = "<init>") (hK : KK G s) (hP : va_P G.1 vwCl ws H) (hD : va_D A ws) (hS : va_S A H0 H locs) (q0 : Nat) {fs : List Value} {v : Value} {ws' : va_W} (he : ws[q0]? = some (a, .inr (0, fs))) (hl : 5 < fs.length) (hws : ws.set q0 (a, .inr (0, fs.set 5 v)) = ws') (hn : narrow (.object "InquiryBench$Table") v = v) (hfit : fits (.object "InquiryBench$Table") v = true) (hdg : decode b0 pc = .ok (.putfield 32, 3)) (kk : ∀ (H1 : Heap) (locs1 : List Loc), va_P G.1 vwCl ws' H1 → va_D A ws' → va_S A H0 H1 locs1 → W p l e R s m args below meth c H1 locs1 cells slots Q (F0 m (pc + 3) ls rest)) : W p l e R s m args below meth c H locs cells slots Q (F0 m pc ls (v :: .ref a :: rest)) := by
  obtain ⟨hx, hb, hr, hml, hB, hown, hlocks, hnm⟩ := hC
  rw [hy0] at hown
  subst hws
  exact va_putF (ci := 0) (ty := (.object "InquiryBench$Table")) (C := RX0) (T := TX0) (N := 14) hx hb hB in_X0 tyX0 tyX0_ok nmX0 hown hK.1 hP hD hS q0 he rfl 5 (by decide) (hB _ m_62) (fun _ h => h) rfl (hnm.trans hin) rfl (by decide +kernel) hn hfit hl hdg kk
theorem dX0_init_91 : decode cX0_init 91 = .ok (.aload_n 0, 1) := by decide +kernel
theorem dX0_init_92 : decode cX0_init 92 = .ok (.new 9, 3) := by decide +kernel
theorem dX0_init_95 : decode cX0_init 95 = .ok (.dup, 1) := by decide +kernel
theorem dX0_init_96 : decode cX0_init 96 = .ok (.bipush 16, 2) := by decide +kernel
theorem dX0_init_98 : decode cX0_init 98 = .ok (.bipush 8, 2) := by decide +kernel
theorem dX0_init_100 : decode cX0_init 100 = .ok (.invokespecial 11, 3) := by decide +kernel
theorem dX0_init_103 : decode cX0_init 103 = .ok (.putfield 35, 3) := by decide +kernel
theorem m_63 : Cond.fieldLink RX0 35 "InquiryBench$Book" "sayings" "LInquiryBench$Table;" ∈ BW := List.mem_of_getElem? (i := 63) (by decide +kernel)
theorem pf_X0_35 (hC : CX p s m meth c y0 b0 mL0 rt0 args) (hy0 : y0.cls = RX0) (hin : y0.name = "<init>") (hK : KK G s) (hP : va_P G.1 vwCl ws H) (hD : va_D A ws) (hS : va_S A H0 H locs) (q0 : Nat) {fs : List Value} {v : Value} {ws' : va_W} (he : ws[q0]? = some (a, .inr (0, fs))) (hl : 6 < fs.length) (hws : ws.set q0 (a, .inr (0, fs.set 6 v)) = ws') (hn : narrow (.object "InquiryBench$Table") v = v) (hfit : fits (.object "InquiryBench$Table") v = true) (hdg : decode b0 pc = .ok (.putfield 35, 3)) (kk : ∀ (H1 : Heap) (locs1 : List Loc), va_P G.1 vwCl ws' H1 → va_D A ws' → va_S A H0 H1 locs1 → W p l e R s m args below meth c H1 locs1 cells slots Q (F0 m (pc + 3) ls rest)) : W p l e R s m args below meth c H locs cells slots Q (F0 m pc ls (v :: .ref a :: rest)) := by
  obtain ⟨hx, hb, hr, hml, hB, hown, hlocks, hnm⟩ := hC
  rw [hy0] at hown
  subst hws
  exact va_putF (ci := 0) (ty := (.object "InquiryBench$Table")) (C := RX0) (T := TX0) (N := 14) hx hb hB in_X0 tyX0 tyX0_ok nmX0 hown hK.1 hP hD hS q0 he rfl 6 (by decide) (hB _ m_63) (fun _ h => h) rfl (hnm.trans hin) rfl (by decide +kernel) hn hfit hl hdg kk
theorem dX0_init_106 : decode cX0_init 106 = .ok (.aload_n 0, 1) := by decide +kernel
theorem dX0_init_107 : decode cX0_init 107 = .ok (.new 9, 3) := by decide +kernel
theorem dX0_init_110 : decode cX0_init 110 = .ok (.dup, 1) := by decide +kernel
theorem dX0_init_111 : decode cX0_init 111 = .ok (.bipush 12, 2) := by decide +kernel
theorem dX0_init_113 : decode cX0_init 113 = .ok (.iconst 4, 1) := by decide +kernel
theorem dX0_init_114 : decode cX0_init 114 = .ok (.invokespecial 11, 3) := by decide +kernel
theorem dX0_init_117 : decode cX0_init 117 = .ok (.putfield 38, 3) := by decide +kernel
theorem m_64 : Cond.fieldLink RX0 38 "InquiryBench$Book" "findings" "LInquiryBench$Table;" ∈ BW := List.mem_of_getElem? (i := 64) (by decide +kernel)
theorem pf_X0_38 (hC : CX p s m meth c y0 b0 mL0 rt0 args) (hy0 : y0.cls = RX0) (hin : y0.name = "<init>") (hK : KK G s) (hP : va_P G.1 vwCl ws H) (hD : va_D A ws) (hS : va_S A H0 H locs) (q0 : Nat) {fs : List Value} {v : Value} {ws' : va_W} (he : ws[q0]? = some (a, .inr (0, fs))) (hl : 7 < fs.length) (hws : ws.set q0 (a, .inr (0, fs.set 7 v)) = ws') (hn : narrow (.object "InquiryBench$Table") v = v) (hfit : fits (.object "InquiryBench$Table") v = true) (hdg : decode b0 pc = .ok (.putfield 38, 3)) (kk : ∀ (H1 : Heap) (locs1 : List Loc), va_P G.1 vwCl ws' H1 → va_D A ws' → va_S A H0 H1 locs1 → W p l e R s m args below meth c H1 locs1 cells slots Q (F0 m (pc + 3) ls rest)) : W p l e R s m args below meth c H locs cells slots Q (F0 m pc ls (v :: .ref a :: rest)) := by
  obtain ⟨hx, hb, hr, hml, hB, hown, hlocks, hnm⟩ := hC
  rw [hy0] at hown
  subst hws
  exact va_putF (ci := 0) (ty := (.object "InquiryBench$Table")) (C := RX0) (T := TX0) (N := 14) hx hb hB in_X0 tyX0 tyX0_ok nmX0 hown hK.1 hP hD hS q0 he rfl 7 (by decide) (hB _ m_64) (fun _ h => h) rfl (hnm.trans hin) rfl (by decide +kernel) hn hfit hl hdg kk
theorem dX0_init_120 : decode cX0_init 120 = .ok (.aload_n 0, 1) := by decide +kernel
theorem dX0_init_121 : decode cX0_init 121 = .ok (.new 9, 3) := by decide +kernel
theorem dX0_init_124 : decode cX0_init 124 = .ok (.dup, 1) := by decide +kernel
theorem dX0_init_125 : decode cX0_init 125 = .ok (.bipush 16, 2) := by decide +kernel
theorem dX0_init_127 : decode cX0_init 127 = .ok (.iconst 3, 1) := by decide +kernel
theorem dX0_init_128 : decode cX0_init 128 = .ok (.invokespecial 11, 3) := by decide +kernel
theorem dX0_init_131 : decode cX0_init 131 = .ok (.putfield 41, 3) := by decide +kernel
theorem m_65 : Cond.fieldLink RX0 41 "InquiryBench$Book" "warnings" "LInquiryBench$Table;" ∈ BW := List.mem_of_getElem? (i := 65) (by decide +kernel)
theorem pf_X0_41 (hC : CX p s m meth c y0 b0 mL0 rt0 args) (hy0 : y0.cls = RX0) (hin : y0.name = "<init>") (hK : KK G s) (hP : va_P G.1 vwCl ws H) (hD : va_D A ws) (hS : va_S A H0 H locs) (q0 : Nat) {fs : List Value} {v : Value} {ws' : va_W} (he : ws[q0]? = some (a, .inr (0, fs))) (hl : 8 < fs.length) (hws : ws.set q0 (a, .inr (0, fs.set 8 v)) = ws') (hn : narrow (.object "InquiryBench$Table") v = v) (hfit : fits (.object "InquiryBench$Table") v = true) (hdg : decode b0 pc = .ok (.putfield 41, 3)) (kk : ∀ (H1 : Heap) (locs1 : List Loc), va_P G.1 vwCl ws' H1 → va_D A ws' → va_S A H0 H1 locs1 → W p l e R s m args below meth c H1 locs1 cells slots Q (F0 m (pc + 3) ls rest)) : W p l e R s m args below meth c H locs cells slots Q (F0 m pc ls (v :: .ref a :: rest)) := by
  obtain ⟨hx, hb, hr, hml, hB, hown, hlocks, hnm⟩ := hC
  rw [hy0] at hown
  subst hws
  exact va_putF (ci := 0) (ty := (.object "InquiryBench$Table")) (C := RX0) (T := TX0) (N := 14) hx hb hB in_X0 tyX0 tyX0_ok nmX0 hown hK.1 hP hD hS q0 he rfl 8 (by decide) (hB _ m_65) (fun _ h => h) rfl (hnm.trans hin) rfl (by decide +kernel) hn hfit hl hdg kk
theorem dX0_init_134 : decode cX0_init 134 = .ok (.aload_n 0, 1) := by decide +kernel
theorem dX0_init_135 : decode cX0_init 135 = .ok (.new 9, 3) := by decide +kernel
theorem dX0_init_138 : decode cX0_init 138 = .ok (.dup, 1) := by decide +kernel
theorem dX0_init_139 : decode cX0_init 139 = .ok (.bipush 7, 2) := by decide +kernel
theorem dX0_init_141 : decode cX0_init 141 = .ok (.iconst 2, 1) := by decide +kernel
theorem dX0_init_142 : decode cX0_init 142 = .ok (.invokespecial 11, 3) := by decide +kernel
theorem dX0_init_145 : decode cX0_init 145 = .ok (.putfield 44, 3) := by decide +kernel
theorem m_66 : Cond.fieldLink RX0 44 "InquiryBench$Book" "questions" "LInquiryBench$Table;" ∈ BW := List.mem_of_getElem? (i := 66) (by decide +kernel)
theorem pf_X0_44 (hC : CX p s m meth c y0 b0 mL0 rt0 args) (hy0 : y0.cls = RX0) (hin : y0.name = "<init>") (hK : KK G s) (hP : va_P G.1 vwCl ws H) (hD : va_D A ws) (hS : va_S A H0 H locs) (q0 : Nat) {fs : List Value} {v : Value} {ws' : va_W} (he : ws[q0]? = some (a, .inr (0, fs))) (hl : 9 < fs.length) (hws : ws.set q0 (a, .inr (0, fs.set 9 v)) = ws') (hn : narrow (.object "InquiryBench$Table") v = v) (hfit : fits (.object "InquiryBench$Table") v = true) (hdg : decode b0 pc = .ok (.putfield 44, 3)) (kk : ∀ (H1 : Heap) (locs1 : List Loc), va_P G.1 vwCl ws' H1 → va_D A ws' → va_S A H0 H1 locs1 → W p l e R s m args below meth c H1 locs1 cells slots Q (F0 m (pc + 3) ls rest)) : W p l e R s m args below meth c H locs cells slots Q (F0 m pc ls (v :: .ref a :: rest)) := by
  obtain ⟨hx, hb, hr, hml, hB, hown, hlocks, hnm⟩ := hC
  rw [hy0] at hown
  subst hws
  exact va_putF (ci := 0) (ty := (.object "InquiryBench$Table")) (C := RX0) (T := TX0) (N := 14) hx hb hB in_X0 tyX0 tyX0_ok nmX0 hown hK.1 hP hD hS q0 he rfl 9 (by decide) (hB _ m_66) (fun _ h => h) rfl (hnm.trans hin) rfl (by decide +kernel) hn hfit hl hdg kk
theorem dX0_init_148 : decode cX0_init 148 = .ok (.aload_n 0, 1) := by decide +kernel
theorem dX0_init_149 : decode cX0_init 149 = .ok (.iconst 0, 1) := by decide +kernel
theorem dX0_init_150 : decode cX0_init 150 = .ok (.putfield 47, 3) := by decide +kernel
theorem m_67 : Cond.fieldLink RX0 47 "InquiryBench$Book" "today" "I" ∈ BW := List.mem_of_getElem? (i := 67) (by decide +kernel)
theorem pf_X0_47 (hC : CX p s m meth c y0 b0 mL0 rt0 args) (hy0 : y0.cls = RX0) (hK : KK G s) (hP : va_P G.1 vwCl ws H) (hD : va_D A ws) (hS : va_S A H0 H locs) (q0 : Nat) {fs : List Value} {v : Value} {ws' : va_W} (he : ws[q0]? = some (a, .inr (0, fs))) (hl : 10 < fs.length) (hws : ws.set q0 (a, .inr (0, fs.set 10 v)) = ws') (hn : narrow .int v = v) (hfit : fits .int v = true) (hdg : decode b0 pc = .ok (.putfield 47, 3)) (kk : ∀ (H1 : Heap) (locs1 : List Loc), va_P G.1 vwCl ws' H1 → va_D A ws' → va_S A H0 H1 locs1 → W p l e R s m args below meth c H1 locs1 cells slots Q (F0 m (pc + 3) ls rest)) : W p l e R s m args below meth c H locs cells slots Q (F0 m pc ls (v :: .ref a :: rest)) := by
  obtain ⟨hx, hb, hr, hml, hB, hown, hlocks, hnm⟩ := hC
  rw [hy0] at hown
  subst hws
  exact va_put (ci := 0) (ty := .int) (C := RX0) (T := TX0) (N := 14) hx hb hB in_X0 tyX0 tyX0_ok nmX0 hown hK.1 hP hD hS q0 he rfl 10 (by decide) (hB _ m_67) (fun _ h => h) rfl (by decide +kernel) hn hfit hl hdg kk
theorem dX0_init_153 : decode cX0_init 153 = .ok (.aload_n 0, 1) := by decide +kernel
theorem dX0_init_154 : decode cX0_init 154 = .ok (.iconst (-1), 1) := by decide +kernel
theorem dX0_init_155 : decode cX0_init 155 = .ok (.putfield 51, 3) := by decide +kernel
theorem m_68 : Cond.fieldLink RX0 51 "InquiryBench$Book" "viewDay" "I" ∈ BW := List.mem_of_getElem? (i := 68) (by decide +kernel)
theorem pf_X0_51 (hC : CX p s m meth c y0 b0 mL0 rt0 args) (hy0 : y0.cls = RX0) (hK : KK G s) (hP : va_P G.1 vwCl ws H) (hD : va_D A ws) (hS : va_S A H0 H locs) (q0 : Nat) {fs : List Value} {v : Value} {ws' : va_W} (he : ws[q0]? = some (a, .inr (0, fs))) (hl : 11 < fs.length) (hws : ws.set q0 (a, .inr (0, fs.set 11 v)) = ws') (hn : narrow .int v = v) (hfit : fits .int v = true) (hdg : decode b0 pc = .ok (.putfield 51, 3)) (kk : ∀ (H1 : Heap) (locs1 : List Loc), va_P G.1 vwCl ws' H1 → va_D A ws' → va_S A H0 H1 locs1 → W p l e R s m args below meth c H1 locs1 cells slots Q (F0 m (pc + 3) ls rest)) : W p l e R s m args below meth c H locs cells slots Q (F0 m pc ls (v :: .ref a :: rest)) := by
  obtain ⟨hx, hb, hr, hml, hB, hown, hlocks, hnm⟩ := hC
  rw [hy0] at hown
  subst hws
  exact va_put (ci := 0) (ty := .int) (C := RX0) (T := TX0) (N := 14) hx hb hB in_X0 tyX0 tyX0_ok nmX0 hown hK.1 hP hD hS q0 he rfl 11 (by decide) (hB _ m_68) (fun _ h => h) rfl (by decide +kernel) hn hfit hl hdg kk
theorem dX0_init_158 : decode cX0_init 158 = .ok (.aload_n 0, 1) := by decide +kernel
theorem dX0_init_159 : decode cX0_init 159 = .ok (.iconst 3, 1) := by decide +kernel
theorem dX0_init_160 : decode cX0_init 160 = .ok (.putfield 54, 3) := by decide +kernel
theorem m_69 : Cond.fieldLink RX0 54 "InquiryBench$Book" "viewLevel" "I" ∈ BW := List.mem_of_getElem? (i := 69) (by decide +kernel)
theorem pf_X0_54 (hC : CX p s m meth c y0 b0 mL0 rt0 args) (hy0 : y0.cls = RX0) (hK : KK G s) (hP : va_P G.1 vwCl ws H) (hD : va_D A ws) (hS : va_S A H0 H locs) (q0 : Nat) {fs : List Value} {v : Value} {ws' : va_W} (he : ws[q0]? = some (a, .inr (0, fs))) (hl : 12 < fs.length) (hws : ws.set q0 (a, .inr (0, fs.set 12 v)) = ws') (hn : narrow .int v = v) (hfit : fits .int v = true) (hdg : decode b0 pc = .ok (.putfield 54, 3)) (kk : ∀ (H1 : Heap) (locs1 : List Loc), va_P G.1 vwCl ws' H1 → va_D A ws' → va_S A H0 H1 locs1 → W p l e R s m args below meth c H1 locs1 cells slots Q (F0 m (pc + 3) ls rest)) : W p l e R s m args below meth c H locs cells slots Q (F0 m pc ls (v :: .ref a :: rest)) := by
  obtain ⟨hx, hb, hr, hml, hB, hown, hlocks, hnm⟩ := hC
  rw [hy0] at hown
  subst hws
  exact va_put (ci := 0) (ty := .int) (C := RX0) (T := TX0) (N := 14) hx hb hB in_X0 tyX0 tyX0_ok nmX0 hown hK.1 hP hD hS q0 he rfl 12 (by decide) (hB _ m_69) (fun _ h => h) rfl (by decide +kernel) hn hfit hl hdg kk
theorem dX0_init_163 : decode cX0_init 163 = .ok (.aload_n 0, 1) := by decide +kernel
theorem dX0_init_164 : decode cX0_init 164 = .ok (.bipush 24, 2) := by decide +kernel
theorem dX0_init_166 : decode cX0_init 166 = .ok (.putfield 57, 3) := by decide +kernel
theorem m_70 : Cond.fieldLink RX0 57 "InquiryBench$Book" "gap" "I" ∈ BW := List.mem_of_getElem? (i := 70) (by decide +kernel)
theorem pf_X0_57 (hC : CX p s m meth c y0 b0 mL0 rt0 args) (hy0 : y0.cls = RX0) (hK : KK G s) (hP : va_P G.1 vwCl ws H) (hD : va_D A ws) (hS : va_S A H0 H locs) (q0 : Nat) {fs : List Value} {v : Value} {ws' : va_W} (he : ws[q0]? = some (a, .inr (0, fs))) (hl : 13 < fs.length) (hws : ws.set q0 (a, .inr (0, fs.set 13 v)) = ws') (hn : narrow .int v = v) (hfit : fits .int v = true) (hdg : decode b0 pc = .ok (.putfield 57, 3)) (kk : ∀ (H1 : Heap) (locs1 : List Loc), va_P G.1 vwCl ws' H1 → va_D A ws' → va_S A H0 H1 locs1 → W p l e R s m args below meth c H1 locs1 cells slots Q (F0 m (pc + 3) ls rest)) : W p l e R s m args below meth c H locs cells slots Q (F0 m pc ls (v :: .ref a :: rest)) := by
  obtain ⟨hx, hb, hr, hml, hB, hown, hlocks, hnm⟩ := hC
  rw [hy0] at hown
  subst hws
  exact va_put (ci := 0) (ty := .int) (C := RX0) (T := TX0) (N := 14) hx hb hB in_X0 tyX0 tyX0_ok nmX0 hown hK.1 hP hD hS q0 he rfl 13 (by decide) (hB _ m_70) (fun _ h => h) rfl (by decide +kernel) hn hfit hl hdg kk
theorem dX0_init_169 : decode cX0_init 169 = .ok (.return_, 1) := by decide +kernel
theorem dX1_init_0 : decode cX1_init 0 = .ok (.aload_n 0, 1) := by decide +kernel
theorem dX1_init_1 : decode cX1_init 1 = .ok (.invokespecial 3, 3) := by decide +kernel
theorem m_102 : Cond.methodLink RX1 3 objectInit ∈ BW := List.mem_of_getElem? (i := 102) (by decide +kernel)
theorem dX1_init_4 : decode cX1_init 4 = .ok (.aload_n 0, 1) := by decide +kernel
theorem dX1_init_5 : decode cX1_init 5 = .ok (.bipush 36, 2) := by decide +kernel
theorem dX1_init_7 : decode cX1_init 7 = .ok (.newarray .int, 2) := by decide +kernel
theorem dX1_init_9 : decode cX1_init 9 = .ok (.putfield 9, 3) := by decide +kernel
theorem in_X1 : ∀ w ∈ wsX10, w ∈ BW := fun w h => by
  unfold BW
  simp only [List.mem_append]
  exact Or.inr (Or.inr (Or.inr (Or.inr (Or.inr (Or.inr (Or.inr (Or.inr (Or.inr (Or.inr (Or.inr (Or.inr (Or.inr (Or.inr (Or.inr (Or.inr (Or.inr (Or.inr (Or.inr (Or.inr (Or.inr (Or.inr (Or.inr (Or.inr (Or.inr (Or.inr (Or.inr (Or.inr (Or.inr (Or.inr (Or.inr (Or.inr (Or.inr (Or.inr (Or.inr (Or.inr (Or.inr (Or.inr (Or.inr (Or.inr (Or.inr (Or.inr (Or.inr (Or.inr (Or.inr (Or.inr (Or.inr (Or.inr (Or.inr (Or.inr (Or.inr (Or.inr (Or.inr (Or.inr (Or.inr (Or.inr (Or.inr (Or.inr (Or.inr (Or.inr (Or.inr (Or.inr (Or.inr (Or.inr (Or.inr (Or.inr (Or.inr (Or.inr (Or.inr (Or.inr (Or.inr (Or.inr (h))))))))))))))))))))))))))))))))))))))))))))))))))))))))))))))))))))))))
theorem m_103 : Cond.fieldLink RX1 9 "InquiryBench$Clocks" "most" "[I" ∈ BW := List.mem_of_getElem? (i := 103) (by decide +kernel)
theorem pf_X1_9 (hC : CX p s m meth c y0 b0 mL0 rt0 args) (hy0 : y0.cls = RX1) (hin : y0.name = "<init>") (hK : KK G s) (hP : va_P G.1 vwCl ws H) (hD : va_D A ws) (hS : va_S A H0 H locs) (q0 : Nat) {fs : List Value} {v : Value} {ws' : va_W} (he : ws[q0]? = some (a, .inr (1, fs))) (hl : 0 < fs.length) (hws : ws.set q0 (a, .inr (1, fs.set 0 v)) = ws') (hn : narrow (.array .int) v = v) (hfit : fits (.array .int) v = true) (hdg : decode b0 pc = .ok (.putfield 9, 3)) (kk : ∀ (H1 : Heap) (locs1 : List Loc), va_P G.1 vwCl ws' H1 → va_D A ws' → va_S A H0 H1 locs1 → W p l e R s m args below meth c H1 locs1 cells slots Q (F0 m (pc + 3) ls rest)) : W p l e R s m args below meth c H locs cells slots Q (F0 m pc ls (v :: .ref a :: rest)) := by
  obtain ⟨hx, hb, hr, hml, hB, hown, hlocks, hnm⟩ := hC
  rw [hy0] at hown
  subst hws
  exact va_putF (ci := 1) (ty := (.array .int)) (C := RX1) (T := TX1) (N := 1) hx hb hB in_X1 tyX1 tyX1_ok nmX1 hown hK.1 hP hD hS q0 he rfl 0 (by decide) (hB _ m_103) (fun _ h => h) rfl (hnm.trans hin) rfl (by decide +kernel) hn hfit hl hdg kk
theorem dX1_init_12 : decode cX1_init 12 = .ok (.return_, 1) := by decide +kernel
theorem dX7_init_0 : decode cX7_init 0 = .ok (.aload_n 0, 1) := by decide +kernel
theorem dX7_init_1 : decode cX7_init 1 = .ok (.invokespecial 3, 3) := by decide +kernel
theorem m_87 : Cond.methodLink RX7 3 objectInit ∈ BW := List.mem_of_getElem? (i := 87) (by decide +kernel)
theorem dX7_init_4 : decode cX7_init 4 = .ok (.aload_n 0, 1) := by decide +kernel
theorem dX7_init_5 : decode cX7_init 5 = .ok (.new 9, 3) := by decide +kernel
theorem m_88 : Cond.classLink RX7 9 RX1 ∈ BW := List.mem_of_getElem? (i := 88) (by decide +kernel)
theorem m_89 : Cond.instantiable RX1 1 ∈ BW := List.mem_of_getElem? (i := 89) (by decide +kernel)
theorem m_90 : Cond.initialized RX1 ∈ BW := List.mem_of_getElem? (i := 90) (by decide +kernel)
theorem nw_X7_9 (hC : CX p s m meth c y0 b0 mL0 rt0 args) (hy0 : y0.cls = RX7) (hK : KK G s) (hP : va_P G.1 vwCl ws H) (hD : va_D A ws) (hS : va_S A H0 H locs) (hA : ∀ q : Nat, H0.size ≤ q → A q) (hcells : cells + 1 ≤ R.cells) (hslots : slots + 1 ≤ R.slots) (hdg : decode b0 pc = .ok (.new 9, 3)) (kk : ∀ (q : Nat) (H1 : Heap), va_P G.1 vwCl (ws ++ [(q, .inr (1, [.null]))]) H1 → va_D A (ws ++ [(q, .inr (1, [.null]))]) → va_S A H0 H1 locs → W p l e R s m args below meth c H1 locs (cells + 1) (slots + 1) Q (F0 m (pc + 3) ls (.ref q :: rest))) : W p l e R s m args below meth c H locs cells slots Q (F0 m pc ls rest) := by
  obtain ⟨hx, hb, hr, hml, hB, hown, hlocks, hnm⟩ := hC
  rw [hy0] at hown
  exact va_new (ci := 1) (C := RX1) (T := TX1) (N := 1) hx hb hB in_X1 tyX1 tyX1_ok hown (hB _ m_88) (hB _ m_89) (hB _ m_90) hK.1 hP hD hS hA rfl (fun j hj => by rcases (show j = 0 by omega) with rfl <;> rfl) hcells hslots hdg kk
theorem dX7_init_8 : decode cX7_init 8 = .ok (.dup, 1) := by decide +kernel
theorem dX7_init_9 : decode cX7_init 9 = .ok (.invokespecial 11, 3) := by decide +kernel
theorem m_101 : Cond.code yX1_init cX1_init 1 none ∈ BW := List.mem_of_getElem? (i := 101) (by decide +kernel)
theorem nm_38 : Cond.methodLinkNest RX7 11 yX1_init RX11 ∈ NestW := List.mem_of_getElem? (i := 38) (by decide +kernel)
theorem m_100 : Cond.instanceMethod yX1_init ∈ BW := List.mem_of_getElem? (i := 100) (by decide +kernel)
theorem si_X7_11 : SIN RX7 RX11 11 yX1_init cX1_init 1 0 := ⟨⟨nm_38, m_100, m_90, m_101⟩, rfl, ⟨by decide +kernel, by decide +kernel, by decide +kernel⟩⟩
theorem dX7_init_12 : decode cX7_init 12 = .ok (.putfield 12, 3) := by decide +kernel
theorem in_X7 : ∀ w ∈ wsX70, w ∈ BW := fun w h => by
  unfold BW
  simp only [List.mem_append]
  exact Or.inr (Or.inr (Or.inr (Or.inr (Or.inr (Or.inr (Or.inr (Or.inr (Or.inr (Or.inr (Or.inr (Or.inr (Or.inr (Or.inr (Or.inr (Or.inr (Or.inr (Or.inr (Or.inr (Or.inr (Or.inr (Or.inr (Or.inr (Or.inr (Or.inr (Or.inr (Or.inr (Or.inr (Or.inr (Or.inr (Or.inr (Or.inr (Or.inr (Or.inr (Or.inr (Or.inr (Or.inr (Or.inr (Or.inr (Or.inr (Or.inr (Or.inr (Or.inr (Or.inr (Or.inr (Or.inr (Or.inr (Or.inr (Or.inr (Or.inr (Or.inr (Or.inr (Or.inr (Or.inr (Or.inr (Or.inr (Or.inr (Or.inr (Or.inr (Or.inr (Or.inr (Or.inr (Or.inr (Or.inl h)))))))))))))))))))))))))))))))))))))))))))))))))))))))))))))))
theorem m_91 : Cond.fieldLink RX7 12 "InquiryBench$Sight" "clocks" "LInquiryBench$Clocks;" ∈ BW := List.mem_of_getElem? (i := 91) (by decide +kernel)
theorem pf_X7_12 (hC : CX p s m meth c y0 b0 mL0 rt0 args) (hy0 : y0.cls = RX7) (hin : y0.name = "<init>") (hK : KK G s) (hP : va_P G.1 vwCl ws H) (hD : va_D A ws) (hS : va_S A H0 H locs) (q0 : Nat) {fs : List Value} {v : Value} {ws' : va_W} (he : ws[q0]? = some (a, .inr (7, fs))) (hl : 1 < fs.length) (hws : ws.set q0 (a, .inr (7, fs.set 1 v)) = ws') (hn : narrow (.object "InquiryBench$Clocks") v = v) (hfit : fits (.object "InquiryBench$Clocks") v = true) (hdg : decode b0 pc = .ok (.putfield 12, 3)) (kk : ∀ (H1 : Heap) (locs1 : List Loc), va_P G.1 vwCl ws' H1 → va_D A ws' → va_S A H0 H1 locs1 → W p l e R s m args below meth c H1 locs1 cells slots Q (F0 m (pc + 3) ls rest)) : W p l e R s m args below meth c H locs cells slots Q (F0 m pc ls (v :: .ref a :: rest)) := by
  obtain ⟨hx, hb, hr, hml, hB, hown, hlocks, hnm⟩ := hC
  rw [hy0] at hown
  subst hws
  exact va_putF (ci := 7) (ty := (.object "InquiryBench$Clocks")) (C := RX7) (T := TX7) (N := 9) hx hb hB in_X7 tyX7 tyX7_ok nmX7 hown hK.1 hP hD hS q0 he rfl 1 (by decide) (hB _ m_91) (fun _ h => h) rfl (hnm.trans hin) rfl (by decide +kernel) hn hfit hl hdg kk
theorem dX7_init_15 : decode cX7_init 15 = .ok (.aload_n 0, 1) := by decide +kernel
theorem dX7_init_16 : decode cX7_init 16 = .ok (.bipush 12, 2) := by decide +kernel
theorem dX7_init_18 : decode cX7_init 18 = .ok (.newarray .int, 2) := by decide +kernel
theorem dX7_init_20 : decode cX7_init 20 = .ok (.putfield 18, 3) := by decide +kernel
theorem m_92 : Cond.fieldLink RX7 18 "InquiryBench$Sight" "first" "[I" ∈ BW := List.mem_of_getElem? (i := 92) (by decide +kernel)
theorem pf_X7_18 (hC : CX p s m meth c y0 b0 mL0 rt0 args) (hy0 : y0.cls = RX7) (hin : y0.name = "<init>") (hK : KK G s) (hP : va_P G.1 vwCl ws H) (hD : va_D A ws) (hS : va_S A H0 H locs) (q0 : Nat) {fs : List Value} {v : Value} {ws' : va_W} (he : ws[q0]? = some (a, .inr (7, fs))) (hl : 2 < fs.length) (hws : ws.set q0 (a, .inr (7, fs.set 2 v)) = ws') (hn : narrow (.array .int) v = v) (hfit : fits (.array .int) v = true) (hdg : decode b0 pc = .ok (.putfield 18, 3)) (kk : ∀ (H1 : Heap) (locs1 : List Loc), va_P G.1 vwCl ws' H1 → va_D A ws' → va_S A H0 H1 locs1 → W p l e R s m args below meth c H1 locs1 cells slots Q (F0 m (pc + 3) ls rest)) : W p l e R s m args below meth c H locs cells slots Q (F0 m pc ls (v :: .ref a :: rest)) := by
  obtain ⟨hx, hb, hr, hml, hB, hown, hlocks, hnm⟩ := hC
  rw [hy0] at hown
  subst hws
  exact va_putF (ci := 7) (ty := (.array .int)) (C := RX7) (T := TX7) (N := 9) hx hb hB in_X7 tyX7 tyX7_ok nmX7 hown hK.1 hP hD hS q0 he rfl 2 (by decide) (hB _ m_92) (fun _ h => h) rfl (hnm.trans hin) rfl (by decide +kernel) hn hfit hl hdg kk
theorem dX7_init_23 : decode cX7_init 23 = .ok (.aload_n 0, 1) := by decide +kernel
theorem dX7_init_24 : decode cX7_init 24 = .ok (.bipush 12, 2) := by decide +kernel
theorem dX7_init_26 : decode cX7_init 26 = .ok (.newarray .int, 2) := by decide +kernel
theorem dX7_init_28 : decode cX7_init 28 = .ok (.putfield 22, 3) := by decide +kernel
theorem m_93 : Cond.fieldLink RX7 22 "InquiryBench$Sight" "last" "[I" ∈ BW := List.mem_of_getElem? (i := 93) (by decide +kernel)
theorem pf_X7_22 (hC : CX p s m meth c y0 b0 mL0 rt0 args) (hy0 : y0.cls = RX7) (hin : y0.name = "<init>") (hK : KK G s) (hP : va_P G.1 vwCl ws H) (hD : va_D A ws) (hS : va_S A H0 H locs) (q0 : Nat) {fs : List Value} {v : Value} {ws' : va_W} (he : ws[q0]? = some (a, .inr (7, fs))) (hl : 3 < fs.length) (hws : ws.set q0 (a, .inr (7, fs.set 3 v)) = ws') (hn : narrow (.array .int) v = v) (hfit : fits (.array .int) v = true) (hdg : decode b0 pc = .ok (.putfield 22, 3)) (kk : ∀ (H1 : Heap) (locs1 : List Loc), va_P G.1 vwCl ws' H1 → va_D A ws' → va_S A H0 H1 locs1 → W p l e R s m args below meth c H1 locs1 cells slots Q (F0 m (pc + 3) ls rest)) : W p l e R s m args below meth c H locs cells slots Q (F0 m pc ls (v :: .ref a :: rest)) := by
  obtain ⟨hx, hb, hr, hml, hB, hown, hlocks, hnm⟩ := hC
  rw [hy0] at hown
  subst hws
  exact va_putF (ci := 7) (ty := (.array .int)) (C := RX7) (T := TX7) (N := 9) hx hb hB in_X7 tyX7 tyX7_ok nmX7 hown hK.1 hP hD hS q0 he rfl 3 (by decide) (hB _ m_93) (fun _ h => h) rfl (hnm.trans hin) rfl (by decide +kernel) hn hfit hl hdg kk
theorem dX7_init_31 : decode cX7_init 31 = .ok (.aload_n 0, 1) := by decide +kernel
theorem dX7_init_32 : decode cX7_init 32 = .ok (.bipush 12, 2) := by decide +kernel
theorem dX7_init_34 : decode cX7_init 34 = .ok (.newarray .int, 2) := by decide +kernel
theorem dX7_init_36 : decode cX7_init 36 = .ok (.putfield 25, 3) := by decide +kernel
theorem m_94 : Cond.fieldLink RX7 25 "InquiryBench$Sight" "madeLeast" "[I" ∈ BW := List.mem_of_getElem? (i := 94) (by decide +kernel)
theorem pf_X7_25 (hC : CX p s m meth c y0 b0 mL0 rt0 args) (hy0 : y0.cls = RX7) (hin : y0.name = "<init>") (hK : KK G s) (hP : va_P G.1 vwCl ws H) (hD : va_D A ws) (hS : va_S A H0 H locs) (q0 : Nat) {fs : List Value} {v : Value} {ws' : va_W} (he : ws[q0]? = some (a, .inr (7, fs))) (hl : 4 < fs.length) (hws : ws.set q0 (a, .inr (7, fs.set 4 v)) = ws') (hn : narrow (.array .int) v = v) (hfit : fits (.array .int) v = true) (hdg : decode b0 pc = .ok (.putfield 25, 3)) (kk : ∀ (H1 : Heap) (locs1 : List Loc), va_P G.1 vwCl ws' H1 → va_D A ws' → va_S A H0 H1 locs1 → W p l e R s m args below meth c H1 locs1 cells slots Q (F0 m (pc + 3) ls rest)) : W p l e R s m args below meth c H locs cells slots Q (F0 m pc ls (v :: .ref a :: rest)) := by
  obtain ⟨hx, hb, hr, hml, hB, hown, hlocks, hnm⟩ := hC
  rw [hy0] at hown
  subst hws
  exact va_putF (ci := 7) (ty := (.array .int)) (C := RX7) (T := TX7) (N := 9) hx hb hB in_X7 tyX7 tyX7_ok nmX7 hown hK.1 hP hD hS q0 he rfl 4 (by decide) (hB _ m_94) (fun _ h => h) rfl (hnm.trans hin) rfl (by decide +kernel) hn hfit hl hdg kk
theorem dX7_init_39 : decode cX7_init 39 = .ok (.aload_n 0, 1) := by decide +kernel
theorem dX7_init_40 : decode cX7_init 40 = .ok (.bipush 12, 2) := by decide +kernel
theorem dX7_init_42 : decode cX7_init 42 = .ok (.newarray .int, 2) := by decide +kernel
theorem dX7_init_44 : decode cX7_init 44 = .ok (.putfield 28, 3) := by decide +kernel
theorem m_95 : Cond.fieldLink RX7 28 "InquiryBench$Sight" "madeMost" "[I" ∈ BW := List.mem_of_getElem? (i := 95) (by decide +kernel)
theorem pf_X7_28 (hC : CX p s m meth c y0 b0 mL0 rt0 args) (hy0 : y0.cls = RX7) (hin : y0.name = "<init>") (hK : KK G s) (hP : va_P G.1 vwCl ws H) (hD : va_D A ws) (hS : va_S A H0 H locs) (q0 : Nat) {fs : List Value} {v : Value} {ws' : va_W} (he : ws[q0]? = some (a, .inr (7, fs))) (hl : 5 < fs.length) (hws : ws.set q0 (a, .inr (7, fs.set 5 v)) = ws') (hn : narrow (.array .int) v = v) (hfit : fits (.array .int) v = true) (hdg : decode b0 pc = .ok (.putfield 28, 3)) (kk : ∀ (H1 : Heap) (locs1 : List Loc), va_P G.1 vwCl ws' H1 → va_D A ws' → va_S A H0 H1 locs1 → W p l e R s m args below meth c H1 locs1 cells slots Q (F0 m (pc + 3) ls rest)) : W p l e R s m args below meth c H locs cells slots Q (F0 m pc ls (v :: .ref a :: rest)) := by
  obtain ⟨hx, hb, hr, hml, hB, hown, hlocks, hnm⟩ := hC
  rw [hy0] at hown
  subst hws
  exact va_putF (ci := 7) (ty := (.array .int)) (C := RX7) (T := TX7) (N := 9) hx hb hB in_X7 tyX7 tyX7_ok nmX7 hown hK.1 hP hD hS q0 he rfl 5 (by decide) (hB _ m_95) (fun _ h => h) rfl (hnm.trans hin) rfl (by decide +kernel) hn hfit hl hdg kk
theorem dX7_init_47 : decode cX7_init 47 = .ok (.aload_n 0, 1) := by decide +kernel
theorem dX7_init_48 : decode cX7_init 48 = .ok (.bipush 12, 2) := by decide +kernel
theorem dX7_init_50 : decode cX7_init 50 = .ok (.newarray .int, 2) := by decide +kernel
theorem dX7_init_52 : decode cX7_init 52 = .ok (.putfield 31, 3) := by decide +kernel
theorem m_96 : Cond.fieldLink RX7 31 "InquiryBench$Sight" "sentLeast" "[I" ∈ BW := List.mem_of_getElem? (i := 96) (by decide +kernel)
theorem pf_X7_31 (hC : CX p s m meth c y0 b0 mL0 rt0 args) (hy0 : y0.cls = RX7) (hin : y0.name = "<init>") (hK : KK G s) (hP : va_P G.1 vwCl ws H) (hD : va_D A ws) (hS : va_S A H0 H locs) (q0 : Nat) {fs : List Value} {v : Value} {ws' : va_W} (he : ws[q0]? = some (a, .inr (7, fs))) (hl : 6 < fs.length) (hws : ws.set q0 (a, .inr (7, fs.set 6 v)) = ws') (hn : narrow (.array .int) v = v) (hfit : fits (.array .int) v = true) (hdg : decode b0 pc = .ok (.putfield 31, 3)) (kk : ∀ (H1 : Heap) (locs1 : List Loc), va_P G.1 vwCl ws' H1 → va_D A ws' → va_S A H0 H1 locs1 → W p l e R s m args below meth c H1 locs1 cells slots Q (F0 m (pc + 3) ls rest)) : W p l e R s m args below meth c H locs cells slots Q (F0 m pc ls (v :: .ref a :: rest)) := by
  obtain ⟨hx, hb, hr, hml, hB, hown, hlocks, hnm⟩ := hC
  rw [hy0] at hown
  subst hws
  exact va_putF (ci := 7) (ty := (.array .int)) (C := RX7) (T := TX7) (N := 9) hx hb hB in_X7 tyX7 tyX7_ok nmX7 hown hK.1 hP hD hS q0 he rfl 6 (by decide) (hB _ m_96) (fun _ h => h) rfl (hnm.trans hin) rfl (by decide +kernel) hn hfit hl hdg kk
theorem dX7_init_55 : decode cX7_init 55 = .ok (.aload_n 0, 1) := by decide +kernel
theorem dX7_init_56 : decode cX7_init 56 = .ok (.bipush 12, 2) := by decide +kernel
theorem dX7_init_58 : decode cX7_init 58 = .ok (.newarray .int, 2) := by decide +kernel
theorem dX7_init_60 : decode cX7_init 60 = .ok (.putfield 34, 3) := by decide +kernel
theorem m_97 : Cond.fieldLink RX7 34 "InquiryBench$Sight" "sentMost" "[I" ∈ BW := List.mem_of_getElem? (i := 97) (by decide +kernel)
theorem pf_X7_34 (hC : CX p s m meth c y0 b0 mL0 rt0 args) (hy0 : y0.cls = RX7) (hin : y0.name = "<init>") (hK : KK G s) (hP : va_P G.1 vwCl ws H) (hD : va_D A ws) (hS : va_S A H0 H locs) (q0 : Nat) {fs : List Value} {v : Value} {ws' : va_W} (he : ws[q0]? = some (a, .inr (7, fs))) (hl : 7 < fs.length) (hws : ws.set q0 (a, .inr (7, fs.set 7 v)) = ws') (hn : narrow (.array .int) v = v) (hfit : fits (.array .int) v = true) (hdg : decode b0 pc = .ok (.putfield 34, 3)) (kk : ∀ (H1 : Heap) (locs1 : List Loc), va_P G.1 vwCl ws' H1 → va_D A ws' → va_S A H0 H1 locs1 → W p l e R s m args below meth c H1 locs1 cells slots Q (F0 m (pc + 3) ls rest)) : W p l e R s m args below meth c H locs cells slots Q (F0 m pc ls (v :: .ref a :: rest)) := by
  obtain ⟨hx, hb, hr, hml, hB, hown, hlocks, hnm⟩ := hC
  rw [hy0] at hown
  subst hws
  exact va_putF (ci := 7) (ty := (.array .int)) (C := RX7) (T := TX7) (N := 9) hx hb hB in_X7 tyX7 tyX7_ok nmX7 hown hK.1 hP hD hS q0 he rfl 7 (by decide) (hB _ m_97) (fun _ h => h) rfl (hnm.trans hin) rfl (by decide +kernel) hn hfit hl hdg kk
theorem dX7_init_63 : decode cX7_init 63 = .ok (.aload_n 0, 1) := by decide +kernel
theorem dX7_init_64 : decode cX7_init 64 = .ok (.aload_n 1, 1) := by decide +kernel
theorem dX7_init_65 : decode cX7_init 65 = .ok (.putfield 37, 3) := by decide +kernel
theorem m_98 : Cond.fieldLink RX7 37 "InquiryBench$Sight" "book" "LInquiryBench$Book;" ∈ BW := List.mem_of_getElem? (i := 98) (by decide +kernel)
theorem pf_X7_37 (hC : CX p s m meth c y0 b0 mL0 rt0 args) (hy0 : y0.cls = RX7) (hin : y0.name = "<init>") (hK : KK G s) (hP : va_P G.1 vwCl ws H) (hD : va_D A ws) (hS : va_S A H0 H locs) (q0 : Nat) {fs : List Value} {v : Value} {ws' : va_W} (he : ws[q0]? = some (a, .inr (7, fs))) (hl : 0 < fs.length) (hws : ws.set q0 (a, .inr (7, fs.set 0 v)) = ws') (hn : narrow (.object "InquiryBench$Book") v = v) (hfit : fits (.object "InquiryBench$Book") v = true) (hdg : decode b0 pc = .ok (.putfield 37, 3)) (kk : ∀ (H1 : Heap) (locs1 : List Loc), va_P G.1 vwCl ws' H1 → va_D A ws' → va_S A H0 H1 locs1 → W p l e R s m args below meth c H1 locs1 cells slots Q (F0 m (pc + 3) ls rest)) : W p l e R s m args below meth c H locs cells slots Q (F0 m pc ls (v :: .ref a :: rest)) := by
  obtain ⟨hx, hb, hr, hml, hB, hown, hlocks, hnm⟩ := hC
  rw [hy0] at hown
  subst hws
  exact va_putF (ci := 7) (ty := (.object "InquiryBench$Book")) (C := RX7) (T := TX7) (N := 9) hx hb hB in_X7 tyX7 tyX7_ok nmX7 hown hK.1 hP hD hS q0 he rfl 0 (by decide) (hB _ m_98) (fun _ h => h) rfl (hnm.trans hin) rfl (by decide +kernel) hn hfit hl hdg kk
theorem dX7_init_68 : decode cX7_init 68 = .ok (.aload_n 0, 1) := by decide +kernel
theorem dX7_init_69 : decode cX7_init 69 = .ok (.iconst 0, 1) := by decide +kernel
theorem dX7_init_70 : decode cX7_init 70 = .ok (.putfield 41, 3) := by decide +kernel
theorem m_99 : Cond.fieldLink RX7 41 "InquiryBench$Sight" "clash" "Z" ∈ BW := List.mem_of_getElem? (i := 99) (by decide +kernel)
theorem pf_X7_41 (hC : CX p s m meth c y0 b0 mL0 rt0 args) (hy0 : y0.cls = RX7) (hK : KK G s) (hP : va_P G.1 vwCl ws H) (hD : va_D A ws) (hS : va_S A H0 H locs) (q0 : Nat) {fs : List Value} {v : Value} {ws' : va_W} (he : ws[q0]? = some (a, .inr (7, fs))) (hl : 8 < fs.length) (hws : ws.set q0 (a, .inr (7, fs.set 8 v)) = ws') (hn : narrow .boolean v = v) (hfit : fits .boolean v = true) (hdg : decode b0 pc = .ok (.putfield 41, 3)) (kk : ∀ (H1 : Heap) (locs1 : List Loc), va_P G.1 vwCl ws' H1 → va_D A ws' → va_S A H0 H1 locs1 → W p l e R s m args below meth c H1 locs1 cells slots Q (F0 m (pc + 3) ls rest)) : W p l e R s m args below meth c H locs cells slots Q (F0 m pc ls (v :: .ref a :: rest)) := by
  obtain ⟨hx, hb, hr, hml, hB, hown, hlocks, hnm⟩ := hC
  rw [hy0] at hown
  subst hws
  exact va_put (ci := 7) (ty := .boolean) (C := RX7) (T := TX7) (N := 9) hx hb hB in_X7 tyX7 tyX7_ok nmX7 hown hK.1 hP hD hS q0 he rfl 8 (by decide) (hB _ m_99) (fun _ h => h) rfl (by decide +kernel) hn hfit hl hdg kk
theorem dX7_init_73 : decode cX7_init 73 = .ok (.return_, 1) := by decide +kernel
theorem dX3_init_0 : decode cX3_init 0 = .ok (.aload_n 0, 1) := by decide +kernel
theorem dX3_init_1 : decode cX3_init 1 = .ok (.invokespecial 3, 3) := by decide +kernel
theorem m_107 : Cond.methodLink RX3 3 objectInit ∈ BW := List.mem_of_getElem? (i := 107) (by decide +kernel)
theorem dX3_init_4 : decode cX3_init 4 = .ok (.aload_n 0, 1) := by decide +kernel
theorem dX3_init_5 : decode cX3_init 5 = .ok (.bipush 13, 2) := by decide +kernel
theorem dX3_init_7 : decode cX3_init 7 = .ok (.anewarray 9, 3) := by decide +kernel
theorem m_108 : Cond.classLink RX3 9 RX1 ∈ BW := List.mem_of_getElem? (i := 108) (by decide +kernel)
theorem dX3_init_10 : decode cX3_init 10 = .ok (.putfield 11, 3) := by decide +kernel
theorem in_X3 : ∀ w ∈ wsX30, w ∈ BW := fun w h => by
  unfold BW
  simp only [List.mem_append]
  exact Or.inr (Or.inr (Or.inr (Or.inr (Or.inr (Or.inr (Or.inr (Or.inr (Or.inr (Or.inr (Or.inr (Or.inr (Or.inr (Or.inr (Or.inr (Or.inr (Or.inr (Or.inr (Or.inr (Or.inr (Or.inr (Or.inr (Or.inr (Or.inr (Or.inr (Or.inr (Or.inr (Or.inr (Or.inr (Or.inr (Or.inr (Or.inr (Or.inr (Or.inr (Or.inr (Or.inr (Or.inr (Or.inr (Or.inr (Or.inr (Or.inr (Or.inr (Or.inr (Or.inr (Or.inr (Or.inr (Or.inr (Or.inr (Or.inr (Or.inr (Or.inr (Or.inr (Or.inr (Or.inr (Or.inr (Or.inr (Or.inr (Or.inr (Or.inr (Or.inr (Or.inr (Or.inr (Or.inr (Or.inr (Or.inl h))))))))))))))))))))))))))))))))))))))))))))))))))))))))))))))))
theorem m_109 : Cond.fieldLink RX3 11 "InquiryBench$Doubt" "held" "[LInquiryBench$Clocks;" ∈ BW := List.mem_of_getElem? (i := 109) (by decide +kernel)
theorem pf_X3_11 (hC : CX p s m meth c y0 b0 mL0 rt0 args) (hy0 : y0.cls = RX3) (hin : y0.name = "<init>") (hK : KK G s) (hP : va_P G.1 vwCl ws H) (hD : va_D A ws) (hS : va_S A H0 H locs) (q0 : Nat) {fs : List Value} {v : Value} {ws' : va_W} (he : ws[q0]? = some (a, .inr (3, fs))) (hl : 1 < fs.length) (hws : ws.set q0 (a, .inr (3, fs.set 1 v)) = ws') (hn : narrow (.array (.object "InquiryBench$Clocks")) v = v) (hfit : fits (.array (.object "InquiryBench$Clocks")) v = true) (hdg : decode b0 pc = .ok (.putfield 11, 3)) (kk : ∀ (H1 : Heap) (locs1 : List Loc), va_P G.1 vwCl ws' H1 → va_D A ws' → va_S A H0 H1 locs1 → W p l e R s m args below meth c H1 locs1 cells slots Q (F0 m (pc + 3) ls rest)) : W p l e R s m args below meth c H locs cells slots Q (F0 m pc ls (v :: .ref a :: rest)) := by
  obtain ⟨hx, hb, hr, hml, hB, hown, hlocks, hnm⟩ := hC
  rw [hy0] at hown
  subst hws
  exact va_putF (ci := 3) (ty := (.array (.object "InquiryBench$Clocks"))) (C := RX3) (T := TX3) (N := 5) hx hb hB in_X3 tyX3 tyX3_ok nmX3 hown hK.1 hP hD hS q0 he rfl 1 (by decide) (hB _ m_109) (fun _ h => h) rfl (hnm.trans hin) rfl (by decide +kernel) hn hfit hl hdg kk
theorem dX3_init_13 : decode cX3_init 13 = .ok (.aload_n 0, 1) := by decide +kernel
theorem dX3_init_14 : decode cX3_init 14 = .ok (.aload_n 1, 1) := by decide +kernel
theorem dX3_init_15 : decode cX3_init 15 = .ok (.putfield 17, 3) := by decide +kernel
theorem m_110 : Cond.fieldLink RX3 17 "InquiryBench$Doubt" "book" "LInquiryBench$Book;" ∈ BW := List.mem_of_getElem? (i := 110) (by decide +kernel)
theorem pf_X3_17 (hC : CX p s m meth c y0 b0 mL0 rt0 args) (hy0 : y0.cls = RX3) (hin : y0.name = "<init>") (hK : KK G s) (hP : va_P G.1 vwCl ws H) (hD : va_D A ws) (hS : va_S A H0 H locs) (q0 : Nat) {fs : List Value} {v : Value} {ws' : va_W} (he : ws[q0]? = some (a, .inr (3, fs))) (hl : 0 < fs.length) (hws : ws.set q0 (a, .inr (3, fs.set 0 v)) = ws') (hn : narrow (.object "InquiryBench$Book") v = v) (hfit : fits (.object "InquiryBench$Book") v = true) (hdg : decode b0 pc = .ok (.putfield 17, 3)) (kk : ∀ (H1 : Heap) (locs1 : List Loc), va_P G.1 vwCl ws' H1 → va_D A ws' → va_S A H0 H1 locs1 → W p l e R s m args below meth c H1 locs1 cells slots Q (F0 m (pc + 3) ls rest)) : W p l e R s m args below meth c H locs cells slots Q (F0 m pc ls (v :: .ref a :: rest)) := by
  obtain ⟨hx, hb, hr, hml, hB, hown, hlocks, hnm⟩ := hC
  rw [hy0] at hown
  subst hws
  exact va_putF (ci := 3) (ty := (.object "InquiryBench$Book")) (C := RX3) (T := TX3) (N := 5) hx hb hB in_X3 tyX3 tyX3_ok nmX3 hown hK.1 hP hD hS q0 he rfl 0 (by decide) (hB _ m_110) (fun _ h => h) rfl (hnm.trans hin) rfl (by decide +kernel) hn hfit hl hdg kk
theorem dX3_init_18 : decode cX3_init 18 = .ok (.iconst 0, 1) := by decide +kernel
theorem dX3_init_19 : decode cX3_init 19 = .ok (.istore_n 2, 1) := by decide +kernel
theorem dX3_init_20 : decode cX3_init 20 = .ok (.iload_n 2, 1) := by decide +kernel
theorem dX3_init_21 : decode cX3_init 21 = .ok (.aload_n 0, 1) := by decide +kernel
theorem dX3_init_22 : decode cX3_init 22 = .ok (.getfield 11, 3) := by decide +kernel
theorem gf_X3_11 (hC : CX p s m meth c y0 b0 mL0 rt0 args) (hy0 : y0.cls = RX3) (hK : KK G s) (hP : va_P G.1 vwCl ws H) (q0 : Nat) {fs : List Value} {v : Value} (he : ws[q0]? = some (a, .inr (3, fs))) (hv : fs[1]? = some v) (hdg : decode b0 pc = .ok (.getfield 11, 3)) (kk : W p l e R s m args below meth c H locs cells slots Q (F0 m (pc + 3) ls (v :: rest))) : W p l e R s m args below meth c H locs cells slots Q (F0 m pc ls (.ref a :: rest)) := by
  obtain ⟨hx, hb, hr, hml, hB, hown, hlocks, hnm⟩ := hC
  rw [hy0] at hown
  exact va_get (ci := 3) (C := RX3) (T := TX3) (N := 5) hx hb hB in_X3 hown hK.1 hP q0 he rfl 1 (by decide) (hB _ m_109) (fun _ h => h) hv hdg kk
theorem dX3_init_25 : decode cX3_init 25 = .ok (.arraylength, 1) := by decide +kernel
theorem dX3_init_26 : decode cX3_init 26 = .ok (.if_icmp .ge 22, 3) := by decide +kernel
theorem dX3_init_29 : decode cX3_init 29 = .ok (.aload_n 0, 1) := by decide +kernel
theorem dX3_init_30 : decode cX3_init 30 = .ok (.getfield 11, 3) := by decide +kernel
theorem dX3_init_33 : decode cX3_init 33 = .ok (.iload_n 2, 1) := by decide +kernel
theorem dX3_init_34 : decode cX3_init 34 = .ok (.new 9, 3) := by decide +kernel
theorem nw_X3_9 (hC : CX p s m meth c y0 b0 mL0 rt0 args) (hy0 : y0.cls = RX3) (hK : KK G s) (hP : va_P G.1 vwCl ws H) (hD : va_D A ws) (hS : va_S A H0 H locs) (hA : ∀ q : Nat, H0.size ≤ q → A q) (hcells : cells + 1 ≤ R.cells) (hslots : slots + 1 ≤ R.slots) (hdg : decode b0 pc = .ok (.new 9, 3)) (kk : ∀ (q : Nat) (H1 : Heap), va_P G.1 vwCl (ws ++ [(q, .inr (1, [.null]))]) H1 → va_D A (ws ++ [(q, .inr (1, [.null]))]) → va_S A H0 H1 locs → W p l e R s m args below meth c H1 locs (cells + 1) (slots + 1) Q (F0 m (pc + 3) ls (.ref q :: rest))) : W p l e R s m args below meth c H locs cells slots Q (F0 m pc ls rest) := by
  obtain ⟨hx, hb, hr, hml, hB, hown, hlocks, hnm⟩ := hC
  rw [hy0] at hown
  exact va_new (ci := 1) (C := RX1) (T := TX1) (N := 1) hx hb hB in_X1 tyX1 tyX1_ok hown (hB _ m_108) (hB _ m_89) (hB _ m_90) hK.1 hP hD hS hA rfl (fun j hj => by rcases (show j = 0 by omega) with rfl <;> rfl) hcells hslots hdg kk
theorem dX3_init_37 : decode cX3_init 37 = .ok (.dup, 1) := by decide +kernel
theorem dX3_init_38 : decode cX3_init 38 = .ok (.invokespecial 21, 3) := by decide +kernel
theorem nm_39 : Cond.methodLinkNest RX3 21 yX1_init RX11 ∈ NestW := List.mem_of_getElem? (i := 39) (by decide +kernel)
theorem si_X3_21 : SIN RX3 RX11 21 yX1_init cX1_init 1 0 := ⟨⟨nm_39, m_100, m_90, m_101⟩, rfl, ⟨by decide +kernel, by decide +kernel, by decide +kernel⟩⟩
theorem dX3_init_41 : decode cX3_init 41 = .ok (.aastore, 1) := by decide +kernel
theorem dX3_init_42 : decode cX3_init 42 = .ok (.iinc 2 1, 3) := by decide +kernel
theorem dX3_init_45 : decode cX3_init 45 = .ok (.goto (-25), 3) := by decide +kernel
theorem dX3_init_48 : decode cX3_init 48 = .ok (.aload_n 0, 1) := by decide +kernel
theorem dX3_init_49 : decode cX3_init 49 = .ok (.iconst 0, 1) := by decide +kernel
theorem dX3_init_50 : decode cX3_init 50 = .ok (.putfield 22, 3) := by decide +kernel
theorem m_111 : Cond.fieldLink RX3 22 "InquiryBench$Doubt" "bound" "I" ∈ BW := List.mem_of_getElem? (i := 111) (by decide +kernel)
theorem pf_X3_22 (hC : CX p s m meth c y0 b0 mL0 rt0 args) (hy0 : y0.cls = RX3) (hK : KK G s) (hP : va_P G.1 vwCl ws H) (hD : va_D A ws) (hS : va_S A H0 H locs) (q0 : Nat) {fs : List Value} {v : Value} {ws' : va_W} (he : ws[q0]? = some (a, .inr (3, fs))) (hl : 2 < fs.length) (hws : ws.set q0 (a, .inr (3, fs.set 2 v)) = ws') (hn : narrow .int v = v) (hfit : fits .int v = true) (hdg : decode b0 pc = .ok (.putfield 22, 3)) (kk : ∀ (H1 : Heap) (locs1 : List Loc), va_P G.1 vwCl ws' H1 → va_D A ws' → va_S A H0 H1 locs1 → W p l e R s m args below meth c H1 locs1 cells slots Q (F0 m (pc + 3) ls rest)) : W p l e R s m args below meth c H locs cells slots Q (F0 m pc ls (v :: .ref a :: rest)) := by
  obtain ⟨hx, hb, hr, hml, hB, hown, hlocks, hnm⟩ := hC
  rw [hy0] at hown
  subst hws
  exact va_put (ci := 3) (ty := .int) (C := RX3) (T := TX3) (N := 5) hx hb hB in_X3 tyX3 tyX3_ok nmX3 hown hK.1 hP hD hS q0 he rfl 2 (by decide) (hB _ m_111) (fun _ h => h) rfl (by decide +kernel) hn hfit hl hdg kk
theorem dX3_init_53 : decode cX3_init 53 = .ok (.aload_n 0, 1) := by decide +kernel
theorem dX3_init_54 : decode cX3_init 54 = .ok (.iconst 0, 1) := by decide +kernel
theorem dX3_init_55 : decode cX3_init 55 = .ok (.putfield 26, 3) := by decide +kernel
theorem m_112 : Cond.fieldLink RX3 26 "InquiryBench$Doubt" "least" "I" ∈ BW := List.mem_of_getElem? (i := 112) (by decide +kernel)
theorem pf_X3_26 (hC : CX p s m meth c y0 b0 mL0 rt0 args) (hy0 : y0.cls = RX3) (hK : KK G s) (hP : va_P G.1 vwCl ws H) (hD : va_D A ws) (hS : va_S A H0 H locs) (q0 : Nat) {fs : List Value} {v : Value} {ws' : va_W} (he : ws[q0]? = some (a, .inr (3, fs))) (hl : 3 < fs.length) (hws : ws.set q0 (a, .inr (3, fs.set 3 v)) = ws') (hn : narrow .int v = v) (hfit : fits .int v = true) (hdg : decode b0 pc = .ok (.putfield 26, 3)) (kk : ∀ (H1 : Heap) (locs1 : List Loc), va_P G.1 vwCl ws' H1 → va_D A ws' → va_S A H0 H1 locs1 → W p l e R s m args below meth c H1 locs1 cells slots Q (F0 m (pc + 3) ls rest)) : W p l e R s m args below meth c H locs cells slots Q (F0 m pc ls (v :: .ref a :: rest)) := by
  obtain ⟨hx, hb, hr, hml, hB, hown, hlocks, hnm⟩ := hC
  rw [hy0] at hown
  subst hws
  exact va_put (ci := 3) (ty := .int) (C := RX3) (T := TX3) (N := 5) hx hb hB in_X3 tyX3 tyX3_ok nmX3 hown hK.1 hP hD hS q0 he rfl 3 (by decide) (hB _ m_112) (fun _ h => h) rfl (by decide +kernel) hn hfit hl hdg kk
theorem dX3_init_58 : decode cX3_init 58 = .ok (.aload_n 0, 1) := by decide +kernel
theorem dX3_init_59 : decode cX3_init 59 = .ok (.iconst 0, 1) := by decide +kernel
theorem dX3_init_60 : decode cX3_init 60 = .ok (.putfield 29, 3) := by decide +kernel
theorem m_113 : Cond.fieldLink RX3 29 "InquiryBench$Doubt" "bits" "I" ∈ BW := List.mem_of_getElem? (i := 113) (by decide +kernel)
theorem pf_X3_29 (hC : CX p s m meth c y0 b0 mL0 rt0 args) (hy0 : y0.cls = RX3) (hK : KK G s) (hP : va_P G.1 vwCl ws H) (hD : va_D A ws) (hS : va_S A H0 H locs) (q0 : Nat) {fs : List Value} {v : Value} {ws' : va_W} (he : ws[q0]? = some (a, .inr (3, fs))) (hl : 4 < fs.length) (hws : ws.set q0 (a, .inr (3, fs.set 4 v)) = ws') (hn : narrow .int v = v) (hfit : fits .int v = true) (hdg : decode b0 pc = .ok (.putfield 29, 3)) (kk : ∀ (H1 : Heap) (locs1 : List Loc), va_P G.1 vwCl ws' H1 → va_D A ws' → va_S A H0 H1 locs1 → W p l e R s m args below meth c H1 locs1 cells slots Q (F0 m (pc + 3) ls rest)) : W p l e R s m args below meth c H locs cells slots Q (F0 m pc ls (v :: .ref a :: rest)) := by
  obtain ⟨hx, hb, hr, hml, hB, hown, hlocks, hnm⟩ := hC
  rw [hy0] at hown
  subst hws
  exact va_put (ci := 3) (ty := .int) (C := RX3) (T := TX3) (N := 5) hx hb hB in_X3 tyX3 tyX3_ok nmX3 hown hK.1 hP hD hS q0 he rfl 4 (by decide) (hB _ m_113) (fun _ h => h) rfl (by decide +kernel) hn hfit hl hdg kk
theorem dX3_init_63 : decode cX3_init 63 = .ok (.return_, 1) := by decide +kernel
theorem dX6_init_0 : decode cX6_init 0 = .ok (.aload_n 0, 1) := by decide +kernel
theorem dX6_init_1 : decode cX6_init 1 = .ok (.invokespecial 3, 3) := by decide +kernel
theorem m_117 : Cond.methodLink RX6 3 objectInit ∈ BW := List.mem_of_getElem? (i := 117) (by decide +kernel)
theorem dX6_init_4 : decode cX6_init 4 = .ok (.aload_n 0, 1) := by decide +kernel
theorem dX6_init_5 : decode cX6_init 5 = .ok (.iconst 5, 1) := by decide +kernel
theorem dX6_init_6 : decode cX6_init 6 = .ok (.newarray .int, 2) := by decide +kernel
theorem dX6_init_8 : decode cX6_init 8 = .ok (.putfield 9, 3) := by decide +kernel
theorem in_X6 : ∀ w ∈ wsX60, w ∈ BW := fun w h => by
  unfold BW
  simp only [List.mem_append]
  exact Or.inr (Or.inr (Or.inr (Or.inr (Or.inr (Or.inr (Or.inr (Or.inr (Or.inr (Or.inr (Or.inr (Or.inr (Or.inr (Or.inr (Or.inr (Or.inr (Or.inr (Or.inr (Or.inr (Or.inr (Or.inr (Or.inr (Or.inr (Or.inr (Or.inr (Or.inr (Or.inr (Or.inr (Or.inr (Or.inr (Or.inr (Or.inr (Or.inr (Or.inr (Or.inr (Or.inr (Or.inr (Or.inr (Or.inr (Or.inr (Or.inr (Or.inr (Or.inr (Or.inr (Or.inr (Or.inr (Or.inr (Or.inr (Or.inr (Or.inr (Or.inr (Or.inr (Or.inr (Or.inr (Or.inr (Or.inr (Or.inr (Or.inr (Or.inr (Or.inr (Or.inr (Or.inr (Or.inr (Or.inr (Or.inr (Or.inl h)))))))))))))))))))))))))))))))))))))))))))))))))))))))))))))))))
theorem m_118 : Cond.fieldLink RX6 9 "InquiryBench$Rules" "facts" "[I" ∈ BW := List.mem_of_getElem? (i := 118) (by decide +kernel)
theorem pf_X6_9 (hC : CX p s m meth c y0 b0 mL0 rt0 args) (hy0 : y0.cls = RX6) (hin : y0.name = "<init>") (hK : KK G s) (hP : va_P G.1 vwCl ws H) (hD : va_D A ws) (hS : va_S A H0 H locs) (q0 : Nat) {fs : List Value} {v : Value} {ws' : va_W} (he : ws[q0]? = some (a, .inr (6, fs))) (hl : 2 < fs.length) (hws : ws.set q0 (a, .inr (6, fs.set 2 v)) = ws') (hn : narrow (.array .int) v = v) (hfit : fits (.array .int) v = true) (hdg : decode b0 pc = .ok (.putfield 9, 3)) (kk : ∀ (H1 : Heap) (locs1 : List Loc), va_P G.1 vwCl ws' H1 → va_D A ws' → va_S A H0 H1 locs1 → W p l e R s m args below meth c H1 locs1 cells slots Q (F0 m (pc + 3) ls rest)) : W p l e R s m args below meth c H locs cells slots Q (F0 m pc ls (v :: .ref a :: rest)) := by
  obtain ⟨hx, hb, hr, hml, hB, hown, hlocks, hnm⟩ := hC
  rw [hy0] at hown
  subst hws
  exact va_putF (ci := 6) (ty := (.array .int)) (C := RX6) (T := TX6) (N := 7) hx hb hB in_X6 tyX6 tyX6_ok nmX6 hown hK.1 hP hD hS q0 he rfl 2 (by decide) (hB _ m_118) (fun _ h => h) rfl (hnm.trans hin) rfl (by decide +kernel) hn hfit hl hdg kk
theorem dX6_init_11 : decode cX6_init 11 = .ok (.aload_n 0, 1) := by decide +kernel
theorem dX6_init_12 : decode cX6_init 12 = .ok (.bipush 8, 2) := by decide +kernel
theorem dX6_init_14 : decode cX6_init 14 = .ok (.newarray .int, 2) := by decide +kernel
theorem dX6_init_16 : decode cX6_init 16 = .ok (.putfield 15, 3) := by decide +kernel
theorem m_119 : Cond.fieldLink RX6 15 "InquiryBench$Rules" "should" "[I" ∈ BW := List.mem_of_getElem? (i := 119) (by decide +kernel)
theorem pf_X6_15 (hC : CX p s m meth c y0 b0 mL0 rt0 args) (hy0 : y0.cls = RX6) (hin : y0.name = "<init>") (hK : KK G s) (hP : va_P G.1 vwCl ws H) (hD : va_D A ws) (hS : va_S A H0 H locs) (q0 : Nat) {fs : List Value} {v : Value} {ws' : va_W} (he : ws[q0]? = some (a, .inr (6, fs))) (hl : 3 < fs.length) (hws : ws.set q0 (a, .inr (6, fs.set 3 v)) = ws') (hn : narrow (.array .int) v = v) (hfit : fits (.array .int) v = true) (hdg : decode b0 pc = .ok (.putfield 15, 3)) (kk : ∀ (H1 : Heap) (locs1 : List Loc), va_P G.1 vwCl ws' H1 → va_D A ws' → va_S A H0 H1 locs1 → W p l e R s m args below meth c H1 locs1 cells slots Q (F0 m (pc + 3) ls rest)) : W p l e R s m args below meth c H locs cells slots Q (F0 m pc ls (v :: .ref a :: rest)) := by
  obtain ⟨hx, hb, hr, hml, hB, hown, hlocks, hnm⟩ := hC
  rw [hy0] at hown
  subst hws
  exact va_putF (ci := 6) (ty := (.array .int)) (C := RX6) (T := TX6) (N := 7) hx hb hB in_X6 tyX6 tyX6_ok nmX6 hown hK.1 hP hD hS q0 he rfl 3 (by decide) (hB _ m_119) (fun _ h => h) rfl (hnm.trans hin) rfl (by decide +kernel) hn hfit hl hdg kk
theorem dX6_init_19 : decode cX6_init 19 = .ok (.aload_n 0, 1) := by decide +kernel
theorem dX6_init_20 : decode cX6_init 20 = .ok (.aload_n 1, 1) := by decide +kernel
theorem dX6_init_21 : decode cX6_init 21 = .ok (.putfield 18, 3) := by decide +kernel
theorem m_120 : Cond.fieldLink RX6 18 "InquiryBench$Rules" "book" "LInquiryBench$Book;" ∈ BW := List.mem_of_getElem? (i := 120) (by decide +kernel)
theorem pf_X6_18 (hC : CX p s m meth c y0 b0 mL0 rt0 args) (hy0 : y0.cls = RX6) (hin : y0.name = "<init>") (hK : KK G s) (hP : va_P G.1 vwCl ws H) (hD : va_D A ws) (hS : va_S A H0 H locs) (q0 : Nat) {fs : List Value} {v : Value} {ws' : va_W} (he : ws[q0]? = some (a, .inr (6, fs))) (hl : 0 < fs.length) (hws : ws.set q0 (a, .inr (6, fs.set 0 v)) = ws') (hn : narrow (.object "InquiryBench$Book") v = v) (hfit : fits (.object "InquiryBench$Book") v = true) (hdg : decode b0 pc = .ok (.putfield 18, 3)) (kk : ∀ (H1 : Heap) (locs1 : List Loc), va_P G.1 vwCl ws' H1 → va_D A ws' → va_S A H0 H1 locs1 → W p l e R s m args below meth c H1 locs1 cells slots Q (F0 m (pc + 3) ls rest)) : W p l e R s m args below meth c H locs cells slots Q (F0 m pc ls (v :: .ref a :: rest)) := by
  obtain ⟨hx, hb, hr, hml, hB, hown, hlocks, hnm⟩ := hC
  rw [hy0] at hown
  subst hws
  exact va_putF (ci := 6) (ty := (.object "InquiryBench$Book")) (C := RX6) (T := TX6) (N := 7) hx hb hB in_X6 tyX6 tyX6_ok nmX6 hown hK.1 hP hD hS q0 he rfl 0 (by decide) (hB _ m_120) (fun _ h => h) rfl (hnm.trans hin) rfl (by decide +kernel) hn hfit hl hdg kk
theorem dX6_init_24 : decode cX6_init 24 = .ok (.aload_n 0, 1) := by decide +kernel
theorem dX6_init_25 : decode cX6_init 25 = .ok (.aload_n 2, 1) := by decide +kernel
theorem dX6_init_26 : decode cX6_init 26 = .ok (.putfield 22, 3) := by decide +kernel
theorem m_121 : Cond.fieldLink RX6 22 "InquiryBench$Rules" "sight" "LInquiryBench$Sight;" ∈ BW := List.mem_of_getElem? (i := 121) (by decide +kernel)
theorem pf_X6_22 (hC : CX p s m meth c y0 b0 mL0 rt0 args) (hy0 : y0.cls = RX6) (hin : y0.name = "<init>") (hK : KK G s) (hP : va_P G.1 vwCl ws H) (hD : va_D A ws) (hS : va_S A H0 H locs) (q0 : Nat) {fs : List Value} {v : Value} {ws' : va_W} (he : ws[q0]? = some (a, .inr (6, fs))) (hl : 1 < fs.length) (hws : ws.set q0 (a, .inr (6, fs.set 1 v)) = ws') (hn : narrow (.object "InquiryBench$Sight") v = v) (hfit : fits (.object "InquiryBench$Sight") v = true) (hdg : decode b0 pc = .ok (.putfield 22, 3)) (kk : ∀ (H1 : Heap) (locs1 : List Loc), va_P G.1 vwCl ws' H1 → va_D A ws' → va_S A H0 H1 locs1 → W p l e R s m args below meth c H1 locs1 cells slots Q (F0 m (pc + 3) ls rest)) : W p l e R s m args below meth c H locs cells slots Q (F0 m pc ls (v :: .ref a :: rest)) := by
  obtain ⟨hx, hb, hr, hml, hB, hown, hlocks, hnm⟩ := hC
  rw [hy0] at hown
  subst hws
  exact va_putF (ci := 6) (ty := (.object "InquiryBench$Sight")) (C := RX6) (T := TX6) (N := 7) hx hb hB in_X6 tyX6 tyX6_ok nmX6 hown hK.1 hP hD hS q0 he rfl 1 (by decide) (hB _ m_121) (fun _ h => h) rfl (hnm.trans hin) rfl (by decide +kernel) hn hfit hl hdg kk
theorem dX6_init_29 : decode cX6_init 29 = .ok (.aload_n 0, 1) := by decide +kernel
theorem dX6_init_30 : decode cX6_init 30 = .ok (.iconst 0, 1) := by decide +kernel
theorem dX6_init_31 : decode cX6_init 31 = .ok (.putfield 26, 3) := by decide +kernel
theorem m_122 : Cond.fieldLink RX6 26 "InquiryBench$Rules" "first" "I" ∈ BW := List.mem_of_getElem? (i := 122) (by decide +kernel)
theorem pf_X6_26 (hC : CX p s m meth c y0 b0 mL0 rt0 args) (hy0 : y0.cls = RX6) (hK : KK G s) (hP : va_P G.1 vwCl ws H) (hD : va_D A ws) (hS : va_S A H0 H locs) (q0 : Nat) {fs : List Value} {v : Value} {ws' : va_W} (he : ws[q0]? = some (a, .inr (6, fs))) (hl : 4 < fs.length) (hws : ws.set q0 (a, .inr (6, fs.set 4 v)) = ws') (hn : narrow .int v = v) (hfit : fits .int v = true) (hdg : decode b0 pc = .ok (.putfield 26, 3)) (kk : ∀ (H1 : Heap) (locs1 : List Loc), va_P G.1 vwCl ws' H1 → va_D A ws' → va_S A H0 H1 locs1 → W p l e R s m args below meth c H1 locs1 cells slots Q (F0 m (pc + 3) ls rest)) : W p l e R s m args below meth c H locs cells slots Q (F0 m pc ls (v :: .ref a :: rest)) := by
  obtain ⟨hx, hb, hr, hml, hB, hown, hlocks, hnm⟩ := hC
  rw [hy0] at hown
  subst hws
  exact va_put (ci := 6) (ty := .int) (C := RX6) (T := TX6) (N := 7) hx hb hB in_X6 tyX6 tyX6_ok nmX6 hown hK.1 hP hD hS q0 he rfl 4 (by decide) (hB _ m_122) (fun _ h => h) rfl (by decide +kernel) hn hfit hl hdg kk
theorem dX6_init_34 : decode cX6_init 34 = .ok (.aload_n 0, 1) := by decide +kernel
theorem dX6_init_35 : decode cX6_init 35 = .ok (.iconst 0, 1) := by decide +kernel
theorem dX6_init_36 : decode cX6_init 36 = .ok (.putfield 30, 3) := by decide +kernel
theorem m_123 : Cond.fieldLink RX6 30 "InquiryBench$Rules" "count" "I" ∈ BW := List.mem_of_getElem? (i := 123) (by decide +kernel)
theorem pf_X6_30 (hC : CX p s m meth c y0 b0 mL0 rt0 args) (hy0 : y0.cls = RX6) (hK : KK G s) (hP : va_P G.1 vwCl ws H) (hD : va_D A ws) (hS : va_S A H0 H locs) (q0 : Nat) {fs : List Value} {v : Value} {ws' : va_W} (he : ws[q0]? = some (a, .inr (6, fs))) (hl : 5 < fs.length) (hws : ws.set q0 (a, .inr (6, fs.set 5 v)) = ws') (hn : narrow .int v = v) (hfit : fits .int v = true) (hdg : decode b0 pc = .ok (.putfield 30, 3)) (kk : ∀ (H1 : Heap) (locs1 : List Loc), va_P G.1 vwCl ws' H1 → va_D A ws' → va_S A H0 H1 locs1 → W p l e R s m args below meth c H1 locs1 cells slots Q (F0 m (pc + 3) ls rest)) : W p l e R s m args below meth c H locs cells slots Q (F0 m pc ls (v :: .ref a :: rest)) := by
  obtain ⟨hx, hb, hr, hml, hB, hown, hlocks, hnm⟩ := hC
  rw [hy0] at hown
  subst hws
  exact va_put (ci := 6) (ty := .int) (C := RX6) (T := TX6) (N := 7) hx hb hB in_X6 tyX6 tyX6_ok nmX6 hown hK.1 hP hD hS q0 he rfl 5 (by decide) (hB _ m_123) (fun _ h => h) rfl (by decide +kernel) hn hfit hl hdg kk
theorem dX6_init_39 : decode cX6_init 39 = .ok (.aload_n 0, 1) := by decide +kernel
theorem dX6_init_40 : decode cX6_init 40 = .ok (.iconst 0, 1) := by decide +kernel
theorem dX6_init_41 : decode cX6_init 41 = .ok (.putfield 33, 3) := by decide +kernel
theorem m_124 : Cond.fieldLink RX6 33 "InquiryBench$Rules" "holding" "I" ∈ BW := List.mem_of_getElem? (i := 124) (by decide +kernel)
theorem pf_X6_33 (hC : CX p s m meth c y0 b0 mL0 rt0 args) (hy0 : y0.cls = RX6) (hK : KK G s) (hP : va_P G.1 vwCl ws H) (hD : va_D A ws) (hS : va_S A H0 H locs) (q0 : Nat) {fs : List Value} {v : Value} {ws' : va_W} (he : ws[q0]? = some (a, .inr (6, fs))) (hl : 6 < fs.length) (hws : ws.set q0 (a, .inr (6, fs.set 6 v)) = ws') (hn : narrow .int v = v) (hfit : fits .int v = true) (hdg : decode b0 pc = .ok (.putfield 33, 3)) (kk : ∀ (H1 : Heap) (locs1 : List Loc), va_P G.1 vwCl ws' H1 → va_D A ws' → va_S A H0 H1 locs1 → W p l e R s m args below meth c H1 locs1 cells slots Q (F0 m (pc + 3) ls rest)) : W p l e R s m args below meth c H locs cells slots Q (F0 m pc ls (v :: .ref a :: rest)) := by
  obtain ⟨hx, hb, hr, hml, hB, hown, hlocks, hnm⟩ := hC
  rw [hy0] at hown
  subst hws
  exact va_put (ci := 6) (ty := .int) (C := RX6) (T := TX6) (N := 7) hx hb hB in_X6 tyX6 tyX6_ok nmX6 hown hK.1 hP hD hS q0 he rfl 6 (by decide) (hB _ m_124) (fun _ h => h) rfl (by decide +kernel) hn hfit hl hdg kk
theorem dX6_init_44 : decode cX6_init 44 = .ok (.return_, 1) := by decide +kernel
theorem dX9_init_0 : decode cX9_init 0 = .ok (.aload_n 0, 1) := by decide +kernel
theorem dX9_init_1 : decode cX9_init 1 = .ok (.invokespecial 3, 3) := by decide +kernel
theorem m_128 : Cond.methodLink RX9 3 objectInit ∈ BW := List.mem_of_getElem? (i := 128) (by decide +kernel)
theorem dX9_init_4 : decode cX9_init 4 = .ok (.aload_n 0, 1) := by decide +kernel
theorem dX9_init_5 : decode cX9_init 5 = .ok (.aload_n 1, 1) := by decide +kernel
theorem dX9_init_6 : decode cX9_init 6 = .ok (.putfield 9, 3) := by decide +kernel
theorem in_X9 : ∀ w ∈ wsX90, w ∈ BW := fun w h => by
  unfold BW
  simp only [List.mem_append]
  exact Or.inr (Or.inr (Or.inr (Or.inr (Or.inr (Or.inr (Or.inr (Or.inr (Or.inr (Or.inr (Or.inr (Or.inr (Or.inr (Or.inr (Or.inr (Or.inr (Or.inr (Or.inr (Or.inr (Or.inr (Or.inr (Or.inr (Or.inr (Or.inr (Or.inr (Or.inr (Or.inr (Or.inr (Or.inr (Or.inr (Or.inr (Or.inr (Or.inr (Or.inr (Or.inr (Or.inr (Or.inr (Or.inr (Or.inr (Or.inr (Or.inr (Or.inr (Or.inr (Or.inr (Or.inr (Or.inr (Or.inr (Or.inr (Or.inr (Or.inr (Or.inr (Or.inr (Or.inr (Or.inr (Or.inr (Or.inr (Or.inr (Or.inr (Or.inr (Or.inr (Or.inr (Or.inr (Or.inr (Or.inr (Or.inr (Or.inr (Or.inl h))))))))))))))))))))))))))))))))))))))))))))))))))))))))))))))))))
theorem m_129 : Cond.fieldLink RX9 9 "InquiryBench$Talk" "book" "LInquiryBench$Book;" ∈ BW := List.mem_of_getElem? (i := 129) (by decide +kernel)
theorem pf_X9_9 (hC : CX p s m meth c y0 b0 mL0 rt0 args) (hy0 : y0.cls = RX9) (hin : y0.name = "<init>") (hK : KK G s) (hP : va_P G.1 vwCl ws H) (hD : va_D A ws) (hS : va_S A H0 H locs) (q0 : Nat) {fs : List Value} {v : Value} {ws' : va_W} (he : ws[q0]? = some (a, .inr (9, fs))) (hl : 0 < fs.length) (hws : ws.set q0 (a, .inr (9, fs.set 0 v)) = ws') (hn : narrow (.object "InquiryBench$Book") v = v) (hfit : fits (.object "InquiryBench$Book") v = true) (hdg : decode b0 pc = .ok (.putfield 9, 3)) (kk : ∀ (H1 : Heap) (locs1 : List Loc), va_P G.1 vwCl ws' H1 → va_D A ws' → va_S A H0 H1 locs1 → W p l e R s m args below meth c H1 locs1 cells slots Q (F0 m (pc + 3) ls rest)) : W p l e R s m args below meth c H locs cells slots Q (F0 m pc ls (v :: .ref a :: rest)) := by
  obtain ⟨hx, hb, hr, hml, hB, hown, hlocks, hnm⟩ := hC
  rw [hy0] at hown
  subst hws
  exact va_putF (ci := 9) (ty := (.object "InquiryBench$Book")) (C := RX9) (T := TX9) (N := 6) hx hb hB in_X9 tyX9 tyX9_ok nmX9 hown hK.1 hP hD hS q0 he rfl 0 (by decide) (hB _ m_129) (fun _ h => h) rfl (hnm.trans hin) rfl (by decide +kernel) hn hfit hl hdg kk
theorem dX9_init_9 : decode cX9_init 9 = .ok (.aload_n 0, 1) := by decide +kernel
theorem dX9_init_10 : decode cX9_init 10 = .ok (.aload_n 2, 1) := by decide +kernel
theorem dX9_init_11 : decode cX9_init 11 = .ok (.putfield 15, 3) := by decide +kernel
theorem m_130 : Cond.fieldLink RX9 15 "InquiryBench$Talk" "sight" "LInquiryBench$Sight;" ∈ BW := List.mem_of_getElem? (i := 130) (by decide +kernel)
theorem pf_X9_15 (hC : CX p s m meth c y0 b0 mL0 rt0 args) (hy0 : y0.cls = RX9) (hin : y0.name = "<init>") (hK : KK G s) (hP : va_P G.1 vwCl ws H) (hD : va_D A ws) (hS : va_S A H0 H locs) (q0 : Nat) {fs : List Value} {v : Value} {ws' : va_W} (he : ws[q0]? = some (a, .inr (9, fs))) (hl : 1 < fs.length) (hws : ws.set q0 (a, .inr (9, fs.set 1 v)) = ws') (hn : narrow (.object "InquiryBench$Sight") v = v) (hfit : fits (.object "InquiryBench$Sight") v = true) (hdg : decode b0 pc = .ok (.putfield 15, 3)) (kk : ∀ (H1 : Heap) (locs1 : List Loc), va_P G.1 vwCl ws' H1 → va_D A ws' → va_S A H0 H1 locs1 → W p l e R s m args below meth c H1 locs1 cells slots Q (F0 m (pc + 3) ls rest)) : W p l e R s m args below meth c H locs cells slots Q (F0 m pc ls (v :: .ref a :: rest)) := by
  obtain ⟨hx, hb, hr, hml, hB, hown, hlocks, hnm⟩ := hC
  rw [hy0] at hown
  subst hws
  exact va_putF (ci := 9) (ty := (.object "InquiryBench$Sight")) (C := RX9) (T := TX9) (N := 6) hx hb hB in_X9 tyX9 tyX9_ok nmX9 hown hK.1 hP hD hS q0 he rfl 1 (by decide) (hB _ m_130) (fun _ h => h) rfl (hnm.trans hin) rfl (by decide +kernel) hn hfit hl hdg kk
theorem dX9_init_14 : decode cX9_init 14 = .ok (.aload_n 0, 1) := by decide +kernel
theorem dX9_init_15 : decode cX9_init 15 = .ok (.iconst 0, 1) := by decide +kernel
theorem dX9_init_16 : decode cX9_init 16 = .ok (.putfield 19, 3) := by decide +kernel
theorem m_131 : Cond.fieldLink RX9 19 "InquiryBench$Talk" "from" "I" ∈ BW := List.mem_of_getElem? (i := 131) (by decide +kernel)
theorem pf_X9_19 (hC : CX p s m meth c y0 b0 mL0 rt0 args) (hy0 : y0.cls = RX9) (hK : KK G s) (hP : va_P G.1 vwCl ws H) (hD : va_D A ws) (hS : va_S A H0 H locs) (q0 : Nat) {fs : List Value} {v : Value} {ws' : va_W} (he : ws[q0]? = some (a, .inr (9, fs))) (hl : 2 < fs.length) (hws : ws.set q0 (a, .inr (9, fs.set 2 v)) = ws') (hn : narrow .int v = v) (hfit : fits .int v = true) (hdg : decode b0 pc = .ok (.putfield 19, 3)) (kk : ∀ (H1 : Heap) (locs1 : List Loc), va_P G.1 vwCl ws' H1 → va_D A ws' → va_S A H0 H1 locs1 → W p l e R s m args below meth c H1 locs1 cells slots Q (F0 m (pc + 3) ls rest)) : W p l e R s m args below meth c H locs cells slots Q (F0 m pc ls (v :: .ref a :: rest)) := by
  obtain ⟨hx, hb, hr, hml, hB, hown, hlocks, hnm⟩ := hC
  rw [hy0] at hown
  subst hws
  exact va_put (ci := 9) (ty := .int) (C := RX9) (T := TX9) (N := 6) hx hb hB in_X9 tyX9 tyX9_ok nmX9 hown hK.1 hP hD hS q0 he rfl 2 (by decide) (hB _ m_131) (fun _ h => h) rfl (by decide +kernel) hn hfit hl hdg kk
theorem dX9_init_19 : decode cX9_init 19 = .ok (.aload_n 0, 1) := by decide +kernel
theorem dX9_init_20 : decode cX9_init 20 = .ok (.iconst 0, 1) := by decide +kernel
theorem dX9_init_21 : decode cX9_init 21 = .ok (.putfield 23, 3) := by decide +kernel
theorem m_132 : Cond.fieldLink RX9 23 "InquiryBench$Talk" "to" "I" ∈ BW := List.mem_of_getElem? (i := 132) (by decide +kernel)
theorem pf_X9_23 (hC : CX p s m meth c y0 b0 mL0 rt0 args) (hy0 : y0.cls = RX9) (hK : KK G s) (hP : va_P G.1 vwCl ws H) (hD : va_D A ws) (hS : va_S A H0 H locs) (q0 : Nat) {fs : List Value} {v : Value} {ws' : va_W} (he : ws[q0]? = some (a, .inr (9, fs))) (hl : 3 < fs.length) (hws : ws.set q0 (a, .inr (9, fs.set 3 v)) = ws') (hn : narrow .int v = v) (hfit : fits .int v = true) (hdg : decode b0 pc = .ok (.putfield 23, 3)) (kk : ∀ (H1 : Heap) (locs1 : List Loc), va_P G.1 vwCl ws' H1 → va_D A ws' → va_S A H0 H1 locs1 → W p l e R s m args below meth c H1 locs1 cells slots Q (F0 m (pc + 3) ls rest)) : W p l e R s m args below meth c H locs cells slots Q (F0 m pc ls (v :: .ref a :: rest)) := by
  obtain ⟨hx, hb, hr, hml, hB, hown, hlocks, hnm⟩ := hC
  rw [hy0] at hown
  subst hws
  exact va_put (ci := 9) (ty := .int) (C := RX9) (T := TX9) (N := 6) hx hb hB in_X9 tyX9 tyX9_ok nmX9 hown hK.1 hP hD hS q0 he rfl 3 (by decide) (hB _ m_132) (fun _ h => h) rfl (by decide +kernel) hn hfit hl hdg kk
theorem dX9_init_24 : decode cX9_init 24 = .ok (.aload_n 0, 1) := by decide +kernel
theorem dX9_init_25 : decode cX9_init 25 = .ok (.iconst 0, 1) := by decide +kernel
theorem dX9_init_26 : decode cX9_init 26 = .ok (.putfield 26, 3) := by decide +kernel
theorem m_133 : Cond.fieldLink RX9 26 "InquiryBench$Talk" "least" "I" ∈ BW := List.mem_of_getElem? (i := 133) (by decide +kernel)
theorem pf_X9_26 (hC : CX p s m meth c y0 b0 mL0 rt0 args) (hy0 : y0.cls = RX9) (hK : KK G s) (hP : va_P G.1 vwCl ws H) (hD : va_D A ws) (hS : va_S A H0 H locs) (q0 : Nat) {fs : List Value} {v : Value} {ws' : va_W} (he : ws[q0]? = some (a, .inr (9, fs))) (hl : 4 < fs.length) (hws : ws.set q0 (a, .inr (9, fs.set 4 v)) = ws') (hn : narrow .int v = v) (hfit : fits .int v = true) (hdg : decode b0 pc = .ok (.putfield 26, 3)) (kk : ∀ (H1 : Heap) (locs1 : List Loc), va_P G.1 vwCl ws' H1 → va_D A ws' → va_S A H0 H1 locs1 → W p l e R s m args below meth c H1 locs1 cells slots Q (F0 m (pc + 3) ls rest)) : W p l e R s m args below meth c H locs cells slots Q (F0 m pc ls (v :: .ref a :: rest)) := by
  obtain ⟨hx, hb, hr, hml, hB, hown, hlocks, hnm⟩ := hC
  rw [hy0] at hown
  subst hws
  exact va_put (ci := 9) (ty := .int) (C := RX9) (T := TX9) (N := 6) hx hb hB in_X9 tyX9 tyX9_ok nmX9 hown hK.1 hP hD hS q0 he rfl 4 (by decide) (hB _ m_133) (fun _ h => h) rfl (by decide +kernel) hn hfit hl hdg kk
theorem dX9_init_29 : decode cX9_init 29 = .ok (.aload_n 0, 1) := by decide +kernel
theorem dX9_init_30 : decode cX9_init 30 = .ok (.iconst 0, 1) := by decide +kernel
theorem dX9_init_31 : decode cX9_init 31 = .ok (.putfield 29, 3) := by decide +kernel
theorem m_134 : Cond.fieldLink RX9 29 "InquiryBench$Talk" "believed" "I" ∈ BW := List.mem_of_getElem? (i := 134) (by decide +kernel)
theorem pf_X9_29 (hC : CX p s m meth c y0 b0 mL0 rt0 args) (hy0 : y0.cls = RX9) (hK : KK G s) (hP : va_P G.1 vwCl ws H) (hD : va_D A ws) (hS : va_S A H0 H locs) (q0 : Nat) {fs : List Value} {v : Value} {ws' : va_W} (he : ws[q0]? = some (a, .inr (9, fs))) (hl : 5 < fs.length) (hws : ws.set q0 (a, .inr (9, fs.set 5 v)) = ws') (hn : narrow .int v = v) (hfit : fits .int v = true) (hdg : decode b0 pc = .ok (.putfield 29, 3)) (kk : ∀ (H1 : Heap) (locs1 : List Loc), va_P G.1 vwCl ws' H1 → va_D A ws' → va_S A H0 H1 locs1 → W p l e R s m args below meth c H1 locs1 cells slots Q (F0 m (pc + 3) ls rest)) : W p l e R s m args below meth c H locs cells slots Q (F0 m pc ls (v :: .ref a :: rest)) := by
  obtain ⟨hx, hb, hr, hml, hB, hown, hlocks, hnm⟩ := hC
  rw [hy0] at hown
  subst hws
  exact va_put (ci := 9) (ty := .int) (C := RX9) (T := TX9) (N := 6) hx hb hB in_X9 tyX9 tyX9_ok nmX9 hown hK.1 hP hD hS q0 he rfl 5 (by decide) (hB _ m_134) (fun _ h => h) rfl (by decide +kernel) hn hfit hl hdg kk
theorem dX9_init_34 : decode cX9_init 34 = .ok (.return_, 1) := by decide +kernel
theorem dX10_init_0 : decode cX10_init 0 = .ok (.aload_n 0, 1) := by decide +kernel
theorem dX10_init_1 : decode cX10_init 1 = .ok (.invokespecial 3, 3) := by decide +kernel
theorem m_138 : Cond.methodLink RX10 3 objectInit ∈ BW := List.mem_of_getElem? (i := 138) (by decide +kernel)
theorem dX10_init_4 : decode cX10_init 4 = .ok (.aload_n 0, 1) := by decide +kernel
theorem dX10_init_5 : decode cX10_init 5 = .ok (.sipush 240, 3) := by decide +kernel
theorem dX10_init_8 : decode cX10_init 8 = .ok (.newarray .int, 2) := by decide +kernel
theorem dX10_init_10 : decode cX10_init 10 = .ok (.putfield 9, 3) := by decide +kernel
theorem in_X10 : ∀ w ∈ wsX100, w ∈ BW := fun w h => by
  unfold BW
  simp only [List.mem_append]
  exact Or.inr (Or.inr (Or.inr (Or.inr (Or.inr (Or.inr (Or.inr (Or.inr (Or.inr (Or.inr (Or.inr (Or.inr (Or.inr (Or.inr (Or.inr (Or.inr (Or.inr (Or.inr (Or.inr (Or.inr (Or.inr (Or.inr (Or.inr (Or.inr (Or.inr (Or.inr (Or.inr (Or.inr (Or.inr (Or.inr (Or.inr (Or.inr (Or.inr (Or.inr (Or.inr (Or.inr (Or.inr (Or.inr (Or.inr (Or.inr (Or.inr (Or.inr (Or.inr (Or.inr (Or.inr (Or.inr (Or.inr (Or.inr (Or.inr (Or.inr (Or.inr (Or.inr (Or.inr (Or.inr (Or.inr (Or.inr (Or.inr (Or.inr (Or.inr (Or.inr (Or.inr (Or.inr (Or.inr (Or.inr (Or.inr (Or.inr (Or.inr (Or.inl h)))))))))))))))))))))))))))))))))))))))))))))))))))))))))))))))))))
theorem m_139 : Cond.fieldLink RX10 9 "InquiryBench$Tape" "bytes" "[I" ∈ BW := List.mem_of_getElem? (i := 139) (by decide +kernel)
theorem pf_X10_9 (hC : CX p s m meth c y0 b0 mL0 rt0 args) (hy0 : y0.cls = RX10) (hin : y0.name = "<init>") (hK : KK G s) (hP : va_P G.1 vwCl ws H) (hD : va_D A ws) (hS : va_S A H0 H locs) (q0 : Nat) {fs : List Value} {v : Value} {ws' : va_W} (he : ws[q0]? = some (a, .inr (10, fs))) (hl : 0 < fs.length) (hws : ws.set q0 (a, .inr (10, fs.set 0 v)) = ws') (hn : narrow (.array .int) v = v) (hfit : fits (.array .int) v = true) (hdg : decode b0 pc = .ok (.putfield 9, 3)) (kk : ∀ (H1 : Heap) (locs1 : List Loc), va_P G.1 vwCl ws' H1 → va_D A ws' → va_S A H0 H1 locs1 → W p l e R s m args below meth c H1 locs1 cells slots Q (F0 m (pc + 3) ls rest)) : W p l e R s m args below meth c H locs cells slots Q (F0 m pc ls (v :: .ref a :: rest)) := by
  obtain ⟨hx, hb, hr, hml, hB, hown, hlocks, hnm⟩ := hC
  rw [hy0] at hown
  subst hws
  exact va_putF (ci := 10) (ty := (.array .int)) (C := RX10) (T := TX10) (N := 8) hx hb hB in_X10 tyX10 tyX10_ok nmX10 hown hK.1 hP hD hS q0 he rfl 0 (by decide) (hB _ m_139) (fun _ h => h) rfl (hnm.trans hin) rfl (by decide +kernel) hn hfit hl hdg kk
theorem dX10_init_13 : decode cX10_init 13 = .ok (.aload_n 0, 1) := by decide +kernel
theorem dX10_init_14 : decode cX10_init 14 = .ok (.new 15, 3) := by decide +kernel
theorem m_140 : Cond.classLink RX10 15 RX8 ∈ BW := List.mem_of_getElem? (i := 140) (by decide +kernel)
theorem nw_X10_15 (hC : CX p s m meth c y0 b0 mL0 rt0 args) (hy0 : y0.cls = RX10) (hK : KK G s) (hP : va_P G.1 vwCl ws H) (hD : va_D A ws) (hS : va_S A H0 H locs) (hA : ∀ q : Nat, H0.size ≤ q → A q) (hcells : cells + 1 ≤ R.cells) (hslots : slots + 4 ≤ R.slots) (hdg : decode b0 pc = .ok (.new 15, 3)) (kk : ∀ (q : Nat) (H1 : Heap), va_P G.1 vwCl (ws ++ [(q, .inr (8, [.int 0, .int 0, .null, .int 0]))]) H1 → va_D A (ws ++ [(q, .inr (8, [.int 0, .int 0, .null, .int 0]))]) → va_S A H0 H1 locs → W p l e R s m args below meth c H1 locs (cells + 1) (slots + 4) Q (F0 m (pc + 3) ls (.ref q :: rest))) : W p l e R s m args below meth c H locs cells slots Q (F0 m pc ls rest) := by
  obtain ⟨hx, hb, hr, hml, hB, hown, hlocks, hnm⟩ := hC
  rw [hy0] at hown
  exact va_new (ci := 8) (C := RX8) (T := TX8) (N := 4) hx hb hB in_X8 tyX8 tyX8_ok hown (hB _ m_140) (hB _ m_55) (hB _ m_56) hK.1 hP hD hS hA rfl (fun j hj => by rcases (show j = 0 ∨ j = 1 ∨ j = 2 ∨ j = 3 by omega) with rfl | rfl | rfl | rfl <;> rfl) hcells hslots hdg kk
theorem dX10_init_17 : decode cX10_init 17 = .ok (.dup, 1) := by decide +kernel
theorem dX10_init_18 : decode cX10_init 18 = .ok (.bipush 9, 2) := by decide +kernel
theorem dX10_init_20 : decode cX10_init 20 = .ok (.bipush 7, 2) := by decide +kernel
theorem dX10_init_22 : decode cX10_init 22 = .ok (.invokespecial 17, 3) := by decide +kernel
theorem m_148 : Cond.methodLink RX10 17 yX8_init ∈ BW := List.mem_of_getElem? (i := 148) (by decide +kernel)
theorem si_X10_17 : SI RX10 17 yX8_init cX8_init 3 2 := ⟨⟨m_148, m_72, m_56, m_73⟩, rfl, ⟨by decide +kernel, by decide +kernel, by decide +kernel⟩⟩
theorem dX10_init_25 : decode cX10_init 25 = .ok (.putfield 20, 3) := by decide +kernel
theorem m_141 : Cond.fieldLink RX10 20 "InquiryBench$Tape" "lines" "LInquiryBench$Table;" ∈ BW := List.mem_of_getElem? (i := 141) (by decide +kernel)
theorem pf_X10_20 (hC : CX p s m meth c y0 b0 mL0 rt0 args) (hy0 : y0.cls = RX10) (hin : y0.name = "<init>") (hK : KK G s) (hP : va_P G.1 vwCl ws H) (hD : va_D A ws) (hS : va_S A H0 H locs) (q0 : Nat) {fs : List Value} {v : Value} {ws' : va_W} (he : ws[q0]? = some (a, .inr (10, fs))) (hl : 2 < fs.length) (hws : ws.set q0 (a, .inr (10, fs.set 2 v)) = ws') (hn : narrow (.object "InquiryBench$Table") v = v) (hfit : fits (.object "InquiryBench$Table") v = true) (hdg : decode b0 pc = .ok (.putfield 20, 3)) (kk : ∀ (H1 : Heap) (locs1 : List Loc), va_P G.1 vwCl ws' H1 → va_D A ws' → va_S A H0 H1 locs1 → W p l e R s m args below meth c H1 locs1 cells slots Q (F0 m (pc + 3) ls rest)) : W p l e R s m args below meth c H locs cells slots Q (F0 m pc ls (v :: .ref a :: rest)) := by
  obtain ⟨hx, hb, hr, hml, hB, hown, hlocks, hnm⟩ := hC
  rw [hy0] at hown
  subst hws
  exact va_putF (ci := 10) (ty := (.object "InquiryBench$Table")) (C := RX10) (T := TX10) (N := 8) hx hb hB in_X10 tyX10 tyX10_ok nmX10 hown hK.1 hP hD hS q0 he rfl 2 (by decide) (hB _ m_141) (fun _ h => h) rfl (hnm.trans hin) rfl (by decide +kernel) hn hfit hl hdg kk
theorem dX10_init_28 : decode cX10_init 28 = .ok (.aload_n 0, 1) := by decide +kernel
theorem dX10_init_29 : decode cX10_init 29 = .ok (.new 15, 3) := by decide +kernel
theorem dX10_init_32 : decode cX10_init 32 = .ok (.dup, 1) := by decide +kernel
theorem dX10_init_33 : decode cX10_init 33 = .ok (.bipush 120, 2) := by decide +kernel
theorem dX10_init_35 : decode cX10_init 35 = .ok (.iconst 1, 1) := by decide +kernel
theorem dX10_init_36 : decode cX10_init 36 = .ok (.invokespecial 17, 3) := by decide +kernel
theorem dX10_init_39 : decode cX10_init 39 = .ok (.putfield 24, 3) := by decide +kernel
theorem m_142 : Cond.fieldLink RX10 24 "InquiryBench$Tape" "steps" "LInquiryBench$Table;" ∈ BW := List.mem_of_getElem? (i := 142) (by decide +kernel)
theorem pf_X10_24 (hC : CX p s m meth c y0 b0 mL0 rt0 args) (hy0 : y0.cls = RX10) (hin : y0.name = "<init>") (hK : KK G s) (hP : va_P G.1 vwCl ws H) (hD : va_D A ws) (hS : va_S A H0 H locs) (q0 : Nat) {fs : List Value} {v : Value} {ws' : va_W} (he : ws[q0]? = some (a, .inr (10, fs))) (hl : 3 < fs.length) (hws : ws.set q0 (a, .inr (10, fs.set 3 v)) = ws') (hn : narrow (.object "InquiryBench$Table") v = v) (hfit : fits (.object "InquiryBench$Table") v = true) (hdg : decode b0 pc = .ok (.putfield 24, 3)) (kk : ∀ (H1 : Heap) (locs1 : List Loc), va_P G.1 vwCl ws' H1 → va_D A ws' → va_S A H0 H1 locs1 → W p l e R s m args below meth c H1 locs1 cells slots Q (F0 m (pc + 3) ls rest)) : W p l e R s m args below meth c H locs cells slots Q (F0 m pc ls (v :: .ref a :: rest)) := by
  obtain ⟨hx, hb, hr, hml, hB, hown, hlocks, hnm⟩ := hC
  rw [hy0] at hown
  subst hws
  exact va_putF (ci := 10) (ty := (.object "InquiryBench$Table")) (C := RX10) (T := TX10) (N := 8) hx hb hB in_X10 tyX10 tyX10_ok nmX10 hown hK.1 hP hD hS q0 he rfl 3 (by decide) (hB _ m_142) (fun _ h => h) rfl (hnm.trans hin) rfl (by decide +kernel) hn hfit hl hdg kk
theorem dX10_init_42 : decode cX10_init 42 = .ok (.aload_n 0, 1) := by decide +kernel
theorem dX10_init_43 : decode cX10_init 43 = .ok (.iconst 0, 1) := by decide +kernel
theorem dX10_init_44 : decode cX10_init 44 = .ok (.putfield 27, 3) := by decide +kernel
theorem m_143 : Cond.fieldLink RX10 27 "InquiryBench$Tape" "count" "I" ∈ BW := List.mem_of_getElem? (i := 143) (by decide +kernel)
theorem pf_X10_27 (hC : CX p s m meth c y0 b0 mL0 rt0 args) (hy0 : y0.cls = RX10) (hK : KK G s) (hP : va_P G.1 vwCl ws H) (hD : va_D A ws) (hS : va_S A H0 H locs) (q0 : Nat) {fs : List Value} {v : Value} {ws' : va_W} (he : ws[q0]? = some (a, .inr (10, fs))) (hl : 1 < fs.length) (hws : ws.set q0 (a, .inr (10, fs.set 1 v)) = ws') (hn : narrow .int v = v) (hfit : fits .int v = true) (hdg : decode b0 pc = .ok (.putfield 27, 3)) (kk : ∀ (H1 : Heap) (locs1 : List Loc), va_P G.1 vwCl ws' H1 → va_D A ws' → va_S A H0 H1 locs1 → W p l e R s m args below meth c H1 locs1 cells slots Q (F0 m (pc + 3) ls rest)) : W p l e R s m args below meth c H locs cells slots Q (F0 m pc ls (v :: .ref a :: rest)) := by
  obtain ⟨hx, hb, hr, hml, hB, hown, hlocks, hnm⟩ := hC
  rw [hy0] at hown
  subst hws
  exact va_put (ci := 10) (ty := .int) (C := RX10) (T := TX10) (N := 8) hx hb hB in_X10 tyX10 tyX10_ok nmX10 hown hK.1 hP hD hS q0 he rfl 1 (by decide) (hB _ m_143) (fun _ h => h) rfl (by decide +kernel) hn hfit hl hdg kk
theorem dX10_init_47 : decode cX10_init 47 = .ok (.aload_n 0, 1) := by decide +kernel
theorem dX10_init_48 : decode cX10_init 48 = .ok (.iconst (-1), 1) := by decide +kernel
theorem dX10_init_49 : decode cX10_init 49 = .ok (.putfield 31, 3) := by decide +kernel
theorem m_144 : Cond.fieldLink RX10 31 "InquiryBench$Tape" "kind" "I" ∈ BW := List.mem_of_getElem? (i := 144) (by decide +kernel)
theorem pf_X10_31 (hC : CX p s m meth c y0 b0 mL0 rt0 args) (hy0 : y0.cls = RX10) (hK : KK G s) (hP : va_P G.1 vwCl ws H) (hD : va_D A ws) (hS : va_S A H0 H locs) (q0 : Nat) {fs : List Value} {v : Value} {ws' : va_W} (he : ws[q0]? = some (a, .inr (10, fs))) (hl : 4 < fs.length) (hws : ws.set q0 (a, .inr (10, fs.set 4 v)) = ws') (hn : narrow .int v = v) (hfit : fits .int v = true) (hdg : decode b0 pc = .ok (.putfield 31, 3)) (kk : ∀ (H1 : Heap) (locs1 : List Loc), va_P G.1 vwCl ws' H1 → va_D A ws' → va_S A H0 H1 locs1 → W p l e R s m args below meth c H1 locs1 cells slots Q (F0 m (pc + 3) ls rest)) : W p l e R s m args below meth c H locs cells slots Q (F0 m pc ls (v :: .ref a :: rest)) := by
  obtain ⟨hx, hb, hr, hml, hB, hown, hlocks, hnm⟩ := hC
  rw [hy0] at hown
  subst hws
  exact va_put (ci := 10) (ty := .int) (C := RX10) (T := TX10) (N := 8) hx hb hB in_X10 tyX10 tyX10_ok nmX10 hown hK.1 hP hD hS q0 he rfl 4 (by decide) (hB _ m_144) (fun _ h => h) rfl (by decide +kernel) hn hfit hl hdg kk
theorem dX10_init_52 : decode cX10_init 52 = .ok (.aload_n 0, 1) := by decide +kernel
theorem dX10_init_53 : decode cX10_init 53 = .ok (.iconst 0, 1) := by decide +kernel
theorem dX10_init_54 : decode cX10_init 54 = .ok (.putfield 34, 3) := by decide +kernel
theorem m_145 : Cond.fieldLink RX10 34 "InquiryBench$Tape" "start" "I" ∈ BW := List.mem_of_getElem? (i := 145) (by decide +kernel)
theorem pf_X10_34 (hC : CX p s m meth c y0 b0 mL0 rt0 args) (hy0 : y0.cls = RX10) (hK : KK G s) (hP : va_P G.1 vwCl ws H) (hD : va_D A ws) (hS : va_S A H0 H locs) (q0 : Nat) {fs : List Value} {v : Value} {ws' : va_W} (he : ws[q0]? = some (a, .inr (10, fs))) (hl : 5 < fs.length) (hws : ws.set q0 (a, .inr (10, fs.set 5 v)) = ws') (hn : narrow .int v = v) (hfit : fits .int v = true) (hdg : decode b0 pc = .ok (.putfield 34, 3)) (kk : ∀ (H1 : Heap) (locs1 : List Loc), va_P G.1 vwCl ws' H1 → va_D A ws' → va_S A H0 H1 locs1 → W p l e R s m args below meth c H1 locs1 cells slots Q (F0 m (pc + 3) ls rest)) : W p l e R s m args below meth c H locs cells slots Q (F0 m pc ls (v :: .ref a :: rest)) := by
  obtain ⟨hx, hb, hr, hml, hB, hown, hlocks, hnm⟩ := hC
  rw [hy0] at hown
  subst hws
  exact va_put (ci := 10) (ty := .int) (C := RX10) (T := TX10) (N := 8) hx hb hB in_X10 tyX10 tyX10_ok nmX10 hown hK.1 hP hD hS q0 he rfl 5 (by decide) (hB _ m_145) (fun _ h => h) rfl (by decide +kernel) hn hfit hl hdg kk
theorem dX10_init_57 : decode cX10_init 57 = .ok (.aload_n 0, 1) := by decide +kernel
theorem dX10_init_58 : decode cX10_init 58 = .ok (.iconst 0, 1) := by decide +kernel
theorem dX10_init_59 : decode cX10_init 59 = .ok (.putfield 37, 3) := by decide +kernel
theorem m_146 : Cond.fieldLink RX10 37 "InquiryBench$Tape" "next" "I" ∈ BW := List.mem_of_getElem? (i := 146) (by decide +kernel)
theorem pf_X10_37 (hC : CX p s m meth c y0 b0 mL0 rt0 args) (hy0 : y0.cls = RX10) (hK : KK G s) (hP : va_P G.1 vwCl ws H) (hD : va_D A ws) (hS : va_S A H0 H locs) (q0 : Nat) {fs : List Value} {v : Value} {ws' : va_W} (he : ws[q0]? = some (a, .inr (10, fs))) (hl : 6 < fs.length) (hws : ws.set q0 (a, .inr (10, fs.set 6 v)) = ws') (hn : narrow .int v = v) (hfit : fits .int v = true) (hdg : decode b0 pc = .ok (.putfield 37, 3)) (kk : ∀ (H1 : Heap) (locs1 : List Loc), va_P G.1 vwCl ws' H1 → va_D A ws' → va_S A H0 H1 locs1 → W p l e R s m args below meth c H1 locs1 cells slots Q (F0 m (pc + 3) ls rest)) : W p l e R s m args below meth c H locs cells slots Q (F0 m pc ls (v :: .ref a :: rest)) := by
  obtain ⟨hx, hb, hr, hml, hB, hown, hlocks, hnm⟩ := hC
  rw [hy0] at hown
  subst hws
  exact va_put (ci := 10) (ty := .int) (C := RX10) (T := TX10) (N := 8) hx hb hB in_X10 tyX10 tyX10_ok nmX10 hown hK.1 hP hD hS q0 he rfl 6 (by decide) (hB _ m_146) (fun _ h => h) rfl (by decide +kernel) hn hfit hl hdg kk
theorem dX10_init_62 : decode cX10_init 62 = .ok (.aload_n 0, 1) := by decide +kernel
theorem dX10_init_63 : decode cX10_init 63 = .ok (.iconst (-1), 1) := by decide +kernel
theorem dX10_init_64 : decode cX10_init 64 = .ok (.putfield 40, 3) := by decide +kernel
theorem m_147 : Cond.fieldLink RX10 40 "InquiryBench$Tape" "fault" "I" ∈ BW := List.mem_of_getElem? (i := 147) (by decide +kernel)
theorem pf_X10_40 (hC : CX p s m meth c y0 b0 mL0 rt0 args) (hy0 : y0.cls = RX10) (hK : KK G s) (hP : va_P G.1 vwCl ws H) (hD : va_D A ws) (hS : va_S A H0 H locs) (q0 : Nat) {fs : List Value} {v : Value} {ws' : va_W} (he : ws[q0]? = some (a, .inr (10, fs))) (hl : 7 < fs.length) (hws : ws.set q0 (a, .inr (10, fs.set 7 v)) = ws') (hn : narrow .int v = v) (hfit : fits .int v = true) (hdg : decode b0 pc = .ok (.putfield 40, 3)) (kk : ∀ (H1 : Heap) (locs1 : List Loc), va_P G.1 vwCl ws' H1 → va_D A ws' → va_S A H0 H1 locs1 → W p l e R s m args below meth c H1 locs1 cells slots Q (F0 m (pc + 3) ls rest)) : W p l e R s m args below meth c H locs cells slots Q (F0 m pc ls (v :: .ref a :: rest)) := by
  obtain ⟨hx, hb, hr, hml, hB, hown, hlocks, hnm⟩ := hC
  rw [hy0] at hown
  subst hws
  exact va_put (ci := 10) (ty := .int) (C := RX10) (T := TX10) (N := 8) hx hb hB in_X10 tyX10 tyX10_ok nmX10 hown hK.1 hP hD hS q0 he rfl 7 (by decide) (hB _ m_147) (fun _ h => h) rfl (by decide +kernel) hn hfit hl hdg kk
theorem dX10_init_67 : decode cX10_init 67 = .ok (.return_, 1) := by decide +kernel
theorem dX5_init_0 : decode cX5_init 0 = .ok (.aload_n 0, 1) := by decide +kernel
theorem dX5_init_1 : decode cX5_init 1 = .ok (.invokespecial 3, 3) := by decide +kernel
theorem m_152 : Cond.methodLink RX5 3 objectInit ∈ BW := List.mem_of_getElem? (i := 152) (by decide +kernel)
theorem dX5_init_4 : decode cX5_init 4 = .ok (.aload_n 0, 1) := by decide +kernel
theorem dX5_init_5 : decode cX5_init 5 = .ok (.new 9, 3) := by decide +kernel
theorem m_153 : Cond.classLink RX5 9 RX8 ∈ BW := List.mem_of_getElem? (i := 153) (by decide +kernel)
theorem nw_X5_9 (hC : CX p s m meth c y0 b0 mL0 rt0 args) (hy0 : y0.cls = RX5) (hK : KK G s) (hP : va_P G.1 vwCl ws H) (hD : va_D A ws) (hS : va_S A H0 H locs) (hA : ∀ q : Nat, H0.size ≤ q → A q) (hcells : cells + 1 ≤ R.cells) (hslots : slots + 4 ≤ R.slots) (hdg : decode b0 pc = .ok (.new 9, 3)) (kk : ∀ (q : Nat) (H1 : Heap), va_P G.1 vwCl (ws ++ [(q, .inr (8, [.int 0, .int 0, .null, .int 0]))]) H1 → va_D A (ws ++ [(q, .inr (8, [.int 0, .int 0, .null, .int 0]))]) → va_S A H0 H1 locs → W p l e R s m args below meth c H1 locs (cells + 1) (slots + 4) Q (F0 m (pc + 3) ls (.ref q :: rest))) : W p l e R s m args below meth c H locs cells slots Q (F0 m pc ls rest) := by
  obtain ⟨hx, hb, hr, hml, hB, hown, hlocks, hnm⟩ := hC
  rw [hy0] at hown
  exact va_new (ci := 8) (C := RX8) (T := TX8) (N := 4) hx hb hB in_X8 tyX8 tyX8_ok hown (hB _ m_153) (hB _ m_55) (hB _ m_56) hK.1 hP hD hS hA rfl (fun j hj => by rcases (show j = 0 ∨ j = 1 ∨ j = 2 ∨ j = 3 by omega) with rfl | rfl | rfl | rfl <;> rfl) hcells hslots hdg kk
theorem dX5_init_8 : decode cX5_init 8 = .ok (.dup, 1) := by decide +kernel
theorem dX5_init_9 : decode cX5_init 9 = .ok (.bipush 7, 2) := by decide +kernel
theorem dX5_init_11 : decode cX5_init 11 = .ok (.iconst 2, 1) := by decide +kernel
theorem dX5_init_12 : decode cX5_init 12 = .ok (.invokespecial 11, 3) := by decide +kernel
theorem m_160 : Cond.methodLink RX5 11 yX8_init ∈ BW := List.mem_of_getElem? (i := 160) (by decide +kernel)
theorem si_X5_11 : SI RX5 11 yX8_init cX8_init 3 2 := ⟨⟨m_160, m_72, m_56, m_73⟩, rfl, ⟨by decide +kernel, by decide +kernel, by decide +kernel⟩⟩
theorem dX5_init_15 : decode cX5_init 15 = .ok (.putfield 14, 3) := by decide +kernel
theorem in_X5 : ∀ w ∈ wsX50, w ∈ BW := fun w h => by
  unfold BW
  simp only [List.mem_append]
  exact Or.inr (Or.inr (Or.inr (Or.inr (Or.inr (Or.inr (Or.inr (Or.inr (Or.inr (Or.inr (Or.inr (Or.inr (Or.inr (Or.inr (Or.inr (Or.inr (Or.inr (Or.inr (Or.inr (Or.inr (Or.inr (Or.inr (Or.inr (Or.inr (Or.inr (Or.inr (Or.inr (Or.inr (Or.inr (Or.inr (Or.inr (Or.inr (Or.inr (Or.inr (Or.inr (Or.inr (Or.inr (Or.inr (Or.inr (Or.inr (Or.inr (Or.inr (Or.inr (Or.inr (Or.inr (Or.inr (Or.inr (Or.inr (Or.inr (Or.inr (Or.inr (Or.inr (Or.inr (Or.inr (Or.inr (Or.inr (Or.inr (Or.inr (Or.inr (Or.inr (Or.inr (Or.inr (Or.inr (Or.inr (Or.inr (Or.inr (Or.inr (Or.inr (Or.inl h))))))))))))))))))))))))))))))))))))))))))))))))))))))))))))))))))))
theorem m_154 : Cond.fieldLink RX5 14 "InquiryBench$Round" "rows" "LInquiryBench$Table;" ∈ BW := List.mem_of_getElem? (i := 154) (by decide +kernel)
theorem pf_X5_14 (hC : CX p s m meth c y0 b0 mL0 rt0 args) (hy0 : y0.cls = RX5) (hin : y0.name = "<init>") (hK : KK G s) (hP : va_P G.1 vwCl ws H) (hD : va_D A ws) (hS : va_S A H0 H locs) (q0 : Nat) {fs : List Value} {v : Value} {ws' : va_W} (he : ws[q0]? = some (a, .inr (5, fs))) (hl : 1 < fs.length) (hws : ws.set q0 (a, .inr (5, fs.set 1 v)) = ws') (hn : narrow (.object "InquiryBench$Table") v = v) (hfit : fits (.object "InquiryBench$Table") v = true) (hdg : decode b0 pc = .ok (.putfield 14, 3)) (kk : ∀ (H1 : Heap) (locs1 : List Loc), va_P G.1 vwCl ws' H1 → va_D A ws' → va_S A H0 H1 locs1 → W p l e R s m args below meth c H1 locs1 cells slots Q (F0 m (pc + 3) ls rest)) : W p l e R s m args below meth c H locs cells slots Q (F0 m pc ls (v :: .ref a :: rest)) := by
  obtain ⟨hx, hb, hr, hml, hB, hown, hlocks, hnm⟩ := hC
  rw [hy0] at hown
  subst hws
  exact va_putF (ci := 5) (ty := (.object "InquiryBench$Table")) (C := RX5) (T := TX5) (N := 6) hx hb hB in_X5 tyX5 tyX5_ok nmX5 hown hK.1 hP hD hS q0 he rfl 1 (by decide) (hB _ m_154) (fun _ h => h) rfl (hnm.trans hin) rfl (by decide +kernel) hn hfit hl hdg kk
theorem dX5_init_18 : decode cX5_init 18 = .ok (.aload_n 0, 1) := by decide +kernel
theorem dX5_init_19 : decode cX5_init 19 = .ok (.sipush 128, 3) := by decide +kernel
theorem dX5_init_22 : decode cX5_init 22 = .ok (.newarray .int, 2) := by decide +kernel
theorem dX5_init_24 : decode cX5_init 24 = .ok (.putfield 20, 3) := by decide +kernel
theorem m_155 : Cond.fieldLink RX5 20 "InquiryBench$Round" "toCome" "[I" ∈ BW := List.mem_of_getElem? (i := 155) (by decide +kernel)
theorem pf_X5_20 (hC : CX p s m meth c y0 b0 mL0 rt0 args) (hy0 : y0.cls = RX5) (hin : y0.name = "<init>") (hK : KK G s) (hP : va_P G.1 vwCl ws H) (hD : va_D A ws) (hS : va_S A H0 H locs) (q0 : Nat) {fs : List Value} {v : Value} {ws' : va_W} (he : ws[q0]? = some (a, .inr (5, fs))) (hl : 2 < fs.length) (hws : ws.set q0 (a, .inr (5, fs.set 2 v)) = ws') (hn : narrow (.array .int) v = v) (hfit : fits (.array .int) v = true) (hdg : decode b0 pc = .ok (.putfield 20, 3)) (kk : ∀ (H1 : Heap) (locs1 : List Loc), va_P G.1 vwCl ws' H1 → va_D A ws' → va_S A H0 H1 locs1 → W p l e R s m args below meth c H1 locs1 cells slots Q (F0 m (pc + 3) ls rest)) : W p l e R s m args below meth c H locs cells slots Q (F0 m pc ls (v :: .ref a :: rest)) := by
  obtain ⟨hx, hb, hr, hml, hB, hown, hlocks, hnm⟩ := hC
  rw [hy0] at hown
  subst hws
  exact va_putF (ci := 5) (ty := (.array .int)) (C := RX5) (T := TX5) (N := 6) hx hb hB in_X5 tyX5 tyX5_ok nmX5 hown hK.1 hP hD hS q0 he rfl 2 (by decide) (hB _ m_155) (fun _ h => h) rfl (hnm.trans hin) rfl (by decide +kernel) hn hfit hl hdg kk
theorem dX5_init_27 : decode cX5_init 27 = .ok (.aload_n 0, 1) := by decide +kernel
theorem dX5_init_28 : decode cX5_init 28 = .ok (.aload_n 1, 1) := by decide +kernel
theorem dX5_init_29 : decode cX5_init 29 = .ok (.putfield 24, 3) := by decide +kernel
theorem m_156 : Cond.fieldLink RX5 24 "InquiryBench$Round" "book" "LInquiryBench$Book;" ∈ BW := List.mem_of_getElem? (i := 156) (by decide +kernel)
theorem pf_X5_24 (hC : CX p s m meth c y0 b0 mL0 rt0 args) (hy0 : y0.cls = RX5) (hin : y0.name = "<init>") (hK : KK G s) (hP : va_P G.1 vwCl ws H) (hD : va_D A ws) (hS : va_S A H0 H locs) (q0 : Nat) {fs : List Value} {v : Value} {ws' : va_W} (he : ws[q0]? = some (a, .inr (5, fs))) (hl : 0 < fs.length) (hws : ws.set q0 (a, .inr (5, fs.set 0 v)) = ws') (hn : narrow (.object "InquiryBench$Book") v = v) (hfit : fits (.object "InquiryBench$Book") v = true) (hdg : decode b0 pc = .ok (.putfield 24, 3)) (kk : ∀ (H1 : Heap) (locs1 : List Loc), va_P G.1 vwCl ws' H1 → va_D A ws' → va_S A H0 H1 locs1 → W p l e R s m args below meth c H1 locs1 cells slots Q (F0 m (pc + 3) ls rest)) : W p l e R s m args below meth c H locs cells slots Q (F0 m pc ls (v :: .ref a :: rest)) := by
  obtain ⟨hx, hb, hr, hml, hB, hown, hlocks, hnm⟩ := hC
  rw [hy0] at hown
  subst hws
  exact va_putF (ci := 5) (ty := (.object "InquiryBench$Book")) (C := RX5) (T := TX5) (N := 6) hx hb hB in_X5 tyX5 tyX5_ok nmX5 hown hK.1 hP hD hS q0 he rfl 0 (by decide) (hB _ m_156) (fun _ h => h) rfl (hnm.trans hin) rfl (by decide +kernel) hn hfit hl hdg kk
theorem dX5_init_32 : decode cX5_init 32 = .ok (.aload_n 0, 1) := by decide +kernel
theorem dX5_init_33 : decode cX5_init 33 = .ok (.iconst 0, 1) := by decide +kernel
theorem dX5_init_34 : decode cX5_init 34 = .ok (.putfield 28, 3) := by decide +kernel
theorem m_157 : Cond.fieldLink RX5 28 "InquiryBench$Round" "asked" "I" ∈ BW := List.mem_of_getElem? (i := 157) (by decide +kernel)
theorem pf_X5_28 (hC : CX p s m meth c y0 b0 mL0 rt0 args) (hy0 : y0.cls = RX5) (hK : KK G s) (hP : va_P G.1 vwCl ws H) (hD : va_D A ws) (hS : va_S A H0 H locs) (q0 : Nat) {fs : List Value} {v : Value} {ws' : va_W} (he : ws[q0]? = some (a, .inr (5, fs))) (hl : 3 < fs.length) (hws : ws.set q0 (a, .inr (5, fs.set 3 v)) = ws') (hn : narrow .int v = v) (hfit : fits .int v = true) (hdg : decode b0 pc = .ok (.putfield 28, 3)) (kk : ∀ (H1 : Heap) (locs1 : List Loc), va_P G.1 vwCl ws' H1 → va_D A ws' → va_S A H0 H1 locs1 → W p l e R s m args below meth c H1 locs1 cells slots Q (F0 m (pc + 3) ls rest)) : W p l e R s m args below meth c H locs cells slots Q (F0 m pc ls (v :: .ref a :: rest)) := by
  obtain ⟨hx, hb, hr, hml, hB, hown, hlocks, hnm⟩ := hC
  rw [hy0] at hown
  subst hws
  exact va_put (ci := 5) (ty := .int) (C := RX5) (T := TX5) (N := 6) hx hb hB in_X5 tyX5 tyX5_ok nmX5 hown hK.1 hP hD hS q0 he rfl 3 (by decide) (hB _ m_157) (fun _ h => h) rfl (by decide +kernel) hn hfit hl hdg kk
theorem dX5_init_37 : decode cX5_init 37 = .ok (.aload_n 0, 1) := by decide +kernel
theorem dX5_init_38 : decode cX5_init 38 = .ok (.iconst 0, 1) := by decide +kernel
theorem dX5_init_39 : decode cX5_init 39 = .ok (.putfield 32, 3) := by decide +kernel
theorem m_158 : Cond.fieldLink RX5 32 "InquiryBench$Round" "start" "I" ∈ BW := List.mem_of_getElem? (i := 158) (by decide +kernel)
theorem pf_X5_32 (hC : CX p s m meth c y0 b0 mL0 rt0 args) (hy0 : y0.cls = RX5) (hK : KK G s) (hP : va_P G.1 vwCl ws H) (hD : va_D A ws) (hS : va_S A H0 H locs) (q0 : Nat) {fs : List Value} {v : Value} {ws' : va_W} (he : ws[q0]? = some (a, .inr (5, fs))) (hl : 4 < fs.length) (hws : ws.set q0 (a, .inr (5, fs.set 4 v)) = ws') (hn : narrow .int v = v) (hfit : fits .int v = true) (hdg : decode b0 pc = .ok (.putfield 32, 3)) (kk : ∀ (H1 : Heap) (locs1 : List Loc), va_P G.1 vwCl ws' H1 → va_D A ws' → va_S A H0 H1 locs1 → W p l e R s m args below meth c H1 locs1 cells slots Q (F0 m (pc + 3) ls rest)) : W p l e R s m args below meth c H locs cells slots Q (F0 m pc ls (v :: .ref a :: rest)) := by
  obtain ⟨hx, hb, hr, hml, hB, hown, hlocks, hnm⟩ := hC
  rw [hy0] at hown
  subst hws
  exact va_put (ci := 5) (ty := .int) (C := RX5) (T := TX5) (N := 6) hx hb hB in_X5 tyX5 tyX5_ok nmX5 hown hK.1 hP hD hS q0 he rfl 4 (by decide) (hB _ m_158) (fun _ h => h) rfl (by decide +kernel) hn hfit hl hdg kk
theorem dX5_init_42 : decode cX5_init 42 = .ok (.aload_n 0, 1) := by decide +kernel
theorem dX5_init_43 : decode cX5_init 43 = .ok (.iconst 0, 1) := by decide +kernel
theorem dX5_init_44 : decode cX5_init 44 = .ok (.putfield 35, 3) := by decide +kernel
theorem m_159 : Cond.fieldLink RX5 35 "InquiryBench$Round" "told" "Z" ∈ BW := List.mem_of_getElem? (i := 159) (by decide +kernel)
theorem pf_X5_35 (hC : CX p s m meth c y0 b0 mL0 rt0 args) (hy0 : y0.cls = RX5) (hK : KK G s) (hP : va_P G.1 vwCl ws H) (hD : va_D A ws) (hS : va_S A H0 H locs) (q0 : Nat) {fs : List Value} {v : Value} {ws' : va_W} (he : ws[q0]? = some (a, .inr (5, fs))) (hl : 5 < fs.length) (hws : ws.set q0 (a, .inr (5, fs.set 5 v)) = ws') (hn : narrow .boolean v = v) (hfit : fits .boolean v = true) (hdg : decode b0 pc = .ok (.putfield 35, 3)) (kk : ∀ (H1 : Heap) (locs1 : List Loc), va_P G.1 vwCl ws' H1 → va_D A ws' → va_S A H0 H1 locs1 → W p l e R s m args below meth c H1 locs1 cells slots Q (F0 m (pc + 3) ls rest)) : W p l e R s m args below meth c H locs cells slots Q (F0 m pc ls (v :: .ref a :: rest)) := by
  obtain ⟨hx, hb, hr, hml, hB, hown, hlocks, hnm⟩ := hC
  rw [hy0] at hown
  subst hws
  exact va_put (ci := 5) (ty := .boolean) (C := RX5) (T := TX5) (N := 6) hx hb hB in_X5 tyX5 tyX5_ok nmX5 hown hK.1 hP hD hS q0 he rfl 5 (by decide) (hB _ m_159) (fun _ h => h) rfl (by decide +kernel) hn hfit hl hdg kk
theorem dX5_init_47 : decode cX5_init 47 = .ok (.return_, 1) := by decide +kernel
theorem dX4_init_0 : decode cX4_init 0 = .ok (.aload_n 0, 1) := by decide +kernel
theorem dX4_init_1 : decode cX4_init 1 = .ok (.invokespecial 3, 3) := by decide +kernel
theorem m_164 : Cond.methodLink RX4 3 objectInit ∈ BW := List.mem_of_getElem? (i := 164) (by decide +kernel)
theorem dX4_init_4 : decode cX4_init 4 = .ok (.aload_n 0, 1) := by decide +kernel
theorem dX4_init_5 : decode cX4_init 5 = .ok (.iconst 4, 1) := by decide +kernel
theorem dX4_init_6 : decode cX4_init 6 = .ok (.newarray .int, 2) := by decide +kernel
theorem dX4_init_8 : decode cX4_init 8 = .ok (.putfield 11, 3) := by decide +kernel
theorem in_X4 : ∀ w ∈ wsX40, w ∈ BW := fun w h => by
  unfold BW
  simp only [List.mem_append]
  exact Or.inr (Or.inr (Or.inr (Or.inr (Or.inr (Or.inr (Or.inr (Or.inr (Or.inr (Or.inr (Or.inr (Or.inr (Or.inr (Or.inr (Or.inr (Or.inr (Or.inr (Or.inr (Or.inr (Or.inr (Or.inr (Or.inr (Or.inr (Or.inr (Or.inr (Or.inr (Or.inr (Or.inr (Or.inr (Or.inr (Or.inr (Or.inr (Or.inr (Or.inr (Or.inr (Or.inr (Or.inr (Or.inr (Or.inr (Or.inr (Or.inr (Or.inr (Or.inr (Or.inr (Or.inr (Or.inr (Or.inr (Or.inr (Or.inr (Or.inr (Or.inr (Or.inr (Or.inr (Or.inr (Or.inr (Or.inr (Or.inr (Or.inr (Or.inr (Or.inr (Or.inr (Or.inr (Or.inr (Or.inr (Or.inr (Or.inr (Or.inr (Or.inr (Or.inr (Or.inl h)))))))))))))))))))))))))))))))))))))))))))))))))))))))))))))))))))))
theorem m_165 : Cond.fieldLink RX4 11 "InquiryBench$Host" "sorts" "[I" ∈ BW := List.mem_of_getElem? (i := 165) (by decide +kernel)
theorem pf_X4_11 (hC : CX p s m meth c y0 b0 mL0 rt0 args) (hy0 : y0.cls = RX4) (hin : y0.name = "<init>") (hK : KK G s) (hP : va_P G.1 vwCl ws H) (hD : va_D A ws) (hS : va_S A H0 H locs) (q0 : Nat) {fs : List Value} {v : Value} {ws' : va_W} (he : ws[q0]? = some (a, .inr (4, fs))) (hl : 0 < fs.length) (hws : ws.set q0 (a, .inr (4, fs.set 0 v)) = ws') (hn : narrow (.array .int) v = v) (hfit : fits (.array .int) v = true) (hdg : decode b0 pc = .ok (.putfield 11, 3)) (kk : ∀ (H1 : Heap) (locs1 : List Loc), va_P G.1 vwCl ws' H1 → va_D A ws' → va_S A H0 H1 locs1 → W p l e R s m args below meth c H1 locs1 cells slots Q (F0 m (pc + 3) ls rest)) : W p l e R s m args below meth c H locs cells slots Q (F0 m pc ls (v :: .ref a :: rest)) := by
  obtain ⟨hx, hb, hr, hml, hB, hown, hlocks, hnm⟩ := hC
  rw [hy0] at hown
  subst hws
  exact va_putF (ci := 4) (ty := (.array .int)) (C := RX4) (T := TX4) (N := 6) hx hb hB in_X4 tyX4 tyX4_ok nmX4 hown hK.1 hP hD hS q0 he rfl 0 (by decide) (hB _ m_165) (fun _ h => h) rfl (hnm.trans hin) rfl (by decide +kernel) hn hfit hl hdg kk
theorem dX4_init_11 : decode cX4_init 11 = .ok (.aload_n 0, 1) := by decide +kernel
theorem dX4_init_12 : decode cX4_init 12 = .ok (.iconst 4, 1) := by decide +kernel
theorem dX4_init_13 : decode cX4_init 13 = .ok (.newarray .int, 2) := by decide +kernel
theorem dX4_init_15 : decode cX4_init 15 = .ok (.putfield 15, 3) := by decide +kernel
theorem m_166 : Cond.fieldLink RX4 15 "InquiryBench$Host" "sizes" "[I" ∈ BW := List.mem_of_getElem? (i := 166) (by decide +kernel)
theorem pf_X4_15 (hC : CX p s m meth c y0 b0 mL0 rt0 args) (hy0 : y0.cls = RX4) (hin : y0.name = "<init>") (hK : KK G s) (hP : va_P G.1 vwCl ws H) (hD : va_D A ws) (hS : va_S A H0 H locs) (q0 : Nat) {fs : List Value} {v : Value} {ws' : va_W} (he : ws[q0]? = some (a, .inr (4, fs))) (hl : 1 < fs.length) (hws : ws.set q0 (a, .inr (4, fs.set 1 v)) = ws') (hn : narrow (.array .int) v = v) (hfit : fits (.array .int) v = true) (hdg : decode b0 pc = .ok (.putfield 15, 3)) (kk : ∀ (H1 : Heap) (locs1 : List Loc), va_P G.1 vwCl ws' H1 → va_D A ws' → va_S A H0 H1 locs1 → W p l e R s m args below meth c H1 locs1 cells slots Q (F0 m (pc + 3) ls rest)) : W p l e R s m args below meth c H locs cells slots Q (F0 m pc ls (v :: .ref a :: rest)) := by
  obtain ⟨hx, hb, hr, hml, hB, hown, hlocks, hnm⟩ := hC
  rw [hy0] at hown
  subst hws
  exact va_putF (ci := 4) (ty := (.array .int)) (C := RX4) (T := TX4) (N := 6) hx hb hB in_X4 tyX4 tyX4_ok nmX4 hown hK.1 hP hD hS q0 he rfl 1 (by decide) (hB _ m_166) (fun _ h => h) rfl (hnm.trans hin) rfl (by decide +kernel) hn hfit hl hdg kk
theorem dX4_init_18 : decode cX4_init 18 = .ok (.aload_n 0, 1) := by decide +kernel
theorem dX4_init_19 : decode cX4_init 19 = .ok (.sipush 160, 3) := by decide +kernel
theorem dX4_init_22 : decode cX4_init 22 = .ok (.newarray .int, 2) := by decide +kernel
theorem dX4_init_24 : decode cX4_init 24 = .ok (.putfield 18, 3) := by decide +kernel
theorem m_167 : Cond.fieldLink RX4 18 "InquiryBench$Host" "items" "[I" ∈ BW := List.mem_of_getElem? (i := 167) (by decide +kernel)
theorem pf_X4_18 (hC : CX p s m meth c y0 b0 mL0 rt0 args) (hy0 : y0.cls = RX4) (hin : y0.name = "<init>") (hK : KK G s) (hP : va_P G.1 vwCl ws H) (hD : va_D A ws) (hS : va_S A H0 H locs) (q0 : Nat) {fs : List Value} {v : Value} {ws' : va_W} (he : ws[q0]? = some (a, .inr (4, fs))) (hl : 2 < fs.length) (hws : ws.set q0 (a, .inr (4, fs.set 2 v)) = ws') (hn : narrow (.array .int) v = v) (hfit : fits (.array .int) v = true) (hdg : decode b0 pc = .ok (.putfield 18, 3)) (kk : ∀ (H1 : Heap) (locs1 : List Loc), va_P G.1 vwCl ws' H1 → va_D A ws' → va_S A H0 H1 locs1 → W p l e R s m args below meth c H1 locs1 cells slots Q (F0 m (pc + 3) ls rest)) : W p l e R s m args below meth c H locs cells slots Q (F0 m pc ls (v :: .ref a :: rest)) := by
  obtain ⟨hx, hb, hr, hml, hB, hown, hlocks, hnm⟩ := hC
  rw [hy0] at hown
  subst hws
  exact va_putF (ci := 4) (ty := (.array .int)) (C := RX4) (T := TX4) (N := 6) hx hb hB in_X4 tyX4 tyX4_ok nmX4 hown hK.1 hP hD hS q0 he rfl 2 (by decide) (hB _ m_167) (fun _ h => h) rfl (hnm.trans hin) rfl (by decide +kernel) hn hfit hl hdg kk
theorem dX4_init_27 : decode cX4_init 27 = .ok (.aload_n 0, 1) := by decide +kernel
theorem dX4_init_28 : decode cX4_init 28 = .ok (.iconst 4, 1) := by decide +kernel
theorem dX4_init_29 : decode cX4_init 29 = .ok (.newarray .int, 2) := by decide +kernel
theorem dX4_init_31 : decode cX4_init 31 = .ok (.putfield 21, 3) := by decide +kernel
theorem m_168 : Cond.fieldLink RX4 21 "InquiryBench$Host" "what" "[I" ∈ BW := List.mem_of_getElem? (i := 168) (by decide +kernel)
theorem pf_X4_21 (hC : CX p s m meth c y0 b0 mL0 rt0 args) (hy0 : y0.cls = RX4) (hin : y0.name = "<init>") (hK : KK G s) (hP : va_P G.1 vwCl ws H) (hD : va_D A ws) (hS : va_S A H0 H locs) (q0 : Nat) {fs : List Value} {v : Value} {ws' : va_W} (he : ws[q0]? = some (a, .inr (4, fs))) (hl : 3 < fs.length) (hws : ws.set q0 (a, .inr (4, fs.set 3 v)) = ws') (hn : narrow (.array .int) v = v) (hfit : fits (.array .int) v = true) (hdg : decode b0 pc = .ok (.putfield 21, 3)) (kk : ∀ (H1 : Heap) (locs1 : List Loc), va_P G.1 vwCl ws' H1 → va_D A ws' → va_S A H0 H1 locs1 → W p l e R s m args below meth c H1 locs1 cells slots Q (F0 m (pc + 3) ls rest)) : W p l e R s m args below meth c H locs cells slots Q (F0 m pc ls (v :: .ref a :: rest)) := by
  obtain ⟨hx, hb, hr, hml, hB, hown, hlocks, hnm⟩ := hC
  rw [hy0] at hown
  subst hws
  exact va_putF (ci := 4) (ty := (.array .int)) (C := RX4) (T := TX4) (N := 6) hx hb hB in_X4 tyX4 tyX4_ok nmX4 hown hK.1 hP hD hS q0 he rfl 3 (by decide) (hB _ m_168) (fun _ h => h) rfl (hnm.trans hin) rfl (by decide +kernel) hn hfit hl hdg kk
theorem dX4_init_34 : decode cX4_init 34 = .ok (.aload_n 0, 1) := by decide +kernel
theorem dX4_init_35 : decode cX4_init 35 = .ok (.iconst 4, 1) := by decide +kernel
theorem dX4_init_36 : decode cX4_init 36 = .ok (.newarray .int, 2) := by decide +kernel
theorem dX4_init_38 : decode cX4_init 38 = .ok (.putfield 24, 3) := by decide +kernel
theorem m_169 : Cond.fieldLink RX4 24 "InquiryBench$Host" "numbe\x72" "[I" ∈ BW := List.mem_of_getElem? (i := 169) (by decide +kernel)
theorem pf_X4_24 (hC : CX p s m meth c y0 b0 mL0 rt0 args) (hy0 : y0.cls = RX4) (hin : y0.name = "<init>") (hK : KK G s) (hP : va_P G.1 vwCl ws H) (hD : va_D A ws) (hS : va_S A H0 H locs) (q0 : Nat) {fs : List Value} {v : Value} {ws' : va_W} (he : ws[q0]? = some (a, .inr (4, fs))) (hl : 4 < fs.length) (hws : ws.set q0 (a, .inr (4, fs.set 4 v)) = ws') (hn : narrow (.array .int) v = v) (hfit : fits (.array .int) v = true) (hdg : decode b0 pc = .ok (.putfield 24, 3)) (kk : ∀ (H1 : Heap) (locs1 : List Loc), va_P G.1 vwCl ws' H1 → va_D A ws' → va_S A H0 H1 locs1 → W p l e R s m args below meth c H1 locs1 cells slots Q (F0 m (pc + 3) ls rest)) : W p l e R s m args below meth c H locs cells slots Q (F0 m pc ls (v :: .ref a :: rest)) := by
  obtain ⟨hx, hb, hr, hml, hB, hown, hlocks, hnm⟩ := hC
  rw [hy0] at hown
  subst hws
  exact va_putF (ci := 4) (ty := (.array .int)) (C := RX4) (T := TX4) (N := 6) hx hb hB in_X4 tyX4 tyX4_ok nmX4 hown hK.1 hP hD hS q0 he rfl 4 (by decide) (hB _ m_169) (fun _ h => h) rfl (hnm.trans hin) rfl (by decide +kernel) hn hfit hl hdg kk
theorem dX4_init_41 : decode cX4_init 41 = .ok (.aload_n 0, 1) := by decide +kernel
theorem dX4_init_42 : decode cX4_init 42 = .ok (.iconst 4, 1) := by decide +kernel
theorem dX4_init_43 : decode cX4_init 43 = .ok (.newarray .int, 2) := by decide +kernel
theorem dX4_init_45 : decode cX4_init 45 = .ok (.putfield 27, 3) := by decide +kernel
theorem m_170 : Cond.fieldLink RX4 27 "InquiryBench$Host" "sort" "[I" ∈ BW := List.mem_of_getElem? (i := 170) (by decide +kernel)
theorem pf_X4_27 (hC : CX p s m meth c y0 b0 mL0 rt0 args) (hy0 : y0.cls = RX4) (hin : y0.name = "<init>") (hK : KK G s) (hP : va_P G.1 vwCl ws H) (hD : va_D A ws) (hS : va_S A H0 H locs) (q0 : Nat) {fs : List Value} {v : Value} {ws' : va_W} (he : ws[q0]? = some (a, .inr (4, fs))) (hl : 5 < fs.length) (hws : ws.set q0 (a, .inr (4, fs.set 5 v)) = ws') (hn : narrow (.array .int) v = v) (hfit : fits (.array .int) v = true) (hdg : decode b0 pc = .ok (.putfield 27, 3)) (kk : ∀ (H1 : Heap) (locs1 : List Loc), va_P G.1 vwCl ws' H1 → va_D A ws' → va_S A H0 H1 locs1 → W p l e R s m args below meth c H1 locs1 cells slots Q (F0 m (pc + 3) ls rest)) : W p l e R s m args below meth c H locs cells slots Q (F0 m pc ls (v :: .ref a :: rest)) := by
  obtain ⟨hx, hb, hr, hml, hB, hown, hlocks, hnm⟩ := hC
  rw [hy0] at hown
  subst hws
  exact va_putF (ci := 4) (ty := (.array .int)) (C := RX4) (T := TX4) (N := 6) hx hb hB in_X4 tyX4 tyX4_ok nmX4 hown hK.1 hP hD hS q0 he rfl 5 (by decide) (hB _ m_170) (fun _ h => h) rfl (hnm.trans hin) rfl (by decide +kernel) hn hfit hl hdg kk
theorem dX4_init_48 : decode cX4_init 48 = .ok (.iconst 0, 1) := by decide +kernel
theorem dX4_init_49 : decode cX4_init 49 = .ok (.istore_n 1, 1) := by decide +kernel
theorem dX4_init_50 : decode cX4_init 50 = .ok (.iload_n 1, 1) := by decide +kernel
theorem dX4_init_51 : decode cX4_init 51 = .ok (.iconst 4, 1) := by decide +kernel
theorem dX4_init_52 : decode cX4_init 52 = .ok (.if_icmp .ge 16, 3) := by decide +kernel
theorem dX4_init_55 : decode cX4_init 55 = .ok (.aload_n 0, 1) := by decide +kernel
theorem dX4_init_56 : decode cX4_init 56 = .ok (.getfield 11, 3) := by decide +kernel
theorem gf_X4_11 (hC : CX p s m meth c y0 b0 mL0 rt0 args) (hy0 : y0.cls = RX4) (hK : KK G s) (hP : va_P G.1 vwCl ws H) (q0 : Nat) {fs : List Value} {v : Value} (he : ws[q0]? = some (a, .inr (4, fs))) (hv : fs[0]? = some v) (hdg : decode b0 pc = .ok (.getfield 11, 3)) (kk : W p l e R s m args below meth c H locs cells slots Q (F0 m (pc + 3) ls (v :: rest))) : W p l e R s m args below meth c H locs cells slots Q (F0 m pc ls (.ref a :: rest)) := by
  obtain ⟨hx, hb, hr, hml, hB, hown, hlocks, hnm⟩ := hC
  rw [hy0] at hown
  exact va_get (ci := 4) (C := RX4) (T := TX4) (N := 6) hx hb hB in_X4 hown hK.1 hP q0 he rfl 0 (by decide) (hB _ m_165) (fun _ h => h) hv hdg kk
theorem dX4_init_59 : decode cX4_init 59 = .ok (.iload_n 1, 1) := by decide +kernel
theorem dX4_init_60 : decode cX4_init 60 = .ok (.iconst (-1), 1) := by decide +kernel
theorem dX4_init_61 : decode cX4_init 61 = .ok (.iastore, 1) := by decide +kernel
theorem ast (hC : CX p s m meth c y0 b0 mL0 rt0 args) (hK : KK G s) (hP : va_P G.1 vwCl ws H) (hD : va_D A ws) (hS : va_S A H0 H locs) (q0 : Nat) {n : Nat} {f : Nat → Int32} {ws' : va_W} (ha : ws[q0]? = some (a, .inl (G.2.1, n, .inl f))) {i x : Int32} (hin : vp_in i n) {k : Nat} (hk : i.toNatClampNeg = k) (hws : ws.set q0 (a, .inl (G.2.1, n, .inl (upd f k x))) = ws') (hdg : decode b0 pc = .ok (.iastore, 1)) (kk : ∀ (H1 : Heap) (locs1 : List Loc), va_P G.1 vwCl ws' H1 → va_D A ws' → va_S A H0 H1 locs1 → W p l e R s m args below meth c H1 locs1 cells slots Q (F0 m (pc + 1) ls rest)) : W p l e R s m args below meth c H locs cells slots Q (F0 m pc ls (.int x :: .int i :: .ref a :: rest)) := by
  obtain ⟨hx, hb, hr, hml, hB, hown, hlocks, hnm⟩ := hC
  refine va_iast hx hb hK.1 hP hD hS q0 0 ha rfl hin hdg ?_
  rw [hk, hws]
  exact kk
theorem dX4_init_62 : decode cX4_init 62 = .ok (.iinc 1 1, 3) := by decide +kernel
theorem dX4_init_65 : decode cX4_init 65 = .ok (.goto (-15), 3) := by decide +kernel
theorem dX4_init_68 : decode cX4_init 68 = .ok (.iconst 0, 1) := by decide +kernel
theorem dX4_init_69 : decode cX4_init 69 = .ok (.istore_n 1, 1) := by decide +kernel
theorem dX4_init_70 : decode cX4_init 70 = .ok (.iload_n 1, 1) := by decide +kernel
theorem dX4_init_71 : decode cX4_init 71 = .ok (.iconst 4, 1) := by decide +kernel
theorem dX4_init_72 : decode cX4_init 72 = .ok (.if_icmp .ge 16, 3) := by decide +kernel
theorem dX4_init_75 : decode cX4_init 75 = .ok (.aload_n 0, 1) := by decide +kernel
theorem dX4_init_76 : decode cX4_init 76 = .ok (.getfield 21, 3) := by decide +kernel
theorem gf_X4_21 (hC : CX p s m meth c y0 b0 mL0 rt0 args) (hy0 : y0.cls = RX4) (hK : KK G s) (hP : va_P G.1 vwCl ws H) (q0 : Nat) {fs : List Value} {v : Value} (he : ws[q0]? = some (a, .inr (4, fs))) (hv : fs[3]? = some v) (hdg : decode b0 pc = .ok (.getfield 21, 3)) (kk : W p l e R s m args below meth c H locs cells slots Q (F0 m (pc + 3) ls (v :: rest))) : W p l e R s m args below meth c H locs cells slots Q (F0 m pc ls (.ref a :: rest)) := by
  obtain ⟨hx, hb, hr, hml, hB, hown, hlocks, hnm⟩ := hC
  rw [hy0] at hown
  exact va_get (ci := 4) (C := RX4) (T := TX4) (N := 6) hx hb hB in_X4 hown hK.1 hP q0 he rfl 3 (by decide) (hB _ m_168) (fun _ h => h) hv hdg kk
theorem dX4_init_79 : decode cX4_init 79 = .ok (.iload_n 1, 1) := by decide +kernel
theorem dX4_init_80 : decode cX4_init 80 = .ok (.iconst 4, 1) := by decide +kernel
theorem dX4_init_81 : decode cX4_init 81 = .ok (.iastore, 1) := by decide +kernel
theorem dX4_init_82 : decode cX4_init 82 = .ok (.iinc 1 1, 3) := by decide +kernel
theorem dX4_init_85 : decode cX4_init 85 = .ok (.goto (-15), 3) := by decide +kernel
theorem dX4_init_88 : decode cX4_init 88 = .ok (.return_, 1) := by decide +kernel
theorem dX2_init_0 : decode cX2_init 0 = .ok (.aload_n 0, 1) := by decide +kernel
theorem dX2_init_1 : decode cX2_init 1 = .ok (.invokespecial 3, 3) := by decide +kernel
theorem m_174 : Cond.methodLink RX2 3 objectInit ∈ BW := List.mem_of_getElem? (i := 174) (by decide +kernel)
theorem dX2_init_4 : decode cX2_init 4 = .ok (.aload_n 0, 1) := by decide +kernel
theorem dX2_init_5 : decode cX2_init 5 = .ok (.bipush 30, 2) := by decide +kernel
theorem dX2_init_7 : decode cX2_init 7 = .ok (.newarray .int, 2) := by decide +kernel
theorem dX2_init_9 : decode cX2_init 9 = .ok (.putfield 11, 3) := by decide +kernel
theorem in_X2 : ∀ w ∈ wsX20, w ∈ BW := fun w h => by
  unfold BW
  simp only [List.mem_append]
  exact Or.inr (Or.inr (Or.inr (Or.inr (Or.inr (Or.inr (Or.inr (Or.inr (Or.inr (Or.inr (Or.inr (Or.inr (Or.inr (Or.inr (Or.inr (Or.inr (Or.inr (Or.inr (Or.inr (Or.inr (Or.inr (Or.inr (Or.inr (Or.inr (Or.inr (Or.inr (Or.inr (Or.inr (Or.inr (Or.inr (Or.inr (Or.inr (Or.inr (Or.inr (Or.inr (Or.inr (Or.inr (Or.inr (Or.inr (Or.inr (Or.inr (Or.inr (Or.inr (Or.inr (Or.inr (Or.inr (Or.inr (Or.inr (Or.inr (Or.inr (Or.inr (Or.inr (Or.inr (Or.inr (Or.inr (Or.inr (Or.inr (Or.inr (Or.inr (Or.inr (Or.inr (Or.inr (Or.inr (Or.inr (Or.inr (Or.inr (Or.inr (Or.inr (Or.inr (Or.inr (Or.inl h))))))))))))))))))))))))))))))))))))))))))))))))))))))))))))))))))))))
theorem m_175 : Cond.fieldLink RX2 11 "InquiryBench$Deale\x72" "trace" "[I" ∈ BW := List.mem_of_getElem? (i := 175) (by decide +kernel)
theorem pf_X2_11 (hC : CX p s m meth c y0 b0 mL0 rt0 args) (hy0 : y0.cls = RX2) (hin : y0.name = "<init>") (hK : KK G s) (hP : va_P G.1 vwCl ws H) (hD : va_D A ws) (hS : va_S A H0 H locs) (q0 : Nat) {fs : List Value} {v : Value} {ws' : va_W} (he : ws[q0]? = some (a, .inr (2, fs))) (hl : 1 < fs.length) (hws : ws.set q0 (a, .inr (2, fs.set 1 v)) = ws') (hn : narrow (.array .int) v = v) (hfit : fits (.array .int) v = true) (hdg : decode b0 pc = .ok (.putfield 11, 3)) (kk : ∀ (H1 : Heap) (locs1 : List Loc), va_P G.1 vwCl ws' H1 → va_D A ws' → va_S A H0 H1 locs1 → W p l e R s m args below meth c H1 locs1 cells slots Q (F0 m (pc + 3) ls rest)) : W p l e R s m args below meth c H locs cells slots Q (F0 m pc ls (v :: .ref a :: rest)) := by
  obtain ⟨hx, hb, hr, hml, hB, hown, hlocks, hnm⟩ := hC
  rw [hy0] at hown
  subst hws
  exact va_putF (ci := 2) (ty := (.array .int)) (C := RX2) (T := TX2) (N := 8) hx hb hB in_X2 tyX2 tyX2_ok nmX2 hown hK.1 hP hD hS q0 he rfl 1 (by decide) (hB _ m_175) (fun _ h => h) rfl (hnm.trans hin) rfl (by decide +kernel) hn hfit hl hdg kk
theorem dX2_init_12 : decode cX2_init 12 = .ok (.aload_n 0, 1) := by decide +kernel
theorem dX2_init_13 : decode cX2_init 13 = .ok (.aload_n 1, 1) := by decide +kernel
theorem dX2_init_14 : decode cX2_init 14 = .ok (.putfield 15, 3) := by decide +kernel
theorem m_176 : Cond.fieldLink RX2 15 "InquiryBench$Deale\x72" "book" "LInquiryBench$Book;" ∈ BW := List.mem_of_getElem? (i := 176) (by decide +kernel)
theorem pf_X2_15 (hC : CX p s m meth c y0 b0 mL0 rt0 args) (hy0 : y0.cls = RX2) (hin : y0.name = "<init>") (hK : KK G s) (hP : va_P G.1 vwCl ws H) (hD : va_D A ws) (hS : va_S A H0 H locs) (q0 : Nat) {fs : List Value} {v : Value} {ws' : va_W} (he : ws[q0]? = some (a, .inr (2, fs))) (hl : 0 < fs.length) (hws : ws.set q0 (a, .inr (2, fs.set 0 v)) = ws') (hn : narrow (.object "InquiryBench$Book") v = v) (hfit : fits (.object "InquiryBench$Book") v = true) (hdg : decode b0 pc = .ok (.putfield 15, 3)) (kk : ∀ (H1 : Heap) (locs1 : List Loc), va_P G.1 vwCl ws' H1 → va_D A ws' → va_S A H0 H1 locs1 → W p l e R s m args below meth c H1 locs1 cells slots Q (F0 m (pc + 3) ls rest)) : W p l e R s m args below meth c H locs cells slots Q (F0 m pc ls (v :: .ref a :: rest)) := by
  obtain ⟨hx, hb, hr, hml, hB, hown, hlocks, hnm⟩ := hC
  rw [hy0] at hown
  subst hws
  exact va_putF (ci := 2) (ty := (.object "InquiryBench$Book")) (C := RX2) (T := TX2) (N := 8) hx hb hB in_X2 tyX2 tyX2_ok nmX2 hown hK.1 hP hD hS q0 he rfl 0 (by decide) (hB _ m_176) (fun _ h => h) rfl (hnm.trans hin) rfl (by decide +kernel) hn hfit hl hdg kk
theorem dX2_init_17 : decode cX2_init 17 = .ok (.aload_n 0, 1) := by decide +kernel
theorem dX2_init_18 : decode cX2_init 18 = .ok (.iconst 0, 1) := by decide +kernel
theorem dX2_init_19 : decode cX2_init 19 = .ok (.putfield 19, 3) := by decide +kernel
theorem m_177 : Cond.fieldLink RX2 19 "InquiryBench$Deale\x72" "ran" "I" ∈ BW := List.mem_of_getElem? (i := 177) (by decide +kernel)
theorem pf_X2_19 (hC : CX p s m meth c y0 b0 mL0 rt0 args) (hy0 : y0.cls = RX2) (hK : KK G s) (hP : va_P G.1 vwCl ws H) (hD : va_D A ws) (hS : va_S A H0 H locs) (q0 : Nat) {fs : List Value} {v : Value} {ws' : va_W} (he : ws[q0]? = some (a, .inr (2, fs))) (hl : 2 < fs.length) (hws : ws.set q0 (a, .inr (2, fs.set 2 v)) = ws') (hn : narrow .int v = v) (hfit : fits .int v = true) (hdg : decode b0 pc = .ok (.putfield 19, 3)) (kk : ∀ (H1 : Heap) (locs1 : List Loc), va_P G.1 vwCl ws' H1 → va_D A ws' → va_S A H0 H1 locs1 → W p l e R s m args below meth c H1 locs1 cells slots Q (F0 m (pc + 3) ls rest)) : W p l e R s m args below meth c H locs cells slots Q (F0 m pc ls (v :: .ref a :: rest)) := by
  obtain ⟨hx, hb, hr, hml, hB, hown, hlocks, hnm⟩ := hC
  rw [hy0] at hown
  subst hws
  exact va_put (ci := 2) (ty := .int) (C := RX2) (T := TX2) (N := 8) hx hb hB in_X2 tyX2 tyX2_ok nmX2 hown hK.1 hP hD hS q0 he rfl 2 (by decide) (hB _ m_177) (fun _ h => h) rfl (by decide +kernel) hn hfit hl hdg kk
theorem dX2_init_22 : decode cX2_init 22 = .ok (.aload_n 0, 1) := by decide +kernel
theorem dX2_init_23 : decode cX2_init 23 = .ok (.iconst 0, 1) := by decide +kernel
theorem dX2_init_24 : decode cX2_init 24 = .ok (.putfield 23, 3) := by decide +kernel
theorem m_178 : Cond.fieldLink RX2 23 "InquiryBench$Deale\x72" "kind" "I" ∈ BW := List.mem_of_getElem? (i := 178) (by decide +kernel)
theorem pf_X2_23 (hC : CX p s m meth c y0 b0 mL0 rt0 args) (hy0 : y0.cls = RX2) (hK : KK G s) (hP : va_P G.1 vwCl ws H) (hD : va_D A ws) (hS : va_S A H0 H locs) (q0 : Nat) {fs : List Value} {v : Value} {ws' : va_W} (he : ws[q0]? = some (a, .inr (2, fs))) (hl : 3 < fs.length) (hws : ws.set q0 (a, .inr (2, fs.set 3 v)) = ws') (hn : narrow .int v = v) (hfit : fits .int v = true) (hdg : decode b0 pc = .ok (.putfield 23, 3)) (kk : ∀ (H1 : Heap) (locs1 : List Loc), va_P G.1 vwCl ws' H1 → va_D A ws' → va_S A H0 H1 locs1 → W p l e R s m args below meth c H1 locs1 cells slots Q (F0 m (pc + 3) ls rest)) : W p l e R s m args below meth c H locs cells slots Q (F0 m pc ls (v :: .ref a :: rest)) := by
  obtain ⟨hx, hb, hr, hml, hB, hown, hlocks, hnm⟩ := hC
  rw [hy0] at hown
  subst hws
  exact va_put (ci := 2) (ty := .int) (C := RX2) (T := TX2) (N := 8) hx hb hB in_X2 tyX2 tyX2_ok nmX2 hown hK.1 hP hD hS q0 he rfl 3 (by decide) (hB _ m_178) (fun _ h => h) rfl (by decide +kernel) hn hfit hl hdg kk
theorem dX2_init_27 : decode cX2_init 27 = .ok (.aload_n 0, 1) := by decide +kernel
theorem dX2_init_28 : decode cX2_init 28 = .ok (.iconst 0, 1) := by decide +kernel
theorem dX2_init_29 : decode cX2_init 29 = .ok (.putfield 26, 3) := by decide +kernel
theorem m_179 : Cond.fieldLink RX2 26 "InquiryBench$Deale\x72" "n" "I" ∈ BW := List.mem_of_getElem? (i := 179) (by decide +kernel)
theorem pf_X2_26 (hC : CX p s m meth c y0 b0 mL0 rt0 args) (hy0 : y0.cls = RX2) (hK : KK G s) (hP : va_P G.1 vwCl ws H) (hD : va_D A ws) (hS : va_S A H0 H locs) (q0 : Nat) {fs : List Value} {v : Value} {ws' : va_W} (he : ws[q0]? = some (a, .inr (2, fs))) (hl : 4 < fs.length) (hws : ws.set q0 (a, .inr (2, fs.set 4 v)) = ws') (hn : narrow .int v = v) (hfit : fits .int v = true) (hdg : decode b0 pc = .ok (.putfield 26, 3)) (kk : ∀ (H1 : Heap) (locs1 : List Loc), va_P G.1 vwCl ws' H1 → va_D A ws' → va_S A H0 H1 locs1 → W p l e R s m args below meth c H1 locs1 cells slots Q (F0 m (pc + 3) ls rest)) : W p l e R s m args below meth c H locs cells slots Q (F0 m pc ls (v :: .ref a :: rest)) := by
  obtain ⟨hx, hb, hr, hml, hB, hown, hlocks, hnm⟩ := hC
  rw [hy0] at hown
  subst hws
  exact va_put (ci := 2) (ty := .int) (C := RX2) (T := TX2) (N := 8) hx hb hB in_X2 tyX2 tyX2_ok nmX2 hown hK.1 hP hD hS q0 he rfl 4 (by decide) (hB _ m_179) (fun _ h => h) rfl (by decide +kernel) hn hfit hl hdg kk
theorem dX2_init_32 : decode cX2_init 32 = .ok (.aload_n 0, 1) := by decide +kernel
theorem dX2_init_33 : decode cX2_init 33 = .ok (.iconst 0, 1) := by decide +kernel
theorem dX2_init_34 : decode cX2_init 34 = .ok (.putfield 29, 3) := by decide +kernel
theorem m_180 : Cond.fieldLink RX2 29 "InquiryBench$Deale\x72" "p" "I" ∈ BW := List.mem_of_getElem? (i := 180) (by decide +kernel)
theorem pf_X2_29 (hC : CX p s m meth c y0 b0 mL0 rt0 args) (hy0 : y0.cls = RX2) (hK : KK G s) (hP : va_P G.1 vwCl ws H) (hD : va_D A ws) (hS : va_S A H0 H locs) (q0 : Nat) {fs : List Value} {v : Value} {ws' : va_W} (he : ws[q0]? = some (a, .inr (2, fs))) (hl : 5 < fs.length) (hws : ws.set q0 (a, .inr (2, fs.set 5 v)) = ws') (hn : narrow .int v = v) (hfit : fits .int v = true) (hdg : decode b0 pc = .ok (.putfield 29, 3)) (kk : ∀ (H1 : Heap) (locs1 : List Loc), va_P G.1 vwCl ws' H1 → va_D A ws' → va_S A H0 H1 locs1 → W p l e R s m args below meth c H1 locs1 cells slots Q (F0 m (pc + 3) ls rest)) : W p l e R s m args below meth c H locs cells slots Q (F0 m pc ls (v :: .ref a :: rest)) := by
  obtain ⟨hx, hb, hr, hml, hB, hown, hlocks, hnm⟩ := hC
  rw [hy0] at hown
  subst hws
  exact va_put (ci := 2) (ty := .int) (C := RX2) (T := TX2) (N := 8) hx hb hB in_X2 tyX2 tyX2_ok nmX2 hown hK.1 hP hD hS q0 he rfl 5 (by decide) (hB _ m_180) (fun _ h => h) rfl (by decide +kernel) hn hfit hl hdg kk
theorem dX2_init_37 : decode cX2_init 37 = .ok (.aload_n 0, 1) := by decide +kernel
theorem dX2_init_38 : decode cX2_init 38 = .ok (.iconst 0, 1) := by decide +kernel
theorem dX2_init_39 : decode cX2_init 39 = .ok (.putfield 32, 3) := by decide +kernel
theorem m_181 : Cond.fieldLink RX2 32 "InquiryBench$Deale\x72" "a" "I" ∈ BW := List.mem_of_getElem? (i := 181) (by decide +kernel)
theorem pf_X2_32 (hC : CX p s m meth c y0 b0 mL0 rt0 args) (hy0 : y0.cls = RX2) (hK : KK G s) (hP : va_P G.1 vwCl ws H) (hD : va_D A ws) (hS : va_S A H0 H locs) (q0 : Nat) {fs : List Value} {v : Value} {ws' : va_W} (he : ws[q0]? = some (a, .inr (2, fs))) (hl : 6 < fs.length) (hws : ws.set q0 (a, .inr (2, fs.set 6 v)) = ws') (hn : narrow .int v = v) (hfit : fits .int v = true) (hdg : decode b0 pc = .ok (.putfield 32, 3)) (kk : ∀ (H1 : Heap) (locs1 : List Loc), va_P G.1 vwCl ws' H1 → va_D A ws' → va_S A H0 H1 locs1 → W p l e R s m args below meth c H1 locs1 cells slots Q (F0 m (pc + 3) ls rest)) : W p l e R s m args below meth c H locs cells slots Q (F0 m pc ls (v :: .ref a :: rest)) := by
  obtain ⟨hx, hb, hr, hml, hB, hown, hlocks, hnm⟩ := hC
  rw [hy0] at hown
  subst hws
  exact va_put (ci := 2) (ty := .int) (C := RX2) (T := TX2) (N := 8) hx hb hB in_X2 tyX2 tyX2_ok nmX2 hown hK.1 hP hD hS q0 he rfl 6 (by decide) (hB _ m_181) (fun _ h => h) rfl (by decide +kernel) hn hfit hl hdg kk
theorem dX2_init_42 : decode cX2_init 42 = .ok (.aload_n 0, 1) := by decide +kernel
theorem dX2_init_43 : decode cX2_init 43 = .ok (.iconst 0, 1) := by decide +kernel
theorem dX2_init_44 : decode cX2_init 44 = .ok (.putfield 35, 3) := by decide +kernel
theorem m_182 : Cond.fieldLink RX2 35 "InquiryBench$Deale\x72" "parted" "Z" ∈ BW := List.mem_of_getElem? (i := 182) (by decide +kernel)
theorem pf_X2_35 (hC : CX p s m meth c y0 b0 mL0 rt0 args) (hy0 : y0.cls = RX2) (hK : KK G s) (hP : va_P G.1 vwCl ws H) (hD : va_D A ws) (hS : va_S A H0 H locs) (q0 : Nat) {fs : List Value} {v : Value} {ws' : va_W} (he : ws[q0]? = some (a, .inr (2, fs))) (hl : 7 < fs.length) (hws : ws.set q0 (a, .inr (2, fs.set 7 v)) = ws') (hn : narrow .boolean v = v) (hfit : fits .boolean v = true) (hdg : decode b0 pc = .ok (.putfield 35, 3)) (kk : ∀ (H1 : Heap) (locs1 : List Loc), va_P G.1 vwCl ws' H1 → va_D A ws' → va_S A H0 H1 locs1 → W p l e R s m args below meth c H1 locs1 cells slots Q (F0 m (pc + 3) ls rest)) : W p l e R s m args below meth c H locs cells slots Q (F0 m pc ls (v :: .ref a :: rest)) := by
  obtain ⟨hx, hb, hr, hml, hB, hown, hlocks, hnm⟩ := hC
  rw [hy0] at hown
  subst hws
  exact va_put (ci := 2) (ty := .boolean) (C := RX2) (T := TX2) (N := 8) hx hb hB in_X2 tyX2 tyX2_ok nmX2 hown hK.1 hP hD hS q0 he rfl 7 (by decide) (hB _ m_182) (fun _ h => h) rfl (by decide +kernel) hn hfit hl hdg kk
theorem dX2_init_47 : decode cX2_init 47 = .ok (.return_, 1) := by decide +kernel
end WR
set_option maxHeartbeats 4000000 in
set_option maxRecDepth 100000 in
theorem c_T_init_7_2 (l : Launch) (G : GG) (h0 : Nat) : MV l G yX8_init cX8_init 3 2 1 14 [.ref h0, .int 7, .int 2] [(h0, .inr (8, [.int 0, .int 0, .null, .int 0]))] (fun u : Nat => True) (fun u : Nat => [(h0, .inr (8, [.int 7, .int 2, .ref u, .int 0])), (u, .inl (G.2.1, 14, .inl (fun _ => 0)))]) := by
  refine MV.start (by decide +kernel) (Nat.le_of_ble_eq_true rfl) ?_
  intro p e s m below meth c A ls hC hK hP hD hS hA hl
  have hl : lv_has ls 3 [(0, .ref h0), (1, .int 7), (2, .int 2)] := hl
  obtain ⟨hx, hb, hr, hml, hB, hown, hlocks, hnm⟩ := id hC
  refine lv_aload_n hx hb dX8_init_0 rfl (lv_at hl 0 rfl) ?_
  refine W.objInit hx hb hown (hB _ m_74) (hB _ m_11) (hB _ m_12) rfl (by rw [hml]; exact hl.1) rfl dX8_init_1 (Nat.le_of_ble_eq_true rfl) (Nat.le_of_ble_eq_true rfl) ?_
  refine W.eq (g2 := F0 m 4 ls []) rfl ?_
  refine lv_aload_n hx hb dX8_init_4 rfl (lv_at hl 0 rfl) ?_
  refine lv_iload_n hx hb dX8_init_5 rfl (lv_at hl 1 rfl) ?_
  refine lv_iconst (v := 0) hx hb dX8_init_6 (by decide) ?_
  refine va_mmax hx hb (hml.trans hl.1.symm) hown (hB _ m_75) (hB _ m_76) (hB _ m_77) (hB _ m_78) (Nat.le_of_ble_eq_true rfl) (Nat.le_of_ble_eq_true rfl) (by first | exact Nat.le_of_ble_eq_true rfl | exact Nat.zero_le _)  (by first | exact Nat.le_of_ble_eq_true rfl | exact Nat.zero_le _) dX8_init_7 ?_
  refine eqi (x1 := 7) (by decide) ?_
  refine pf_X8_15 hC rfl rfl hK hP hD hS 0 (ws' := [(h0, .inr (8, [.int 7, .int 0, .null, .int 0]))]) rfl (Nat.le_of_ble_eq_true rfl) rfl rfl rfl dX8_init_10 (fun H locs hP hD hS => ?_)
  refine lv_aload_n hx hb dX8_init_13 rfl (lv_at hl 0 rfl) ?_
  refine lv_iload_n hx hb dX8_init_14 rfl (lv_at hl 2 rfl) ?_
  refine lv_iconst (v := 1) hx hb dX8_init_15 (by decide) ?_
  refine va_mmax hx hb (hml.trans hl.1.symm) hown (hB _ m_75) (hB _ m_76) (hB _ m_77) (hB _ m_78) (Nat.le_of_ble_eq_true rfl) (Nat.le_of_ble_eq_true rfl) (by first | exact Nat.le_of_ble_eq_true rfl | exact Nat.zero_le _)  (by first | exact Nat.le_of_ble_eq_true rfl | exact Nat.zero_le _) dX8_init_16 ?_
  refine eqi (x1 := 2) (by decide) ?_
  refine pf_X8_21 hC rfl rfl hK hP hD hS 0 (ws' := [(h0, .inr (8, [.int 7, .int 2, .null, .int 0]))]) rfl (Nat.le_of_ble_eq_true rfl) rfl rfl rfl dX8_init_19 (fun H locs hP hD hS => ?_)
  refine lv_aload_n hx hb dX8_init_22 rfl (lv_at hl 0 rfl) ?_
  refine lv_aload_n hx hb dX8_init_23 rfl (lv_at hl 0 rfl) ?_
  refine gf_X8_15 hC rfl hK hP 0 rfl rfl dX8_init_24 ?_
  refine lv_aload_n hx hb dX8_init_27 rfl (lv_at hl 0 rfl) ?_
  refine gf_X8_21 hC rfl hK hP 0 rfl rfl dX8_init_28 ?_
  refine lv_imul hx hb dX8_init_31 ?_
  refine eqi (x1 := 14) (by decide) ?_
  refine newI hC hK hP hD hS hA m_81 (by decide) (N := 14) (by decide +kernel) (Nat.le_of_ble_eq_true rfl) (by decide) (Nat.le_of_ble_eq_true rfl) dX8_init_32 (fun q20 H hP hD hS => ?_)
  have hP : va_P G.1 vwCl [(h0, .inr (8, [.int 7, .int 2, .null, .int 0])), (q20, .inl (G.2.1, 14, .inl (fun _ => 0)))] H := hP
  have hD : va_D A [(h0, .inr (8, [.int 7, .int 2, .null, .int 0])), (q20, .inl (G.2.1, 14, .inl (fun _ => 0)))] := hD
  refine Wcast (c1 := 1) (s1 := 14) rfl rfl ?_
  refine pf_X8_24 hC rfl rfl hK hP hD hS 0 (ws' := [(h0, .inr (8, [.int 7, .int 2, .ref q20, .int 0])), (q20, .inl (G.2.1, 14, .inl (fun _ => 0)))]) rfl (Nat.le_of_ble_eq_true rfl) rfl rfl rfl dX8_init_34 (fun H locs hP hD hS => ?_)
  refine lv_aload_n hx hb dX8_init_37 rfl (lv_at hl 0 rfl) ?_
  refine lv_iconst (v := 0) hx hb dX8_init_38 (by decide) ?_
  refine pf_X8_28 hC rfl hK hP hD hS 0 (ws' := [(h0, .inr (8, [.int 7, .int 2, .ref q20, .int 0])), (q20, .inl (G.2.1, 14, .inl (fun _ => 0)))]) rfl (Nat.le_of_ble_eq_true rfl) rfl rfl rfl dX8_init_39 (fun H locs hP hD hS => ?_)
  exact RV hC hP hD hS [0, 1] q20 rfl rfl (by decide) (trivial) dX8_init_42
set_option maxHeartbeats 4000000 in
set_option maxRecDepth 100000 in
theorem c_T_init_8_3 (l : Launch) (G : GG) (h0 : Nat) : MV l G yX8_init cX8_init 3 2 1 24 [.ref h0, .int 8, .int 3] [(h0, .inr (8, [.int 0, .int 0, .null, .int 0]))] (fun u : Nat => True) (fun u : Nat => [(h0, .inr (8, [.int 8, .int 3, .ref u, .int 0])), (u, .inl (G.2.1, 24, .inl (fun _ => 0)))]) := by
  refine MV.start (by decide +kernel) (Nat.le_of_ble_eq_true rfl) ?_
  intro p e s m below meth c A ls hC hK hP hD hS hA hl
  have hl : lv_has ls 3 [(0, .ref h0), (1, .int 8), (2, .int 3)] := hl
  obtain ⟨hx, hb, hr, hml, hB, hown, hlocks, hnm⟩ := id hC
  refine lv_aload_n hx hb dX8_init_0 rfl (lv_at hl 0 rfl) ?_
  refine W.objInit hx hb hown (hB _ m_74) (hB _ m_11) (hB _ m_12) rfl (by rw [hml]; exact hl.1) rfl dX8_init_1 (Nat.le_of_ble_eq_true rfl) (Nat.le_of_ble_eq_true rfl) ?_
  refine W.eq (g2 := F0 m 4 ls []) rfl ?_
  refine lv_aload_n hx hb dX8_init_4 rfl (lv_at hl 0 rfl) ?_
  refine lv_iload_n hx hb dX8_init_5 rfl (lv_at hl 1 rfl) ?_
  refine lv_iconst (v := 0) hx hb dX8_init_6 (by decide) ?_
  refine va_mmax hx hb (hml.trans hl.1.symm) hown (hB _ m_75) (hB _ m_76) (hB _ m_77) (hB _ m_78) (Nat.le_of_ble_eq_true rfl) (Nat.le_of_ble_eq_true rfl) (by first | exact Nat.le_of_ble_eq_true rfl | exact Nat.zero_le _)  (by first | exact Nat.le_of_ble_eq_true rfl | exact Nat.zero_le _) dX8_init_7 ?_
  refine eqi (x1 := 8) (by decide) ?_
  refine pf_X8_15 hC rfl rfl hK hP hD hS 0 (ws' := [(h0, .inr (8, [.int 8, .int 0, .null, .int 0]))]) rfl (Nat.le_of_ble_eq_true rfl) rfl rfl rfl dX8_init_10 (fun H locs hP hD hS => ?_)
  refine lv_aload_n hx hb dX8_init_13 rfl (lv_at hl 0 rfl) ?_
  refine lv_iload_n hx hb dX8_init_14 rfl (lv_at hl 2 rfl) ?_
  refine lv_iconst (v := 1) hx hb dX8_init_15 (by decide) ?_
  refine va_mmax hx hb (hml.trans hl.1.symm) hown (hB _ m_75) (hB _ m_76) (hB _ m_77) (hB _ m_78) (Nat.le_of_ble_eq_true rfl) (Nat.le_of_ble_eq_true rfl) (by first | exact Nat.le_of_ble_eq_true rfl | exact Nat.zero_le _)  (by first | exact Nat.le_of_ble_eq_true rfl | exact Nat.zero_le _) dX8_init_16 ?_
  refine eqi (x1 := 3) (by decide) ?_
  refine pf_X8_21 hC rfl rfl hK hP hD hS 0 (ws' := [(h0, .inr (8, [.int 8, .int 3, .null, .int 0]))]) rfl (Nat.le_of_ble_eq_true rfl) rfl rfl rfl dX8_init_19 (fun H locs hP hD hS => ?_)
  refine lv_aload_n hx hb dX8_init_22 rfl (lv_at hl 0 rfl) ?_
  refine lv_aload_n hx hb dX8_init_23 rfl (lv_at hl 0 rfl) ?_
  refine gf_X8_15 hC rfl hK hP 0 rfl rfl dX8_init_24 ?_
  refine lv_aload_n hx hb dX8_init_27 rfl (lv_at hl 0 rfl) ?_
  refine gf_X8_21 hC rfl hK hP 0 rfl rfl dX8_init_28 ?_
  refine lv_imul hx hb dX8_init_31 ?_
  refine eqi (x1 := 24) (by decide) ?_
  refine newI hC hK hP hD hS hA m_81 (by decide) (N := 24) (by decide +kernel) (Nat.le_of_ble_eq_true rfl) (by decide) (Nat.le_of_ble_eq_true rfl) dX8_init_32 (fun q21 H hP hD hS => ?_)
  have hP : va_P G.1 vwCl [(h0, .inr (8, [.int 8, .int 3, .null, .int 0])), (q21, .inl (G.2.1, 24, .inl (fun _ => 0)))] H := hP
  have hD : va_D A [(h0, .inr (8, [.int 8, .int 3, .null, .int 0])), (q21, .inl (G.2.1, 24, .inl (fun _ => 0)))] := hD
  refine Wcast (c1 := 1) (s1 := 24) rfl rfl ?_
  refine pf_X8_24 hC rfl rfl hK hP hD hS 0 (ws' := [(h0, .inr (8, [.int 8, .int 3, .ref q21, .int 0])), (q21, .inl (G.2.1, 24, .inl (fun _ => 0)))]) rfl (Nat.le_of_ble_eq_true rfl) rfl rfl rfl dX8_init_34 (fun H locs hP hD hS => ?_)
  refine lv_aload_n hx hb dX8_init_37 rfl (lv_at hl 0 rfl) ?_
  refine lv_iconst (v := 0) hx hb dX8_init_38 (by decide) ?_
  refine pf_X8_28 hC rfl hK hP hD hS 0 (ws' := [(h0, .inr (8, [.int 8, .int 3, .ref q21, .int 0])), (q21, .inl (G.2.1, 24, .inl (fun _ => 0)))]) rfl (Nat.le_of_ble_eq_true rfl) rfl rfl rfl dX8_init_39 (fun H locs hP hD hS => ?_)
  exact RV hC hP hD hS [0, 1] q21 rfl rfl (by decide) (trivial) dX8_init_42
set_option maxHeartbeats 4000000 in
set_option maxRecDepth 100000 in
theorem c_T_init_9_7 (l : Launch) (G : GG) (h0 : Nat) : MV l G yX8_init cX8_init 3 2 1 63 [.ref h0, .int 9, .int 7] [(h0, .inr (8, [.int 0, .int 0, .null, .int 0]))] (fun u : Nat => True) (fun u : Nat => [(h0, .inr (8, [.int 9, .int 7, .ref u, .int 0])), (u, .inl (G.2.1, 63, .inl (fun _ => 0)))]) := by
  refine MV.start (by decide +kernel) (Nat.le_of_ble_eq_true rfl) ?_
  intro p e s m below meth c A ls hC hK hP hD hS hA hl
  have hl : lv_has ls 3 [(0, .ref h0), (1, .int 9), (2, .int 7)] := hl
  obtain ⟨hx, hb, hr, hml, hB, hown, hlocks, hnm⟩ := id hC
  refine lv_aload_n hx hb dX8_init_0 rfl (lv_at hl 0 rfl) ?_
  refine W.objInit hx hb hown (hB _ m_74) (hB _ m_11) (hB _ m_12) rfl (by rw [hml]; exact hl.1) rfl dX8_init_1 (Nat.le_of_ble_eq_true rfl) (Nat.le_of_ble_eq_true rfl) ?_
  refine W.eq (g2 := F0 m 4 ls []) rfl ?_
  refine lv_aload_n hx hb dX8_init_4 rfl (lv_at hl 0 rfl) ?_
  refine lv_iload_n hx hb dX8_init_5 rfl (lv_at hl 1 rfl) ?_
  refine lv_iconst (v := 0) hx hb dX8_init_6 (by decide) ?_
  refine va_mmax hx hb (hml.trans hl.1.symm) hown (hB _ m_75) (hB _ m_76) (hB _ m_77) (hB _ m_78) (Nat.le_of_ble_eq_true rfl) (Nat.le_of_ble_eq_true rfl) (by first | exact Nat.le_of_ble_eq_true rfl | exact Nat.zero_le _)  (by first | exact Nat.le_of_ble_eq_true rfl | exact Nat.zero_le _) dX8_init_7 ?_
  refine eqi (x1 := 9) (by decide) ?_
  refine pf_X8_15 hC rfl rfl hK hP hD hS 0 (ws' := [(h0, .inr (8, [.int 9, .int 0, .null, .int 0]))]) rfl (Nat.le_of_ble_eq_true rfl) rfl rfl rfl dX8_init_10 (fun H locs hP hD hS => ?_)
  refine lv_aload_n hx hb dX8_init_13 rfl (lv_at hl 0 rfl) ?_
  refine lv_iload_n hx hb dX8_init_14 rfl (lv_at hl 2 rfl) ?_
  refine lv_iconst (v := 1) hx hb dX8_init_15 (by decide) ?_
  refine va_mmax hx hb (hml.trans hl.1.symm) hown (hB _ m_75) (hB _ m_76) (hB _ m_77) (hB _ m_78) (Nat.le_of_ble_eq_true rfl) (Nat.le_of_ble_eq_true rfl) (by first | exact Nat.le_of_ble_eq_true rfl | exact Nat.zero_le _)  (by first | exact Nat.le_of_ble_eq_true rfl | exact Nat.zero_le _) dX8_init_16 ?_
  refine eqi (x1 := 7) (by decide) ?_
  refine pf_X8_21 hC rfl rfl hK hP hD hS 0 (ws' := [(h0, .inr (8, [.int 9, .int 7, .null, .int 0]))]) rfl (Nat.le_of_ble_eq_true rfl) rfl rfl rfl dX8_init_19 (fun H locs hP hD hS => ?_)
  refine lv_aload_n hx hb dX8_init_22 rfl (lv_at hl 0 rfl) ?_
  refine lv_aload_n hx hb dX8_init_23 rfl (lv_at hl 0 rfl) ?_
  refine gf_X8_15 hC rfl hK hP 0 rfl rfl dX8_init_24 ?_
  refine lv_aload_n hx hb dX8_init_27 rfl (lv_at hl 0 rfl) ?_
  refine gf_X8_21 hC rfl hK hP 0 rfl rfl dX8_init_28 ?_
  refine lv_imul hx hb dX8_init_31 ?_
  refine eqi (x1 := 63) (by decide) ?_
  refine newI hC hK hP hD hS hA m_81 (by decide) (N := 63) (by decide +kernel) (Nat.le_of_ble_eq_true rfl) (by decide) (Nat.le_of_ble_eq_true rfl) dX8_init_32 (fun q22 H hP hD hS => ?_)
  have hP : va_P G.1 vwCl [(h0, .inr (8, [.int 9, .int 7, .null, .int 0])), (q22, .inl (G.2.1, 63, .inl (fun _ => 0)))] H := hP
  have hD : va_D A [(h0, .inr (8, [.int 9, .int 7, .null, .int 0])), (q22, .inl (G.2.1, 63, .inl (fun _ => 0)))] := hD
  refine Wcast (c1 := 1) (s1 := 63) rfl rfl ?_
  refine pf_X8_24 hC rfl rfl hK hP hD hS 0 (ws' := [(h0, .inr (8, [.int 9, .int 7, .ref q22, .int 0])), (q22, .inl (G.2.1, 63, .inl (fun _ => 0)))]) rfl (Nat.le_of_ble_eq_true rfl) rfl rfl rfl dX8_init_34 (fun H locs hP hD hS => ?_)
  refine lv_aload_n hx hb dX8_init_37 rfl (lv_at hl 0 rfl) ?_
  refine lv_iconst (v := 0) hx hb dX8_init_38 (by decide) ?_
  refine pf_X8_28 hC rfl hK hP hD hS 0 (ws' := [(h0, .inr (8, [.int 9, .int 7, .ref q22, .int 0])), (q22, .inl (G.2.1, 63, .inl (fun _ => 0)))]) rfl (Nat.le_of_ble_eq_true rfl) rfl rfl rfl dX8_init_39 (fun H locs hP hD hS => ?_)
  exact RV hC hP hD hS [0, 1] q22 rfl rfl (by decide) (trivial) dX8_init_42
set_option maxHeartbeats 4000000 in
set_option maxRecDepth 100000 in
theorem c_T_init_10_2 (l : Launch) (G : GG) (h0 : Nat) : MV l G yX8_init cX8_init 3 2 1 20 [.ref h0, .int 10, .int 2] [(h0, .inr (8, [.int 0, .int 0, .null, .int 0]))] (fun u : Nat => True) (fun u : Nat => [(h0, .inr (8, [.int 10, .int 2, .ref u, .int 0])), (u, .inl (G.2.1, 20, .inl (fun _ => 0)))]) := by
  refine MV.start (by decide +kernel) (Nat.le_of_ble_eq_true rfl) ?_
  intro p e s m below meth c A ls hC hK hP hD hS hA hl
  have hl : lv_has ls 3 [(0, .ref h0), (1, .int 10), (2, .int 2)] := hl
  obtain ⟨hx, hb, hr, hml, hB, hown, hlocks, hnm⟩ := id hC
  refine lv_aload_n hx hb dX8_init_0 rfl (lv_at hl 0 rfl) ?_
  refine W.objInit hx hb hown (hB _ m_74) (hB _ m_11) (hB _ m_12) rfl (by rw [hml]; exact hl.1) rfl dX8_init_1 (Nat.le_of_ble_eq_true rfl) (Nat.le_of_ble_eq_true rfl) ?_
  refine W.eq (g2 := F0 m 4 ls []) rfl ?_
  refine lv_aload_n hx hb dX8_init_4 rfl (lv_at hl 0 rfl) ?_
  refine lv_iload_n hx hb dX8_init_5 rfl (lv_at hl 1 rfl) ?_
  refine lv_iconst (v := 0) hx hb dX8_init_6 (by decide) ?_
  refine va_mmax hx hb (hml.trans hl.1.symm) hown (hB _ m_75) (hB _ m_76) (hB _ m_77) (hB _ m_78) (Nat.le_of_ble_eq_true rfl) (Nat.le_of_ble_eq_true rfl) (by first | exact Nat.le_of_ble_eq_true rfl | exact Nat.zero_le _)  (by first | exact Nat.le_of_ble_eq_true rfl | exact Nat.zero_le _) dX8_init_7 ?_
  refine eqi (x1 := 10) (by decide) ?_
  refine pf_X8_15 hC rfl rfl hK hP hD hS 0 (ws' := [(h0, .inr (8, [.int 10, .int 0, .null, .int 0]))]) rfl (Nat.le_of_ble_eq_true rfl) rfl rfl rfl dX8_init_10 (fun H locs hP hD hS => ?_)
  refine lv_aload_n hx hb dX8_init_13 rfl (lv_at hl 0 rfl) ?_
  refine lv_iload_n hx hb dX8_init_14 rfl (lv_at hl 2 rfl) ?_
  refine lv_iconst (v := 1) hx hb dX8_init_15 (by decide) ?_
  refine va_mmax hx hb (hml.trans hl.1.symm) hown (hB _ m_75) (hB _ m_76) (hB _ m_77) (hB _ m_78) (Nat.le_of_ble_eq_true rfl) (Nat.le_of_ble_eq_true rfl) (by first | exact Nat.le_of_ble_eq_true rfl | exact Nat.zero_le _)  (by first | exact Nat.le_of_ble_eq_true rfl | exact Nat.zero_le _) dX8_init_16 ?_
  refine eqi (x1 := 2) (by decide) ?_
  refine pf_X8_21 hC rfl rfl hK hP hD hS 0 (ws' := [(h0, .inr (8, [.int 10, .int 2, .null, .int 0]))]) rfl (Nat.le_of_ble_eq_true rfl) rfl rfl rfl dX8_init_19 (fun H locs hP hD hS => ?_)
  refine lv_aload_n hx hb dX8_init_22 rfl (lv_at hl 0 rfl) ?_
  refine lv_aload_n hx hb dX8_init_23 rfl (lv_at hl 0 rfl) ?_
  refine gf_X8_15 hC rfl hK hP 0 rfl rfl dX8_init_24 ?_
  refine lv_aload_n hx hb dX8_init_27 rfl (lv_at hl 0 rfl) ?_
  refine gf_X8_21 hC rfl hK hP 0 rfl rfl dX8_init_28 ?_
  refine lv_imul hx hb dX8_init_31 ?_
  refine eqi (x1 := 20) (by decide) ?_
  refine newI hC hK hP hD hS hA m_81 (by decide) (N := 20) (by decide +kernel) (Nat.le_of_ble_eq_true rfl) (by decide) (Nat.le_of_ble_eq_true rfl) dX8_init_32 (fun q23 H hP hD hS => ?_)
  have hP : va_P G.1 vwCl [(h0, .inr (8, [.int 10, .int 2, .null, .int 0])), (q23, .inl (G.2.1, 20, .inl (fun _ => 0)))] H := hP
  have hD : va_D A [(h0, .inr (8, [.int 10, .int 2, .null, .int 0])), (q23, .inl (G.2.1, 20, .inl (fun _ => 0)))] := hD
  refine Wcast (c1 := 1) (s1 := 20) rfl rfl ?_
  refine pf_X8_24 hC rfl rfl hK hP hD hS 0 (ws' := [(h0, .inr (8, [.int 10, .int 2, .ref q23, .int 0])), (q23, .inl (G.2.1, 20, .inl (fun _ => 0)))]) rfl (Nat.le_of_ble_eq_true rfl) rfl rfl rfl dX8_init_34 (fun H locs hP hD hS => ?_)
  refine lv_aload_n hx hb dX8_init_37 rfl (lv_at hl 0 rfl) ?_
  refine lv_iconst (v := 0) hx hb dX8_init_38 (by decide) ?_
  refine pf_X8_28 hC rfl hK hP hD hS 0 (ws' := [(h0, .inr (8, [.int 10, .int 2, .ref q23, .int 0])), (q23, .inl (G.2.1, 20, .inl (fun _ => 0)))]) rfl (Nat.le_of_ble_eq_true rfl) rfl rfl rfl dX8_init_39 (fun H locs hP hD hS => ?_)
  exact RV hC hP hD hS [0, 1] q23 rfl rfl (by decide) (trivial) dX8_init_42
set_option maxHeartbeats 4000000 in
set_option maxRecDepth 100000 in
theorem c_T_init_12_4 (l : Launch) (G : GG) (h0 : Nat) : MV l G yX8_init cX8_init 3 2 1 48 [.ref h0, .int 12, .int 4] [(h0, .inr (8, [.int 0, .int 0, .null, .int 0]))] (fun u : Nat => True) (fun u : Nat => [(h0, .inr (8, [.int 12, .int 4, .ref u, .int 0])), (u, .inl (G.2.1, 48, .inl (fun _ => 0)))]) := by
  refine MV.start (by decide +kernel) (Nat.le_of_ble_eq_true rfl) ?_
  intro p e s m below meth c A ls hC hK hP hD hS hA hl
  have hl : lv_has ls 3 [(0, .ref h0), (1, .int 12), (2, .int 4)] := hl
  obtain ⟨hx, hb, hr, hml, hB, hown, hlocks, hnm⟩ := id hC
  refine lv_aload_n hx hb dX8_init_0 rfl (lv_at hl 0 rfl) ?_
  refine W.objInit hx hb hown (hB _ m_74) (hB _ m_11) (hB _ m_12) rfl (by rw [hml]; exact hl.1) rfl dX8_init_1 (Nat.le_of_ble_eq_true rfl) (Nat.le_of_ble_eq_true rfl) ?_
  refine W.eq (g2 := F0 m 4 ls []) rfl ?_
  refine lv_aload_n hx hb dX8_init_4 rfl (lv_at hl 0 rfl) ?_
  refine lv_iload_n hx hb dX8_init_5 rfl (lv_at hl 1 rfl) ?_
  refine lv_iconst (v := 0) hx hb dX8_init_6 (by decide) ?_
  refine va_mmax hx hb (hml.trans hl.1.symm) hown (hB _ m_75) (hB _ m_76) (hB _ m_77) (hB _ m_78) (Nat.le_of_ble_eq_true rfl) (Nat.le_of_ble_eq_true rfl) (by first | exact Nat.le_of_ble_eq_true rfl | exact Nat.zero_le _)  (by first | exact Nat.le_of_ble_eq_true rfl | exact Nat.zero_le _) dX8_init_7 ?_
  refine eqi (x1 := 12) (by decide) ?_
  refine pf_X8_15 hC rfl rfl hK hP hD hS 0 (ws' := [(h0, .inr (8, [.int 12, .int 0, .null, .int 0]))]) rfl (Nat.le_of_ble_eq_true rfl) rfl rfl rfl dX8_init_10 (fun H locs hP hD hS => ?_)
  refine lv_aload_n hx hb dX8_init_13 rfl (lv_at hl 0 rfl) ?_
  refine lv_iload_n hx hb dX8_init_14 rfl (lv_at hl 2 rfl) ?_
  refine lv_iconst (v := 1) hx hb dX8_init_15 (by decide) ?_
  refine va_mmax hx hb (hml.trans hl.1.symm) hown (hB _ m_75) (hB _ m_76) (hB _ m_77) (hB _ m_78) (Nat.le_of_ble_eq_true rfl) (Nat.le_of_ble_eq_true rfl) (by first | exact Nat.le_of_ble_eq_true rfl | exact Nat.zero_le _)  (by first | exact Nat.le_of_ble_eq_true rfl | exact Nat.zero_le _) dX8_init_16 ?_
  refine eqi (x1 := 4) (by decide) ?_
  refine pf_X8_21 hC rfl rfl hK hP hD hS 0 (ws' := [(h0, .inr (8, [.int 12, .int 4, .null, .int 0]))]) rfl (Nat.le_of_ble_eq_true rfl) rfl rfl rfl dX8_init_19 (fun H locs hP hD hS => ?_)
  refine lv_aload_n hx hb dX8_init_22 rfl (lv_at hl 0 rfl) ?_
  refine lv_aload_n hx hb dX8_init_23 rfl (lv_at hl 0 rfl) ?_
  refine gf_X8_15 hC rfl hK hP 0 rfl rfl dX8_init_24 ?_
  refine lv_aload_n hx hb dX8_init_27 rfl (lv_at hl 0 rfl) ?_
  refine gf_X8_21 hC rfl hK hP 0 rfl rfl dX8_init_28 ?_
  refine lv_imul hx hb dX8_init_31 ?_
  refine eqi (x1 := 48) (by decide) ?_
  refine newI hC hK hP hD hS hA m_81 (by decide) (N := 48) (by decide +kernel) (Nat.le_of_ble_eq_true rfl) (by decide) (Nat.le_of_ble_eq_true rfl) dX8_init_32 (fun q24 H hP hD hS => ?_)
  have hP : va_P G.1 vwCl [(h0, .inr (8, [.int 12, .int 4, .null, .int 0])), (q24, .inl (G.2.1, 48, .inl (fun _ => 0)))] H := hP
  have hD : va_D A [(h0, .inr (8, [.int 12, .int 4, .null, .int 0])), (q24, .inl (G.2.1, 48, .inl (fun _ => 0)))] := hD
  refine Wcast (c1 := 1) (s1 := 48) rfl rfl ?_
  refine pf_X8_24 hC rfl rfl hK hP hD hS 0 (ws' := [(h0, .inr (8, [.int 12, .int 4, .ref q24, .int 0])), (q24, .inl (G.2.1, 48, .inl (fun _ => 0)))]) rfl (Nat.le_of_ble_eq_true rfl) rfl rfl rfl dX8_init_34 (fun H locs hP hD hS => ?_)
  refine lv_aload_n hx hb dX8_init_37 rfl (lv_at hl 0 rfl) ?_
  refine lv_iconst (v := 0) hx hb dX8_init_38 (by decide) ?_
  refine pf_X8_28 hC rfl hK hP hD hS 0 (ws' := [(h0, .inr (8, [.int 12, .int 4, .ref q24, .int 0])), (q24, .inl (G.2.1, 48, .inl (fun _ => 0)))]) rfl (Nat.le_of_ble_eq_true rfl) rfl rfl rfl dX8_init_39 (fun H locs hP hD hS => ?_)
  exact RV hC hP hD hS [0, 1] q24 rfl rfl (by decide) (trivial) dX8_init_42
set_option maxHeartbeats 4000000 in
set_option maxRecDepth 100000 in
theorem c_T_init_12_6 (l : Launch) (G : GG) (h0 : Nat) : MV l G yX8_init cX8_init 3 2 1 72 [.ref h0, .int 12, .int 6] [(h0, .inr (8, [.int 0, .int 0, .null, .int 0]))] (fun u : Nat => True) (fun u : Nat => [(h0, .inr (8, [.int 12, .int 6, .ref u, .int 0])), (u, .inl (G.2.1, 72, .inl (fun _ => 0)))]) := by
  refine MV.start (by decide +kernel) (Nat.le_of_ble_eq_true rfl) ?_
  intro p e s m below meth c A ls hC hK hP hD hS hA hl
  have hl : lv_has ls 3 [(0, .ref h0), (1, .int 12), (2, .int 6)] := hl
  obtain ⟨hx, hb, hr, hml, hB, hown, hlocks, hnm⟩ := id hC
  refine lv_aload_n hx hb dX8_init_0 rfl (lv_at hl 0 rfl) ?_
  refine W.objInit hx hb hown (hB _ m_74) (hB _ m_11) (hB _ m_12) rfl (by rw [hml]; exact hl.1) rfl dX8_init_1 (Nat.le_of_ble_eq_true rfl) (Nat.le_of_ble_eq_true rfl) ?_
  refine W.eq (g2 := F0 m 4 ls []) rfl ?_
  refine lv_aload_n hx hb dX8_init_4 rfl (lv_at hl 0 rfl) ?_
  refine lv_iload_n hx hb dX8_init_5 rfl (lv_at hl 1 rfl) ?_
  refine lv_iconst (v := 0) hx hb dX8_init_6 (by decide) ?_
  refine va_mmax hx hb (hml.trans hl.1.symm) hown (hB _ m_75) (hB _ m_76) (hB _ m_77) (hB _ m_78) (Nat.le_of_ble_eq_true rfl) (Nat.le_of_ble_eq_true rfl) (by first | exact Nat.le_of_ble_eq_true rfl | exact Nat.zero_le _)  (by first | exact Nat.le_of_ble_eq_true rfl | exact Nat.zero_le _) dX8_init_7 ?_
  refine eqi (x1 := 12) (by decide) ?_
  refine pf_X8_15 hC rfl rfl hK hP hD hS 0 (ws' := [(h0, .inr (8, [.int 12, .int 0, .null, .int 0]))]) rfl (Nat.le_of_ble_eq_true rfl) rfl rfl rfl dX8_init_10 (fun H locs hP hD hS => ?_)
  refine lv_aload_n hx hb dX8_init_13 rfl (lv_at hl 0 rfl) ?_
  refine lv_iload_n hx hb dX8_init_14 rfl (lv_at hl 2 rfl) ?_
  refine lv_iconst (v := 1) hx hb dX8_init_15 (by decide) ?_
  refine va_mmax hx hb (hml.trans hl.1.symm) hown (hB _ m_75) (hB _ m_76) (hB _ m_77) (hB _ m_78) (Nat.le_of_ble_eq_true rfl) (Nat.le_of_ble_eq_true rfl) (by first | exact Nat.le_of_ble_eq_true rfl | exact Nat.zero_le _)  (by first | exact Nat.le_of_ble_eq_true rfl | exact Nat.zero_le _) dX8_init_16 ?_
  refine eqi (x1 := 6) (by decide) ?_
  refine pf_X8_21 hC rfl rfl hK hP hD hS 0 (ws' := [(h0, .inr (8, [.int 12, .int 6, .null, .int 0]))]) rfl (Nat.le_of_ble_eq_true rfl) rfl rfl rfl dX8_init_19 (fun H locs hP hD hS => ?_)
  refine lv_aload_n hx hb dX8_init_22 rfl (lv_at hl 0 rfl) ?_
  refine lv_aload_n hx hb dX8_init_23 rfl (lv_at hl 0 rfl) ?_
  refine gf_X8_15 hC rfl hK hP 0 rfl rfl dX8_init_24 ?_
  refine lv_aload_n hx hb dX8_init_27 rfl (lv_at hl 0 rfl) ?_
  refine gf_X8_21 hC rfl hK hP 0 rfl rfl dX8_init_28 ?_
  refine lv_imul hx hb dX8_init_31 ?_
  refine eqi (x1 := 72) (by decide) ?_
  refine newI hC hK hP hD hS hA m_81 (by decide) (N := 72) (by decide +kernel) (Nat.le_of_ble_eq_true rfl) (by decide) (Nat.le_of_ble_eq_true rfl) dX8_init_32 (fun q25 H hP hD hS => ?_)
  have hP : va_P G.1 vwCl [(h0, .inr (8, [.int 12, .int 6, .null, .int 0])), (q25, .inl (G.2.1, 72, .inl (fun _ => 0)))] H := hP
  have hD : va_D A [(h0, .inr (8, [.int 12, .int 6, .null, .int 0])), (q25, .inl (G.2.1, 72, .inl (fun _ => 0)))] := hD
  refine Wcast (c1 := 1) (s1 := 72) rfl rfl ?_
  refine pf_X8_24 hC rfl rfl hK hP hD hS 0 (ws' := [(h0, .inr (8, [.int 12, .int 6, .ref q25, .int 0])), (q25, .inl (G.2.1, 72, .inl (fun _ => 0)))]) rfl (Nat.le_of_ble_eq_true rfl) rfl rfl rfl dX8_init_34 (fun H locs hP hD hS => ?_)
  refine lv_aload_n hx hb dX8_init_37 rfl (lv_at hl 0 rfl) ?_
  refine lv_iconst (v := 0) hx hb dX8_init_38 (by decide) ?_
  refine pf_X8_28 hC rfl hK hP hD hS 0 (ws' := [(h0, .inr (8, [.int 12, .int 6, .ref q25, .int 0])), (q25, .inl (G.2.1, 72, .inl (fun _ => 0)))]) rfl (Nat.le_of_ble_eq_true rfl) rfl rfl rfl dX8_init_39 (fun H locs hP hD hS => ?_)
  exact RV hC hP hD hS [0, 1] q25 rfl rfl (by decide) (trivial) dX8_init_42
set_option maxHeartbeats 4000000 in
set_option maxRecDepth 100000 in
theorem c_T_init_16_3 (l : Launch) (G : GG) (h0 : Nat) : MV l G yX8_init cX8_init 3 2 1 48 [.ref h0, .int 16, .int 3] [(h0, .inr (8, [.int 0, .int 0, .null, .int 0]))] (fun u : Nat => True) (fun u : Nat => [(h0, .inr (8, [.int 16, .int 3, .ref u, .int 0])), (u, .inl (G.2.1, 48, .inl (fun _ => 0)))]) := by
  refine MV.start (by decide +kernel) (Nat.le_of_ble_eq_true rfl) ?_
  intro p e s m below meth c A ls hC hK hP hD hS hA hl
  have hl : lv_has ls 3 [(0, .ref h0), (1, .int 16), (2, .int 3)] := hl
  obtain ⟨hx, hb, hr, hml, hB, hown, hlocks, hnm⟩ := id hC
  refine lv_aload_n hx hb dX8_init_0 rfl (lv_at hl 0 rfl) ?_
  refine W.objInit hx hb hown (hB _ m_74) (hB _ m_11) (hB _ m_12) rfl (by rw [hml]; exact hl.1) rfl dX8_init_1 (Nat.le_of_ble_eq_true rfl) (Nat.le_of_ble_eq_true rfl) ?_
  refine W.eq (g2 := F0 m 4 ls []) rfl ?_
  refine lv_aload_n hx hb dX8_init_4 rfl (lv_at hl 0 rfl) ?_
  refine lv_iload_n hx hb dX8_init_5 rfl (lv_at hl 1 rfl) ?_
  refine lv_iconst (v := 0) hx hb dX8_init_6 (by decide) ?_
  refine va_mmax hx hb (hml.trans hl.1.symm) hown (hB _ m_75) (hB _ m_76) (hB _ m_77) (hB _ m_78) (Nat.le_of_ble_eq_true rfl) (Nat.le_of_ble_eq_true rfl) (by first | exact Nat.le_of_ble_eq_true rfl | exact Nat.zero_le _)  (by first | exact Nat.le_of_ble_eq_true rfl | exact Nat.zero_le _) dX8_init_7 ?_
  refine eqi (x1 := 16) (by decide) ?_
  refine pf_X8_15 hC rfl rfl hK hP hD hS 0 (ws' := [(h0, .inr (8, [.int 16, .int 0, .null, .int 0]))]) rfl (Nat.le_of_ble_eq_true rfl) rfl rfl rfl dX8_init_10 (fun H locs hP hD hS => ?_)
  refine lv_aload_n hx hb dX8_init_13 rfl (lv_at hl 0 rfl) ?_
  refine lv_iload_n hx hb dX8_init_14 rfl (lv_at hl 2 rfl) ?_
  refine lv_iconst (v := 1) hx hb dX8_init_15 (by decide) ?_
  refine va_mmax hx hb (hml.trans hl.1.symm) hown (hB _ m_75) (hB _ m_76) (hB _ m_77) (hB _ m_78) (Nat.le_of_ble_eq_true rfl) (Nat.le_of_ble_eq_true rfl) (by first | exact Nat.le_of_ble_eq_true rfl | exact Nat.zero_le _)  (by first | exact Nat.le_of_ble_eq_true rfl | exact Nat.zero_le _) dX8_init_16 ?_
  refine eqi (x1 := 3) (by decide) ?_
  refine pf_X8_21 hC rfl rfl hK hP hD hS 0 (ws' := [(h0, .inr (8, [.int 16, .int 3, .null, .int 0]))]) rfl (Nat.le_of_ble_eq_true rfl) rfl rfl rfl dX8_init_19 (fun H locs hP hD hS => ?_)
  refine lv_aload_n hx hb dX8_init_22 rfl (lv_at hl 0 rfl) ?_
  refine lv_aload_n hx hb dX8_init_23 rfl (lv_at hl 0 rfl) ?_
  refine gf_X8_15 hC rfl hK hP 0 rfl rfl dX8_init_24 ?_
  refine lv_aload_n hx hb dX8_init_27 rfl (lv_at hl 0 rfl) ?_
  refine gf_X8_21 hC rfl hK hP 0 rfl rfl dX8_init_28 ?_
  refine lv_imul hx hb dX8_init_31 ?_
  refine eqi (x1 := 48) (by decide) ?_
  refine newI hC hK hP hD hS hA m_81 (by decide) (N := 48) (by decide +kernel) (Nat.le_of_ble_eq_true rfl) (by decide) (Nat.le_of_ble_eq_true rfl) dX8_init_32 (fun q26 H hP hD hS => ?_)
  have hP : va_P G.1 vwCl [(h0, .inr (8, [.int 16, .int 3, .null, .int 0])), (q26, .inl (G.2.1, 48, .inl (fun _ => 0)))] H := hP
  have hD : va_D A [(h0, .inr (8, [.int 16, .int 3, .null, .int 0])), (q26, .inl (G.2.1, 48, .inl (fun _ => 0)))] := hD
  refine Wcast (c1 := 1) (s1 := 48) rfl rfl ?_
  refine pf_X8_24 hC rfl rfl hK hP hD hS 0 (ws' := [(h0, .inr (8, [.int 16, .int 3, .ref q26, .int 0])), (q26, .inl (G.2.1, 48, .inl (fun _ => 0)))]) rfl (Nat.le_of_ble_eq_true rfl) rfl rfl rfl dX8_init_34 (fun H locs hP hD hS => ?_)
  refine lv_aload_n hx hb dX8_init_37 rfl (lv_at hl 0 rfl) ?_
  refine lv_iconst (v := 0) hx hb dX8_init_38 (by decide) ?_
  refine pf_X8_28 hC rfl hK hP hD hS 0 (ws' := [(h0, .inr (8, [.int 16, .int 3, .ref q26, .int 0])), (q26, .inl (G.2.1, 48, .inl (fun _ => 0)))]) rfl (Nat.le_of_ble_eq_true rfl) rfl rfl rfl dX8_init_39 (fun H locs hP hD hS => ?_)
  exact RV hC hP hD hS [0, 1] q26 rfl rfl (by decide) (trivial) dX8_init_42
set_option maxHeartbeats 4000000 in
set_option maxRecDepth 100000 in
theorem c_T_init_16_8 (l : Launch) (G : GG) (h0 : Nat) : MV l G yX8_init cX8_init 3 2 1 128 [.ref h0, .int 16, .int 8] [(h0, .inr (8, [.int 0, .int 0, .null, .int 0]))] (fun u : Nat => True) (fun u : Nat => [(h0, .inr (8, [.int 16, .int 8, .ref u, .int 0])), (u, .inl (G.2.1, 128, .inl (fun _ => 0)))]) := by
  refine MV.start (by decide +kernel) (Nat.le_of_ble_eq_true rfl) ?_
  intro p e s m below meth c A ls hC hK hP hD hS hA hl
  have hl : lv_has ls 3 [(0, .ref h0), (1, .int 16), (2, .int 8)] := hl
  obtain ⟨hx, hb, hr, hml, hB, hown, hlocks, hnm⟩ := id hC
  refine lv_aload_n hx hb dX8_init_0 rfl (lv_at hl 0 rfl) ?_
  refine W.objInit hx hb hown (hB _ m_74) (hB _ m_11) (hB _ m_12) rfl (by rw [hml]; exact hl.1) rfl dX8_init_1 (Nat.le_of_ble_eq_true rfl) (Nat.le_of_ble_eq_true rfl) ?_
  refine W.eq (g2 := F0 m 4 ls []) rfl ?_
  refine lv_aload_n hx hb dX8_init_4 rfl (lv_at hl 0 rfl) ?_
  refine lv_iload_n hx hb dX8_init_5 rfl (lv_at hl 1 rfl) ?_
  refine lv_iconst (v := 0) hx hb dX8_init_6 (by decide) ?_
  refine va_mmax hx hb (hml.trans hl.1.symm) hown (hB _ m_75) (hB _ m_76) (hB _ m_77) (hB _ m_78) (Nat.le_of_ble_eq_true rfl) (Nat.le_of_ble_eq_true rfl) (by first | exact Nat.le_of_ble_eq_true rfl | exact Nat.zero_le _)  (by first | exact Nat.le_of_ble_eq_true rfl | exact Nat.zero_le _) dX8_init_7 ?_
  refine eqi (x1 := 16) (by decide) ?_
  refine pf_X8_15 hC rfl rfl hK hP hD hS 0 (ws' := [(h0, .inr (8, [.int 16, .int 0, .null, .int 0]))]) rfl (Nat.le_of_ble_eq_true rfl) rfl rfl rfl dX8_init_10 (fun H locs hP hD hS => ?_)
  refine lv_aload_n hx hb dX8_init_13 rfl (lv_at hl 0 rfl) ?_
  refine lv_iload_n hx hb dX8_init_14 rfl (lv_at hl 2 rfl) ?_
  refine lv_iconst (v := 1) hx hb dX8_init_15 (by decide) ?_
  refine va_mmax hx hb (hml.trans hl.1.symm) hown (hB _ m_75) (hB _ m_76) (hB _ m_77) (hB _ m_78) (Nat.le_of_ble_eq_true rfl) (Nat.le_of_ble_eq_true rfl) (by first | exact Nat.le_of_ble_eq_true rfl | exact Nat.zero_le _)  (by first | exact Nat.le_of_ble_eq_true rfl | exact Nat.zero_le _) dX8_init_16 ?_
  refine eqi (x1 := 8) (by decide) ?_
  refine pf_X8_21 hC rfl rfl hK hP hD hS 0 (ws' := [(h0, .inr (8, [.int 16, .int 8, .null, .int 0]))]) rfl (Nat.le_of_ble_eq_true rfl) rfl rfl rfl dX8_init_19 (fun H locs hP hD hS => ?_)
  refine lv_aload_n hx hb dX8_init_22 rfl (lv_at hl 0 rfl) ?_
  refine lv_aload_n hx hb dX8_init_23 rfl (lv_at hl 0 rfl) ?_
  refine gf_X8_15 hC rfl hK hP 0 rfl rfl dX8_init_24 ?_
  refine lv_aload_n hx hb dX8_init_27 rfl (lv_at hl 0 rfl) ?_
  refine gf_X8_21 hC rfl hK hP 0 rfl rfl dX8_init_28 ?_
  refine lv_imul hx hb dX8_init_31 ?_
  refine eqi (x1 := 128) (by decide) ?_
  refine newI hC hK hP hD hS hA m_81 (by decide) (N := 128) (by decide +kernel) (Nat.le_of_ble_eq_true rfl) (by decide) (Nat.le_of_ble_eq_true rfl) dX8_init_32 (fun q27 H hP hD hS => ?_)
  have hP : va_P G.1 vwCl [(h0, .inr (8, [.int 16, .int 8, .null, .int 0])), (q27, .inl (G.2.1, 128, .inl (fun _ => 0)))] H := hP
  have hD : va_D A [(h0, .inr (8, [.int 16, .int 8, .null, .int 0])), (q27, .inl (G.2.1, 128, .inl (fun _ => 0)))] := hD
  refine Wcast (c1 := 1) (s1 := 128) rfl rfl ?_
  refine pf_X8_24 hC rfl rfl hK hP hD hS 0 (ws' := [(h0, .inr (8, [.int 16, .int 8, .ref q27, .int 0])), (q27, .inl (G.2.1, 128, .inl (fun _ => 0)))]) rfl (Nat.le_of_ble_eq_true rfl) rfl rfl rfl dX8_init_34 (fun H locs hP hD hS => ?_)
  refine lv_aload_n hx hb dX8_init_37 rfl (lv_at hl 0 rfl) ?_
  refine lv_iconst (v := 0) hx hb dX8_init_38 (by decide) ?_
  refine pf_X8_28 hC rfl hK hP hD hS 0 (ws' := [(h0, .inr (8, [.int 16, .int 8, .ref q27, .int 0])), (q27, .inl (G.2.1, 128, .inl (fun _ => 0)))]) rfl (Nat.le_of_ble_eq_true rfl) rfl rfl rfl dX8_init_39 (fun H locs hP hD hS => ?_)
  exact RV hC hP hD hS [0, 1] q27 rfl rfl (by decide) (trivial) dX8_init_42
set_option maxHeartbeats 4000000 in
set_option maxRecDepth 100000 in
theorem c_T_init_24_3 (l : Launch) (G : GG) (h0 : Nat) : MV l G yX8_init cX8_init 3 2 1 72 [.ref h0, .int 24, .int 3] [(h0, .inr (8, [.int 0, .int 0, .null, .int 0]))] (fun u : Nat => True) (fun u : Nat => [(h0, .inr (8, [.int 24, .int 3, .ref u, .int 0])), (u, .inl (G.2.1, 72, .inl (fun _ => 0)))]) := by
  refine MV.start (by decide +kernel) (Nat.le_of_ble_eq_true rfl) ?_
  intro p e s m below meth c A ls hC hK hP hD hS hA hl
  have hl : lv_has ls 3 [(0, .ref h0), (1, .int 24), (2, .int 3)] := hl
  obtain ⟨hx, hb, hr, hml, hB, hown, hlocks, hnm⟩ := id hC
  refine lv_aload_n hx hb dX8_init_0 rfl (lv_at hl 0 rfl) ?_
  refine W.objInit hx hb hown (hB _ m_74) (hB _ m_11) (hB _ m_12) rfl (by rw [hml]; exact hl.1) rfl dX8_init_1 (Nat.le_of_ble_eq_true rfl) (Nat.le_of_ble_eq_true rfl) ?_
  refine W.eq (g2 := F0 m 4 ls []) rfl ?_
  refine lv_aload_n hx hb dX8_init_4 rfl (lv_at hl 0 rfl) ?_
  refine lv_iload_n hx hb dX8_init_5 rfl (lv_at hl 1 rfl) ?_
  refine lv_iconst (v := 0) hx hb dX8_init_6 (by decide) ?_
  refine va_mmax hx hb (hml.trans hl.1.symm) hown (hB _ m_75) (hB _ m_76) (hB _ m_77) (hB _ m_78) (Nat.le_of_ble_eq_true rfl) (Nat.le_of_ble_eq_true rfl) (by first | exact Nat.le_of_ble_eq_true rfl | exact Nat.zero_le _)  (by first | exact Nat.le_of_ble_eq_true rfl | exact Nat.zero_le _) dX8_init_7 ?_
  refine eqi (x1 := 24) (by decide) ?_
  refine pf_X8_15 hC rfl rfl hK hP hD hS 0 (ws' := [(h0, .inr (8, [.int 24, .int 0, .null, .int 0]))]) rfl (Nat.le_of_ble_eq_true rfl) rfl rfl rfl dX8_init_10 (fun H locs hP hD hS => ?_)
  refine lv_aload_n hx hb dX8_init_13 rfl (lv_at hl 0 rfl) ?_
  refine lv_iload_n hx hb dX8_init_14 rfl (lv_at hl 2 rfl) ?_
  refine lv_iconst (v := 1) hx hb dX8_init_15 (by decide) ?_
  refine va_mmax hx hb (hml.trans hl.1.symm) hown (hB _ m_75) (hB _ m_76) (hB _ m_77) (hB _ m_78) (Nat.le_of_ble_eq_true rfl) (Nat.le_of_ble_eq_true rfl) (by first | exact Nat.le_of_ble_eq_true rfl | exact Nat.zero_le _)  (by first | exact Nat.le_of_ble_eq_true rfl | exact Nat.zero_le _) dX8_init_16 ?_
  refine eqi (x1 := 3) (by decide) ?_
  refine pf_X8_21 hC rfl rfl hK hP hD hS 0 (ws' := [(h0, .inr (8, [.int 24, .int 3, .null, .int 0]))]) rfl (Nat.le_of_ble_eq_true rfl) rfl rfl rfl dX8_init_19 (fun H locs hP hD hS => ?_)
  refine lv_aload_n hx hb dX8_init_22 rfl (lv_at hl 0 rfl) ?_
  refine lv_aload_n hx hb dX8_init_23 rfl (lv_at hl 0 rfl) ?_
  refine gf_X8_15 hC rfl hK hP 0 rfl rfl dX8_init_24 ?_
  refine lv_aload_n hx hb dX8_init_27 rfl (lv_at hl 0 rfl) ?_
  refine gf_X8_21 hC rfl hK hP 0 rfl rfl dX8_init_28 ?_
  refine lv_imul hx hb dX8_init_31 ?_
  refine eqi (x1 := 72) (by decide) ?_
  refine newI hC hK hP hD hS hA m_81 (by decide) (N := 72) (by decide +kernel) (Nat.le_of_ble_eq_true rfl) (by decide) (Nat.le_of_ble_eq_true rfl) dX8_init_32 (fun q28 H hP hD hS => ?_)
  have hP : va_P G.1 vwCl [(h0, .inr (8, [.int 24, .int 3, .null, .int 0])), (q28, .inl (G.2.1, 72, .inl (fun _ => 0)))] H := hP
  have hD : va_D A [(h0, .inr (8, [.int 24, .int 3, .null, .int 0])), (q28, .inl (G.2.1, 72, .inl (fun _ => 0)))] := hD
  refine Wcast (c1 := 1) (s1 := 72) rfl rfl ?_
  refine pf_X8_24 hC rfl rfl hK hP hD hS 0 (ws' := [(h0, .inr (8, [.int 24, .int 3, .ref q28, .int 0])), (q28, .inl (G.2.1, 72, .inl (fun _ => 0)))]) rfl (Nat.le_of_ble_eq_true rfl) rfl rfl rfl dX8_init_34 (fun H locs hP hD hS => ?_)
  refine lv_aload_n hx hb dX8_init_37 rfl (lv_at hl 0 rfl) ?_
  refine lv_iconst (v := 0) hx hb dX8_init_38 (by decide) ?_
  refine pf_X8_28 hC rfl hK hP hD hS 0 (ws' := [(h0, .inr (8, [.int 24, .int 3, .ref q28, .int 0])), (q28, .inl (G.2.1, 72, .inl (fun _ => 0)))]) rfl (Nat.le_of_ble_eq_true rfl) rfl rfl rfl dX8_init_39 (fun H locs hP hD hS => ?_)
  exact RV hC hP hD hS [0, 1] q28 rfl rfl (by decide) (trivial) dX8_init_42
set_option maxHeartbeats 4000000 in
set_option maxRecDepth 100000 in
theorem c_T_init_72_7 (l : Launch) (G : GG) (h0 : Nat) : MV l G yX8_init cX8_init 3 2 1 504 [.ref h0, .int 72, .int 7] [(h0, .inr (8, [.int 0, .int 0, .null, .int 0]))] (fun u : Nat => True) (fun u : Nat => [(h0, .inr (8, [.int 72, .int 7, .ref u, .int 0])), (u, .inl (G.2.1, 504, .inl (fun _ => 0)))]) := by
  refine MV.start (by decide +kernel) (Nat.le_of_ble_eq_true rfl) ?_
  intro p e s m below meth c A ls hC hK hP hD hS hA hl
  have hl : lv_has ls 3 [(0, .ref h0), (1, .int 72), (2, .int 7)] := hl
  obtain ⟨hx, hb, hr, hml, hB, hown, hlocks, hnm⟩ := id hC
  refine lv_aload_n hx hb dX8_init_0 rfl (lv_at hl 0 rfl) ?_
  refine W.objInit hx hb hown (hB _ m_74) (hB _ m_11) (hB _ m_12) rfl (by rw [hml]; exact hl.1) rfl dX8_init_1 (Nat.le_of_ble_eq_true rfl) (Nat.le_of_ble_eq_true rfl) ?_
  refine W.eq (g2 := F0 m 4 ls []) rfl ?_
  refine lv_aload_n hx hb dX8_init_4 rfl (lv_at hl 0 rfl) ?_
  refine lv_iload_n hx hb dX8_init_5 rfl (lv_at hl 1 rfl) ?_
  refine lv_iconst (v := 0) hx hb dX8_init_6 (by decide) ?_
  refine va_mmax hx hb (hml.trans hl.1.symm) hown (hB _ m_75) (hB _ m_76) (hB _ m_77) (hB _ m_78) (Nat.le_of_ble_eq_true rfl) (Nat.le_of_ble_eq_true rfl) (by first | exact Nat.le_of_ble_eq_true rfl | exact Nat.zero_le _)  (by first | exact Nat.le_of_ble_eq_true rfl | exact Nat.zero_le _) dX8_init_7 ?_
  refine eqi (x1 := 72) (by decide) ?_
  refine pf_X8_15 hC rfl rfl hK hP hD hS 0 (ws' := [(h0, .inr (8, [.int 72, .int 0, .null, .int 0]))]) rfl (Nat.le_of_ble_eq_true rfl) rfl rfl rfl dX8_init_10 (fun H locs hP hD hS => ?_)
  refine lv_aload_n hx hb dX8_init_13 rfl (lv_at hl 0 rfl) ?_
  refine lv_iload_n hx hb dX8_init_14 rfl (lv_at hl 2 rfl) ?_
  refine lv_iconst (v := 1) hx hb dX8_init_15 (by decide) ?_
  refine va_mmax hx hb (hml.trans hl.1.symm) hown (hB _ m_75) (hB _ m_76) (hB _ m_77) (hB _ m_78) (Nat.le_of_ble_eq_true rfl) (Nat.le_of_ble_eq_true rfl) (by first | exact Nat.le_of_ble_eq_true rfl | exact Nat.zero_le _)  (by first | exact Nat.le_of_ble_eq_true rfl | exact Nat.zero_le _) dX8_init_16 ?_
  refine eqi (x1 := 7) (by decide) ?_
  refine pf_X8_21 hC rfl rfl hK hP hD hS 0 (ws' := [(h0, .inr (8, [.int 72, .int 7, .null, .int 0]))]) rfl (Nat.le_of_ble_eq_true rfl) rfl rfl rfl dX8_init_19 (fun H locs hP hD hS => ?_)
  refine lv_aload_n hx hb dX8_init_22 rfl (lv_at hl 0 rfl) ?_
  refine lv_aload_n hx hb dX8_init_23 rfl (lv_at hl 0 rfl) ?_
  refine gf_X8_15 hC rfl hK hP 0 rfl rfl dX8_init_24 ?_
  refine lv_aload_n hx hb dX8_init_27 rfl (lv_at hl 0 rfl) ?_
  refine gf_X8_21 hC rfl hK hP 0 rfl rfl dX8_init_28 ?_
  refine lv_imul hx hb dX8_init_31 ?_
  refine eqi (x1 := 504) (by decide) ?_
  refine newI hC hK hP hD hS hA m_81 (by decide) (N := 504) (by decide +kernel) (Nat.le_of_ble_eq_true rfl) (by decide) (Nat.le_of_ble_eq_true rfl) dX8_init_32 (fun q29 H hP hD hS => ?_)
  have hP : va_P G.1 vwCl [(h0, .inr (8, [.int 72, .int 7, .null, .int 0])), (q29, .inl (G.2.1, 504, .inl (fun _ => 0)))] H := hP
  have hD : va_D A [(h0, .inr (8, [.int 72, .int 7, .null, .int 0])), (q29, .inl (G.2.1, 504, .inl (fun _ => 0)))] := hD
  refine Wcast (c1 := 1) (s1 := 504) rfl rfl ?_
  refine pf_X8_24 hC rfl rfl hK hP hD hS 0 (ws' := [(h0, .inr (8, [.int 72, .int 7, .ref q29, .int 0])), (q29, .inl (G.2.1, 504, .inl (fun _ => 0)))]) rfl (Nat.le_of_ble_eq_true rfl) rfl rfl rfl dX8_init_34 (fun H locs hP hD hS => ?_)
  refine lv_aload_n hx hb dX8_init_37 rfl (lv_at hl 0 rfl) ?_
  refine lv_iconst (v := 0) hx hb dX8_init_38 (by decide) ?_
  refine pf_X8_28 hC rfl hK hP hD hS 0 (ws' := [(h0, .inr (8, [.int 72, .int 7, .ref q29, .int 0])), (q29, .inl (G.2.1, 504, .inl (fun _ => 0)))]) rfl (Nat.le_of_ble_eq_true rfl) rfl rfl rfl dX8_init_39 (fun H locs hP hD hS => ?_)
  exact RV hC hP hD hS [0, 1] q29 rfl rfl (by decide) (trivial) dX8_init_42
set_option maxHeartbeats 4000000 in
set_option maxRecDepth 100000 in
theorem c_T_init_120_1 (l : Launch) (G : GG) (h0 : Nat) : MV l G yX8_init cX8_init 3 2 1 120 [.ref h0, .int 120, .int 1] [(h0, .inr (8, [.int 0, .int 0, .null, .int 0]))] (fun u : Nat => True) (fun u : Nat => [(h0, .inr (8, [.int 120, .int 1, .ref u, .int 0])), (u, .inl (G.2.1, 120, .inl (fun _ => 0)))]) := by
  refine MV.start (by decide +kernel) (Nat.le_of_ble_eq_true rfl) ?_
  intro p e s m below meth c A ls hC hK hP hD hS hA hl
  have hl : lv_has ls 3 [(0, .ref h0), (1, .int 120), (2, .int 1)] := hl
  obtain ⟨hx, hb, hr, hml, hB, hown, hlocks, hnm⟩ := id hC
  refine lv_aload_n hx hb dX8_init_0 rfl (lv_at hl 0 rfl) ?_
  refine W.objInit hx hb hown (hB _ m_74) (hB _ m_11) (hB _ m_12) rfl (by rw [hml]; exact hl.1) rfl dX8_init_1 (Nat.le_of_ble_eq_true rfl) (Nat.le_of_ble_eq_true rfl) ?_
  refine W.eq (g2 := F0 m 4 ls []) rfl ?_
  refine lv_aload_n hx hb dX8_init_4 rfl (lv_at hl 0 rfl) ?_
  refine lv_iload_n hx hb dX8_init_5 rfl (lv_at hl 1 rfl) ?_
  refine lv_iconst (v := 0) hx hb dX8_init_6 (by decide) ?_
  refine va_mmax hx hb (hml.trans hl.1.symm) hown (hB _ m_75) (hB _ m_76) (hB _ m_77) (hB _ m_78) (Nat.le_of_ble_eq_true rfl) (Nat.le_of_ble_eq_true rfl) (by first | exact Nat.le_of_ble_eq_true rfl | exact Nat.zero_le _)  (by first | exact Nat.le_of_ble_eq_true rfl | exact Nat.zero_le _) dX8_init_7 ?_
  refine eqi (x1 := 120) (by decide) ?_
  refine pf_X8_15 hC rfl rfl hK hP hD hS 0 (ws' := [(h0, .inr (8, [.int 120, .int 0, .null, .int 0]))]) rfl (Nat.le_of_ble_eq_true rfl) rfl rfl rfl dX8_init_10 (fun H locs hP hD hS => ?_)
  refine lv_aload_n hx hb dX8_init_13 rfl (lv_at hl 0 rfl) ?_
  refine lv_iload_n hx hb dX8_init_14 rfl (lv_at hl 2 rfl) ?_
  refine lv_iconst (v := 1) hx hb dX8_init_15 (by decide) ?_
  refine va_mmax hx hb (hml.trans hl.1.symm) hown (hB _ m_75) (hB _ m_76) (hB _ m_77) (hB _ m_78) (Nat.le_of_ble_eq_true rfl) (Nat.le_of_ble_eq_true rfl) (by first | exact Nat.le_of_ble_eq_true rfl | exact Nat.zero_le _)  (by first | exact Nat.le_of_ble_eq_true rfl | exact Nat.zero_le _) dX8_init_16 ?_
  refine eqi (x1 := 1) (by decide) ?_
  refine pf_X8_21 hC rfl rfl hK hP hD hS 0 (ws' := [(h0, .inr (8, [.int 120, .int 1, .null, .int 0]))]) rfl (Nat.le_of_ble_eq_true rfl) rfl rfl rfl dX8_init_19 (fun H locs hP hD hS => ?_)
  refine lv_aload_n hx hb dX8_init_22 rfl (lv_at hl 0 rfl) ?_
  refine lv_aload_n hx hb dX8_init_23 rfl (lv_at hl 0 rfl) ?_
  refine gf_X8_15 hC rfl hK hP 0 rfl rfl dX8_init_24 ?_
  refine lv_aload_n hx hb dX8_init_27 rfl (lv_at hl 0 rfl) ?_
  refine gf_X8_21 hC rfl hK hP 0 rfl rfl dX8_init_28 ?_
  refine lv_imul hx hb dX8_init_31 ?_
  refine eqi (x1 := 120) (by decide) ?_
  refine newI hC hK hP hD hS hA m_81 (by decide) (N := 120) (by decide +kernel) (Nat.le_of_ble_eq_true rfl) (by decide) (Nat.le_of_ble_eq_true rfl) dX8_init_32 (fun q30 H hP hD hS => ?_)
  have hP : va_P G.1 vwCl [(h0, .inr (8, [.int 120, .int 1, .null, .int 0])), (q30, .inl (G.2.1, 120, .inl (fun _ => 0)))] H := hP
  have hD : va_D A [(h0, .inr (8, [.int 120, .int 1, .null, .int 0])), (q30, .inl (G.2.1, 120, .inl (fun _ => 0)))] := hD
  refine Wcast (c1 := 1) (s1 := 120) rfl rfl ?_
  refine pf_X8_24 hC rfl rfl hK hP hD hS 0 (ws' := [(h0, .inr (8, [.int 120, .int 1, .ref q30, .int 0])), (q30, .inl (G.2.1, 120, .inl (fun _ => 0)))]) rfl (Nat.le_of_ble_eq_true rfl) rfl rfl rfl dX8_init_34 (fun H locs hP hD hS => ?_)
  refine lv_aload_n hx hb dX8_init_37 rfl (lv_at hl 0 rfl) ?_
  refine lv_iconst (v := 0) hx hb dX8_init_38 (by decide) ?_
  refine pf_X8_28 hC rfl hK hP hD hS 0 (ws' := [(h0, .inr (8, [.int 120, .int 1, .ref q30, .int 0])), (q30, .inl (G.2.1, 120, .inl (fun _ => 0)))]) rfl (Nat.le_of_ble_eq_true rfl) rfl rfl rfl dX8_init_39 (fun H locs hP hD hS => ?_)
  exact RV hC hP hD hS [0, 1] q30 rfl rfl (by decide) (trivial) dX8_init_42
set_option maxHeartbeats 4000000 in
set_option maxRecDepth 100000 in
theorem c_T_init_960_1 (l : Launch) (G : GG) (h0 : Nat) : MV l G yX8_init cX8_init 3 2 1 960 [.ref h0, .int 960, .int 1] [(h0, .inr (8, [.int 0, .int 0, .null, .int 0]))] (fun u : Nat => True) (fun u : Nat => [(h0, .inr (8, [.int 960, .int 1, .ref u, .int 0])), (u, .inl (G.2.1, 960, .inl (fun _ => 0)))]) := by
  refine MV.start (by decide +kernel) (Nat.le_of_ble_eq_true rfl) ?_
  intro p e s m below meth c A ls hC hK hP hD hS hA hl
  have hl : lv_has ls 3 [(0, .ref h0), (1, .int 960), (2, .int 1)] := hl
  obtain ⟨hx, hb, hr, hml, hB, hown, hlocks, hnm⟩ := id hC
  refine lv_aload_n hx hb dX8_init_0 rfl (lv_at hl 0 rfl) ?_
  refine W.objInit hx hb hown (hB _ m_74) (hB _ m_11) (hB _ m_12) rfl (by rw [hml]; exact hl.1) rfl dX8_init_1 (Nat.le_of_ble_eq_true rfl) (Nat.le_of_ble_eq_true rfl) ?_
  refine W.eq (g2 := F0 m 4 ls []) rfl ?_
  refine lv_aload_n hx hb dX8_init_4 rfl (lv_at hl 0 rfl) ?_
  refine lv_iload_n hx hb dX8_init_5 rfl (lv_at hl 1 rfl) ?_
  refine lv_iconst (v := 0) hx hb dX8_init_6 (by decide) ?_
  refine va_mmax hx hb (hml.trans hl.1.symm) hown (hB _ m_75) (hB _ m_76) (hB _ m_77) (hB _ m_78) (Nat.le_of_ble_eq_true rfl) (Nat.le_of_ble_eq_true rfl) (by first | exact Nat.le_of_ble_eq_true rfl | exact Nat.zero_le _)  (by first | exact Nat.le_of_ble_eq_true rfl | exact Nat.zero_le _) dX8_init_7 ?_
  refine eqi (x1 := 960) (by decide) ?_
  refine pf_X8_15 hC rfl rfl hK hP hD hS 0 (ws' := [(h0, .inr (8, [.int 960, .int 0, .null, .int 0]))]) rfl (Nat.le_of_ble_eq_true rfl) rfl rfl rfl dX8_init_10 (fun H locs hP hD hS => ?_)
  refine lv_aload_n hx hb dX8_init_13 rfl (lv_at hl 0 rfl) ?_
  refine lv_iload_n hx hb dX8_init_14 rfl (lv_at hl 2 rfl) ?_
  refine lv_iconst (v := 1) hx hb dX8_init_15 (by decide) ?_
  refine va_mmax hx hb (hml.trans hl.1.symm) hown (hB _ m_75) (hB _ m_76) (hB _ m_77) (hB _ m_78) (Nat.le_of_ble_eq_true rfl) (Nat.le_of_ble_eq_true rfl) (by first | exact Nat.le_of_ble_eq_true rfl | exact Nat.zero_le _)  (by first | exact Nat.le_of_ble_eq_true rfl | exact Nat.zero_le _) dX8_init_16 ?_
  refine eqi (x1 := 1) (by decide) ?_
  refine pf_X8_21 hC rfl rfl hK hP hD hS 0 (ws' := [(h0, .inr (8, [.int 960, .int 1, .null, .int 0]))]) rfl (Nat.le_of_ble_eq_true rfl) rfl rfl rfl dX8_init_19 (fun H locs hP hD hS => ?_)
  refine lv_aload_n hx hb dX8_init_22 rfl (lv_at hl 0 rfl) ?_
  refine lv_aload_n hx hb dX8_init_23 rfl (lv_at hl 0 rfl) ?_
  refine gf_X8_15 hC rfl hK hP 0 rfl rfl dX8_init_24 ?_
  refine lv_aload_n hx hb dX8_init_27 rfl (lv_at hl 0 rfl) ?_
  refine gf_X8_21 hC rfl hK hP 0 rfl rfl dX8_init_28 ?_
  refine lv_imul hx hb dX8_init_31 ?_
  refine eqi (x1 := 960) (by decide) ?_
  refine newI hC hK hP hD hS hA m_81 (by decide) (N := 960) (by decide +kernel) (Nat.le_of_ble_eq_true rfl) (by decide) (Nat.le_of_ble_eq_true rfl) dX8_init_32 (fun q31 H hP hD hS => ?_)
  have hP : va_P G.1 vwCl [(h0, .inr (8, [.int 960, .int 1, .null, .int 0])), (q31, .inl (G.2.1, 960, .inl (fun _ => 0)))] H := hP
  have hD : va_D A [(h0, .inr (8, [.int 960, .int 1, .null, .int 0])), (q31, .inl (G.2.1, 960, .inl (fun _ => 0)))] := hD
  refine Wcast (c1 := 1) (s1 := 960) rfl rfl ?_
  refine pf_X8_24 hC rfl rfl hK hP hD hS 0 (ws' := [(h0, .inr (8, [.int 960, .int 1, .ref q31, .int 0])), (q31, .inl (G.2.1, 960, .inl (fun _ => 0)))]) rfl (Nat.le_of_ble_eq_true rfl) rfl rfl rfl dX8_init_34 (fun H locs hP hD hS => ?_)
  refine lv_aload_n hx hb dX8_init_37 rfl (lv_at hl 0 rfl) ?_
  refine lv_iconst (v := 0) hx hb dX8_init_38 (by decide) ?_
  refine pf_X8_28 hC rfl hK hP hD hS 0 (ws' := [(h0, .inr (8, [.int 960, .int 1, .ref q31, .int 0])), (q31, .inl (G.2.1, 960, .inl (fun _ => 0)))]) rfl (Nat.le_of_ble_eq_true rfl) rfl rfl rfl dX8_init_39 (fun H locs hP hD hS => ?_)
  exact RV hC hP hD hS [0, 1] q31 rfl rfl (by decide) (trivial) dX8_init_42
set_option maxHeartbeats 4000000 in
set_option maxRecDepth 100000 in
/-- Book(): ten tables -/
theorem c_B_init (l : Launch) (G : GG) (h0 : Nat) : MV l G yX0_init cX0_init 1 3 20 1930 [.ref h0] [(h0, .inr (0, [.null, .null, .null, .null, .null, .null, .null, .null, .null, .null, .int 0, .int 0, .int 0, .int 0]))] (fun u : (Nat → Nat) => True) (fun u : (Nat → Nat) => [(h0, .inr (0, [.ref (u 0), .ref (u 2), .ref (u 4), .ref (u 6), .ref (u 8), .ref (u 10), .ref (u 12), .ref (u 14), .ref (u 16), .ref (u 18), .int 0, .int (-1), .int 3, .int 24])), ((u 0), .inr (8, [.int 10, .int 2, .ref (u 1), .int 0])), ((u 1), .inl (G.2.1, 20, .inl (fun _ => 0))), ((u 2), .inr (8, [.int 12, .int 6, .ref (u 3), .int 0])), ((u 3), .inl (G.2.1, 72, .inl (fun _ => 0))), ((u 4), .inr (8, [.int 24, .int 3, .ref (u 5), .int 0])), ((u 5), .inl (G.2.1, 72, .inl (fun _ => 0))), ((u 6), .inr (8, [.int 8, .int 3, .ref (u 7), .int 0])), ((u 7), .inl (G.2.1, 24, .inl (fun _ => 0))), ((u 8), .inr (8, [.int 72, .int 7, .ref (u 9), .int 0])), ((u 9), .inl (G.2.1, 504, .inl (fun _ => 0))), ((u 10), .inr (8, [.int 960, .int 1, .ref (u 11), .int 0])), ((u 11), .inl (G.2.1, 960, .inl (fun _ => 0))), ((u 12), .inr (8, [.int 16, .int 8, .ref (u 13), .int 0])), ((u 13), .inl (G.2.1, 128, .inl (fun _ => 0))), ((u 14), .inr (8, [.int 12, .int 4, .ref (u 15), .int 0])), ((u 15), .inl (G.2.1, 48, .inl (fun _ => 0))), ((u 16), .inr (8, [.int 16, .int 3, .ref (u 17), .int 0])), ((u 17), .inl (G.2.1, 48, .inl (fun _ => 0))), ((u 18), .inr (8, [.int 7, .int 2, .ref (u 19), .int 0])), ((u 19), .inl (G.2.1, 14, .inl (fun _ => 0)))]) := by
  refine MV.start (by decide +kernel) (Nat.le_of_ble_eq_true rfl) ?_
  intro p e s m below meth c A ls hC hK hP hD hS hA hl
  have hl : lv_has ls 1 [(0, .ref h0)] := hl
  obtain ⟨hx, hb, hr, hml, hB, hown, hlocks, hnm⟩ := id hC
  refine lv_aload_n hx hb dX0_init_0 rfl (lv_at hl 0 rfl) ?_
  refine W.objInit hx hb hown (hB _ m_53) (hB _ m_11) (hB _ m_12) rfl (by rw [hml]; exact hl.1) rfl dX0_init_1 (Nat.le_of_ble_eq_true rfl) (Nat.le_of_ble_eq_true rfl) ?_
  refine W.eq (g2 := F0 m 4 ls []) rfl ?_
  refine lv_aload_n hx hb dX0_init_4 rfl (lv_at hl 0 rfl) ?_
  refine nw_X0_9 hC rfl hK hP hD hS hA (Nat.le_of_ble_eq_true rfl) (Nat.le_of_ble_eq_true rfl) dX0_init_5 (fun q32 H hP hD hS => ?_)
  have hP : va_P G.1 vwCl [(h0, .inr (0, [.null, .null, .null, .null, .null, .null, .null, .null, .null, .null, .int 0, .int 0, .int 0, .int 0])), (q32, .inr (8, [.int 0, .int 0, .null, .int 0]))] H := hP
  have hD : va_D A [(h0, .inr (0, [.null, .null, .null, .null, .null, .null, .null, .null, .null, .null, .int 0, .int 0, .int 0, .int 0])), (q32, .inr (8, [.int 0, .int 0, .null, .int 0]))] := hD
  refine Wcast (c1 := 1) (s1 := 4) rfl rfl ?_
  refine lv_dup hx hb dX0_init_8 rfl ?_
  refine lv_bipush (v := 10) hx hb dX0_init_9 (by decide) ?_
  refine lv_iconst (v := 2) hx hb dX0_init_11 (by decide) ?_
  refine vI (wr := [(h0, .inr (0, [.null, .null, .null, .null, .null, .null, .null, .null, .null, .null, .int 0, .int 0, .int 0, .int 0]))]) hC hK hl hP hD hS hA (c_T_init_10_2 l G q32) si_X0_11 [1] [0] rfl rfl (by decide) rfl (by decide) (by decide) rfl rfl (Nat.le_of_ble_eq_true rfl) ⟨Nat.le_of_ble_eq_true rfl, Nat.le_of_ble_eq_true rfl⟩ ⟨by first | exact Nat.le_of_ble_eq_true rfl | omega, by first | exact Nat.le_of_ble_eq_true rfl | omega⟩ dX0_init_12 (fun u34 H locs hr33 hP hD hS => ?_)
  obtain ⟨ca35, rfl⟩ : ∃ z9, z9 = u34 := ⟨_, rfl⟩
  have hP : va_P G.1 vwCl [(h0, .inr (0, [.null, .null, .null, .null, .null, .null, .null, .null, .null, .null, .int 0, .int 0, .int 0, .int 0])), (q32, .inr (8, [.int 10, .int 2, .ref ca35, .int 0])), (ca35, .inl (G.2.1, 20, .inl (fun _ => 0)))] H := hP
  have hD : va_D A [(h0, .inr (0, [.null, .null, .null, .null, .null, .null, .null, .null, .null, .null, .int 0, .int 0, .int 0, .int 0])), (q32, .inr (8, [.int 10, .int 2, .ref ca35, .int 0])), (ca35, .inl (G.2.1, 20, .inl (fun _ => 0)))] := hD
  refine Wcast (c1 := 2) (s1 := 24) rfl rfl ?_
  refine pf_X0_14 hC rfl rfl hK hP hD hS 0 (ws' := [(h0, .inr (0, [.ref q32, .null, .null, .null, .null, .null, .null, .null, .null, .null, .int 0, .int 0, .int 0, .int 0])), (q32, .inr (8, [.int 10, .int 2, .ref ca35, .int 0])), (ca35, .inl (G.2.1, 20, .inl (fun _ => 0)))]) rfl (Nat.le_of_ble_eq_true rfl) rfl rfl rfl dX0_init_15 (fun H locs hP hD hS => ?_)
  refine lv_aload_n hx hb dX0_init_18 rfl (lv_at hl 0 rfl) ?_
  refine nw_X0_9 hC rfl hK hP hD hS hA (Nat.le_of_ble_eq_true rfl) (Nat.le_of_ble_eq_true rfl) dX0_init_19 (fun q36 H hP hD hS => ?_)
  have hP : va_P G.1 vwCl [(h0, .inr (0, [.ref q32, .null, .null, .null, .null, .null, .null, .null, .null, .null, .int 0, .int 0, .int 0, .int 0])), (q32, .inr (8, [.int 10, .int 2, .ref ca35, .int 0])), (ca35, .inl (G.2.1, 20, .inl (fun _ => 0))), (q36, .inr (8, [.int 0, .int 0, .null, .int 0]))] H := hP
  have hD : va_D A [(h0, .inr (0, [.ref q32, .null, .null, .null, .null, .null, .null, .null, .null, .null, .int 0, .int 0, .int 0, .int 0])), (q32, .inr (8, [.int 10, .int 2, .ref ca35, .int 0])), (ca35, .inl (G.2.1, 20, .inl (fun _ => 0))), (q36, .inr (8, [.int 0, .int 0, .null, .int 0]))] := hD
  refine Wcast (c1 := 3) (s1 := 28) rfl rfl ?_
  refine lv_dup hx hb dX0_init_22 rfl ?_
  refine lv_bipush (v := 12) hx hb dX0_init_23 (by decide) ?_
  refine lv_bipush (v := 6) hx hb dX0_init_25 (by decide) ?_
  refine vI (wr := [(h0, .inr (0, [.ref q32, .null, .null, .null, .null, .null, .null, .null, .null, .null, .int 0, .int 0, .int 0, .int 0])), (q32, .inr (8, [.int 10, .int 2, .ref ca35, .int 0])), (ca35, .inl (G.2.1, 20, .inl (fun _ => 0)))]) hC hK hl hP hD hS hA (c_T_init_12_6 l G q36) si_X0_11 [3] [0, 1, 2] rfl rfl (by decide) rfl (by decide) (by decide) rfl rfl (Nat.le_of_ble_eq_true rfl) ⟨Nat.le_of_ble_eq_true rfl, Nat.le_of_ble_eq_true rfl⟩ ⟨by first | exact Nat.le_of_ble_eq_true rfl | omega, by first | exact Nat.le_of_ble_eq_true rfl | omega⟩ dX0_init_27 (fun u38 H locs hr37 hP hD hS => ?_)
  obtain ⟨ca39, rfl⟩ : ∃ z9, z9 = u38 := ⟨_, rfl⟩
  have hP : va_P G.1 vwCl [(h0, .inr (0, [.ref q32, .null, .null, .null, .null, .null, .null, .null, .null, .null, .int 0, .int 0, .int 0, .int 0])), (q32, .inr (8, [.int 10, .int 2, .ref ca35, .int 0])), (ca35, .inl (G.2.1, 20, .inl (fun _ => 0))), (q36, .inr (8, [.int 12, .int 6, .ref ca39, .int 0])), (ca39, .inl (G.2.1, 72, .inl (fun _ => 0)))] H := hP
  have hD : va_D A [(h0, .inr (0, [.ref q32, .null, .null, .null, .null, .null, .null, .null, .null, .null, .int 0, .int 0, .int 0, .int 0])), (q32, .inr (8, [.int 10, .int 2, .ref ca35, .int 0])), (ca35, .inl (G.2.1, 20, .inl (fun _ => 0))), (q36, .inr (8, [.int 12, .int 6, .ref ca39, .int 0])), (ca39, .inl (G.2.1, 72, .inl (fun _ => 0)))] := hD
  refine Wcast (c1 := 4) (s1 := 100) rfl rfl ?_
  refine pf_X0_20 hC rfl rfl hK hP hD hS 0 (ws' := [(h0, .inr (0, [.ref q32, .ref q36, .null, .null, .null, .null, .null, .null, .null, .null, .int 0, .int 0, .int 0, .int 0])), (q32, .inr (8, [.int 10, .int 2, .ref ca35, .int 0])), (ca35, .inl (G.2.1, 20, .inl (fun _ => 0))), (q36, .inr (8, [.int 12, .int 6, .ref ca39, .int 0])), (ca39, .inl (G.2.1, 72, .inl (fun _ => 0)))]) rfl (Nat.le_of_ble_eq_true rfl) rfl rfl rfl dX0_init_30 (fun H locs hP hD hS => ?_)
  refine lv_aload_n hx hb dX0_init_33 rfl (lv_at hl 0 rfl) ?_
  refine nw_X0_9 hC rfl hK hP hD hS hA (Nat.le_of_ble_eq_true rfl) (Nat.le_of_ble_eq_true rfl) dX0_init_34 (fun q40 H hP hD hS => ?_)
  have hP : va_P G.1 vwCl [(h0, .inr (0, [.ref q32, .ref q36, .null, .null, .null, .null, .null, .null, .null, .null, .int 0, .int 0, .int 0, .int 0])), (q32, .inr (8, [.int 10, .int 2, .ref ca35, .int 0])), (ca35, .inl (G.2.1, 20, .inl (fun _ => 0))), (q36, .inr (8, [.int 12, .int 6, .ref ca39, .int 0])), (ca39, .inl (G.2.1, 72, .inl (fun _ => 0))), (q40, .inr (8, [.int 0, .int 0, .null, .int 0]))] H := hP
  have hD : va_D A [(h0, .inr (0, [.ref q32, .ref q36, .null, .null, .null, .null, .null, .null, .null, .null, .int 0, .int 0, .int 0, .int 0])), (q32, .inr (8, [.int 10, .int 2, .ref ca35, .int 0])), (ca35, .inl (G.2.1, 20, .inl (fun _ => 0))), (q36, .inr (8, [.int 12, .int 6, .ref ca39, .int 0])), (ca39, .inl (G.2.1, 72, .inl (fun _ => 0))), (q40, .inr (8, [.int 0, .int 0, .null, .int 0]))] := hD
  refine Wcast (c1 := 5) (s1 := 104) rfl rfl ?_
  refine lv_dup hx hb dX0_init_37 rfl ?_
  refine lv_bipush (v := 24) hx hb dX0_init_38 (by decide) ?_
  refine lv_iconst (v := 3) hx hb dX0_init_40 (by decide) ?_
  refine vI (wr := [(h0, .inr (0, [.ref q32, .ref q36, .null, .null, .null, .null, .null, .null, .null, .null, .int 0, .int 0, .int 0, .int 0])), (q32, .inr (8, [.int 10, .int 2, .ref ca35, .int 0])), (ca35, .inl (G.2.1, 20, .inl (fun _ => 0))), (q36, .inr (8, [.int 12, .int 6, .ref ca39, .int 0])), (ca39, .inl (G.2.1, 72, .inl (fun _ => 0)))]) hC hK hl hP hD hS hA (c_T_init_24_3 l G q40) si_X0_11 [5] [0, 1, 2, 3, 4] rfl rfl (by decide) rfl (by decide) (by decide) rfl rfl (Nat.le_of_ble_eq_true rfl) ⟨Nat.le_of_ble_eq_true rfl, Nat.le_of_ble_eq_true rfl⟩ ⟨by first | exact Nat.le_of_ble_eq_true rfl | omega, by first | exact Nat.le_of_ble_eq_true rfl | omega⟩ dX0_init_41 (fun u42 H locs hr41 hP hD hS => ?_)
  obtain ⟨ca43, rfl⟩ : ∃ z9, z9 = u42 := ⟨_, rfl⟩
  have hP : va_P G.1 vwCl [(h0, .inr (0, [.ref q32, .ref q36, .null, .null, .null, .null, .null, .null, .null, .null, .int 0, .int 0, .int 0, .int 0])), (q32, .inr (8, [.int 10, .int 2, .ref ca35, .int 0])), (ca35, .inl (G.2.1, 20, .inl (fun _ => 0))), (q36, .inr (8, [.int 12, .int 6, .ref ca39, .int 0])), (ca39, .inl (G.2.1, 72, .inl (fun _ => 0))), (q40, .inr (8, [.int 24, .int 3, .ref ca43, .int 0])), (ca43, .inl (G.2.1, 72, .inl (fun _ => 0)))] H := hP
  have hD : va_D A [(h0, .inr (0, [.ref q32, .ref q36, .null, .null, .null, .null, .null, .null, .null, .null, .int 0, .int 0, .int 0, .int 0])), (q32, .inr (8, [.int 10, .int 2, .ref ca35, .int 0])), (ca35, .inl (G.2.1, 20, .inl (fun _ => 0))), (q36, .inr (8, [.int 12, .int 6, .ref ca39, .int 0])), (ca39, .inl (G.2.1, 72, .inl (fun _ => 0))), (q40, .inr (8, [.int 24, .int 3, .ref ca43, .int 0])), (ca43, .inl (G.2.1, 72, .inl (fun _ => 0)))] := hD
  refine Wcast (c1 := 6) (s1 := 176) rfl rfl ?_
  refine pf_X0_23 hC rfl rfl hK hP hD hS 0 (ws' := [(h0, .inr (0, [.ref q32, .ref q36, .ref q40, .null, .null, .null, .null, .null, .null, .null, .int 0, .int 0, .int 0, .int 0])), (q32, .inr (8, [.int 10, .int 2, .ref ca35, .int 0])), (ca35, .inl (G.2.1, 20, .inl (fun _ => 0))), (q36, .inr (8, [.int 12, .int 6, .ref ca39, .int 0])), (ca39, .inl (G.2.1, 72, .inl (fun _ => 0))), (q40, .inr (8, [.int 24, .int 3, .ref ca43, .int 0])), (ca43, .inl (G.2.1, 72, .inl (fun _ => 0)))]) rfl (Nat.le_of_ble_eq_true rfl) rfl rfl rfl dX0_init_44 (fun H locs hP hD hS => ?_)
  refine lv_aload_n hx hb dX0_init_47 rfl (lv_at hl 0 rfl) ?_
  refine nw_X0_9 hC rfl hK hP hD hS hA (Nat.le_of_ble_eq_true rfl) (Nat.le_of_ble_eq_true rfl) dX0_init_48 (fun q44 H hP hD hS => ?_)
  have hP : va_P G.1 vwCl [(h0, .inr (0, [.ref q32, .ref q36, .ref q40, .null, .null, .null, .null, .null, .null, .null, .int 0, .int 0, .int 0, .int 0])), (q32, .inr (8, [.int 10, .int 2, .ref ca35, .int 0])), (ca35, .inl (G.2.1, 20, .inl (fun _ => 0))), (q36, .inr (8, [.int 12, .int 6, .ref ca39, .int 0])), (ca39, .inl (G.2.1, 72, .inl (fun _ => 0))), (q40, .inr (8, [.int 24, .int 3, .ref ca43, .int 0])), (ca43, .inl (G.2.1, 72, .inl (fun _ => 0))), (q44, .inr (8, [.int 0, .int 0, .null, .int 0]))] H := hP
  have hD : va_D A [(h0, .inr (0, [.ref q32, .ref q36, .ref q40, .null, .null, .null, .null, .null, .null, .null, .int 0, .int 0, .int 0, .int 0])), (q32, .inr (8, [.int 10, .int 2, .ref ca35, .int 0])), (ca35, .inl (G.2.1, 20, .inl (fun _ => 0))), (q36, .inr (8, [.int 12, .int 6, .ref ca39, .int 0])), (ca39, .inl (G.2.1, 72, .inl (fun _ => 0))), (q40, .inr (8, [.int 24, .int 3, .ref ca43, .int 0])), (ca43, .inl (G.2.1, 72, .inl (fun _ => 0))), (q44, .inr (8, [.int 0, .int 0, .null, .int 0]))] := hD
  refine Wcast (c1 := 7) (s1 := 180) rfl rfl ?_
  refine lv_dup hx hb dX0_init_51 rfl ?_
  refine lv_bipush (v := 8) hx hb dX0_init_52 (by decide) ?_
  refine lv_iconst (v := 3) hx hb dX0_init_54 (by decide) ?_
  refine vI (wr := [(h0, .inr (0, [.ref q32, .ref q36, .ref q40, .null, .null, .null, .null, .null, .null, .null, .int 0, .int 0, .int 0, .int 0])), (q32, .inr (8, [.int 10, .int 2, .ref ca35, .int 0])), (ca35, .inl (G.2.1, 20, .inl (fun _ => 0))), (q36, .inr (8, [.int 12, .int 6, .ref ca39, .int 0])), (ca39, .inl (G.2.1, 72, .inl (fun _ => 0))), (q40, .inr (8, [.int 24, .int 3, .ref ca43, .int 0])), (ca43, .inl (G.2.1, 72, .inl (fun _ => 0)))]) hC hK hl hP hD hS hA (c_T_init_8_3 l G q44) si_X0_11 [7] [0, 1, 2, 3, 4, 5, 6] rfl rfl (by decide) rfl (by decide) (by decide) rfl rfl (Nat.le_of_ble_eq_true rfl) ⟨Nat.le_of_ble_eq_true rfl, Nat.le_of_ble_eq_true rfl⟩ ⟨by first | exact Nat.le_of_ble_eq_true rfl | omega, by first | exact Nat.le_of_ble_eq_true rfl | omega⟩ dX0_init_55 (fun u46 H locs hr45 hP hD hS => ?_)
  obtain ⟨ca47, rfl⟩ : ∃ z9, z9 = u46 := ⟨_, rfl⟩
  have hP : va_P G.1 vwCl [(h0, .inr (0, [.ref q32, .ref q36, .ref q40, .null, .null, .null, .null, .null, .null, .null, .int 0, .int 0, .int 0, .int 0])), (q32, .inr (8, [.int 10, .int 2, .ref ca35, .int 0])), (ca35, .inl (G.2.1, 20, .inl (fun _ => 0))), (q36, .inr (8, [.int 12, .int 6, .ref ca39, .int 0])), (ca39, .inl (G.2.1, 72, .inl (fun _ => 0))), (q40, .inr (8, [.int 24, .int 3, .ref ca43, .int 0])), (ca43, .inl (G.2.1, 72, .inl (fun _ => 0))), (q44, .inr (8, [.int 8, .int 3, .ref ca47, .int 0])), (ca47, .inl (G.2.1, 24, .inl (fun _ => 0)))] H := hP
  have hD : va_D A [(h0, .inr (0, [.ref q32, .ref q36, .ref q40, .null, .null, .null, .null, .null, .null, .null, .int 0, .int 0, .int 0, .int 0])), (q32, .inr (8, [.int 10, .int 2, .ref ca35, .int 0])), (ca35, .inl (G.2.1, 20, .inl (fun _ => 0))), (q36, .inr (8, [.int 12, .int 6, .ref ca39, .int 0])), (ca39, .inl (G.2.1, 72, .inl (fun _ => 0))), (q40, .inr (8, [.int 24, .int 3, .ref ca43, .int 0])), (ca43, .inl (G.2.1, 72, .inl (fun _ => 0))), (q44, .inr (8, [.int 8, .int 3, .ref ca47, .int 0])), (ca47, .inl (G.2.1, 24, .inl (fun _ => 0)))] := hD
  refine Wcast (c1 := 8) (s1 := 204) rfl rfl ?_
  refine pf_X0_26 hC rfl rfl hK hP hD hS 0 (ws' := [(h0, .inr (0, [.ref q32, .ref q36, .ref q40, .ref q44, .null, .null, .null, .null, .null, .null, .int 0, .int 0, .int 0, .int 0])), (q32, .inr (8, [.int 10, .int 2, .ref ca35, .int 0])), (ca35, .inl (G.2.1, 20, .inl (fun _ => 0))), (q36, .inr (8, [.int 12, .int 6, .ref ca39, .int 0])), (ca39, .inl (G.2.1, 72, .inl (fun _ => 0))), (q40, .inr (8, [.int 24, .int 3, .ref ca43, .int 0])), (ca43, .inl (G.2.1, 72, .inl (fun _ => 0))), (q44, .inr (8, [.int 8, .int 3, .ref ca47, .int 0])), (ca47, .inl (G.2.1, 24, .inl (fun _ => 0)))]) rfl (Nat.le_of_ble_eq_true rfl) rfl rfl rfl dX0_init_58 (fun H locs hP hD hS => ?_)
  refine lv_aload_n hx hb dX0_init_61 rfl (lv_at hl 0 rfl) ?_
  refine nw_X0_9 hC rfl hK hP hD hS hA (Nat.le_of_ble_eq_true rfl) (Nat.le_of_ble_eq_true rfl) dX0_init_62 (fun q48 H hP hD hS => ?_)
  have hP : va_P G.1 vwCl [(h0, .inr (0, [.ref q32, .ref q36, .ref q40, .ref q44, .null, .null, .null, .null, .null, .null, .int 0, .int 0, .int 0, .int 0])), (q32, .inr (8, [.int 10, .int 2, .ref ca35, .int 0])), (ca35, .inl (G.2.1, 20, .inl (fun _ => 0))), (q36, .inr (8, [.int 12, .int 6, .ref ca39, .int 0])), (ca39, .inl (G.2.1, 72, .inl (fun _ => 0))), (q40, .inr (8, [.int 24, .int 3, .ref ca43, .int 0])), (ca43, .inl (G.2.1, 72, .inl (fun _ => 0))), (q44, .inr (8, [.int 8, .int 3, .ref ca47, .int 0])), (ca47, .inl (G.2.1, 24, .inl (fun _ => 0))), (q48, .inr (8, [.int 0, .int 0, .null, .int 0]))] H := hP
  have hD : va_D A [(h0, .inr (0, [.ref q32, .ref q36, .ref q40, .ref q44, .null, .null, .null, .null, .null, .null, .int 0, .int 0, .int 0, .int 0])), (q32, .inr (8, [.int 10, .int 2, .ref ca35, .int 0])), (ca35, .inl (G.2.1, 20, .inl (fun _ => 0))), (q36, .inr (8, [.int 12, .int 6, .ref ca39, .int 0])), (ca39, .inl (G.2.1, 72, .inl (fun _ => 0))), (q40, .inr (8, [.int 24, .int 3, .ref ca43, .int 0])), (ca43, .inl (G.2.1, 72, .inl (fun _ => 0))), (q44, .inr (8, [.int 8, .int 3, .ref ca47, .int 0])), (ca47, .inl (G.2.1, 24, .inl (fun _ => 0))), (q48, .inr (8, [.int 0, .int 0, .null, .int 0]))] := hD
  refine Wcast (c1 := 9) (s1 := 208) rfl rfl ?_
  refine lv_dup hx hb dX0_init_65 rfl ?_
  refine lv_bipush (v := 72) hx hb dX0_init_66 (by decide) ?_
  refine lv_bipush (v := 7) hx hb dX0_init_68 (by decide) ?_
  refine vI (wr := [(h0, .inr (0, [.ref q32, .ref q36, .ref q40, .ref q44, .null, .null, .null, .null, .null, .null, .int 0, .int 0, .int 0, .int 0])), (q32, .inr (8, [.int 10, .int 2, .ref ca35, .int 0])), (ca35, .inl (G.2.1, 20, .inl (fun _ => 0))), (q36, .inr (8, [.int 12, .int 6, .ref ca39, .int 0])), (ca39, .inl (G.2.1, 72, .inl (fun _ => 0))), (q40, .inr (8, [.int 24, .int 3, .ref ca43, .int 0])), (ca43, .inl (G.2.1, 72, .inl (fun _ => 0))), (q44, .inr (8, [.int 8, .int 3, .ref ca47, .int 0])), (ca47, .inl (G.2.1, 24, .inl (fun _ => 0)))]) hC hK hl hP hD hS hA (c_T_init_72_7 l G q48) si_X0_11 [9] [0, 1, 2, 3, 4, 5, 6, 7, 8] rfl rfl (by decide) rfl (by decide) (by decide) rfl rfl (Nat.le_of_ble_eq_true rfl) ⟨Nat.le_of_ble_eq_true rfl, Nat.le_of_ble_eq_true rfl⟩ ⟨by first | exact Nat.le_of_ble_eq_true rfl | omega, by first | exact Nat.le_of_ble_eq_true rfl | omega⟩ dX0_init_70 (fun u50 H locs hr49 hP hD hS => ?_)
  obtain ⟨ca51, rfl⟩ : ∃ z9, z9 = u50 := ⟨_, rfl⟩
  have hP : va_P G.1 vwCl [(h0, .inr (0, [.ref q32, .ref q36, .ref q40, .ref q44, .null, .null, .null, .null, .null, .null, .int 0, .int 0, .int 0, .int 0])), (q32, .inr (8, [.int 10, .int 2, .ref ca35, .int 0])), (ca35, .inl (G.2.1, 20, .inl (fun _ => 0))), (q36, .inr (8, [.int 12, .int 6, .ref ca39, .int 0])), (ca39, .inl (G.2.1, 72, .inl (fun _ => 0))), (q40, .inr (8, [.int 24, .int 3, .ref ca43, .int 0])), (ca43, .inl (G.2.1, 72, .inl (fun _ => 0))), (q44, .inr (8, [.int 8, .int 3, .ref ca47, .int 0])), (ca47, .inl (G.2.1, 24, .inl (fun _ => 0))), (q48, .inr (8, [.int 72, .int 7, .ref ca51, .int 0])), (ca51, .inl (G.2.1, 504, .inl (fun _ => 0)))] H := hP
  have hD : va_D A [(h0, .inr (0, [.ref q32, .ref q36, .ref q40, .ref q44, .null, .null, .null, .null, .null, .null, .int 0, .int 0, .int 0, .int 0])), (q32, .inr (8, [.int 10, .int 2, .ref ca35, .int 0])), (ca35, .inl (G.2.1, 20, .inl (fun _ => 0))), (q36, .inr (8, [.int 12, .int 6, .ref ca39, .int 0])), (ca39, .inl (G.2.1, 72, .inl (fun _ => 0))), (q40, .inr (8, [.int 24, .int 3, .ref ca43, .int 0])), (ca43, .inl (G.2.1, 72, .inl (fun _ => 0))), (q44, .inr (8, [.int 8, .int 3, .ref ca47, .int 0])), (ca47, .inl (G.2.1, 24, .inl (fun _ => 0))), (q48, .inr (8, [.int 72, .int 7, .ref ca51, .int 0])), (ca51, .inl (G.2.1, 504, .inl (fun _ => 0)))] := hD
  refine Wcast (c1 := 10) (s1 := 712) rfl rfl ?_
  refine pf_X0_29 hC rfl rfl hK hP hD hS 0 (ws' := [(h0, .inr (0, [.ref q32, .ref q36, .ref q40, .ref q44, .ref q48, .null, .null, .null, .null, .null, .int 0, .int 0, .int 0, .int 0])), (q32, .inr (8, [.int 10, .int 2, .ref ca35, .int 0])), (ca35, .inl (G.2.1, 20, .inl (fun _ => 0))), (q36, .inr (8, [.int 12, .int 6, .ref ca39, .int 0])), (ca39, .inl (G.2.1, 72, .inl (fun _ => 0))), (q40, .inr (8, [.int 24, .int 3, .ref ca43, .int 0])), (ca43, .inl (G.2.1, 72, .inl (fun _ => 0))), (q44, .inr (8, [.int 8, .int 3, .ref ca47, .int 0])), (ca47, .inl (G.2.1, 24, .inl (fun _ => 0))), (q48, .inr (8, [.int 72, .int 7, .ref ca51, .int 0])), (ca51, .inl (G.2.1, 504, .inl (fun _ => 0)))]) rfl (Nat.le_of_ble_eq_true rfl) rfl rfl rfl dX0_init_73 (fun H locs hP hD hS => ?_)
  refine lv_aload_n hx hb dX0_init_76 rfl (lv_at hl 0 rfl) ?_
  refine nw_X0_9 hC rfl hK hP hD hS hA (Nat.le_of_ble_eq_true rfl) (Nat.le_of_ble_eq_true rfl) dX0_init_77 (fun q52 H hP hD hS => ?_)
  have hP : va_P G.1 vwCl [(h0, .inr (0, [.ref q32, .ref q36, .ref q40, .ref q44, .ref q48, .null, .null, .null, .null, .null, .int 0, .int 0, .int 0, .int 0])), (q32, .inr (8, [.int 10, .int 2, .ref ca35, .int 0])), (ca35, .inl (G.2.1, 20, .inl (fun _ => 0))), (q36, .inr (8, [.int 12, .int 6, .ref ca39, .int 0])), (ca39, .inl (G.2.1, 72, .inl (fun _ => 0))), (q40, .inr (8, [.int 24, .int 3, .ref ca43, .int 0])), (ca43, .inl (G.2.1, 72, .inl (fun _ => 0))), (q44, .inr (8, [.int 8, .int 3, .ref ca47, .int 0])), (ca47, .inl (G.2.1, 24, .inl (fun _ => 0))), (q48, .inr (8, [.int 72, .int 7, .ref ca51, .int 0])), (ca51, .inl (G.2.1, 504, .inl (fun _ => 0))), (q52, .inr (8, [.int 0, .int 0, .null, .int 0]))] H := hP
  have hD : va_D A [(h0, .inr (0, [.ref q32, .ref q36, .ref q40, .ref q44, .ref q48, .null, .null, .null, .null, .null, .int 0, .int 0, .int 0, .int 0])), (q32, .inr (8, [.int 10, .int 2, .ref ca35, .int 0])), (ca35, .inl (G.2.1, 20, .inl (fun _ => 0))), (q36, .inr (8, [.int 12, .int 6, .ref ca39, .int 0])), (ca39, .inl (G.2.1, 72, .inl (fun _ => 0))), (q40, .inr (8, [.int 24, .int 3, .ref ca43, .int 0])), (ca43, .inl (G.2.1, 72, .inl (fun _ => 0))), (q44, .inr (8, [.int 8, .int 3, .ref ca47, .int 0])), (ca47, .inl (G.2.1, 24, .inl (fun _ => 0))), (q48, .inr (8, [.int 72, .int 7, .ref ca51, .int 0])), (ca51, .inl (G.2.1, 504, .inl (fun _ => 0))), (q52, .inr (8, [.int 0, .int 0, .null, .int 0]))] := hD
  refine Wcast (c1 := 11) (s1 := 716) rfl rfl ?_
  refine lv_dup hx hb dX0_init_80 rfl ?_
  refine lv_sipush (v := 960) hx hb dX0_init_81 (by decide) ?_
  refine lv_iconst (v := 1) hx hb dX0_init_84 (by decide) ?_
  refine vI (wr := [(h0, .inr (0, [.ref q32, .ref q36, .ref q40, .ref q44, .ref q48, .null, .null, .null, .null, .null, .int 0, .int 0, .int 0, .int 0])), (q32, .inr (8, [.int 10, .int 2, .ref ca35, .int 0])), (ca35, .inl (G.2.1, 20, .inl (fun _ => 0))), (q36, .inr (8, [.int 12, .int 6, .ref ca39, .int 0])), (ca39, .inl (G.2.1, 72, .inl (fun _ => 0))), (q40, .inr (8, [.int 24, .int 3, .ref ca43, .int 0])), (ca43, .inl (G.2.1, 72, .inl (fun _ => 0))), (q44, .inr (8, [.int 8, .int 3, .ref ca47, .int 0])), (ca47, .inl (G.2.1, 24, .inl (fun _ => 0))), (q48, .inr (8, [.int 72, .int 7, .ref ca51, .int 0])), (ca51, .inl (G.2.1, 504, .inl (fun _ => 0)))]) hC hK hl hP hD hS hA (c_T_init_960_1 l G q52) si_X0_11 [11] [0, 1, 2, 3, 4, 5, 6, 7, 8, 9, 10] rfl rfl (by decide) rfl (by decide) (by decide) rfl rfl (Nat.le_of_ble_eq_true rfl) ⟨Nat.le_of_ble_eq_true rfl, Nat.le_of_ble_eq_true rfl⟩ ⟨by first | exact Nat.le_of_ble_eq_true rfl | omega, by first | exact Nat.le_of_ble_eq_true rfl | omega⟩ dX0_init_85 (fun u54 H locs hr53 hP hD hS => ?_)
  obtain ⟨ca55, rfl⟩ : ∃ z9, z9 = u54 := ⟨_, rfl⟩
  have hP : va_P G.1 vwCl [(h0, .inr (0, [.ref q32, .ref q36, .ref q40, .ref q44, .ref q48, .null, .null, .null, .null, .null, .int 0, .int 0, .int 0, .int 0])), (q32, .inr (8, [.int 10, .int 2, .ref ca35, .int 0])), (ca35, .inl (G.2.1, 20, .inl (fun _ => 0))), (q36, .inr (8, [.int 12, .int 6, .ref ca39, .int 0])), (ca39, .inl (G.2.1, 72, .inl (fun _ => 0))), (q40, .inr (8, [.int 24, .int 3, .ref ca43, .int 0])), (ca43, .inl (G.2.1, 72, .inl (fun _ => 0))), (q44, .inr (8, [.int 8, .int 3, .ref ca47, .int 0])), (ca47, .inl (G.2.1, 24, .inl (fun _ => 0))), (q48, .inr (8, [.int 72, .int 7, .ref ca51, .int 0])), (ca51, .inl (G.2.1, 504, .inl (fun _ => 0))), (q52, .inr (8, [.int 960, .int 1, .ref ca55, .int 0])), (ca55, .inl (G.2.1, 960, .inl (fun _ => 0)))] H := hP
  have hD : va_D A [(h0, .inr (0, [.ref q32, .ref q36, .ref q40, .ref q44, .ref q48, .null, .null, .null, .null, .null, .int 0, .int 0, .int 0, .int 0])), (q32, .inr (8, [.int 10, .int 2, .ref ca35, .int 0])), (ca35, .inl (G.2.1, 20, .inl (fun _ => 0))), (q36, .inr (8, [.int 12, .int 6, .ref ca39, .int 0])), (ca39, .inl (G.2.1, 72, .inl (fun _ => 0))), (q40, .inr (8, [.int 24, .int 3, .ref ca43, .int 0])), (ca43, .inl (G.2.1, 72, .inl (fun _ => 0))), (q44, .inr (8, [.int 8, .int 3, .ref ca47, .int 0])), (ca47, .inl (G.2.1, 24, .inl (fun _ => 0))), (q48, .inr (8, [.int 72, .int 7, .ref ca51, .int 0])), (ca51, .inl (G.2.1, 504, .inl (fun _ => 0))), (q52, .inr (8, [.int 960, .int 1, .ref ca55, .int 0])), (ca55, .inl (G.2.1, 960, .inl (fun _ => 0)))] := hD
  refine Wcast (c1 := 12) (s1 := 1676) rfl rfl ?_
  refine pf_X0_32 hC rfl rfl hK hP hD hS 0 (ws' := [(h0, .inr (0, [.ref q32, .ref q36, .ref q40, .ref q44, .ref q48, .ref q52, .null, .null, .null, .null, .int 0, .int 0, .int 0, .int 0])), (q32, .inr (8, [.int 10, .int 2, .ref ca35, .int 0])), (ca35, .inl (G.2.1, 20, .inl (fun _ => 0))), (q36, .inr (8, [.int 12, .int 6, .ref ca39, .int 0])), (ca39, .inl (G.2.1, 72, .inl (fun _ => 0))), (q40, .inr (8, [.int 24, .int 3, .ref ca43, .int 0])), (ca43, .inl (G.2.1, 72, .inl (fun _ => 0))), (q44, .inr (8, [.int 8, .int 3, .ref ca47, .int 0])), (ca47, .inl (G.2.1, 24, .inl (fun _ => 0))), (q48, .inr (8, [.int 72, .int 7, .ref ca51, .int 0])), (ca51, .inl (G.2.1, 504, .inl (fun _ => 0))), (q52, .inr (8, [.int 960, .int 1, .ref ca55, .int 0])), (ca55, .inl (G.2.1, 960, .inl (fun _ => 0)))]) rfl (Nat.le_of_ble_eq_true rfl) rfl rfl rfl dX0_init_88 (fun H locs hP hD hS => ?_)
  refine lv_aload_n hx hb dX0_init_91 rfl (lv_at hl 0 rfl) ?_
  refine nw_X0_9 hC rfl hK hP hD hS hA (Nat.le_of_ble_eq_true rfl) (Nat.le_of_ble_eq_true rfl) dX0_init_92 (fun q56 H hP hD hS => ?_)
  have hP : va_P G.1 vwCl [(h0, .inr (0, [.ref q32, .ref q36, .ref q40, .ref q44, .ref q48, .ref q52, .null, .null, .null, .null, .int 0, .int 0, .int 0, .int 0])), (q32, .inr (8, [.int 10, .int 2, .ref ca35, .int 0])), (ca35, .inl (G.2.1, 20, .inl (fun _ => 0))), (q36, .inr (8, [.int 12, .int 6, .ref ca39, .int 0])), (ca39, .inl (G.2.1, 72, .inl (fun _ => 0))), (q40, .inr (8, [.int 24, .int 3, .ref ca43, .int 0])), (ca43, .inl (G.2.1, 72, .inl (fun _ => 0))), (q44, .inr (8, [.int 8, .int 3, .ref ca47, .int 0])), (ca47, .inl (G.2.1, 24, .inl (fun _ => 0))), (q48, .inr (8, [.int 72, .int 7, .ref ca51, .int 0])), (ca51, .inl (G.2.1, 504, .inl (fun _ => 0))), (q52, .inr (8, [.int 960, .int 1, .ref ca55, .int 0])), (ca55, .inl (G.2.1, 960, .inl (fun _ => 0))), (q56, .inr (8, [.int 0, .int 0, .null, .int 0]))] H := hP
  have hD : va_D A [(h0, .inr (0, [.ref q32, .ref q36, .ref q40, .ref q44, .ref q48, .ref q52, .null, .null, .null, .null, .int 0, .int 0, .int 0, .int 0])), (q32, .inr (8, [.int 10, .int 2, .ref ca35, .int 0])), (ca35, .inl (G.2.1, 20, .inl (fun _ => 0))), (q36, .inr (8, [.int 12, .int 6, .ref ca39, .int 0])), (ca39, .inl (G.2.1, 72, .inl (fun _ => 0))), (q40, .inr (8, [.int 24, .int 3, .ref ca43, .int 0])), (ca43, .inl (G.2.1, 72, .inl (fun _ => 0))), (q44, .inr (8, [.int 8, .int 3, .ref ca47, .int 0])), (ca47, .inl (G.2.1, 24, .inl (fun _ => 0))), (q48, .inr (8, [.int 72, .int 7, .ref ca51, .int 0])), (ca51, .inl (G.2.1, 504, .inl (fun _ => 0))), (q52, .inr (8, [.int 960, .int 1, .ref ca55, .int 0])), (ca55, .inl (G.2.1, 960, .inl (fun _ => 0))), (q56, .inr (8, [.int 0, .int 0, .null, .int 0]))] := hD
  refine Wcast (c1 := 13) (s1 := 1680) rfl rfl ?_
  refine lv_dup hx hb dX0_init_95 rfl ?_
  refine lv_bipush (v := 16) hx hb dX0_init_96 (by decide) ?_
  refine lv_bipush (v := 8) hx hb dX0_init_98 (by decide) ?_
  refine vI (wr := [(h0, .inr (0, [.ref q32, .ref q36, .ref q40, .ref q44, .ref q48, .ref q52, .null, .null, .null, .null, .int 0, .int 0, .int 0, .int 0])), (q32, .inr (8, [.int 10, .int 2, .ref ca35, .int 0])), (ca35, .inl (G.2.1, 20, .inl (fun _ => 0))), (q36, .inr (8, [.int 12, .int 6, .ref ca39, .int 0])), (ca39, .inl (G.2.1, 72, .inl (fun _ => 0))), (q40, .inr (8, [.int 24, .int 3, .ref ca43, .int 0])), (ca43, .inl (G.2.1, 72, .inl (fun _ => 0))), (q44, .inr (8, [.int 8, .int 3, .ref ca47, .int 0])), (ca47, .inl (G.2.1, 24, .inl (fun _ => 0))), (q48, .inr (8, [.int 72, .int 7, .ref ca51, .int 0])), (ca51, .inl (G.2.1, 504, .inl (fun _ => 0))), (q52, .inr (8, [.int 960, .int 1, .ref ca55, .int 0])), (ca55, .inl (G.2.1, 960, .inl (fun _ => 0)))]) hC hK hl hP hD hS hA (c_T_init_16_8 l G q56) si_X0_11 [13] [0, 1, 2, 3, 4, 5, 6, 7, 8, 9, 10, 11, 12] rfl rfl (by decide) rfl (by decide) (by decide) rfl rfl (Nat.le_of_ble_eq_true rfl) ⟨Nat.le_of_ble_eq_true rfl, Nat.le_of_ble_eq_true rfl⟩ ⟨by first | exact Nat.le_of_ble_eq_true rfl | omega, by first | exact Nat.le_of_ble_eq_true rfl | omega⟩ dX0_init_100 (fun u58 H locs hr57 hP hD hS => ?_)
  obtain ⟨ca59, rfl⟩ : ∃ z9, z9 = u58 := ⟨_, rfl⟩
  have hP : va_P G.1 vwCl [(h0, .inr (0, [.ref q32, .ref q36, .ref q40, .ref q44, .ref q48, .ref q52, .null, .null, .null, .null, .int 0, .int 0, .int 0, .int 0])), (q32, .inr (8, [.int 10, .int 2, .ref ca35, .int 0])), (ca35, .inl (G.2.1, 20, .inl (fun _ => 0))), (q36, .inr (8, [.int 12, .int 6, .ref ca39, .int 0])), (ca39, .inl (G.2.1, 72, .inl (fun _ => 0))), (q40, .inr (8, [.int 24, .int 3, .ref ca43, .int 0])), (ca43, .inl (G.2.1, 72, .inl (fun _ => 0))), (q44, .inr (8, [.int 8, .int 3, .ref ca47, .int 0])), (ca47, .inl (G.2.1, 24, .inl (fun _ => 0))), (q48, .inr (8, [.int 72, .int 7, .ref ca51, .int 0])), (ca51, .inl (G.2.1, 504, .inl (fun _ => 0))), (q52, .inr (8, [.int 960, .int 1, .ref ca55, .int 0])), (ca55, .inl (G.2.1, 960, .inl (fun _ => 0))), (q56, .inr (8, [.int 16, .int 8, .ref ca59, .int 0])), (ca59, .inl (G.2.1, 128, .inl (fun _ => 0)))] H := hP
  have hD : va_D A [(h0, .inr (0, [.ref q32, .ref q36, .ref q40, .ref q44, .ref q48, .ref q52, .null, .null, .null, .null, .int 0, .int 0, .int 0, .int 0])), (q32, .inr (8, [.int 10, .int 2, .ref ca35, .int 0])), (ca35, .inl (G.2.1, 20, .inl (fun _ => 0))), (q36, .inr (8, [.int 12, .int 6, .ref ca39, .int 0])), (ca39, .inl (G.2.1, 72, .inl (fun _ => 0))), (q40, .inr (8, [.int 24, .int 3, .ref ca43, .int 0])), (ca43, .inl (G.2.1, 72, .inl (fun _ => 0))), (q44, .inr (8, [.int 8, .int 3, .ref ca47, .int 0])), (ca47, .inl (G.2.1, 24, .inl (fun _ => 0))), (q48, .inr (8, [.int 72, .int 7, .ref ca51, .int 0])), (ca51, .inl (G.2.1, 504, .inl (fun _ => 0))), (q52, .inr (8, [.int 960, .int 1, .ref ca55, .int 0])), (ca55, .inl (G.2.1, 960, .inl (fun _ => 0))), (q56, .inr (8, [.int 16, .int 8, .ref ca59, .int 0])), (ca59, .inl (G.2.1, 128, .inl (fun _ => 0)))] := hD
  refine Wcast (c1 := 14) (s1 := 1808) rfl rfl ?_
  refine pf_X0_35 hC rfl rfl hK hP hD hS 0 (ws' := [(h0, .inr (0, [.ref q32, .ref q36, .ref q40, .ref q44, .ref q48, .ref q52, .ref q56, .null, .null, .null, .int 0, .int 0, .int 0, .int 0])), (q32, .inr (8, [.int 10, .int 2, .ref ca35, .int 0])), (ca35, .inl (G.2.1, 20, .inl (fun _ => 0))), (q36, .inr (8, [.int 12, .int 6, .ref ca39, .int 0])), (ca39, .inl (G.2.1, 72, .inl (fun _ => 0))), (q40, .inr (8, [.int 24, .int 3, .ref ca43, .int 0])), (ca43, .inl (G.2.1, 72, .inl (fun _ => 0))), (q44, .inr (8, [.int 8, .int 3, .ref ca47, .int 0])), (ca47, .inl (G.2.1, 24, .inl (fun _ => 0))), (q48, .inr (8, [.int 72, .int 7, .ref ca51, .int 0])), (ca51, .inl (G.2.1, 504, .inl (fun _ => 0))), (q52, .inr (8, [.int 960, .int 1, .ref ca55, .int 0])), (ca55, .inl (G.2.1, 960, .inl (fun _ => 0))), (q56, .inr (8, [.int 16, .int 8, .ref ca59, .int 0])), (ca59, .inl (G.2.1, 128, .inl (fun _ => 0)))]) rfl (Nat.le_of_ble_eq_true rfl) rfl rfl rfl dX0_init_103 (fun H locs hP hD hS => ?_)
  refine lv_aload_n hx hb dX0_init_106 rfl (lv_at hl 0 rfl) ?_
  refine nw_X0_9 hC rfl hK hP hD hS hA (Nat.le_of_ble_eq_true rfl) (Nat.le_of_ble_eq_true rfl) dX0_init_107 (fun q60 H hP hD hS => ?_)
  have hP : va_P G.1 vwCl [(h0, .inr (0, [.ref q32, .ref q36, .ref q40, .ref q44, .ref q48, .ref q52, .ref q56, .null, .null, .null, .int 0, .int 0, .int 0, .int 0])), (q32, .inr (8, [.int 10, .int 2, .ref ca35, .int 0])), (ca35, .inl (G.2.1, 20, .inl (fun _ => 0))), (q36, .inr (8, [.int 12, .int 6, .ref ca39, .int 0])), (ca39, .inl (G.2.1, 72, .inl (fun _ => 0))), (q40, .inr (8, [.int 24, .int 3, .ref ca43, .int 0])), (ca43, .inl (G.2.1, 72, .inl (fun _ => 0))), (q44, .inr (8, [.int 8, .int 3, .ref ca47, .int 0])), (ca47, .inl (G.2.1, 24, .inl (fun _ => 0))), (q48, .inr (8, [.int 72, .int 7, .ref ca51, .int 0])), (ca51, .inl (G.2.1, 504, .inl (fun _ => 0))), (q52, .inr (8, [.int 960, .int 1, .ref ca55, .int 0])), (ca55, .inl (G.2.1, 960, .inl (fun _ => 0))), (q56, .inr (8, [.int 16, .int 8, .ref ca59, .int 0])), (ca59, .inl (G.2.1, 128, .inl (fun _ => 0))), (q60, .inr (8, [.int 0, .int 0, .null, .int 0]))] H := hP
  have hD : va_D A [(h0, .inr (0, [.ref q32, .ref q36, .ref q40, .ref q44, .ref q48, .ref q52, .ref q56, .null, .null, .null, .int 0, .int 0, .int 0, .int 0])), (q32, .inr (8, [.int 10, .int 2, .ref ca35, .int 0])), (ca35, .inl (G.2.1, 20, .inl (fun _ => 0))), (q36, .inr (8, [.int 12, .int 6, .ref ca39, .int 0])), (ca39, .inl (G.2.1, 72, .inl (fun _ => 0))), (q40, .inr (8, [.int 24, .int 3, .ref ca43, .int 0])), (ca43, .inl (G.2.1, 72, .inl (fun _ => 0))), (q44, .inr (8, [.int 8, .int 3, .ref ca47, .int 0])), (ca47, .inl (G.2.1, 24, .inl (fun _ => 0))), (q48, .inr (8, [.int 72, .int 7, .ref ca51, .int 0])), (ca51, .inl (G.2.1, 504, .inl (fun _ => 0))), (q52, .inr (8, [.int 960, .int 1, .ref ca55, .int 0])), (ca55, .inl (G.2.1, 960, .inl (fun _ => 0))), (q56, .inr (8, [.int 16, .int 8, .ref ca59, .int 0])), (ca59, .inl (G.2.1, 128, .inl (fun _ => 0))), (q60, .inr (8, [.int 0, .int 0, .null, .int 0]))] := hD
  refine Wcast (c1 := 15) (s1 := 1812) rfl rfl ?_
  refine lv_dup hx hb dX0_init_110 rfl ?_
  refine lv_bipush (v := 12) hx hb dX0_init_111 (by decide) ?_
  refine lv_iconst (v := 4) hx hb dX0_init_113 (by decide) ?_
  refine vI (wr := [(h0, .inr (0, [.ref q32, .ref q36, .ref q40, .ref q44, .ref q48, .ref q52, .ref q56, .null, .null, .null, .int 0, .int 0, .int 0, .int 0])), (q32, .inr (8, [.int 10, .int 2, .ref ca35, .int 0])), (ca35, .inl (G.2.1, 20, .inl (fun _ => 0))), (q36, .inr (8, [.int 12, .int 6, .ref ca39, .int 0])), (ca39, .inl (G.2.1, 72, .inl (fun _ => 0))), (q40, .inr (8, [.int 24, .int 3, .ref ca43, .int 0])), (ca43, .inl (G.2.1, 72, .inl (fun _ => 0))), (q44, .inr (8, [.int 8, .int 3, .ref ca47, .int 0])), (ca47, .inl (G.2.1, 24, .inl (fun _ => 0))), (q48, .inr (8, [.int 72, .int 7, .ref ca51, .int 0])), (ca51, .inl (G.2.1, 504, .inl (fun _ => 0))), (q52, .inr (8, [.int 960, .int 1, .ref ca55, .int 0])), (ca55, .inl (G.2.1, 960, .inl (fun _ => 0))), (q56, .inr (8, [.int 16, .int 8, .ref ca59, .int 0])), (ca59, .inl (G.2.1, 128, .inl (fun _ => 0)))]) hC hK hl hP hD hS hA (c_T_init_12_4 l G q60) si_X0_11 [15] [0, 1, 2, 3, 4, 5, 6, 7, 8, 9, 10, 11, 12, 13, 14] rfl rfl (by decide) rfl (by decide) (by decide) rfl rfl (Nat.le_of_ble_eq_true rfl) ⟨Nat.le_of_ble_eq_true rfl, Nat.le_of_ble_eq_true rfl⟩ ⟨by first | exact Nat.le_of_ble_eq_true rfl | omega, by first | exact Nat.le_of_ble_eq_true rfl | omega⟩ dX0_init_114 (fun u62 H locs hr61 hP hD hS => ?_)
  obtain ⟨ca63, rfl⟩ : ∃ z9, z9 = u62 := ⟨_, rfl⟩
  have hP : va_P G.1 vwCl [(h0, .inr (0, [.ref q32, .ref q36, .ref q40, .ref q44, .ref q48, .ref q52, .ref q56, .null, .null, .null, .int 0, .int 0, .int 0, .int 0])), (q32, .inr (8, [.int 10, .int 2, .ref ca35, .int 0])), (ca35, .inl (G.2.1, 20, .inl (fun _ => 0))), (q36, .inr (8, [.int 12, .int 6, .ref ca39, .int 0])), (ca39, .inl (G.2.1, 72, .inl (fun _ => 0))), (q40, .inr (8, [.int 24, .int 3, .ref ca43, .int 0])), (ca43, .inl (G.2.1, 72, .inl (fun _ => 0))), (q44, .inr (8, [.int 8, .int 3, .ref ca47, .int 0])), (ca47, .inl (G.2.1, 24, .inl (fun _ => 0))), (q48, .inr (8, [.int 72, .int 7, .ref ca51, .int 0])), (ca51, .inl (G.2.1, 504, .inl (fun _ => 0))), (q52, .inr (8, [.int 960, .int 1, .ref ca55, .int 0])), (ca55, .inl (G.2.1, 960, .inl (fun _ => 0))), (q56, .inr (8, [.int 16, .int 8, .ref ca59, .int 0])), (ca59, .inl (G.2.1, 128, .inl (fun _ => 0))), (q60, .inr (8, [.int 12, .int 4, .ref ca63, .int 0])), (ca63, .inl (G.2.1, 48, .inl (fun _ => 0)))] H := hP
  have hD : va_D A [(h0, .inr (0, [.ref q32, .ref q36, .ref q40, .ref q44, .ref q48, .ref q52, .ref q56, .null, .null, .null, .int 0, .int 0, .int 0, .int 0])), (q32, .inr (8, [.int 10, .int 2, .ref ca35, .int 0])), (ca35, .inl (G.2.1, 20, .inl (fun _ => 0))), (q36, .inr (8, [.int 12, .int 6, .ref ca39, .int 0])), (ca39, .inl (G.2.1, 72, .inl (fun _ => 0))), (q40, .inr (8, [.int 24, .int 3, .ref ca43, .int 0])), (ca43, .inl (G.2.1, 72, .inl (fun _ => 0))), (q44, .inr (8, [.int 8, .int 3, .ref ca47, .int 0])), (ca47, .inl (G.2.1, 24, .inl (fun _ => 0))), (q48, .inr (8, [.int 72, .int 7, .ref ca51, .int 0])), (ca51, .inl (G.2.1, 504, .inl (fun _ => 0))), (q52, .inr (8, [.int 960, .int 1, .ref ca55, .int 0])), (ca55, .inl (G.2.1, 960, .inl (fun _ => 0))), (q56, .inr (8, [.int 16, .int 8, .ref ca59, .int 0])), (ca59, .inl (G.2.1, 128, .inl (fun _ => 0))), (q60, .inr (8, [.int 12, .int 4, .ref ca63, .int 0])), (ca63, .inl (G.2.1, 48, .inl (fun _ => 0)))] := hD
  refine Wcast (c1 := 16) (s1 := 1860) rfl rfl ?_
  refine pf_X0_38 hC rfl rfl hK hP hD hS 0 (ws' := [(h0, .inr (0, [.ref q32, .ref q36, .ref q40, .ref q44, .ref q48, .ref q52, .ref q56, .ref q60, .null, .null, .int 0, .int 0, .int 0, .int 0])), (q32, .inr (8, [.int 10, .int 2, .ref ca35, .int 0])), (ca35, .inl (G.2.1, 20, .inl (fun _ => 0))), (q36, .inr (8, [.int 12, .int 6, .ref ca39, .int 0])), (ca39, .inl (G.2.1, 72, .inl (fun _ => 0))), (q40, .inr (8, [.int 24, .int 3, .ref ca43, .int 0])), (ca43, .inl (G.2.1, 72, .inl (fun _ => 0))), (q44, .inr (8, [.int 8, .int 3, .ref ca47, .int 0])), (ca47, .inl (G.2.1, 24, .inl (fun _ => 0))), (q48, .inr (8, [.int 72, .int 7, .ref ca51, .int 0])), (ca51, .inl (G.2.1, 504, .inl (fun _ => 0))), (q52, .inr (8, [.int 960, .int 1, .ref ca55, .int 0])), (ca55, .inl (G.2.1, 960, .inl (fun _ => 0))), (q56, .inr (8, [.int 16, .int 8, .ref ca59, .int 0])), (ca59, .inl (G.2.1, 128, .inl (fun _ => 0))), (q60, .inr (8, [.int 12, .int 4, .ref ca63, .int 0])), (ca63, .inl (G.2.1, 48, .inl (fun _ => 0)))]) rfl (Nat.le_of_ble_eq_true rfl) rfl rfl rfl dX0_init_117 (fun H locs hP hD hS => ?_)
  refine lv_aload_n hx hb dX0_init_120 rfl (lv_at hl 0 rfl) ?_
  refine nw_X0_9 hC rfl hK hP hD hS hA (Nat.le_of_ble_eq_true rfl) (Nat.le_of_ble_eq_true rfl) dX0_init_121 (fun q64 H hP hD hS => ?_)
  have hP : va_P G.1 vwCl [(h0, .inr (0, [.ref q32, .ref q36, .ref q40, .ref q44, .ref q48, .ref q52, .ref q56, .ref q60, .null, .null, .int 0, .int 0, .int 0, .int 0])), (q32, .inr (8, [.int 10, .int 2, .ref ca35, .int 0])), (ca35, .inl (G.2.1, 20, .inl (fun _ => 0))), (q36, .inr (8, [.int 12, .int 6, .ref ca39, .int 0])), (ca39, .inl (G.2.1, 72, .inl (fun _ => 0))), (q40, .inr (8, [.int 24, .int 3, .ref ca43, .int 0])), (ca43, .inl (G.2.1, 72, .inl (fun _ => 0))), (q44, .inr (8, [.int 8, .int 3, .ref ca47, .int 0])), (ca47, .inl (G.2.1, 24, .inl (fun _ => 0))), (q48, .inr (8, [.int 72, .int 7, .ref ca51, .int 0])), (ca51, .inl (G.2.1, 504, .inl (fun _ => 0))), (q52, .inr (8, [.int 960, .int 1, .ref ca55, .int 0])), (ca55, .inl (G.2.1, 960, .inl (fun _ => 0))), (q56, .inr (8, [.int 16, .int 8, .ref ca59, .int 0])), (ca59, .inl (G.2.1, 128, .inl (fun _ => 0))), (q60, .inr (8, [.int 12, .int 4, .ref ca63, .int 0])), (ca63, .inl (G.2.1, 48, .inl (fun _ => 0))), (q64, .inr (8, [.int 0, .int 0, .null, .int 0]))] H := hP
  have hD : va_D A [(h0, .inr (0, [.ref q32, .ref q36, .ref q40, .ref q44, .ref q48, .ref q52, .ref q56, .ref q60, .null, .null, .int 0, .int 0, .int 0, .int 0])), (q32, .inr (8, [.int 10, .int 2, .ref ca35, .int 0])), (ca35, .inl (G.2.1, 20, .inl (fun _ => 0))), (q36, .inr (8, [.int 12, .int 6, .ref ca39, .int 0])), (ca39, .inl (G.2.1, 72, .inl (fun _ => 0))), (q40, .inr (8, [.int 24, .int 3, .ref ca43, .int 0])), (ca43, .inl (G.2.1, 72, .inl (fun _ => 0))), (q44, .inr (8, [.int 8, .int 3, .ref ca47, .int 0])), (ca47, .inl (G.2.1, 24, .inl (fun _ => 0))), (q48, .inr (8, [.int 72, .int 7, .ref ca51, .int 0])), (ca51, .inl (G.2.1, 504, .inl (fun _ => 0))), (q52, .inr (8, [.int 960, .int 1, .ref ca55, .int 0])), (ca55, .inl (G.2.1, 960, .inl (fun _ => 0))), (q56, .inr (8, [.int 16, .int 8, .ref ca59, .int 0])), (ca59, .inl (G.2.1, 128, .inl (fun _ => 0))), (q60, .inr (8, [.int 12, .int 4, .ref ca63, .int 0])), (ca63, .inl (G.2.1, 48, .inl (fun _ => 0))), (q64, .inr (8, [.int 0, .int 0, .null, .int 0]))] := hD
  refine Wcast (c1 := 17) (s1 := 1864) rfl rfl ?_
  refine lv_dup hx hb dX0_init_124 rfl ?_
  refine lv_bipush (v := 16) hx hb dX0_init_125 (by decide) ?_
  refine lv_iconst (v := 3) hx hb dX0_init_127 (by decide) ?_
  refine vI (wr := [(h0, .inr (0, [.ref q32, .ref q36, .ref q40, .ref q44, .ref q48, .ref q52, .ref q56, .ref q60, .null, .null, .int 0, .int 0, .int 0, .int 0])), (q32, .inr (8, [.int 10, .int 2, .ref ca35, .int 0])), (ca35, .inl (G.2.1, 20, .inl (fun _ => 0))), (q36, .inr (8, [.int 12, .int 6, .ref ca39, .int 0])), (ca39, .inl (G.2.1, 72, .inl (fun _ => 0))), (q40, .inr (8, [.int 24, .int 3, .ref ca43, .int 0])), (ca43, .inl (G.2.1, 72, .inl (fun _ => 0))), (q44, .inr (8, [.int 8, .int 3, .ref ca47, .int 0])), (ca47, .inl (G.2.1, 24, .inl (fun _ => 0))), (q48, .inr (8, [.int 72, .int 7, .ref ca51, .int 0])), (ca51, .inl (G.2.1, 504, .inl (fun _ => 0))), (q52, .inr (8, [.int 960, .int 1, .ref ca55, .int 0])), (ca55, .inl (G.2.1, 960, .inl (fun _ => 0))), (q56, .inr (8, [.int 16, .int 8, .ref ca59, .int 0])), (ca59, .inl (G.2.1, 128, .inl (fun _ => 0))), (q60, .inr (8, [.int 12, .int 4, .ref ca63, .int 0])), (ca63, .inl (G.2.1, 48, .inl (fun _ => 0)))]) hC hK hl hP hD hS hA (c_T_init_16_3 l G q64) si_X0_11 [17] [0, 1, 2, 3, 4, 5, 6, 7, 8, 9, 10, 11, 12, 13, 14, 15, 16] rfl rfl (by decide) rfl (by decide) (by decide) rfl rfl (Nat.le_of_ble_eq_true rfl) ⟨Nat.le_of_ble_eq_true rfl, Nat.le_of_ble_eq_true rfl⟩ ⟨by first | exact Nat.le_of_ble_eq_true rfl | omega, by first | exact Nat.le_of_ble_eq_true rfl | omega⟩ dX0_init_128 (fun u66 H locs hr65 hP hD hS => ?_)
  obtain ⟨ca67, rfl⟩ : ∃ z9, z9 = u66 := ⟨_, rfl⟩
  have hP : va_P G.1 vwCl [(h0, .inr (0, [.ref q32, .ref q36, .ref q40, .ref q44, .ref q48, .ref q52, .ref q56, .ref q60, .null, .null, .int 0, .int 0, .int 0, .int 0])), (q32, .inr (8, [.int 10, .int 2, .ref ca35, .int 0])), (ca35, .inl (G.2.1, 20, .inl (fun _ => 0))), (q36, .inr (8, [.int 12, .int 6, .ref ca39, .int 0])), (ca39, .inl (G.2.1, 72, .inl (fun _ => 0))), (q40, .inr (8, [.int 24, .int 3, .ref ca43, .int 0])), (ca43, .inl (G.2.1, 72, .inl (fun _ => 0))), (q44, .inr (8, [.int 8, .int 3, .ref ca47, .int 0])), (ca47, .inl (G.2.1, 24, .inl (fun _ => 0))), (q48, .inr (8, [.int 72, .int 7, .ref ca51, .int 0])), (ca51, .inl (G.2.1, 504, .inl (fun _ => 0))), (q52, .inr (8, [.int 960, .int 1, .ref ca55, .int 0])), (ca55, .inl (G.2.1, 960, .inl (fun _ => 0))), (q56, .inr (8, [.int 16, .int 8, .ref ca59, .int 0])), (ca59, .inl (G.2.1, 128, .inl (fun _ => 0))), (q60, .inr (8, [.int 12, .int 4, .ref ca63, .int 0])), (ca63, .inl (G.2.1, 48, .inl (fun _ => 0))), (q64, .inr (8, [.int 16, .int 3, .ref ca67, .int 0])), (ca67, .inl (G.2.1, 48, .inl (fun _ => 0)))] H := hP
  have hD : va_D A [(h0, .inr (0, [.ref q32, .ref q36, .ref q40, .ref q44, .ref q48, .ref q52, .ref q56, .ref q60, .null, .null, .int 0, .int 0, .int 0, .int 0])), (q32, .inr (8, [.int 10, .int 2, .ref ca35, .int 0])), (ca35, .inl (G.2.1, 20, .inl (fun _ => 0))), (q36, .inr (8, [.int 12, .int 6, .ref ca39, .int 0])), (ca39, .inl (G.2.1, 72, .inl (fun _ => 0))), (q40, .inr (8, [.int 24, .int 3, .ref ca43, .int 0])), (ca43, .inl (G.2.1, 72, .inl (fun _ => 0))), (q44, .inr (8, [.int 8, .int 3, .ref ca47, .int 0])), (ca47, .inl (G.2.1, 24, .inl (fun _ => 0))), (q48, .inr (8, [.int 72, .int 7, .ref ca51, .int 0])), (ca51, .inl (G.2.1, 504, .inl (fun _ => 0))), (q52, .inr (8, [.int 960, .int 1, .ref ca55, .int 0])), (ca55, .inl (G.2.1, 960, .inl (fun _ => 0))), (q56, .inr (8, [.int 16, .int 8, .ref ca59, .int 0])), (ca59, .inl (G.2.1, 128, .inl (fun _ => 0))), (q60, .inr (8, [.int 12, .int 4, .ref ca63, .int 0])), (ca63, .inl (G.2.1, 48, .inl (fun _ => 0))), (q64, .inr (8, [.int 16, .int 3, .ref ca67, .int 0])), (ca67, .inl (G.2.1, 48, .inl (fun _ => 0)))] := hD
  refine Wcast (c1 := 18) (s1 := 1912) rfl rfl ?_
  refine pf_X0_41 hC rfl rfl hK hP hD hS 0 (ws' := [(h0, .inr (0, [.ref q32, .ref q36, .ref q40, .ref q44, .ref q48, .ref q52, .ref q56, .ref q60, .ref q64, .null, .int 0, .int 0, .int 0, .int 0])), (q32, .inr (8, [.int 10, .int 2, .ref ca35, .int 0])), (ca35, .inl (G.2.1, 20, .inl (fun _ => 0))), (q36, .inr (8, [.int 12, .int 6, .ref ca39, .int 0])), (ca39, .inl (G.2.1, 72, .inl (fun _ => 0))), (q40, .inr (8, [.int 24, .int 3, .ref ca43, .int 0])), (ca43, .inl (G.2.1, 72, .inl (fun _ => 0))), (q44, .inr (8, [.int 8, .int 3, .ref ca47, .int 0])), (ca47, .inl (G.2.1, 24, .inl (fun _ => 0))), (q48, .inr (8, [.int 72, .int 7, .ref ca51, .int 0])), (ca51, .inl (G.2.1, 504, .inl (fun _ => 0))), (q52, .inr (8, [.int 960, .int 1, .ref ca55, .int 0])), (ca55, .inl (G.2.1, 960, .inl (fun _ => 0))), (q56, .inr (8, [.int 16, .int 8, .ref ca59, .int 0])), (ca59, .inl (G.2.1, 128, .inl (fun _ => 0))), (q60, .inr (8, [.int 12, .int 4, .ref ca63, .int 0])), (ca63, .inl (G.2.1, 48, .inl (fun _ => 0))), (q64, .inr (8, [.int 16, .int 3, .ref ca67, .int 0])), (ca67, .inl (G.2.1, 48, .inl (fun _ => 0)))]) rfl (Nat.le_of_ble_eq_true rfl) rfl rfl rfl dX0_init_131 (fun H locs hP hD hS => ?_)
  refine lv_aload_n hx hb dX0_init_134 rfl (lv_at hl 0 rfl) ?_
  refine nw_X0_9 hC rfl hK hP hD hS hA (Nat.le_of_ble_eq_true rfl) (Nat.le_of_ble_eq_true rfl) dX0_init_135 (fun q68 H hP hD hS => ?_)
  have hP : va_P G.1 vwCl [(h0, .inr (0, [.ref q32, .ref q36, .ref q40, .ref q44, .ref q48, .ref q52, .ref q56, .ref q60, .ref q64, .null, .int 0, .int 0, .int 0, .int 0])), (q32, .inr (8, [.int 10, .int 2, .ref ca35, .int 0])), (ca35, .inl (G.2.1, 20, .inl (fun _ => 0))), (q36, .inr (8, [.int 12, .int 6, .ref ca39, .int 0])), (ca39, .inl (G.2.1, 72, .inl (fun _ => 0))), (q40, .inr (8, [.int 24, .int 3, .ref ca43, .int 0])), (ca43, .inl (G.2.1, 72, .inl (fun _ => 0))), (q44, .inr (8, [.int 8, .int 3, .ref ca47, .int 0])), (ca47, .inl (G.2.1, 24, .inl (fun _ => 0))), (q48, .inr (8, [.int 72, .int 7, .ref ca51, .int 0])), (ca51, .inl (G.2.1, 504, .inl (fun _ => 0))), (q52, .inr (8, [.int 960, .int 1, .ref ca55, .int 0])), (ca55, .inl (G.2.1, 960, .inl (fun _ => 0))), (q56, .inr (8, [.int 16, .int 8, .ref ca59, .int 0])), (ca59, .inl (G.2.1, 128, .inl (fun _ => 0))), (q60, .inr (8, [.int 12, .int 4, .ref ca63, .int 0])), (ca63, .inl (G.2.1, 48, .inl (fun _ => 0))), (q64, .inr (8, [.int 16, .int 3, .ref ca67, .int 0])), (ca67, .inl (G.2.1, 48, .inl (fun _ => 0))), (q68, .inr (8, [.int 0, .int 0, .null, .int 0]))] H := hP
  have hD : va_D A [(h0, .inr (0, [.ref q32, .ref q36, .ref q40, .ref q44, .ref q48, .ref q52, .ref q56, .ref q60, .ref q64, .null, .int 0, .int 0, .int 0, .int 0])), (q32, .inr (8, [.int 10, .int 2, .ref ca35, .int 0])), (ca35, .inl (G.2.1, 20, .inl (fun _ => 0))), (q36, .inr (8, [.int 12, .int 6, .ref ca39, .int 0])), (ca39, .inl (G.2.1, 72, .inl (fun _ => 0))), (q40, .inr (8, [.int 24, .int 3, .ref ca43, .int 0])), (ca43, .inl (G.2.1, 72, .inl (fun _ => 0))), (q44, .inr (8, [.int 8, .int 3, .ref ca47, .int 0])), (ca47, .inl (G.2.1, 24, .inl (fun _ => 0))), (q48, .inr (8, [.int 72, .int 7, .ref ca51, .int 0])), (ca51, .inl (G.2.1, 504, .inl (fun _ => 0))), (q52, .inr (8, [.int 960, .int 1, .ref ca55, .int 0])), (ca55, .inl (G.2.1, 960, .inl (fun _ => 0))), (q56, .inr (8, [.int 16, .int 8, .ref ca59, .int 0])), (ca59, .inl (G.2.1, 128, .inl (fun _ => 0))), (q60, .inr (8, [.int 12, .int 4, .ref ca63, .int 0])), (ca63, .inl (G.2.1, 48, .inl (fun _ => 0))), (q64, .inr (8, [.int 16, .int 3, .ref ca67, .int 0])), (ca67, .inl (G.2.1, 48, .inl (fun _ => 0))), (q68, .inr (8, [.int 0, .int 0, .null, .int 0]))] := hD
  refine Wcast (c1 := 19) (s1 := 1916) rfl rfl ?_
  refine lv_dup hx hb dX0_init_138 rfl ?_
  refine lv_bipush (v := 7) hx hb dX0_init_139 (by decide) ?_
  refine lv_iconst (v := 2) hx hb dX0_init_141 (by decide) ?_
  refine vI (wr := [(h0, .inr (0, [.ref q32, .ref q36, .ref q40, .ref q44, .ref q48, .ref q52, .ref q56, .ref q60, .ref q64, .null, .int 0, .int 0, .int 0, .int 0])), (q32, .inr (8, [.int 10, .int 2, .ref ca35, .int 0])), (ca35, .inl (G.2.1, 20, .inl (fun _ => 0))), (q36, .inr (8, [.int 12, .int 6, .ref ca39, .int 0])), (ca39, .inl (G.2.1, 72, .inl (fun _ => 0))), (q40, .inr (8, [.int 24, .int 3, .ref ca43, .int 0])), (ca43, .inl (G.2.1, 72, .inl (fun _ => 0))), (q44, .inr (8, [.int 8, .int 3, .ref ca47, .int 0])), (ca47, .inl (G.2.1, 24, .inl (fun _ => 0))), (q48, .inr (8, [.int 72, .int 7, .ref ca51, .int 0])), (ca51, .inl (G.2.1, 504, .inl (fun _ => 0))), (q52, .inr (8, [.int 960, .int 1, .ref ca55, .int 0])), (ca55, .inl (G.2.1, 960, .inl (fun _ => 0))), (q56, .inr (8, [.int 16, .int 8, .ref ca59, .int 0])), (ca59, .inl (G.2.1, 128, .inl (fun _ => 0))), (q60, .inr (8, [.int 12, .int 4, .ref ca63, .int 0])), (ca63, .inl (G.2.1, 48, .inl (fun _ => 0))), (q64, .inr (8, [.int 16, .int 3, .ref ca67, .int 0])), (ca67, .inl (G.2.1, 48, .inl (fun _ => 0)))]) hC hK hl hP hD hS hA (c_T_init_7_2 l G q68) si_X0_11 [19] [0, 1, 2, 3, 4, 5, 6, 7, 8, 9, 10, 11, 12, 13, 14, 15, 16, 17, 18] rfl rfl (by decide) rfl (by decide) (by decide) rfl rfl (Nat.le_of_ble_eq_true rfl) ⟨Nat.le_of_ble_eq_true rfl, Nat.le_of_ble_eq_true rfl⟩ ⟨by first | exact Nat.le_of_ble_eq_true rfl | omega, by first | exact Nat.le_of_ble_eq_true rfl | omega⟩ dX0_init_142 (fun u70 H locs hr69 hP hD hS => ?_)
  obtain ⟨ca71, rfl⟩ : ∃ z9, z9 = u70 := ⟨_, rfl⟩
  have hP : va_P G.1 vwCl [(h0, .inr (0, [.ref q32, .ref q36, .ref q40, .ref q44, .ref q48, .ref q52, .ref q56, .ref q60, .ref q64, .null, .int 0, .int 0, .int 0, .int 0])), (q32, .inr (8, [.int 10, .int 2, .ref ca35, .int 0])), (ca35, .inl (G.2.1, 20, .inl (fun _ => 0))), (q36, .inr (8, [.int 12, .int 6, .ref ca39, .int 0])), (ca39, .inl (G.2.1, 72, .inl (fun _ => 0))), (q40, .inr (8, [.int 24, .int 3, .ref ca43, .int 0])), (ca43, .inl (G.2.1, 72, .inl (fun _ => 0))), (q44, .inr (8, [.int 8, .int 3, .ref ca47, .int 0])), (ca47, .inl (G.2.1, 24, .inl (fun _ => 0))), (q48, .inr (8, [.int 72, .int 7, .ref ca51, .int 0])), (ca51, .inl (G.2.1, 504, .inl (fun _ => 0))), (q52, .inr (8, [.int 960, .int 1, .ref ca55, .int 0])), (ca55, .inl (G.2.1, 960, .inl (fun _ => 0))), (q56, .inr (8, [.int 16, .int 8, .ref ca59, .int 0])), (ca59, .inl (G.2.1, 128, .inl (fun _ => 0))), (q60, .inr (8, [.int 12, .int 4, .ref ca63, .int 0])), (ca63, .inl (G.2.1, 48, .inl (fun _ => 0))), (q64, .inr (8, [.int 16, .int 3, .ref ca67, .int 0])), (ca67, .inl (G.2.1, 48, .inl (fun _ => 0))), (q68, .inr (8, [.int 7, .int 2, .ref ca71, .int 0])), (ca71, .inl (G.2.1, 14, .inl (fun _ => 0)))] H := hP
  have hD : va_D A [(h0, .inr (0, [.ref q32, .ref q36, .ref q40, .ref q44, .ref q48, .ref q52, .ref q56, .ref q60, .ref q64, .null, .int 0, .int 0, .int 0, .int 0])), (q32, .inr (8, [.int 10, .int 2, .ref ca35, .int 0])), (ca35, .inl (G.2.1, 20, .inl (fun _ => 0))), (q36, .inr (8, [.int 12, .int 6, .ref ca39, .int 0])), (ca39, .inl (G.2.1, 72, .inl (fun _ => 0))), (q40, .inr (8, [.int 24, .int 3, .ref ca43, .int 0])), (ca43, .inl (G.2.1, 72, .inl (fun _ => 0))), (q44, .inr (8, [.int 8, .int 3, .ref ca47, .int 0])), (ca47, .inl (G.2.1, 24, .inl (fun _ => 0))), (q48, .inr (8, [.int 72, .int 7, .ref ca51, .int 0])), (ca51, .inl (G.2.1, 504, .inl (fun _ => 0))), (q52, .inr (8, [.int 960, .int 1, .ref ca55, .int 0])), (ca55, .inl (G.2.1, 960, .inl (fun _ => 0))), (q56, .inr (8, [.int 16, .int 8, .ref ca59, .int 0])), (ca59, .inl (G.2.1, 128, .inl (fun _ => 0))), (q60, .inr (8, [.int 12, .int 4, .ref ca63, .int 0])), (ca63, .inl (G.2.1, 48, .inl (fun _ => 0))), (q64, .inr (8, [.int 16, .int 3, .ref ca67, .int 0])), (ca67, .inl (G.2.1, 48, .inl (fun _ => 0))), (q68, .inr (8, [.int 7, .int 2, .ref ca71, .int 0])), (ca71, .inl (G.2.1, 14, .inl (fun _ => 0)))] := hD
  refine Wcast (c1 := 20) (s1 := 1930) rfl rfl ?_
  refine pf_X0_44 hC rfl rfl hK hP hD hS 0 (ws' := [(h0, .inr (0, [.ref q32, .ref q36, .ref q40, .ref q44, .ref q48, .ref q52, .ref q56, .ref q60, .ref q64, .ref q68, .int 0, .int 0, .int 0, .int 0])), (q32, .inr (8, [.int 10, .int 2, .ref ca35, .int 0])), (ca35, .inl (G.2.1, 20, .inl (fun _ => 0))), (q36, .inr (8, [.int 12, .int 6, .ref ca39, .int 0])), (ca39, .inl (G.2.1, 72, .inl (fun _ => 0))), (q40, .inr (8, [.int 24, .int 3, .ref ca43, .int 0])), (ca43, .inl (G.2.1, 72, .inl (fun _ => 0))), (q44, .inr (8, [.int 8, .int 3, .ref ca47, .int 0])), (ca47, .inl (G.2.1, 24, .inl (fun _ => 0))), (q48, .inr (8, [.int 72, .int 7, .ref ca51, .int 0])), (ca51, .inl (G.2.1, 504, .inl (fun _ => 0))), (q52, .inr (8, [.int 960, .int 1, .ref ca55, .int 0])), (ca55, .inl (G.2.1, 960, .inl (fun _ => 0))), (q56, .inr (8, [.int 16, .int 8, .ref ca59, .int 0])), (ca59, .inl (G.2.1, 128, .inl (fun _ => 0))), (q60, .inr (8, [.int 12, .int 4, .ref ca63, .int 0])), (ca63, .inl (G.2.1, 48, .inl (fun _ => 0))), (q64, .inr (8, [.int 16, .int 3, .ref ca67, .int 0])), (ca67, .inl (G.2.1, 48, .inl (fun _ => 0))), (q68, .inr (8, [.int 7, .int 2, .ref ca71, .int 0])), (ca71, .inl (G.2.1, 14, .inl (fun _ => 0)))]) rfl (Nat.le_of_ble_eq_true rfl) rfl rfl rfl dX0_init_145 (fun H locs hP hD hS => ?_)
  refine lv_aload_n hx hb dX0_init_148 rfl (lv_at hl 0 rfl) ?_
  refine lv_iconst (v := 0) hx hb dX0_init_149 (by decide) ?_
  refine pf_X0_47 hC rfl hK hP hD hS 0 (ws' := [(h0, .inr (0, [.ref q32, .ref q36, .ref q40, .ref q44, .ref q48, .ref q52, .ref q56, .ref q60, .ref q64, .ref q68, .int 0, .int 0, .int 0, .int 0])), (q32, .inr (8, [.int 10, .int 2, .ref ca35, .int 0])), (ca35, .inl (G.2.1, 20, .inl (fun _ => 0))), (q36, .inr (8, [.int 12, .int 6, .ref ca39, .int 0])), (ca39, .inl (G.2.1, 72, .inl (fun _ => 0))), (q40, .inr (8, [.int 24, .int 3, .ref ca43, .int 0])), (ca43, .inl (G.2.1, 72, .inl (fun _ => 0))), (q44, .inr (8, [.int 8, .int 3, .ref ca47, .int 0])), (ca47, .inl (G.2.1, 24, .inl (fun _ => 0))), (q48, .inr (8, [.int 72, .int 7, .ref ca51, .int 0])), (ca51, .inl (G.2.1, 504, .inl (fun _ => 0))), (q52, .inr (8, [.int 960, .int 1, .ref ca55, .int 0])), (ca55, .inl (G.2.1, 960, .inl (fun _ => 0))), (q56, .inr (8, [.int 16, .int 8, .ref ca59, .int 0])), (ca59, .inl (G.2.1, 128, .inl (fun _ => 0))), (q60, .inr (8, [.int 12, .int 4, .ref ca63, .int 0])), (ca63, .inl (G.2.1, 48, .inl (fun _ => 0))), (q64, .inr (8, [.int 16, .int 3, .ref ca67, .int 0])), (ca67, .inl (G.2.1, 48, .inl (fun _ => 0))), (q68, .inr (8, [.int 7, .int 2, .ref ca71, .int 0])), (ca71, .inl (G.2.1, 14, .inl (fun _ => 0)))]) rfl (Nat.le_of_ble_eq_true rfl) rfl rfl rfl dX0_init_150 (fun H locs hP hD hS => ?_)
  refine lv_aload_n hx hb dX0_init_153 rfl (lv_at hl 0 rfl) ?_
  refine lv_iconst (v := (-1)) hx hb dX0_init_154 (by decide) ?_
  refine pf_X0_51 hC rfl hK hP hD hS 0 (ws' := [(h0, .inr (0, [.ref q32, .ref q36, .ref q40, .ref q44, .ref q48, .ref q52, .ref q56, .ref q60, .ref q64, .ref q68, .int 0, .int (-1), .int 0, .int 0])), (q32, .inr (8, [.int 10, .int 2, .ref ca35, .int 0])), (ca35, .inl (G.2.1, 20, .inl (fun _ => 0))), (q36, .inr (8, [.int 12, .int 6, .ref ca39, .int 0])), (ca39, .inl (G.2.1, 72, .inl (fun _ => 0))), (q40, .inr (8, [.int 24, .int 3, .ref ca43, .int 0])), (ca43, .inl (G.2.1, 72, .inl (fun _ => 0))), (q44, .inr (8, [.int 8, .int 3, .ref ca47, .int 0])), (ca47, .inl (G.2.1, 24, .inl (fun _ => 0))), (q48, .inr (8, [.int 72, .int 7, .ref ca51, .int 0])), (ca51, .inl (G.2.1, 504, .inl (fun _ => 0))), (q52, .inr (8, [.int 960, .int 1, .ref ca55, .int 0])), (ca55, .inl (G.2.1, 960, .inl (fun _ => 0))), (q56, .inr (8, [.int 16, .int 8, .ref ca59, .int 0])), (ca59, .inl (G.2.1, 128, .inl (fun _ => 0))), (q60, .inr (8, [.int 12, .int 4, .ref ca63, .int 0])), (ca63, .inl (G.2.1, 48, .inl (fun _ => 0))), (q64, .inr (8, [.int 16, .int 3, .ref ca67, .int 0])), (ca67, .inl (G.2.1, 48, .inl (fun _ => 0))), (q68, .inr (8, [.int 7, .int 2, .ref ca71, .int 0])), (ca71, .inl (G.2.1, 14, .inl (fun _ => 0)))]) rfl (Nat.le_of_ble_eq_true rfl) rfl rfl rfl dX0_init_155 (fun H locs hP hD hS => ?_)
  refine lv_aload_n hx hb dX0_init_158 rfl (lv_at hl 0 rfl) ?_
  refine lv_iconst (v := 3) hx hb dX0_init_159 (by decide) ?_
  refine pf_X0_54 hC rfl hK hP hD hS 0 (ws' := [(h0, .inr (0, [.ref q32, .ref q36, .ref q40, .ref q44, .ref q48, .ref q52, .ref q56, .ref q60, .ref q64, .ref q68, .int 0, .int (-1), .int 3, .int 0])), (q32, .inr (8, [.int 10, .int 2, .ref ca35, .int 0])), (ca35, .inl (G.2.1, 20, .inl (fun _ => 0))), (q36, .inr (8, [.int 12, .int 6, .ref ca39, .int 0])), (ca39, .inl (G.2.1, 72, .inl (fun _ => 0))), (q40, .inr (8, [.int 24, .int 3, .ref ca43, .int 0])), (ca43, .inl (G.2.1, 72, .inl (fun _ => 0))), (q44, .inr (8, [.int 8, .int 3, .ref ca47, .int 0])), (ca47, .inl (G.2.1, 24, .inl (fun _ => 0))), (q48, .inr (8, [.int 72, .int 7, .ref ca51, .int 0])), (ca51, .inl (G.2.1, 504, .inl (fun _ => 0))), (q52, .inr (8, [.int 960, .int 1, .ref ca55, .int 0])), (ca55, .inl (G.2.1, 960, .inl (fun _ => 0))), (q56, .inr (8, [.int 16, .int 8, .ref ca59, .int 0])), (ca59, .inl (G.2.1, 128, .inl (fun _ => 0))), (q60, .inr (8, [.int 12, .int 4, .ref ca63, .int 0])), (ca63, .inl (G.2.1, 48, .inl (fun _ => 0))), (q64, .inr (8, [.int 16, .int 3, .ref ca67, .int 0])), (ca67, .inl (G.2.1, 48, .inl (fun _ => 0))), (q68, .inr (8, [.int 7, .int 2, .ref ca71, .int 0])), (ca71, .inl (G.2.1, 14, .inl (fun _ => 0)))]) rfl (Nat.le_of_ble_eq_true rfl) rfl rfl rfl dX0_init_160 (fun H locs hP hD hS => ?_)
  refine lv_aload_n hx hb dX0_init_163 rfl (lv_at hl 0 rfl) ?_
  refine lv_bipush (v := 24) hx hb dX0_init_164 (by decide) ?_
  refine pf_X0_57 hC rfl hK hP hD hS 0 (ws' := [(h0, .inr (0, [.ref q32, .ref q36, .ref q40, .ref q44, .ref q48, .ref q52, .ref q56, .ref q60, .ref q64, .ref q68, .int 0, .int (-1), .int 3, .int 24])), (q32, .inr (8, [.int 10, .int 2, .ref ca35, .int 0])), (ca35, .inl (G.2.1, 20, .inl (fun _ => 0))), (q36, .inr (8, [.int 12, .int 6, .ref ca39, .int 0])), (ca39, .inl (G.2.1, 72, .inl (fun _ => 0))), (q40, .inr (8, [.int 24, .int 3, .ref ca43, .int 0])), (ca43, .inl (G.2.1, 72, .inl (fun _ => 0))), (q44, .inr (8, [.int 8, .int 3, .ref ca47, .int 0])), (ca47, .inl (G.2.1, 24, .inl (fun _ => 0))), (q48, .inr (8, [.int 72, .int 7, .ref ca51, .int 0])), (ca51, .inl (G.2.1, 504, .inl (fun _ => 0))), (q52, .inr (8, [.int 960, .int 1, .ref ca55, .int 0])), (ca55, .inl (G.2.1, 960, .inl (fun _ => 0))), (q56, .inr (8, [.int 16, .int 8, .ref ca59, .int 0])), (ca59, .inl (G.2.1, 128, .inl (fun _ => 0))), (q60, .inr (8, [.int 12, .int 4, .ref ca63, .int 0])), (ca63, .inl (G.2.1, 48, .inl (fun _ => 0))), (q64, .inr (8, [.int 16, .int 3, .ref ca67, .int 0])), (ca67, .inl (G.2.1, 48, .inl (fun _ => 0))), (q68, .inr (8, [.int 7, .int 2, .ref ca71, .int 0])), (ca71, .inl (G.2.1, 14, .inl (fun _ => 0)))]) rfl (Nat.le_of_ble_eq_true rfl) rfl rfl rfl dX0_init_166 (fun H locs hP hD hS => ?_)
  exact RV hC hP hD hS [0, 1, 2, 3, 4, 5, 6, 7, 8, 9, 10, 11, 12, 13, 14, 15, 16, 17, 18, 19, 20] (fun k9 => ([q32, ca35, q36, ca39, q40, ca43, q44, ca47, q48, ca51, q52, ca55, q56, ca59, q60, ca63, q64, ca67, q68, ca71] : List Nat).getD k9 0) rfl rfl (by decide) (trivial) dX0_init_169
set_option maxHeartbeats 4000000 in
set_option maxRecDepth 100000 in
theorem c_Cl_init (l : Launch) (G : GG) (h0 : Nat) : MV l G yX1_init cX1_init 1 2 1 36 [.ref h0] [(h0, .inr (1, [.null]))] (fun u : Nat => True) (fun u : Nat => [(h0, .inr (1, [.ref u])), (u, .inl (G.2.1, 36, .inl (fun _ => 0)))]) := by
  refine MV.start (by decide +kernel) (Nat.le_of_ble_eq_true rfl) ?_
  intro p e s m below meth c A ls hC hK hP hD hS hA hl
  have hl : lv_has ls 1 [(0, .ref h0)] := hl
  obtain ⟨hx, hb, hr, hml, hB, hown, hlocks, hnm⟩ := id hC
  refine lv_aload_n hx hb dX1_init_0 rfl (lv_at hl 0 rfl) ?_
  refine W.objInit hx hb hown (hB _ m_102) (hB _ m_11) (hB _ m_12) rfl (by rw [hml]; exact hl.1) rfl dX1_init_1 (Nat.le_of_ble_eq_true rfl) (Nat.le_of_ble_eq_true rfl) ?_
  refine W.eq (g2 := F0 m 4 ls []) rfl ?_
  refine lv_aload_n hx hb dX1_init_4 rfl (lv_at hl 0 rfl) ?_
  refine lv_bipush (v := 36) hx hb dX1_init_5 (by decide) ?_
  refine newI hC hK hP hD hS hA m_81 (by decide) (N := 36) (by decide +kernel) (Nat.le_of_ble_eq_true rfl) (by decide) (Nat.le_of_ble_eq_true rfl) dX1_init_7 (fun q72 H hP hD hS => ?_)
  have hP : va_P G.1 vwCl [(h0, .inr (1, [.null])), (q72, .inl (G.2.1, 36, .inl (fun _ => 0)))] H := hP
  have hD : va_D A [(h0, .inr (1, [.null])), (q72, .inl (G.2.1, 36, .inl (fun _ => 0)))] := hD
  refine Wcast (c1 := 1) (s1 := 36) rfl rfl ?_
  refine pf_X1_9 hC rfl rfl hK hP hD hS 0 (ws' := [(h0, .inr (1, [.ref q72])), (q72, .inl (G.2.1, 36, .inl (fun _ => 0)))]) rfl (Nat.le_of_ble_eq_true rfl) rfl rfl rfl dX1_init_9 (fun H locs hP hD hS => ?_)
  exact RV hC hP hD hS [0, 1] q72 rfl rfl (by decide) (trivial) dX1_init_12
set_option maxHeartbeats 4000000 in
set_option maxRecDepth 100000 in
/-- Sight() -/
theorem c_S_init (l : Launch) (G : GG) (h0 : Nat) (bk : Nat) : MV l G yX7_init cX7_init 2 3 8 109 [.ref h0, .ref bk] [(h0, .inr (7, [.null, .null, .null, .null, .null, .null, .null, .null, .int 0]))] (fun u : (Nat → Nat) => True) (fun u : (Nat → Nat) => [(h0, .inr (7, [.ref bk, .ref (u 0), .ref (u 2), .ref (u 3), .ref (u 4), .ref (u 5), .ref (u 6), .ref (u 7), .int 0])), ((u 0), .inr (1, [.ref (u 1)])), ((u 1), .inl (G.2.1, 36, .inl (fun _ => 0))), ((u 2), .inl (G.2.1, 12, .inl (fun _ => 0))), ((u 3), .inl (G.2.1, 12, .inl (fun _ => 0))), ((u 4), .inl (G.2.1, 12, .inl (fun _ => 0))), ((u 5), .inl (G.2.1, 12, .inl (fun _ => 0))), ((u 6), .inl (G.2.1, 12, .inl (fun _ => 0))), ((u 7), .inl (G.2.1, 12, .inl (fun _ => 0)))]) := by
  refine MV.start (by decide +kernel) (Nat.le_of_ble_eq_true rfl) ?_
  intro p e s m below meth c A ls hC hK hP hD hS hA hl
  have hl : lv_has ls 2 [(0, .ref h0), (1, .ref bk)] := hl
  obtain ⟨hx, hb, hr, hml, hB, hown, hlocks, hnm⟩ := id hC
  refine lv_aload_n hx hb dX7_init_0 rfl (lv_at hl 0 rfl) ?_
  refine W.objInit hx hb hown (hB _ m_87) (hB _ m_11) (hB _ m_12) rfl (by rw [hml]; exact hl.1) rfl dX7_init_1 (Nat.le_of_ble_eq_true rfl) (Nat.le_of_ble_eq_true rfl) ?_
  refine W.eq (g2 := F0 m 4 ls []) rfl ?_
  refine lv_aload_n hx hb dX7_init_4 rfl (lv_at hl 0 rfl) ?_
  refine nw_X7_9 hC rfl hK hP hD hS hA (Nat.le_of_ble_eq_true rfl) (Nat.le_of_ble_eq_true rfl) dX7_init_5 (fun q73 H hP hD hS => ?_)
  have hP : va_P G.1 vwCl [(h0, .inr (7, [.null, .null, .null, .null, .null, .null, .null, .null, .int 0])), (q73, .inr (1, [.null]))] H := hP
  have hD : va_D A [(h0, .inr (7, [.null, .null, .null, .null, .null, .null, .null, .null, .int 0])), (q73, .inr (1, [.null]))] := hD
  refine Wcast (c1 := 1) (s1 := 1) rfl rfl ?_
  refine lv_dup hx hb dX7_init_8 rfl ?_
  refine vIN (wr := [(h0, .inr (7, [.null, .null, .null, .null, .null, .null, .null, .null, .int 0]))]) hC hK hl hP hD hS hA (c_Cl_init l G q73) si_X7_11 [1] [0] rfl rfl (by decide) rfl (by decide) (by decide) rfl rfl (Nat.le_of_ble_eq_true rfl) ⟨Nat.le_of_ble_eq_true rfl, Nat.le_of_ble_eq_true rfl⟩ ⟨by first | exact Nat.le_of_ble_eq_true rfl | omega, by first | exact Nat.le_of_ble_eq_true rfl | omega⟩ dX7_init_9 (fun u75 H locs hr74 hP hD hS => ?_)
  obtain ⟨ca76, rfl⟩ : ∃ z9, z9 = u75 := ⟨_, rfl⟩
  have hP : va_P G.1 vwCl [(h0, .inr (7, [.null, .null, .null, .null, .null, .null, .null, .null, .int 0])), (q73, .inr (1, [.ref ca76])), (ca76, .inl (G.2.1, 36, .inl (fun _ => 0)))] H := hP
  have hD : va_D A [(h0, .inr (7, [.null, .null, .null, .null, .null, .null, .null, .null, .int 0])), (q73, .inr (1, [.ref ca76])), (ca76, .inl (G.2.1, 36, .inl (fun _ => 0)))] := hD
  refine Wcast (c1 := 2) (s1 := 37) rfl rfl ?_
  refine pf_X7_12 hC rfl rfl hK hP hD hS 0 (ws' := [(h0, .inr (7, [.null, .ref q73, .null, .null, .null, .null, .null, .null, .int 0])), (q73, .inr (1, [.ref ca76])), (ca76, .inl (G.2.1, 36, .inl (fun _ => 0)))]) rfl (Nat.le_of_ble_eq_true rfl) rfl rfl rfl dX7_init_12 (fun H locs hP hD hS => ?_)
  refine lv_aload_n hx hb dX7_init_15 rfl (lv_at hl 0 rfl) ?_
  refine lv_bipush (v := 12) hx hb dX7_init_16 (by decide) ?_
  refine newI hC hK hP hD hS hA m_81 (by decide) (N := 12) (by decide +kernel) (Nat.le_of_ble_eq_true rfl) (by decide) (Nat.le_of_ble_eq_true rfl) dX7_init_18 (fun q77 H hP hD hS => ?_)
  have hP : va_P G.1 vwCl [(h0, .inr (7, [.null, .ref q73, .null, .null, .null, .null, .null, .null, .int 0])), (q73, .inr (1, [.ref ca76])), (ca76, .inl (G.2.1, 36, .inl (fun _ => 0))), (q77, .inl (G.2.1, 12, .inl (fun _ => 0)))] H := hP
  have hD : va_D A [(h0, .inr (7, [.null, .ref q73, .null, .null, .null, .null, .null, .null, .int 0])), (q73, .inr (1, [.ref ca76])), (ca76, .inl (G.2.1, 36, .inl (fun _ => 0))), (q77, .inl (G.2.1, 12, .inl (fun _ => 0)))] := hD
  refine Wcast (c1 := 3) (s1 := 49) rfl rfl ?_
  refine pf_X7_18 hC rfl rfl hK hP hD hS 0 (ws' := [(h0, .inr (7, [.null, .ref q73, .ref q77, .null, .null, .null, .null, .null, .int 0])), (q73, .inr (1, [.ref ca76])), (ca76, .inl (G.2.1, 36, .inl (fun _ => 0))), (q77, .inl (G.2.1, 12, .inl (fun _ => 0)))]) rfl (Nat.le_of_ble_eq_true rfl) rfl rfl rfl dX7_init_20 (fun H locs hP hD hS => ?_)
  refine lv_aload_n hx hb dX7_init_23 rfl (lv_at hl 0 rfl) ?_
  refine lv_bipush (v := 12) hx hb dX7_init_24 (by decide) ?_
  refine newI hC hK hP hD hS hA m_81 (by decide) (N := 12) (by decide +kernel) (Nat.le_of_ble_eq_true rfl) (by decide) (Nat.le_of_ble_eq_true rfl) dX7_init_26 (fun q78 H hP hD hS => ?_)
  have hP : va_P G.1 vwCl [(h0, .inr (7, [.null, .ref q73, .ref q77, .null, .null, .null, .null, .null, .int 0])), (q73, .inr (1, [.ref ca76])), (ca76, .inl (G.2.1, 36, .inl (fun _ => 0))), (q77, .inl (G.2.1, 12, .inl (fun _ => 0))), (q78, .inl (G.2.1, 12, .inl (fun _ => 0)))] H := hP
  have hD : va_D A [(h0, .inr (7, [.null, .ref q73, .ref q77, .null, .null, .null, .null, .null, .int 0])), (q73, .inr (1, [.ref ca76])), (ca76, .inl (G.2.1, 36, .inl (fun _ => 0))), (q77, .inl (G.2.1, 12, .inl (fun _ => 0))), (q78, .inl (G.2.1, 12, .inl (fun _ => 0)))] := hD
  refine Wcast (c1 := 4) (s1 := 61) rfl rfl ?_
  refine pf_X7_22 hC rfl rfl hK hP hD hS 0 (ws' := [(h0, .inr (7, [.null, .ref q73, .ref q77, .ref q78, .null, .null, .null, .null, .int 0])), (q73, .inr (1, [.ref ca76])), (ca76, .inl (G.2.1, 36, .inl (fun _ => 0))), (q77, .inl (G.2.1, 12, .inl (fun _ => 0))), (q78, .inl (G.2.1, 12, .inl (fun _ => 0)))]) rfl (Nat.le_of_ble_eq_true rfl) rfl rfl rfl dX7_init_28 (fun H locs hP hD hS => ?_)
  refine lv_aload_n hx hb dX7_init_31 rfl (lv_at hl 0 rfl) ?_
  refine lv_bipush (v := 12) hx hb dX7_init_32 (by decide) ?_
  refine newI hC hK hP hD hS hA m_81 (by decide) (N := 12) (by decide +kernel) (Nat.le_of_ble_eq_true rfl) (by decide) (Nat.le_of_ble_eq_true rfl) dX7_init_34 (fun q79 H hP hD hS => ?_)
  have hP : va_P G.1 vwCl [(h0, .inr (7, [.null, .ref q73, .ref q77, .ref q78, .null, .null, .null, .null, .int 0])), (q73, .inr (1, [.ref ca76])), (ca76, .inl (G.2.1, 36, .inl (fun _ => 0))), (q77, .inl (G.2.1, 12, .inl (fun _ => 0))), (q78, .inl (G.2.1, 12, .inl (fun _ => 0))), (q79, .inl (G.2.1, 12, .inl (fun _ => 0)))] H := hP
  have hD : va_D A [(h0, .inr (7, [.null, .ref q73, .ref q77, .ref q78, .null, .null, .null, .null, .int 0])), (q73, .inr (1, [.ref ca76])), (ca76, .inl (G.2.1, 36, .inl (fun _ => 0))), (q77, .inl (G.2.1, 12, .inl (fun _ => 0))), (q78, .inl (G.2.1, 12, .inl (fun _ => 0))), (q79, .inl (G.2.1, 12, .inl (fun _ => 0)))] := hD
  refine Wcast (c1 := 5) (s1 := 73) rfl rfl ?_
  refine pf_X7_25 hC rfl rfl hK hP hD hS 0 (ws' := [(h0, .inr (7, [.null, .ref q73, .ref q77, .ref q78, .ref q79, .null, .null, .null, .int 0])), (q73, .inr (1, [.ref ca76])), (ca76, .inl (G.2.1, 36, .inl (fun _ => 0))), (q77, .inl (G.2.1, 12, .inl (fun _ => 0))), (q78, .inl (G.2.1, 12, .inl (fun _ => 0))), (q79, .inl (G.2.1, 12, .inl (fun _ => 0)))]) rfl (Nat.le_of_ble_eq_true rfl) rfl rfl rfl dX7_init_36 (fun H locs hP hD hS => ?_)
  refine lv_aload_n hx hb dX7_init_39 rfl (lv_at hl 0 rfl) ?_
  refine lv_bipush (v := 12) hx hb dX7_init_40 (by decide) ?_
  refine newI hC hK hP hD hS hA m_81 (by decide) (N := 12) (by decide +kernel) (Nat.le_of_ble_eq_true rfl) (by decide) (Nat.le_of_ble_eq_true rfl) dX7_init_42 (fun q80 H hP hD hS => ?_)
  have hP : va_P G.1 vwCl [(h0, .inr (7, [.null, .ref q73, .ref q77, .ref q78, .ref q79, .null, .null, .null, .int 0])), (q73, .inr (1, [.ref ca76])), (ca76, .inl (G.2.1, 36, .inl (fun _ => 0))), (q77, .inl (G.2.1, 12, .inl (fun _ => 0))), (q78, .inl (G.2.1, 12, .inl (fun _ => 0))), (q79, .inl (G.2.1, 12, .inl (fun _ => 0))), (q80, .inl (G.2.1, 12, .inl (fun _ => 0)))] H := hP
  have hD : va_D A [(h0, .inr (7, [.null, .ref q73, .ref q77, .ref q78, .ref q79, .null, .null, .null, .int 0])), (q73, .inr (1, [.ref ca76])), (ca76, .inl (G.2.1, 36, .inl (fun _ => 0))), (q77, .inl (G.2.1, 12, .inl (fun _ => 0))), (q78, .inl (G.2.1, 12, .inl (fun _ => 0))), (q79, .inl (G.2.1, 12, .inl (fun _ => 0))), (q80, .inl (G.2.1, 12, .inl (fun _ => 0)))] := hD
  refine Wcast (c1 := 6) (s1 := 85) rfl rfl ?_
  refine pf_X7_28 hC rfl rfl hK hP hD hS 0 (ws' := [(h0, .inr (7, [.null, .ref q73, .ref q77, .ref q78, .ref q79, .ref q80, .null, .null, .int 0])), (q73, .inr (1, [.ref ca76])), (ca76, .inl (G.2.1, 36, .inl (fun _ => 0))), (q77, .inl (G.2.1, 12, .inl (fun _ => 0))), (q78, .inl (G.2.1, 12, .inl (fun _ => 0))), (q79, .inl (G.2.1, 12, .inl (fun _ => 0))), (q80, .inl (G.2.1, 12, .inl (fun _ => 0)))]) rfl (Nat.le_of_ble_eq_true rfl) rfl rfl rfl dX7_init_44 (fun H locs hP hD hS => ?_)
  refine lv_aload_n hx hb dX7_init_47 rfl (lv_at hl 0 rfl) ?_
  refine lv_bipush (v := 12) hx hb dX7_init_48 (by decide) ?_
  refine newI hC hK hP hD hS hA m_81 (by decide) (N := 12) (by decide +kernel) (Nat.le_of_ble_eq_true rfl) (by decide) (Nat.le_of_ble_eq_true rfl) dX7_init_50 (fun q81 H hP hD hS => ?_)
  have hP : va_P G.1 vwCl [(h0, .inr (7, [.null, .ref q73, .ref q77, .ref q78, .ref q79, .ref q80, .null, .null, .int 0])), (q73, .inr (1, [.ref ca76])), (ca76, .inl (G.2.1, 36, .inl (fun _ => 0))), (q77, .inl (G.2.1, 12, .inl (fun _ => 0))), (q78, .inl (G.2.1, 12, .inl (fun _ => 0))), (q79, .inl (G.2.1, 12, .inl (fun _ => 0))), (q80, .inl (G.2.1, 12, .inl (fun _ => 0))), (q81, .inl (G.2.1, 12, .inl (fun _ => 0)))] H := hP
  have hD : va_D A [(h0, .inr (7, [.null, .ref q73, .ref q77, .ref q78, .ref q79, .ref q80, .null, .null, .int 0])), (q73, .inr (1, [.ref ca76])), (ca76, .inl (G.2.1, 36, .inl (fun _ => 0))), (q77, .inl (G.2.1, 12, .inl (fun _ => 0))), (q78, .inl (G.2.1, 12, .inl (fun _ => 0))), (q79, .inl (G.2.1, 12, .inl (fun _ => 0))), (q80, .inl (G.2.1, 12, .inl (fun _ => 0))), (q81, .inl (G.2.1, 12, .inl (fun _ => 0)))] := hD
  refine Wcast (c1 := 7) (s1 := 97) rfl rfl ?_
  refine pf_X7_31 hC rfl rfl hK hP hD hS 0 (ws' := [(h0, .inr (7, [.null, .ref q73, .ref q77, .ref q78, .ref q79, .ref q80, .ref q81, .null, .int 0])), (q73, .inr (1, [.ref ca76])), (ca76, .inl (G.2.1, 36, .inl (fun _ => 0))), (q77, .inl (G.2.1, 12, .inl (fun _ => 0))), (q78, .inl (G.2.1, 12, .inl (fun _ => 0))), (q79, .inl (G.2.1, 12, .inl (fun _ => 0))), (q80, .inl (G.2.1, 12, .inl (fun _ => 0))), (q81, .inl (G.2.1, 12, .inl (fun _ => 0)))]) rfl (Nat.le_of_ble_eq_true rfl) rfl rfl rfl dX7_init_52 (fun H locs hP hD hS => ?_)
  refine lv_aload_n hx hb dX7_init_55 rfl (lv_at hl 0 rfl) ?_
  refine lv_bipush (v := 12) hx hb dX7_init_56 (by decide) ?_
  refine newI hC hK hP hD hS hA m_81 (by decide) (N := 12) (by decide +kernel) (Nat.le_of_ble_eq_true rfl) (by decide) (Nat.le_of_ble_eq_true rfl) dX7_init_58 (fun q82 H hP hD hS => ?_)
  have hP : va_P G.1 vwCl [(h0, .inr (7, [.null, .ref q73, .ref q77, .ref q78, .ref q79, .ref q80, .ref q81, .null, .int 0])), (q73, .inr (1, [.ref ca76])), (ca76, .inl (G.2.1, 36, .inl (fun _ => 0))), (q77, .inl (G.2.1, 12, .inl (fun _ => 0))), (q78, .inl (G.2.1, 12, .inl (fun _ => 0))), (q79, .inl (G.2.1, 12, .inl (fun _ => 0))), (q80, .inl (G.2.1, 12, .inl (fun _ => 0))), (q81, .inl (G.2.1, 12, .inl (fun _ => 0))), (q82, .inl (G.2.1, 12, .inl (fun _ => 0)))] H := hP
  have hD : va_D A [(h0, .inr (7, [.null, .ref q73, .ref q77, .ref q78, .ref q79, .ref q80, .ref q81, .null, .int 0])), (q73, .inr (1, [.ref ca76])), (ca76, .inl (G.2.1, 36, .inl (fun _ => 0))), (q77, .inl (G.2.1, 12, .inl (fun _ => 0))), (q78, .inl (G.2.1, 12, .inl (fun _ => 0))), (q79, .inl (G.2.1, 12, .inl (fun _ => 0))), (q80, .inl (G.2.1, 12, .inl (fun _ => 0))), (q81, .inl (G.2.1, 12, .inl (fun _ => 0))), (q82, .inl (G.2.1, 12, .inl (fun _ => 0)))] := hD
  refine Wcast (c1 := 8) (s1 := 109) rfl rfl ?_
  refine pf_X7_34 hC rfl rfl hK hP hD hS 0 (ws' := [(h0, .inr (7, [.null, .ref q73, .ref q77, .ref q78, .ref q79, .ref q80, .ref q81, .ref q82, .int 0])), (q73, .inr (1, [.ref ca76])), (ca76, .inl (G.2.1, 36, .inl (fun _ => 0))), (q77, .inl (G.2.1, 12, .inl (fun _ => 0))), (q78, .inl (G.2.1, 12, .inl (fun _ => 0))), (q79, .inl (G.2.1, 12, .inl (fun _ => 0))), (q80, .inl (G.2.1, 12, .inl (fun _ => 0))), (q81, .inl (G.2.1, 12, .inl (fun _ => 0))), (q82, .inl (G.2.1, 12, .inl (fun _ => 0)))]) rfl (Nat.le_of_ble_eq_true rfl) rfl rfl rfl dX7_init_60 (fun H locs hP hD hS => ?_)
  refine lv_aload_n hx hb dX7_init_63 rfl (lv_at hl 0 rfl) ?_
  refine lv_aload_n hx hb dX7_init_64 rfl (lv_at hl 1 rfl) ?_
  refine pf_X7_37 hC rfl rfl hK hP hD hS 0 (ws' := [(h0, .inr (7, [.ref bk, .ref q73, .ref q77, .ref q78, .ref q79, .ref q80, .ref q81, .ref q82, .int 0])), (q73, .inr (1, [.ref ca76])), (ca76, .inl (G.2.1, 36, .inl (fun _ => 0))), (q77, .inl (G.2.1, 12, .inl (fun _ => 0))), (q78, .inl (G.2.1, 12, .inl (fun _ => 0))), (q79, .inl (G.2.1, 12, .inl (fun _ => 0))), (q80, .inl (G.2.1, 12, .inl (fun _ => 0))), (q81, .inl (G.2.1, 12, .inl (fun _ => 0))), (q82, .inl (G.2.1, 12, .inl (fun _ => 0)))]) rfl (Nat.le_of_ble_eq_true rfl) rfl rfl rfl dX7_init_65 (fun H locs hP hD hS => ?_)
  refine lv_aload_n hx hb dX7_init_68 rfl (lv_at hl 0 rfl) ?_
  refine lv_iconst (v := 0) hx hb dX7_init_69 (by decide) ?_
  refine pf_X7_41 hC rfl hK hP hD hS 0 (ws' := [(h0, .inr (7, [.ref bk, .ref q73, .ref q77, .ref q78, .ref q79, .ref q80, .ref q81, .ref q82, .int 0])), (q73, .inr (1, [.ref ca76])), (ca76, .inl (G.2.1, 36, .inl (fun _ => 0))), (q77, .inl (G.2.1, 12, .inl (fun _ => 0))), (q78, .inl (G.2.1, 12, .inl (fun _ => 0))), (q79, .inl (G.2.1, 12, .inl (fun _ => 0))), (q80, .inl (G.2.1, 12, .inl (fun _ => 0))), (q81, .inl (G.2.1, 12, .inl (fun _ => 0))), (q82, .inl (G.2.1, 12, .inl (fun _ => 0)))]) rfl (Nat.le_of_ble_eq_true rfl) rfl (by decide +kernel) (by decide +kernel) dX7_init_70 (fun H locs hP hD hS => ?_)
  exact RV hC hP hD hS [0, 1, 2, 3, 4, 5, 6, 7, 8] (fun k9 => ([q73, ca76, q77, q78, q79, q80, q81, q82] : List Nat).getD k9 0) rfl rfl (by decide) (trivial) dX7_init_73
set_option maxHeartbeats 4000000 in
set_option maxRecDepth 100000 in
/-- Doubt(): only the first of its Clocks is spoken of -/
theorem c_D_init (l : Launch) (G : GG) (h0 : Nat) (bk : Nat) : MV l G yX3_init cX3_init 3 3 27 494 [.ref h0, .ref bk] [(h0, .inr (3, [.null, .null, .int 0, .int 0, .int 0]))] (fun u : Nat × (Nat → Option Nat) × Nat × Nat => u.2.1 0 = some u.2.2.1) (fun u : Nat × (Nat → Option Nat) × Nat × Nat => [(h0, .inr (3, [.ref bk, .ref u.1, .int 0, .int 0, .int 0])), (u.1, .inl (G.2.2.1, 13, .inr (.inr (.inr (.inr u.2.1))))), (u.2.2.1, .inr (1, [.ref u.2.2.2])), (u.2.2.2, .inl (G.2.1, 36, .inl (fun _ => 0)))]) := by
  refine MV.start (by decide +kernel) (Nat.le_of_ble_eq_true rfl) ?_
  intro p e s m below meth c A ls hC hK hP hD hS hA hl
  have hl : lv_has ls 3 [(0, .ref h0), (1, .ref bk)] := hl
  obtain ⟨hx, hb, hr, hml, hB, hown, hlocks, hnm⟩ := id hC
  refine lv_aload_n hx hb dX3_init_0 rfl (lv_at hl 0 rfl) ?_
  refine W.objInit hx hb hown (hB _ m_107) (hB _ m_11) (hB _ m_12) rfl (by rw [hml]; exact hl.1) rfl dX3_init_1 (Nat.le_of_ble_eq_true rfl) (Nat.le_of_ble_eq_true rfl) ?_
  refine W.eq (g2 := F0 m 4 ls []) rfl ?_
  refine lv_aload_n hx hb dX3_init_4 rfl (lv_at hl 0 rfl) ?_
  refine lv_bipush (v := 13) hx hb dX3_init_5 (by decide) ?_
  refine newQ (E := RX1) 1 rfl hC hK hP hD hS hA m_108 hK.2.2.1 (by decide) (N := 13) (by decide +kernel) (by decide) (Nat.le_of_ble_eq_true rfl) (Nat.le_of_ble_eq_true rfl) dX3_init_7 (fun q83 H hP hD hS => ?_)
  have hP : va_P G.1 vwCl [(h0, .inr (3, [.null, .null, .int 0, .int 0, .int 0])), (q83, .inl (G.2.2.1, 13, .inr (.inr (.inr (.inr (fun _ => none))))))] H := hP
  have hD : va_D A [(h0, .inr (3, [.null, .null, .int 0, .int 0, .int 0])), (q83, .inl (G.2.2.1, 13, .inr (.inr (.inr (.inr (fun _ => none))))))] := hD
  refine Wcast (c1 := 1) (s1 := 13) rfl rfl ?_
  refine pf_X3_11 hC rfl rfl hK hP hD hS 0 (ws' := [(h0, .inr (3, [.null, .ref q83, .int 0, .int 0, .int 0])), (q83, .inl (G.2.2.1, 13, .inr (.inr (.inr (.inr (fun _ => none))))))]) rfl (Nat.le_of_ble_eq_true rfl) rfl rfl rfl dX3_init_10 (fun H locs hP hD hS => ?_)
  refine lv_aload_n hx hb dX3_init_13 rfl (lv_at hl 0 rfl) ?_
  refine lv_aload_n hx hb dX3_init_14 rfl (lv_at hl 1 rfl) ?_
  refine pf_X3_17 hC rfl rfl hK hP hD hS 0 (ws' := [(h0, .inr (3, [.ref bk, .ref q83, .int 0, .int 0, .int 0])), (q83, .inl (G.2.2.1, 13, .inr (.inr (.inr (.inr (fun _ => none))))))]) rfl (Nat.le_of_ble_eq_true rfl) rfl rfl rfl dX3_init_15 (fun H locs hP hD hS => ?_)
  refine lv_iconst (v := 0) hx hb dX3_init_18 (by decide) ?_
  refine lv_istore_n (lv' := [(2, .int 0), (0, .ref h0), (1, .ref bk)]) hx hb dX3_init_19 rfl hl (by decide) rfl (fun ls hl => ?_)
  refine lv_iload_n hx hb dX3_init_20 rfl (lv_at hl 0 rfl) ?_
  refine lv_aload_n hx hb dX3_init_21 rfl (lv_at hl 1 rfl) ?_
  refine gf_X3_11 hC rfl hK hP 0 rfl rfl dX3_init_22 ?_
  refine va_alen (v := 13) hx hb hK.1 hP 1 1 rfl rfl (show Int32.ofNat 13 = 13 by decide) dX3_init_25 ?_
  refine lv_icmp_ge (tgt := 48) hx hb dX3_init_26 (by decide) (fun c9 => absurd c9 (by decide)) (fun _ => ?_)
  refine lv_aload_n hx hb dX3_init_29 rfl (lv_at hl 1 rfl) ?_
  refine gf_X3_11 hC rfl hK hP 0 rfl rfl dX3_init_30 ?_
  refine lv_iload_n hx hb dX3_init_33 rfl (lv_at hl 0 rfl) ?_
  refine nw_X3_9 hC rfl hK hP hD hS hA (Nat.le_of_ble_eq_true rfl) (Nat.le_of_ble_eq_true rfl) dX3_init_34 (fun q84 H hP hD hS => ?_)
  have hP : va_P G.1 vwCl [(h0, .inr (3, [.ref bk, .ref q83, .int 0, .int 0, .int 0])), (q83, .inl (G.2.2.1, 13, .inr (.inr (.inr (.inr (fun _ => none)))))), (q84, .inr (1, [.null]))] H := hP
  have hD : va_D A [(h0, .inr (3, [.ref bk, .ref q83, .int 0, .int 0, .int 0])), (q83, .inl (G.2.2.1, 13, .inr (.inr (.inr (.inr (fun _ => none)))))), (q84, .inr (1, [.null]))] := hD
  refine Wcast (c1 := 2) (s1 := 14) rfl rfl ?_
  refine lv_dup hx hb dX3_init_37 rfl ?_
  refine vIN (wr := [(h0, .inr (3, [.ref bk, .ref q83, .int 0, .int 0, .int 0])), (q83, .inl (G.2.2.1, 13, .inr (.inr (.inr (.inr (fun _ => none))))))]) hC hK hl hP hD hS hA (c_Cl_init l G q84) si_X3_21 [2] [0, 1] rfl rfl (by decide) rfl (by decide) (by decide) rfl rfl (Nat.le_of_ble_eq_true rfl) ⟨Nat.le_of_ble_eq_true rfl, Nat.le_of_ble_eq_true rfl⟩ ⟨by first | exact Nat.le_of_ble_eq_true rfl | omega, by first | exact Nat.le_of_ble_eq_true rfl | omega⟩ dX3_init_38 (fun u86 H locs hr85 hP hD hS => ?_)
  obtain ⟨ca87, rfl⟩ : ∃ z9, z9 = u86 := ⟨_, rfl⟩
  have hP : va_P G.1 vwCl [(h0, .inr (3, [.ref bk, .ref q83, .int 0, .int 0, .int 0])), (q83, .inl (G.2.2.1, 13, .inr (.inr (.inr (.inr (fun _ => none)))))), (q84, .inr (1, [.ref ca87])), (ca87, .inl (G.2.1, 36, .inl (fun _ => 0)))] H := hP
  have hD : va_D A [(h0, .inr (3, [.ref bk, .ref q83, .int 0, .int 0, .int 0])), (q83, .inl (G.2.2.1, 13, .inr (.inr (.inr (.inr (fun _ => none)))))), (q84, .inr (1, [.ref ca87])), (ca87, .inl (G.2.1, 36, .inl (fun _ => 0)))] := hD
  refine Wcast (c1 := 3) (s1 := 50) rfl rfl ?_
  refine va_astq (r := (RX1, TX1, 1)) hx hb hK.1 hP hD hS 1 1 2 1 rfl rfl rfl rfl (vin (by decide +kernel)) dX3_init_41 (fun H locs hP hD hS => ?_)
  have hP : va_P G.1 vwCl [(h0, .inr (3, [.ref bk, .ref q83, .int 0, .int 0, .int 0])), (q83, .inl (G.2.2.1, 13, .inr (.inr (.inr (.inr (va_up (fun _ => none) 0 (some q84))))))), (q84, .inr (1, [.ref ca87])), (ca87, .inl (G.2.1, 36, .inl (fun _ => 0)))] H := hP
  have hD : va_D A [(h0, .inr (3, [.ref bk, .ref q83, .int 0, .int 0, .int 0])), (q83, .inl (G.2.2.1, 13, .inr (.inr (.inr (.inr (va_up (fun _ => none) 0 (some q84))))))), (q84, .inr (1, [.ref ca87])), (ca87, .inl (G.2.1, 36, .inl (fun _ => 0)))] := hD
  refine lv_iinc (v := 1) (lv' := [(2, .int 1), (0, .ref h0), (1, .ref bk)]) hx hb dX3_init_42 hl (k := 0) rfl (by decide) (by decide) rfl (fun ls hl => ?_)
  refine lv_goto (tgt := 20) hx hb dX3_init_45 (by decide) ?_
  refine lv_iload_n hx hb dX3_init_20 rfl (lv_at hl 0 rfl) ?_
  refine lv_aload_n hx hb dX3_init_21 rfl (lv_at hl 1 rfl) ?_
  refine gf_X3_11 hC rfl hK hP 0 rfl rfl dX3_init_22 ?_
  refine va_alen (v := 13) hx hb hK.1 hP 1 1 rfl rfl (show Int32.ofNat 13 = 13 by decide) dX3_init_25 ?_
  refine lv_icmp_ge (tgt := 48) hx hb dX3_init_26 (by decide) (fun c9 => absurd c9 (by decide)) (fun _ => ?_)
  refine lv_aload_n hx hb dX3_init_29 rfl (lv_at hl 1 rfl) ?_
  refine gf_X3_11 hC rfl hK hP 0 rfl rfl dX3_init_30 ?_
  refine lv_iload_n hx hb dX3_init_33 rfl (lv_at hl 0 rfl) ?_
  refine nw_X3_9 hC rfl hK hP hD hS hA (Nat.le_of_ble_eq_true rfl) (Nat.le_of_ble_eq_true rfl) dX3_init_34 (fun q88 H hP hD hS => ?_)
  have hP : va_P G.1 vwCl [(h0, .inr (3, [.ref bk, .ref q83, .int 0, .int 0, .int 0])), (q83, .inl (G.2.2.1, 13, .inr (.inr (.inr (.inr (va_up (fun _ => none) 0 (some q84))))))), (q84, .inr (1, [.ref ca87])), (ca87, .inl (G.2.1, 36, .inl (fun _ => 0))), (q88, .inr (1, [.null]))] H := hP
  have hD : va_D A [(h0, .inr (3, [.ref bk, .ref q83, .int 0, .int 0, .int 0])), (q83, .inl (G.2.2.1, 13, .inr (.inr (.inr (.inr (va_up (fun _ => none) 0 (some q84))))))), (q84, .inr (1, [.ref ca87])), (ca87, .inl (G.2.1, 36, .inl (fun _ => 0))), (q88, .inr (1, [.null]))] := hD
  refine Wcast (c1 := 4) (s1 := 51) rfl rfl ?_
  refine lv_dup hx hb dX3_init_37 rfl ?_
  refine vIN (wr := [(h0, .inr (3, [.ref bk, .ref q83, .int 0, .int 0, .int 0])), (q83, .inl (G.2.2.1, 13, .inr (.inr (.inr (.inr (va_up (fun _ => none) 0 (some q84))))))), (q84, .inr (1, [.ref ca87])), (ca87, .inl (G.2.1, 36, .inl (fun _ => 0)))]) hC hK hl hP hD hS hA (c_Cl_init l G q88) si_X3_21 [4] [0, 1, 2, 3] rfl rfl (by decide) rfl (by decide) (by decide) rfl rfl (Nat.le_of_ble_eq_true rfl) ⟨Nat.le_of_ble_eq_true rfl, Nat.le_of_ble_eq_true rfl⟩ ⟨by first | exact Nat.le_of_ble_eq_true rfl | omega, by first | exact Nat.le_of_ble_eq_true rfl | omega⟩ dX3_init_38 (fun u90 H locs hr89 hP hD hS => ?_)
  obtain ⟨ca91, rfl⟩ : ∃ z9, z9 = u90 := ⟨_, rfl⟩
  have hP : va_P G.1 vwCl [(h0, .inr (3, [.ref bk, .ref q83, .int 0, .int 0, .int 0])), (q83, .inl (G.2.2.1, 13, .inr (.inr (.inr (.inr (va_up (fun _ => none) 0 (some q84))))))), (q84, .inr (1, [.ref ca87])), (ca87, .inl (G.2.1, 36, .inl (fun _ => 0))), (q88, .inr (1, [.ref ca91])), (ca91, .inl (G.2.1, 36, .inl (fun _ => 0)))] H := hP
  have hD : va_D A [(h0, .inr (3, [.ref bk, .ref q83, .int 0, .int 0, .int 0])), (q83, .inl (G.2.2.1, 13, .inr (.inr (.inr (.inr (va_up (fun _ => none) 0 (some q84))))))), (q84, .inr (1, [.ref ca87])), (ca87, .inl (G.2.1, 36, .inl (fun _ => 0))), (q88, .inr (1, [.ref ca91])), (ca91, .inl (G.2.1, 36, .inl (fun _ => 0)))] := hD
  refine Wcast (c1 := 5) (s1 := 87) rfl rfl ?_
  refine va_astq (r := (RX1, TX1, 1)) hx hb hK.1 hP hD hS 1 1 4 1 rfl rfl rfl rfl (vin (by decide +kernel)) dX3_init_41 (fun H locs hP hD hS => ?_)
  have hP : va_P G.1 vwCl [(h0, .inr (3, [.ref bk, .ref q83, .int 0, .int 0, .int 0])), (q83, .inl (G.2.2.1, 13, .inr (.inr (.inr (.inr (va_up (va_up (fun _ => none) 0 (some q84)) 1 (some q88))))))), (q84, .inr (1, [.ref ca87])), (ca87, .inl (G.2.1, 36, .inl (fun _ => 0))), (q88, .inr (1, [.ref ca91])), (ca91, .inl (G.2.1, 36, .inl (fun _ => 0)))] H := hP
  have hD : va_D A [(h0, .inr (3, [.ref bk, .ref q83, .int 0, .int 0, .int 0])), (q83, .inl (G.2.2.1, 13, .inr (.inr (.inr (.inr (va_up (va_up (fun _ => none) 0 (some q84)) 1 (some q88))))))), (q84, .inr (1, [.ref ca87])), (ca87, .inl (G.2.1, 36, .inl (fun _ => 0))), (q88, .inr (1, [.ref ca91])), (ca91, .inl (G.2.1, 36, .inl (fun _ => 0)))] := hD
  have hP := hP.sub (ws' := [(h0, .inr (3, [.ref bk, .ref q83, .int 0, .int 0, .int 0])), (q83, .inl (G.2.2.1, 13, .inr (.inr (.inr (.inr (va_up (va_up (fun _ => none) 0 (some q84)) 1 (some q88))))))), (q84, .inr (1, [.ref ca87])), (ca87, .inl (G.2.1, 36, .inl (fun _ => 0)))]) [0, 1, 2, 3] rfl
  have hD := hD.sub (ws' := [(h0, .inr (3, [.ref bk, .ref q83, .int 0, .int 0, .int 0])), (q83, .inl (G.2.2.1, 13, .inr (.inr (.inr (.inr (va_up (va_up (fun _ => none) 0 (some q84)) 1 (some q88))))))), (q84, .inr (1, [.ref ca87])), (ca87, .inl (G.2.1, 36, .inl (fun _ => 0)))]) [0, 1, 2, 3] (by decide) rfl
  refine lv_iinc (v := 2) (lv' := [(2, .int 2), (0, .ref h0), (1, .ref bk)]) hx hb dX3_init_42 hl (k := 0) rfl (by decide) (by decide) rfl (fun ls hl => ?_)
  refine lv_goto (tgt := 20) hx hb dX3_init_45 (by decide) ?_
  refine lv_iload_n hx hb dX3_init_20 rfl (lv_at hl 0 rfl) ?_
  refine lv_aload_n hx hb dX3_init_21 rfl (lv_at hl 1 rfl) ?_
  refine gf_X3_11 hC rfl hK hP 0 rfl rfl dX3_init_22 ?_
  refine va_alen (v := 13) hx hb hK.1 hP 1 1 rfl rfl (show Int32.ofNat 13 = 13 by decide) dX3_init_25 ?_
  refine lv_icmp_ge (tgt := 48) hx hb dX3_init_26 (by decide) (fun c9 => absurd c9 (by decide)) (fun _ => ?_)
  refine lv_aload_n hx hb dX3_init_29 rfl (lv_at hl 1 rfl) ?_
  refine gf_X3_11 hC rfl hK hP 0 rfl rfl dX3_init_30 ?_
  refine lv_iload_n hx hb dX3_init_33 rfl (lv_at hl 0 rfl) ?_
  refine nw_X3_9 hC rfl hK hP hD hS hA (Nat.le_of_ble_eq_true rfl) (Nat.le_of_ble_eq_true rfl) dX3_init_34 (fun q92 H hP hD hS => ?_)
  have hP : va_P G.1 vwCl [(h0, .inr (3, [.ref bk, .ref q83, .int 0, .int 0, .int 0])), (q83, .inl (G.2.2.1, 13, .inr (.inr (.inr (.inr (va_up (va_up (fun _ => none) 0 (some q84)) 1 (some q88))))))), (q84, .inr (1, [.ref ca87])), (ca87, .inl (G.2.1, 36, .inl (fun _ => 0))), (q92, .inr (1, [.null]))] H := hP
  have hD : va_D A [(h0, .inr (3, [.ref bk, .ref q83, .int 0, .int 0, .int 0])), (q83, .inl (G.2.2.1, 13, .inr (.inr (.inr (.inr (va_up (va_up (fun _ => none) 0 (some q84)) 1 (some q88))))))), (q84, .inr (1, [.ref ca87])), (ca87, .inl (G.2.1, 36, .inl (fun _ => 0))), (q92, .inr (1, [.null]))] := hD
  refine Wcast (c1 := 6) (s1 := 88) rfl rfl ?_
  refine lv_dup hx hb dX3_init_37 rfl ?_
  refine vIN (wr := [(h0, .inr (3, [.ref bk, .ref q83, .int 0, .int 0, .int 0])), (q83, .inl (G.2.2.1, 13, .inr (.inr (.inr (.inr (va_up (va_up (fun _ => none) 0 (some q84)) 1 (some q88))))))), (q84, .inr (1, [.ref ca87])), (ca87, .inl (G.2.1, 36, .inl (fun _ => 0)))]) hC hK hl hP hD hS hA (c_Cl_init l G q92) si_X3_21 [4] [0, 1, 2, 3] rfl rfl (by decide) rfl (by decide) (by decide) rfl rfl (Nat.le_of_ble_eq_true rfl) ⟨Nat.le_of_ble_eq_true rfl, Nat.le_of_ble_eq_true rfl⟩ ⟨by first | exact Nat.le_of_ble_eq_true rfl | omega, by first | exact Nat.le_of_ble_eq_true rfl | omega⟩ dX3_init_38 (fun u94 H locs hr93 hP hD hS => ?_)
  obtain ⟨ca95, rfl⟩ : ∃ z9, z9 = u94 := ⟨_, rfl⟩
  have hP : va_P G.1 vwCl [(h0, .inr (3, [.ref bk, .ref q83, .int 0, .int 0, .int 0])), (q83, .inl (G.2.2.1, 13, .inr (.inr (.inr (.inr (va_up (va_up (fun _ => none) 0 (some q84)) 1 (some q88))))))), (q84, .inr (1, [.ref ca87])), (ca87, .inl (G.2.1, 36, .inl (fun _ => 0))), (q92, .inr (1, [.ref ca95])), (ca95, .inl (G.2.1, 36, .inl (fun _ => 0)))] H := hP
  have hD : va_D A [(h0, .inr (3, [.ref bk, .ref q83, .int 0, .int 0, .int 0])), (q83, .inl (G.2.2.1, 13, .inr (.inr (.inr (.inr (va_up (va_up (fun _ => none) 0 (some q84)) 1 (some q88))))))), (q84, .inr (1, [.ref ca87])), (ca87, .inl (G.2.1, 36, .inl (fun _ => 0))), (q92, .inr (1, [.ref ca95])), (ca95, .inl (G.2.1, 36, .inl (fun _ => 0)))] := hD
  refine Wcast (c1 := 7) (s1 := 124) rfl rfl ?_
  refine va_astq (r := (RX1, TX1, 1)) hx hb hK.1 hP hD hS 1 1 4 1 rfl rfl rfl rfl (vin (by decide +kernel)) dX3_init_41 (fun H locs hP hD hS => ?_)
  have hP : va_P G.1 vwCl [(h0, .inr (3, [.ref bk, .ref q83, .int 0, .int 0, .int 0])), (q83, .inl (G.2.2.1, 13, .inr (.inr (.inr (.inr (va_up (va_up (va_up (fun _ => none) 0 (some q84)) 1 (some q88)) 2 (some q92))))))), (q84, .inr (1, [.ref ca87])), (ca87, .inl (G.2.1, 36, .inl (fun _ => 0))), (q92, .inr (1, [.ref ca95])), (ca95, .inl (G.2.1, 36, .inl (fun _ => 0)))] H := hP
  have hD : va_D A [(h0, .inr (3, [.ref bk, .ref q83, .int 0, .int 0, .int 0])), (q83, .inl (G.2.2.1, 13, .inr (.inr (.inr (.inr (va_up (va_up (va_up (fun _ => none) 0 (some q84)) 1 (some q88)) 2 (some q92))))))), (q84, .inr (1, [.ref ca87])), (ca87, .inl (G.2.1, 36, .inl (fun _ => 0))), (q92, .inr (1, [.ref ca95])), (ca95, .inl (G.2.1, 36, .inl (fun _ => 0)))] := hD
  have hP := hP.sub (ws' := [(h0, .inr (3, [.ref bk, .ref q83, .int 0, .int 0, .int 0])), (q83, .inl (G.2.2.1, 13, .inr (.inr (.inr (.inr (va_up (va_up (va_up (fun _ => none) 0 (some q84)) 1 (some q88)) 2 (some q92))))))), (q84, .inr (1, [.ref ca87])), (ca87, .inl (G.2.1, 36, .inl (fun _ => 0)))]) [0, 1, 2, 3] rfl
  have hD := hD.sub (ws' := [(h0, .inr (3, [.ref bk, .ref q83, .int 0, .int 0, .int 0])), (q83, .inl (G.2.2.1, 13, .inr (.inr (.inr (.inr (va_up (va_up (va_up (fun _ => none) 0 (some q84)) 1 (some q88)) 2 (some q92))))))), (q84, .inr (1, [.ref ca87])), (ca87, .inl (G.2.1, 36, .inl (fun _ => 0)))]) [0, 1, 2, 3] (by decide) rfl
  refine lv_iinc (v := 3) (lv' := [(2, .int 3), (0, .ref h0), (1, .ref bk)]) hx hb dX3_init_42 hl (k := 0) rfl (by decide) (by decide) rfl (fun ls hl => ?_)
  refine lv_goto (tgt := 20) hx hb dX3_init_45 (by decide) ?_
  refine lv_iload_n hx hb dX3_init_20 rfl (lv_at hl 0 rfl) ?_
  refine lv_aload_n hx hb dX3_init_21 rfl (lv_at hl 1 rfl) ?_
  refine gf_X3_11 hC rfl hK hP 0 rfl rfl dX3_init_22 ?_
  refine va_alen (v := 13) hx hb hK.1 hP 1 1 rfl rfl (show Int32.ofNat 13 = 13 by decide) dX3_init_25 ?_
  refine lv_icmp_ge (tgt := 48) hx hb dX3_init_26 (by decide) (fun c9 => absurd c9 (by decide)) (fun _ => ?_)
  refine lv_aload_n hx hb dX3_init_29 rfl (lv_at hl 1 rfl) ?_
  refine gf_X3_11 hC rfl hK hP 0 rfl rfl dX3_init_30 ?_
  refine lv_iload_n hx hb dX3_init_33 rfl (lv_at hl 0 rfl) ?_
  refine nw_X3_9 hC rfl hK hP hD hS hA (Nat.le_of_ble_eq_true rfl) (Nat.le_of_ble_eq_true rfl) dX3_init_34 (fun q96 H hP hD hS => ?_)
  have hP : va_P G.1 vwCl [(h0, .inr (3, [.ref bk, .ref q83, .int 0, .int 0, .int 0])), (q83, .inl (G.2.2.1, 13, .inr (.inr (.inr (.inr (va_up (va_up (va_up (fun _ => none) 0 (some q84)) 1 (some q88)) 2 (some q92))))))), (q84, .inr (1, [.ref ca87])), (ca87, .inl (G.2.1, 36, .inl (fun _ => 0))), (q96, .inr (1, [.null]))] H := hP
  have hD : va_D A [(h0, .inr (3, [.ref bk, .ref q83, .int 0, .int 0, .int 0])), (q83, .inl (G.2.2.1, 13, .inr (.inr (.inr (.inr (va_up (va_up (va_up (fun _ => none) 0 (some q84)) 1 (some q88)) 2 (some q92))))))), (q84, .inr (1, [.ref ca87])), (ca87, .inl (G.2.1, 36, .inl (fun _ => 0))), (q96, .inr (1, [.null]))] := hD
  refine Wcast (c1 := 8) (s1 := 125) rfl rfl ?_
  refine lv_dup hx hb dX3_init_37 rfl ?_
  refine vIN (wr := [(h0, .inr (3, [.ref bk, .ref q83, .int 0, .int 0, .int 0])), (q83, .inl (G.2.2.1, 13, .inr (.inr (.inr (.inr (va_up (va_up (va_up (fun _ => none) 0 (some q84)) 1 (some q88)) 2 (some q92))))))), (q84, .inr (1, [.ref ca87])), (ca87, .inl (G.2.1, 36, .inl (fun _ => 0)))]) hC hK hl hP hD hS hA (c_Cl_init l G q96) si_X3_21 [4] [0, 1, 2, 3] rfl rfl (by decide) rfl (by decide) (by decide) rfl rfl (Nat.le_of_ble_eq_true rfl) ⟨Nat.le_of_ble_eq_true rfl, Nat.le_of_ble_eq_true rfl⟩ ⟨by first | exact Nat.le_of_ble_eq_true rfl | omega, by first | exact Nat.le_of_ble_eq_true rfl | omega⟩ dX3_init_38 (fun u98 H locs hr97 hP hD hS => ?_)
  obtain ⟨ca99, rfl⟩ : ∃ z9, z9 = u98 := ⟨_, rfl⟩
  have hP : va_P G.1 vwCl [(h0, .inr (3, [.ref bk, .ref q83, .int 0, .int 0, .int 0])), (q83, .inl (G.2.2.1, 13, .inr (.inr (.inr (.inr (va_up (va_up (va_up (fun _ => none) 0 (some q84)) 1 (some q88)) 2 (some q92))))))), (q84, .inr (1, [.ref ca87])), (ca87, .inl (G.2.1, 36, .inl (fun _ => 0))), (q96, .inr (1, [.ref ca99])), (ca99, .inl (G.2.1, 36, .inl (fun _ => 0)))] H := hP
  have hD : va_D A [(h0, .inr (3, [.ref bk, .ref q83, .int 0, .int 0, .int 0])), (q83, .inl (G.2.2.1, 13, .inr (.inr (.inr (.inr (va_up (va_up (va_up (fun _ => none) 0 (some q84)) 1 (some q88)) 2 (some q92))))))), (q84, .inr (1, [.ref ca87])), (ca87, .inl (G.2.1, 36, .inl (fun _ => 0))), (q96, .inr (1, [.ref ca99])), (ca99, .inl (G.2.1, 36, .inl (fun _ => 0)))] := hD
  refine Wcast (c1 := 9) (s1 := 161) rfl rfl ?_
  refine va_astq (r := (RX1, TX1, 1)) hx hb hK.1 hP hD hS 1 1 4 1 rfl rfl rfl rfl (vin (by decide +kernel)) dX3_init_41 (fun H locs hP hD hS => ?_)
  have hP : va_P G.1 vwCl [(h0, .inr (3, [.ref bk, .ref q83, .int 0, .int 0, .int 0])), (q83, .inl (G.2.2.1, 13, .inr (.inr (.inr (.inr (va_up (va_up (va_up (va_up (fun _ => none) 0 (some q84)) 1 (some q88)) 2 (some q92)) 3 (some q96))))))), (q84, .inr (1, [.ref ca87])), (ca87, .inl (G.2.1, 36, .inl (fun _ => 0))), (q96, .inr (1, [.ref ca99])), (ca99, .inl (G.2.1, 36, .inl (fun _ => 0)))] H := hP
  have hD : va_D A [(h0, .inr (3, [.ref bk, .ref q83, .int 0, .int 0, .int 0])), (q83, .inl (G.2.2.1, 13, .inr (.inr (.inr (.inr (va_up (va_up (va_up (va_up (fun _ => none) 0 (some q84)) 1 (some q88)) 2 (some q92)) 3 (some q96))))))), (q84, .inr (1, [.ref ca87])), (ca87, .inl (G.2.1, 36, .inl (fun _ => 0))), (q96, .inr (1, [.ref ca99])), (ca99, .inl (G.2.1, 36, .inl (fun _ => 0)))] := hD
  have hP := hP.sub (ws' := [(h0, .inr (3, [.ref bk, .ref q83, .int 0, .int 0, .int 0])), (q83, .inl (G.2.2.1, 13, .inr (.inr (.inr (.inr (va_up (va_up (va_up (va_up (fun _ => none) 0 (some q84)) 1 (some q88)) 2 (some q92)) 3 (some q96))))))), (q84, .inr (1, [.ref ca87])), (ca87, .inl (G.2.1, 36, .inl (fun _ => 0)))]) [0, 1, 2, 3] rfl
  have hD := hD.sub (ws' := [(h0, .inr (3, [.ref bk, .ref q83, .int 0, .int 0, .int 0])), (q83, .inl (G.2.2.1, 13, .inr (.inr (.inr (.inr (va_up (va_up (va_up (va_up (fun _ => none) 0 (some q84)) 1 (some q88)) 2 (some q92)) 3 (some q96))))))), (q84, .inr (1, [.ref ca87])), (ca87, .inl (G.2.1, 36, .inl (fun _ => 0)))]) [0, 1, 2, 3] (by decide) rfl
  refine lv_iinc (v := 4) (lv' := [(2, .int 4), (0, .ref h0), (1, .ref bk)]) hx hb dX3_init_42 hl (k := 0) rfl (by decide) (by decide) rfl (fun ls hl => ?_)
  refine lv_goto (tgt := 20) hx hb dX3_init_45 (by decide) ?_
  refine lv_iload_n hx hb dX3_init_20 rfl (lv_at hl 0 rfl) ?_
  refine lv_aload_n hx hb dX3_init_21 rfl (lv_at hl 1 rfl) ?_
  refine gf_X3_11 hC rfl hK hP 0 rfl rfl dX3_init_22 ?_
  refine va_alen (v := 13) hx hb hK.1 hP 1 1 rfl rfl (show Int32.ofNat 13 = 13 by decide) dX3_init_25 ?_
  refine lv_icmp_ge (tgt := 48) hx hb dX3_init_26 (by decide) (fun c9 => absurd c9 (by decide)) (fun _ => ?_)
  refine lv_aload_n hx hb dX3_init_29 rfl (lv_at hl 1 rfl) ?_
  refine gf_X3_11 hC rfl hK hP 0 rfl rfl dX3_init_30 ?_
  refine lv_iload_n hx hb dX3_init_33 rfl (lv_at hl 0 rfl) ?_
  refine nw_X3_9 hC rfl hK hP hD hS hA (Nat.le_of_ble_eq_true rfl) (Nat.le_of_ble_eq_true rfl) dX3_init_34 (fun q100 H hP hD hS => ?_)
  have hP : va_P G.1 vwCl [(h0, .inr (3, [.ref bk, .ref q83, .int 0, .int 0, .int 0])), (q83, .inl (G.2.2.1, 13, .inr (.inr (.inr (.inr (va_up (va_up (va_up (va_up (fun _ => none) 0 (some q84)) 1 (some q88)) 2 (some q92)) 3 (some q96))))))), (q84, .inr (1, [.ref ca87])), (ca87, .inl (G.2.1, 36, .inl (fun _ => 0))), (q100, .inr (1, [.null]))] H := hP
  have hD : va_D A [(h0, .inr (3, [.ref bk, .ref q83, .int 0, .int 0, .int 0])), (q83, .inl (G.2.2.1, 13, .inr (.inr (.inr (.inr (va_up (va_up (va_up (va_up (fun _ => none) 0 (some q84)) 1 (some q88)) 2 (some q92)) 3 (some q96))))))), (q84, .inr (1, [.ref ca87])), (ca87, .inl (G.2.1, 36, .inl (fun _ => 0))), (q100, .inr (1, [.null]))] := hD
  refine Wcast (c1 := 10) (s1 := 162) rfl rfl ?_
  refine lv_dup hx hb dX3_init_37 rfl ?_
  refine vIN (wr := [(h0, .inr (3, [.ref bk, .ref q83, .int 0, .int 0, .int 0])), (q83, .inl (G.2.2.1, 13, .inr (.inr (.inr (.inr (va_up (va_up (va_up (va_up (fun _ => none) 0 (some q84)) 1 (some q88)) 2 (some q92)) 3 (some q96))))))), (q84, .inr (1, [.ref ca87])), (ca87, .inl (G.2.1, 36, .inl (fun _ => 0)))]) hC hK hl hP hD hS hA (c_Cl_init l G q100) si_X3_21 [4] [0, 1, 2, 3] rfl rfl (by decide) rfl (by decide) (by decide) rfl rfl (Nat.le_of_ble_eq_true rfl) ⟨Nat.le_of_ble_eq_true rfl, Nat.le_of_ble_eq_true rfl⟩ ⟨by first | exact Nat.le_of_ble_eq_true rfl | omega, by first | exact Nat.le_of_ble_eq_true rfl | omega⟩ dX3_init_38 (fun u102 H locs hr101 hP hD hS => ?_)
  obtain ⟨ca103, rfl⟩ : ∃ z9, z9 = u102 := ⟨_, rfl⟩
  have hP : va_P G.1 vwCl [(h0, .inr (3, [.ref bk, .ref q83, .int 0, .int 0, .int 0])), (q83, .inl (G.2.2.1, 13, .inr (.inr (.inr (.inr (va_up (va_up (va_up (va_up (fun _ => none) 0 (some q84)) 1 (some q88)) 2 (some q92)) 3 (some q96))))))), (q84, .inr (1, [.ref ca87])), (ca87, .inl (G.2.1, 36, .inl (fun _ => 0))), (q100, .inr (1, [.ref ca103])), (ca103, .inl (G.2.1, 36, .inl (fun _ => 0)))] H := hP
  have hD : va_D A [(h0, .inr (3, [.ref bk, .ref q83, .int 0, .int 0, .int 0])), (q83, .inl (G.2.2.1, 13, .inr (.inr (.inr (.inr (va_up (va_up (va_up (va_up (fun _ => none) 0 (some q84)) 1 (some q88)) 2 (some q92)) 3 (some q96))))))), (q84, .inr (1, [.ref ca87])), (ca87, .inl (G.2.1, 36, .inl (fun _ => 0))), (q100, .inr (1, [.ref ca103])), (ca103, .inl (G.2.1, 36, .inl (fun _ => 0)))] := hD
  refine Wcast (c1 := 11) (s1 := 198) rfl rfl ?_
  refine va_astq (r := (RX1, TX1, 1)) hx hb hK.1 hP hD hS 1 1 4 1 rfl rfl rfl rfl (vin (by decide +kernel)) dX3_init_41 (fun H locs hP hD hS => ?_)
  have hP : va_P G.1 vwCl [(h0, .inr (3, [.ref bk, .ref q83, .int 0, .int 0, .int 0])), (q83, .inl (G.2.2.1, 13, .inr (.inr (.inr (.inr (va_up (va_up (va_up (va_up (va_up (fun _ => none) 0 (some q84)) 1 (some q88)) 2 (some q92)) 3 (some q96)) 4 (some q100))))))), (q84, .inr (1, [.ref ca87])), (ca87, .inl (G.2.1, 36, .inl (fun _ => 0))), (q100, .inr (1, [.ref ca103])), (ca103, .inl (G.2.1, 36, .inl (fun _ => 0)))] H := hP
  have hD : va_D A [(h0, .inr (3, [.ref bk, .ref q83, .int 0, .int 0, .int 0])), (q83, .inl (G.2.2.1, 13, .inr (.inr (.inr (.inr (va_up (va_up (va_up (va_up (va_up (fun _ => none) 0 (some q84)) 1 (some q88)) 2 (some q92)) 3 (some q96)) 4 (some q100))))))), (q84, .inr (1, [.ref ca87])), (ca87, .inl (G.2.1, 36, .inl (fun _ => 0))), (q100, .inr (1, [.ref ca103])), (ca103, .inl (G.2.1, 36, .inl (fun _ => 0)))] := hD
  have hP := hP.sub (ws' := [(h0, .inr (3, [.ref bk, .ref q83, .int 0, .int 0, .int 0])), (q83, .inl (G.2.2.1, 13, .inr (.inr (.inr (.inr (va_up (va_up (va_up (va_up (va_up (fun _ => none) 0 (some q84)) 1 (some q88)) 2 (some q92)) 3 (some q96)) 4 (some q100))))))), (q84, .inr (1, [.ref ca87])), (ca87, .inl (G.2.1, 36, .inl (fun _ => 0)))]) [0, 1, 2, 3] rfl
  have hD := hD.sub (ws' := [(h0, .inr (3, [.ref bk, .ref q83, .int 0, .int 0, .int 0])), (q83, .inl (G.2.2.1, 13, .inr (.inr (.inr (.inr (va_up (va_up (va_up (va_up (va_up (fun _ => none) 0 (some q84)) 1 (some q88)) 2 (some q92)) 3 (some q96)) 4 (some q100))))))), (q84, .inr (1, [.ref ca87])), (ca87, .inl (G.2.1, 36, .inl (fun _ => 0)))]) [0, 1, 2, 3] (by decide) rfl
  refine lv_iinc (v := 5) (lv' := [(2, .int 5), (0, .ref h0), (1, .ref bk)]) hx hb dX3_init_42 hl (k := 0) rfl (by decide) (by decide) rfl (fun ls hl => ?_)
  refine lv_goto (tgt := 20) hx hb dX3_init_45 (by decide) ?_
  refine lv_iload_n hx hb dX3_init_20 rfl (lv_at hl 0 rfl) ?_
  refine lv_aload_n hx hb dX3_init_21 rfl (lv_at hl 1 rfl) ?_
  refine gf_X3_11 hC rfl hK hP 0 rfl rfl dX3_init_22 ?_
  refine va_alen (v := 13) hx hb hK.1 hP 1 1 rfl rfl (show Int32.ofNat 13 = 13 by decide) dX3_init_25 ?_
  refine lv_icmp_ge (tgt := 48) hx hb dX3_init_26 (by decide) (fun c9 => absurd c9 (by decide)) (fun _ => ?_)
  refine lv_aload_n hx hb dX3_init_29 rfl (lv_at hl 1 rfl) ?_
  refine gf_X3_11 hC rfl hK hP 0 rfl rfl dX3_init_30 ?_
  refine lv_iload_n hx hb dX3_init_33 rfl (lv_at hl 0 rfl) ?_
  refine nw_X3_9 hC rfl hK hP hD hS hA (Nat.le_of_ble_eq_true rfl) (Nat.le_of_ble_eq_true rfl) dX3_init_34 (fun q104 H hP hD hS => ?_)
  have hP : va_P G.1 vwCl [(h0, .inr (3, [.ref bk, .ref q83, .int 0, .int 0, .int 0])), (q83, .inl (G.2.2.1, 13, .inr (.inr (.inr (.inr (va_up (va_up (va_up (va_up (va_up (fun _ => none) 0 (some q84)) 1 (some q88)) 2 (some q92)) 3 (some q96)) 4 (some q100))))))), (q84, .inr (1, [.ref ca87])), (ca87, .inl (G.2.1, 36, .inl (fun _ => 0))), (q104, .inr (1, [.null]))] H := hP
  have hD : va_D A [(h0, .inr (3, [.ref bk, .ref q83, .int 0, .int 0, .int 0])), (q83, .inl (G.2.2.1, 13, .inr (.inr (.inr (.inr (va_up (va_up (va_up (va_up (va_up (fun _ => none) 0 (some q84)) 1 (some q88)) 2 (some q92)) 3 (some q96)) 4 (some q100))))))), (q84, .inr (1, [.ref ca87])), (ca87, .inl (G.2.1, 36, .inl (fun _ => 0))), (q104, .inr (1, [.null]))] := hD
  refine Wcast (c1 := 12) (s1 := 199) rfl rfl ?_
  refine lv_dup hx hb dX3_init_37 rfl ?_
  refine vIN (wr := [(h0, .inr (3, [.ref bk, .ref q83, .int 0, .int 0, .int 0])), (q83, .inl (G.2.2.1, 13, .inr (.inr (.inr (.inr (va_up (va_up (va_up (va_up (va_up (fun _ => none) 0 (some q84)) 1 (some q88)) 2 (some q92)) 3 (some q96)) 4 (some q100))))))), (q84, .inr (1, [.ref ca87])), (ca87, .inl (G.2.1, 36, .inl (fun _ => 0)))]) hC hK hl hP hD hS hA (c_Cl_init l G q104) si_X3_21 [4] [0, 1, 2, 3] rfl rfl (by decide) rfl (by decide) (by decide) rfl rfl (Nat.le_of_ble_eq_true rfl) ⟨Nat.le_of_ble_eq_true rfl, Nat.le_of_ble_eq_true rfl⟩ ⟨by first | exact Nat.le_of_ble_eq_true rfl | omega, by first | exact Nat.le_of_ble_eq_true rfl | omega⟩ dX3_init_38 (fun u106 H locs hr105 hP hD hS => ?_)
  obtain ⟨ca107, rfl⟩ : ∃ z9, z9 = u106 := ⟨_, rfl⟩
  have hP : va_P G.1 vwCl [(h0, .inr (3, [.ref bk, .ref q83, .int 0, .int 0, .int 0])), (q83, .inl (G.2.2.1, 13, .inr (.inr (.inr (.inr (va_up (va_up (va_up (va_up (va_up (fun _ => none) 0 (some q84)) 1 (some q88)) 2 (some q92)) 3 (some q96)) 4 (some q100))))))), (q84, .inr (1, [.ref ca87])), (ca87, .inl (G.2.1, 36, .inl (fun _ => 0))), (q104, .inr (1, [.ref ca107])), (ca107, .inl (G.2.1, 36, .inl (fun _ => 0)))] H := hP
  have hD : va_D A [(h0, .inr (3, [.ref bk, .ref q83, .int 0, .int 0, .int 0])), (q83, .inl (G.2.2.1, 13, .inr (.inr (.inr (.inr (va_up (va_up (va_up (va_up (va_up (fun _ => none) 0 (some q84)) 1 (some q88)) 2 (some q92)) 3 (some q96)) 4 (some q100))))))), (q84, .inr (1, [.ref ca87])), (ca87, .inl (G.2.1, 36, .inl (fun _ => 0))), (q104, .inr (1, [.ref ca107])), (ca107, .inl (G.2.1, 36, .inl (fun _ => 0)))] := hD
  refine Wcast (c1 := 13) (s1 := 235) rfl rfl ?_
  refine va_astq (r := (RX1, TX1, 1)) hx hb hK.1 hP hD hS 1 1 4 1 rfl rfl rfl rfl (vin (by decide +kernel)) dX3_init_41 (fun H locs hP hD hS => ?_)
  have hP : va_P G.1 vwCl [(h0, .inr (3, [.ref bk, .ref q83, .int 0, .int 0, .int 0])), (q83, .inl (G.2.2.1, 13, .inr (.inr (.inr (.inr (va_up (va_up (va_up (va_up (va_up (va_up (fun _ => none) 0 (some q84)) 1 (some q88)) 2 (some q92)) 3 (some q96)) 4 (some q100)) 5 (some q104))))))), (q84, .inr (1, [.ref ca87])), (ca87, .inl (G.2.1, 36, .inl (fun _ => 0))), (q104, .inr (1, [.ref ca107])), (ca107, .inl (G.2.1, 36, .inl (fun _ => 0)))] H := hP
  have hD : va_D A [(h0, .inr (3, [.ref bk, .ref q83, .int 0, .int 0, .int 0])), (q83, .inl (G.2.2.1, 13, .inr (.inr (.inr (.inr (va_up (va_up (va_up (va_up (va_up (va_up (fun _ => none) 0 (some q84)) 1 (some q88)) 2 (some q92)) 3 (some q96)) 4 (some q100)) 5 (some q104))))))), (q84, .inr (1, [.ref ca87])), (ca87, .inl (G.2.1, 36, .inl (fun _ => 0))), (q104, .inr (1, [.ref ca107])), (ca107, .inl (G.2.1, 36, .inl (fun _ => 0)))] := hD
  have hP := hP.sub (ws' := [(h0, .inr (3, [.ref bk, .ref q83, .int 0, .int 0, .int 0])), (q83, .inl (G.2.2.1, 13, .inr (.inr (.inr (.inr (va_up (va_up (va_up (va_up (va_up (va_up (fun _ => none) 0 (some q84)) 1 (some q88)) 2 (some q92)) 3 (some q96)) 4 (some q100)) 5 (some q104))))))), (q84, .inr (1, [.ref ca87])), (ca87, .inl (G.2.1, 36, .inl (fun _ => 0)))]) [0, 1, 2, 3] rfl
  have hD := hD.sub (ws' := [(h0, .inr (3, [.ref bk, .ref q83, .int 0, .int 0, .int 0])), (q83, .inl (G.2.2.1, 13, .inr (.inr (.inr (.inr (va_up (va_up (va_up (va_up (va_up (va_up (fun _ => none) 0 (some q84)) 1 (some q88)) 2 (some q92)) 3 (some q96)) 4 (some q100)) 5 (some q104))))))), (q84, .inr (1, [.ref ca87])), (ca87, .inl (G.2.1, 36, .inl (fun _ => 0)))]) [0, 1, 2, 3] (by decide) rfl
  refine lv_iinc (v := 6) (lv' := [(2, .int 6), (0, .ref h0), (1, .ref bk)]) hx hb dX3_init_42 hl (k := 0) rfl (by decide) (by decide) rfl (fun ls hl => ?_)
  refine lv_goto (tgt := 20) hx hb dX3_init_45 (by decide) ?_
  refine lv_iload_n hx hb dX3_init_20 rfl (lv_at hl 0 rfl) ?_
  refine lv_aload_n hx hb dX3_init_21 rfl (lv_at hl 1 rfl) ?_
  refine gf_X3_11 hC rfl hK hP 0 rfl rfl dX3_init_22 ?_
  refine va_alen (v := 13) hx hb hK.1 hP 1 1 rfl rfl (show Int32.ofNat 13 = 13 by decide) dX3_init_25 ?_
  refine lv_icmp_ge (tgt := 48) hx hb dX3_init_26 (by decide) (fun c9 => absurd c9 (by decide)) (fun _ => ?_)
  refine lv_aload_n hx hb dX3_init_29 rfl (lv_at hl 1 rfl) ?_
  refine gf_X3_11 hC rfl hK hP 0 rfl rfl dX3_init_30 ?_
  refine lv_iload_n hx hb dX3_init_33 rfl (lv_at hl 0 rfl) ?_
  refine nw_X3_9 hC rfl hK hP hD hS hA (Nat.le_of_ble_eq_true rfl) (Nat.le_of_ble_eq_true rfl) dX3_init_34 (fun q108 H hP hD hS => ?_)
  have hP : va_P G.1 vwCl [(h0, .inr (3, [.ref bk, .ref q83, .int 0, .int 0, .int 0])), (q83, .inl (G.2.2.1, 13, .inr (.inr (.inr (.inr (va_up (va_up (va_up (va_up (va_up (va_up (fun _ => none) 0 (some q84)) 1 (some q88)) 2 (some q92)) 3 (some q96)) 4 (some q100)) 5 (some q104))))))), (q84, .inr (1, [.ref ca87])), (ca87, .inl (G.2.1, 36, .inl (fun _ => 0))), (q108, .inr (1, [.null]))] H := hP
  have hD : va_D A [(h0, .inr (3, [.ref bk, .ref q83, .int 0, .int 0, .int 0])), (q83, .inl (G.2.2.1, 13, .inr (.inr (.inr (.inr (va_up (va_up (va_up (va_up (va_up (va_up (fun _ => none) 0 (some q84)) 1 (some q88)) 2 (some q92)) 3 (some q96)) 4 (some q100)) 5 (some q104))))))), (q84, .inr (1, [.ref ca87])), (ca87, .inl (G.2.1, 36, .inl (fun _ => 0))), (q108, .inr (1, [.null]))] := hD
  refine Wcast (c1 := 14) (s1 := 236) rfl rfl ?_
  refine lv_dup hx hb dX3_init_37 rfl ?_
  refine vIN (wr := [(h0, .inr (3, [.ref bk, .ref q83, .int 0, .int 0, .int 0])), (q83, .inl (G.2.2.1, 13, .inr (.inr (.inr (.inr (va_up (va_up (va_up (va_up (va_up (va_up (fun _ => none) 0 (some q84)) 1 (some q88)) 2 (some q92)) 3 (some q96)) 4 (some q100)) 5 (some q104))))))), (q84, .inr (1, [.ref ca87])), (ca87, .inl (G.2.1, 36, .inl (fun _ => 0)))]) hC hK hl hP hD hS hA (c_Cl_init l G q108) si_X3_21 [4] [0, 1, 2, 3] rfl rfl (by decide) rfl (by decide) (by decide) rfl rfl (Nat.le_of_ble_eq_true rfl) ⟨Nat.le_of_ble_eq_true rfl, Nat.le_of_ble_eq_true rfl⟩ ⟨by first | exact Nat.le_of_ble_eq_true rfl | omega, by first | exact Nat.le_of_ble_eq_true rfl | omega⟩ dX3_init_38 (fun u110 H locs hr109 hP hD hS => ?_)
  obtain ⟨ca111, rfl⟩ : ∃ z9, z9 = u110 := ⟨_, rfl⟩
  have hP : va_P G.1 vwCl [(h0, .inr (3, [.ref bk, .ref q83, .int 0, .int 0, .int 0])), (q83, .inl (G.2.2.1, 13, .inr (.inr (.inr (.inr (va_up (va_up (va_up (va_up (va_up (va_up (fun _ => none) 0 (some q84)) 1 (some q88)) 2 (some q92)) 3 (some q96)) 4 (some q100)) 5 (some q104))))))), (q84, .inr (1, [.ref ca87])), (ca87, .inl (G.2.1, 36, .inl (fun _ => 0))), (q108, .inr (1, [.ref ca111])), (ca111, .inl (G.2.1, 36, .inl (fun _ => 0)))] H := hP
  have hD : va_D A [(h0, .inr (3, [.ref bk, .ref q83, .int 0, .int 0, .int 0])), (q83, .inl (G.2.2.1, 13, .inr (.inr (.inr (.inr (va_up (va_up (va_up (va_up (va_up (va_up (fun _ => none) 0 (some q84)) 1 (some q88)) 2 (some q92)) 3 (some q96)) 4 (some q100)) 5 (some q104))))))), (q84, .inr (1, [.ref ca87])), (ca87, .inl (G.2.1, 36, .inl (fun _ => 0))), (q108, .inr (1, [.ref ca111])), (ca111, .inl (G.2.1, 36, .inl (fun _ => 0)))] := hD
  refine Wcast (c1 := 15) (s1 := 272) rfl rfl ?_
  refine va_astq (r := (RX1, TX1, 1)) hx hb hK.1 hP hD hS 1 1 4 1 rfl rfl rfl rfl (vin (by decide +kernel)) dX3_init_41 (fun H locs hP hD hS => ?_)
  have hP : va_P G.1 vwCl [(h0, .inr (3, [.ref bk, .ref q83, .int 0, .int 0, .int 0])), (q83, .inl (G.2.2.1, 13, .inr (.inr (.inr (.inr (va_up (va_up (va_up (va_up (va_up (va_up (va_up (fun _ => none) 0 (some q84)) 1 (some q88)) 2 (some q92)) 3 (some q96)) 4 (some q100)) 5 (some q104)) 6 (some q108))))))), (q84, .inr (1, [.ref ca87])), (ca87, .inl (G.2.1, 36, .inl (fun _ => 0))), (q108, .inr (1, [.ref ca111])), (ca111, .inl (G.2.1, 36, .inl (fun _ => 0)))] H := hP
  have hD : va_D A [(h0, .inr (3, [.ref bk, .ref q83, .int 0, .int 0, .int 0])), (q83, .inl (G.2.2.1, 13, .inr (.inr (.inr (.inr (va_up (va_up (va_up (va_up (va_up (va_up (va_up (fun _ => none) 0 (some q84)) 1 (some q88)) 2 (some q92)) 3 (some q96)) 4 (some q100)) 5 (some q104)) 6 (some q108))))))), (q84, .inr (1, [.ref ca87])), (ca87, .inl (G.2.1, 36, .inl (fun _ => 0))), (q108, .inr (1, [.ref ca111])), (ca111, .inl (G.2.1, 36, .inl (fun _ => 0)))] := hD
  have hP := hP.sub (ws' := [(h0, .inr (3, [.ref bk, .ref q83, .int 0, .int 0, .int 0])), (q83, .inl (G.2.2.1, 13, .inr (.inr (.inr (.inr (va_up (va_up (va_up (va_up (va_up (va_up (va_up (fun _ => none) 0 (some q84)) 1 (some q88)) 2 (some q92)) 3 (some q96)) 4 (some q100)) 5 (some q104)) 6 (some q108))))))), (q84, .inr (1, [.ref ca87])), (ca87, .inl (G.2.1, 36, .inl (fun _ => 0)))]) [0, 1, 2, 3] rfl
  have hD := hD.sub (ws' := [(h0, .inr (3, [.ref bk, .ref q83, .int 0, .int 0, .int 0])), (q83, .inl (G.2.2.1, 13, .inr (.inr (.inr (.inr (va_up (va_up (va_up (va_up (va_up (va_up (va_up (fun _ => none) 0 (some q84)) 1 (some q88)) 2 (some q92)) 3 (some q96)) 4 (some q100)) 5 (some q104)) 6 (some q108))))))), (q84, .inr (1, [.ref ca87])), (ca87, .inl (G.2.1, 36, .inl (fun _ => 0)))]) [0, 1, 2, 3] (by decide) rfl
  refine lv_iinc (v := 7) (lv' := [(2, .int 7), (0, .ref h0), (1, .ref bk)]) hx hb dX3_init_42 hl (k := 0) rfl (by decide) (by decide) rfl (fun ls hl => ?_)
  refine lv_goto (tgt := 20) hx hb dX3_init_45 (by decide) ?_
  refine lv_iload_n hx hb dX3_init_20 rfl (lv_at hl 0 rfl) ?_
  refine lv_aload_n hx hb dX3_init_21 rfl (lv_at hl 1 rfl) ?_
  refine gf_X3_11 hC rfl hK hP 0 rfl rfl dX3_init_22 ?_
  refine va_alen (v := 13) hx hb hK.1 hP 1 1 rfl rfl (show Int32.ofNat 13 = 13 by decide) dX3_init_25 ?_
  refine lv_icmp_ge (tgt := 48) hx hb dX3_init_26 (by decide) (fun c9 => absurd c9 (by decide)) (fun _ => ?_)
  refine lv_aload_n hx hb dX3_init_29 rfl (lv_at hl 1 rfl) ?_
  refine gf_X3_11 hC rfl hK hP 0 rfl rfl dX3_init_30 ?_
  refine lv_iload_n hx hb dX3_init_33 rfl (lv_at hl 0 rfl) ?_
  refine nw_X3_9 hC rfl hK hP hD hS hA (Nat.le_of_ble_eq_true rfl) (Nat.le_of_ble_eq_true rfl) dX3_init_34 (fun q112 H hP hD hS => ?_)
  have hP : va_P G.1 vwCl [(h0, .inr (3, [.ref bk, .ref q83, .int 0, .int 0, .int 0])), (q83, .inl (G.2.2.1, 13, .inr (.inr (.inr (.inr (va_up (va_up (va_up (va_up (va_up (va_up (va_up (fun _ => none) 0 (some q84)) 1 (some q88)) 2 (some q92)) 3 (some q96)) 4 (some q100)) 5 (some q104)) 6 (some q108))))))), (q84, .inr (1, [.ref ca87])), (ca87, .inl (G.2.1, 36, .inl (fun _ => 0))), (q112, .inr (1, [.null]))] H := hP
  have hD : va_D A [(h0, .inr (3, [.ref bk, .ref q83, .int 0, .int 0, .int 0])), (q83, .inl (G.2.2.1, 13, .inr (.inr (.inr (.inr (va_up (va_up (va_up (va_up (va_up (va_up (va_up (fun _ => none) 0 (some q84)) 1 (some q88)) 2 (some q92)) 3 (some q96)) 4 (some q100)) 5 (some q104)) 6 (some q108))))))), (q84, .inr (1, [.ref ca87])), (ca87, .inl (G.2.1, 36, .inl (fun _ => 0))), (q112, .inr (1, [.null]))] := hD
  refine Wcast (c1 := 16) (s1 := 273) rfl rfl ?_
  refine lv_dup hx hb dX3_init_37 rfl ?_
  refine vIN (wr := [(h0, .inr (3, [.ref bk, .ref q83, .int 0, .int 0, .int 0])), (q83, .inl (G.2.2.1, 13, .inr (.inr (.inr (.inr (va_up (va_up (va_up (va_up (va_up (va_up (va_up (fun _ => none) 0 (some q84)) 1 (some q88)) 2 (some q92)) 3 (some q96)) 4 (some q100)) 5 (some q104)) 6 (some q108))))))), (q84, .inr (1, [.ref ca87])), (ca87, .inl (G.2.1, 36, .inl (fun _ => 0)))]) hC hK hl hP hD hS hA (c_Cl_init l G q112) si_X3_21 [4] [0, 1, 2, 3] rfl rfl (by decide) rfl (by decide) (by decide) rfl rfl (Nat.le_of_ble_eq_true rfl) ⟨Nat.le_of_ble_eq_true rfl, Nat.le_of_ble_eq_true rfl⟩ ⟨by first | exact Nat.le_of_ble_eq_true rfl | omega, by first | exact Nat.le_of_ble_eq_true rfl | omega⟩ dX3_init_38 (fun u114 H locs hr113 hP hD hS => ?_)
  obtain ⟨ca115, rfl⟩ : ∃ z9, z9 = u114 := ⟨_, rfl⟩
  have hP : va_P G.1 vwCl [(h0, .inr (3, [.ref bk, .ref q83, .int 0, .int 0, .int 0])), (q83, .inl (G.2.2.1, 13, .inr (.inr (.inr (.inr (va_up (va_up (va_up (va_up (va_up (va_up (va_up (fun _ => none) 0 (some q84)) 1 (some q88)) 2 (some q92)) 3 (some q96)) 4 (some q100)) 5 (some q104)) 6 (some q108))))))), (q84, .inr (1, [.ref ca87])), (ca87, .inl (G.2.1, 36, .inl (fun _ => 0))), (q112, .inr (1, [.ref ca115])), (ca115, .inl (G.2.1, 36, .inl (fun _ => 0)))] H := hP
  have hD : va_D A [(h0, .inr (3, [.ref bk, .ref q83, .int 0, .int 0, .int 0])), (q83, .inl (G.2.2.1, 13, .inr (.inr (.inr (.inr (va_up (va_up (va_up (va_up (va_up (va_up (va_up (fun _ => none) 0 (some q84)) 1 (some q88)) 2 (some q92)) 3 (some q96)) 4 (some q100)) 5 (some q104)) 6 (some q108))))))), (q84, .inr (1, [.ref ca87])), (ca87, .inl (G.2.1, 36, .inl (fun _ => 0))), (q112, .inr (1, [.ref ca115])), (ca115, .inl (G.2.1, 36, .inl (fun _ => 0)))] := hD
  refine Wcast (c1 := 17) (s1 := 309) rfl rfl ?_
  refine va_astq (r := (RX1, TX1, 1)) hx hb hK.1 hP hD hS 1 1 4 1 rfl rfl rfl rfl (vin (by decide +kernel)) dX3_init_41 (fun H locs hP hD hS => ?_)
  have hP : va_P G.1 vwCl [(h0, .inr (3, [.ref bk, .ref q83, .int 0, .int 0, .int 0])), (q83, .inl (G.2.2.1, 13, .inr (.inr (.inr (.inr (va_up (va_up (va_up (va_up (va_up (va_up (va_up (va_up (fun _ => none) 0 (some q84)) 1 (some q88)) 2 (some q92)) 3 (some q96)) 4 (some q100)) 5 (some q104)) 6 (some q108)) 7 (some q112))))))), (q84, .inr (1, [.ref ca87])), (ca87, .inl (G.2.1, 36, .inl (fun _ => 0))), (q112, .inr (1, [.ref ca115])), (ca115, .inl (G.2.1, 36, .inl (fun _ => 0)))] H := hP
  have hD : va_D A [(h0, .inr (3, [.ref bk, .ref q83, .int 0, .int 0, .int 0])), (q83, .inl (G.2.2.1, 13, .inr (.inr (.inr (.inr (va_up (va_up (va_up (va_up (va_up (va_up (va_up (va_up (fun _ => none) 0 (some q84)) 1 (some q88)) 2 (some q92)) 3 (some q96)) 4 (some q100)) 5 (some q104)) 6 (some q108)) 7 (some q112))))))), (q84, .inr (1, [.ref ca87])), (ca87, .inl (G.2.1, 36, .inl (fun _ => 0))), (q112, .inr (1, [.ref ca115])), (ca115, .inl (G.2.1, 36, .inl (fun _ => 0)))] := hD
  have hP := hP.sub (ws' := [(h0, .inr (3, [.ref bk, .ref q83, .int 0, .int 0, .int 0])), (q83, .inl (G.2.2.1, 13, .inr (.inr (.inr (.inr (va_up (va_up (va_up (va_up (va_up (va_up (va_up (va_up (fun _ => none) 0 (some q84)) 1 (some q88)) 2 (some q92)) 3 (some q96)) 4 (some q100)) 5 (some q104)) 6 (some q108)) 7 (some q112))))))), (q84, .inr (1, [.ref ca87])), (ca87, .inl (G.2.1, 36, .inl (fun _ => 0)))]) [0, 1, 2, 3] rfl
  have hD := hD.sub (ws' := [(h0, .inr (3, [.ref bk, .ref q83, .int 0, .int 0, .int 0])), (q83, .inl (G.2.2.1, 13, .inr (.inr (.inr (.inr (va_up (va_up (va_up (va_up (va_up (va_up (va_up (va_up (fun _ => none) 0 (some q84)) 1 (some q88)) 2 (some q92)) 3 (some q96)) 4 (some q100)) 5 (some q104)) 6 (some q108)) 7 (some q112))))))), (q84, .inr (1, [.ref ca87])), (ca87, .inl (G.2.1, 36, .inl (fun _ => 0)))]) [0, 1, 2, 3] (by decide) rfl
  refine lv_iinc (v := 8) (lv' := [(2, .int 8), (0, .ref h0), (1, .ref bk)]) hx hb dX3_init_42 hl (k := 0) rfl (by decide) (by decide) rfl (fun ls hl => ?_)
  refine lv_goto (tgt := 20) hx hb dX3_init_45 (by decide) ?_
  refine lv_iload_n hx hb dX3_init_20 rfl (lv_at hl 0 rfl) ?_
  refine lv_aload_n hx hb dX3_init_21 rfl (lv_at hl 1 rfl) ?_
  refine gf_X3_11 hC rfl hK hP 0 rfl rfl dX3_init_22 ?_
  refine va_alen (v := 13) hx hb hK.1 hP 1 1 rfl rfl (show Int32.ofNat 13 = 13 by decide) dX3_init_25 ?_
  refine lv_icmp_ge (tgt := 48) hx hb dX3_init_26 (by decide) (fun c9 => absurd c9 (by decide)) (fun _ => ?_)
  refine lv_aload_n hx hb dX3_init_29 rfl (lv_at hl 1 rfl) ?_
  refine gf_X3_11 hC rfl hK hP 0 rfl rfl dX3_init_30 ?_
  refine lv_iload_n hx hb dX3_init_33 rfl (lv_at hl 0 rfl) ?_
  refine nw_X3_9 hC rfl hK hP hD hS hA (Nat.le_of_ble_eq_true rfl) (Nat.le_of_ble_eq_true rfl) dX3_init_34 (fun q116 H hP hD hS => ?_)
  have hP : va_P G.1 vwCl [(h0, .inr (3, [.ref bk, .ref q83, .int 0, .int 0, .int 0])), (q83, .inl (G.2.2.1, 13, .inr (.inr (.inr (.inr (va_up (va_up (va_up (va_up (va_up (va_up (va_up (va_up (fun _ => none) 0 (some q84)) 1 (some q88)) 2 (some q92)) 3 (some q96)) 4 (some q100)) 5 (some q104)) 6 (some q108)) 7 (some q112))))))), (q84, .inr (1, [.ref ca87])), (ca87, .inl (G.2.1, 36, .inl (fun _ => 0))), (q116, .inr (1, [.null]))] H := hP
  have hD : va_D A [(h0, .inr (3, [.ref bk, .ref q83, .int 0, .int 0, .int 0])), (q83, .inl (G.2.2.1, 13, .inr (.inr (.inr (.inr (va_up (va_up (va_up (va_up (va_up (va_up (va_up (va_up (fun _ => none) 0 (some q84)) 1 (some q88)) 2 (some q92)) 3 (some q96)) 4 (some q100)) 5 (some q104)) 6 (some q108)) 7 (some q112))))))), (q84, .inr (1, [.ref ca87])), (ca87, .inl (G.2.1, 36, .inl (fun _ => 0))), (q116, .inr (1, [.null]))] := hD
  refine Wcast (c1 := 18) (s1 := 310) rfl rfl ?_
  refine lv_dup hx hb dX3_init_37 rfl ?_
  refine vIN (wr := [(h0, .inr (3, [.ref bk, .ref q83, .int 0, .int 0, .int 0])), (q83, .inl (G.2.2.1, 13, .inr (.inr (.inr (.inr (va_up (va_up (va_up (va_up (va_up (va_up (va_up (va_up (fun _ => none) 0 (some q84)) 1 (some q88)) 2 (some q92)) 3 (some q96)) 4 (some q100)) 5 (some q104)) 6 (some q108)) 7 (some q112))))))), (q84, .inr (1, [.ref ca87])), (ca87, .inl (G.2.1, 36, .inl (fun _ => 0)))]) hC hK hl hP hD hS hA (c_Cl_init l G q116) si_X3_21 [4] [0, 1, 2, 3] rfl rfl (by decide) rfl (by decide) (by decide) rfl rfl (Nat.le_of_ble_eq_true rfl) ⟨Nat.le_of_ble_eq_true rfl, Nat.le_of_ble_eq_true rfl⟩ ⟨by first | exact Nat.le_of_ble_eq_true rfl | omega, by first | exact Nat.le_of_ble_eq_true rfl | omega⟩ dX3_init_38 (fun u118 H locs hr117 hP hD hS => ?_)
  obtain ⟨ca119, rfl⟩ : ∃ z9, z9 = u118 := ⟨_, rfl⟩
  have hP : va_P G.1 vwCl [(h0, .inr (3, [.ref bk, .ref q83, .int 0, .int 0, .int 0])), (q83, .inl (G.2.2.1, 13, .inr (.inr (.inr (.inr (va_up (va_up (va_up (va_up (va_up (va_up (va_up (va_up (fun _ => none) 0 (some q84)) 1 (some q88)) 2 (some q92)) 3 (some q96)) 4 (some q100)) 5 (some q104)) 6 (some q108)) 7 (some q112))))))), (q84, .inr (1, [.ref ca87])), (ca87, .inl (G.2.1, 36, .inl (fun _ => 0))), (q116, .inr (1, [.ref ca119])), (ca119, .inl (G.2.1, 36, .inl (fun _ => 0)))] H := hP
  have hD : va_D A [(h0, .inr (3, [.ref bk, .ref q83, .int 0, .int 0, .int 0])), (q83, .inl (G.2.2.1, 13, .inr (.inr (.inr (.inr (va_up (va_up (va_up (va_up (va_up (va_up (va_up (va_up (fun _ => none) 0 (some q84)) 1 (some q88)) 2 (some q92)) 3 (some q96)) 4 (some q100)) 5 (some q104)) 6 (some q108)) 7 (some q112))))))), (q84, .inr (1, [.ref ca87])), (ca87, .inl (G.2.1, 36, .inl (fun _ => 0))), (q116, .inr (1, [.ref ca119])), (ca119, .inl (G.2.1, 36, .inl (fun _ => 0)))] := hD
  refine Wcast (c1 := 19) (s1 := 346) rfl rfl ?_
  refine va_astq (r := (RX1, TX1, 1)) hx hb hK.1 hP hD hS 1 1 4 1 rfl rfl rfl rfl (vin (by decide +kernel)) dX3_init_41 (fun H locs hP hD hS => ?_)
  have hP : va_P G.1 vwCl [(h0, .inr (3, [.ref bk, .ref q83, .int 0, .int 0, .int 0])), (q83, .inl (G.2.2.1, 13, .inr (.inr (.inr (.inr (va_up (va_up (va_up (va_up (va_up (va_up (va_up (va_up (va_up (fun _ => none) 0 (some q84)) 1 (some q88)) 2 (some q92)) 3 (some q96)) 4 (some q100)) 5 (some q104)) 6 (some q108)) 7 (some q112)) 8 (some q116))))))), (q84, .inr (1, [.ref ca87])), (ca87, .inl (G.2.1, 36, .inl (fun _ => 0))), (q116, .inr (1, [.ref ca119])), (ca119, .inl (G.2.1, 36, .inl (fun _ => 0)))] H := hP
  have hD : va_D A [(h0, .inr (3, [.ref bk, .ref q83, .int 0, .int 0, .int 0])), (q83, .inl (G.2.2.1, 13, .inr (.inr (.inr (.inr (va_up (va_up (va_up (va_up (va_up (va_up (va_up (va_up (va_up (fun _ => none) 0 (some q84)) 1 (some q88)) 2 (some q92)) 3 (some q96)) 4 (some q100)) 5 (some q104)) 6 (some q108)) 7 (some q112)) 8 (some q116))))))), (q84, .inr (1, [.ref ca87])), (ca87, .inl (G.2.1, 36, .inl (fun _ => 0))), (q116, .inr (1, [.ref ca119])), (ca119, .inl (G.2.1, 36, .inl (fun _ => 0)))] := hD
  have hP := hP.sub (ws' := [(h0, .inr (3, [.ref bk, .ref q83, .int 0, .int 0, .int 0])), (q83, .inl (G.2.2.1, 13, .inr (.inr (.inr (.inr (va_up (va_up (va_up (va_up (va_up (va_up (va_up (va_up (va_up (fun _ => none) 0 (some q84)) 1 (some q88)) 2 (some q92)) 3 (some q96)) 4 (some q100)) 5 (some q104)) 6 (some q108)) 7 (some q112)) 8 (some q116))))))), (q84, .inr (1, [.ref ca87])), (ca87, .inl (G.2.1, 36, .inl (fun _ => 0)))]) [0, 1, 2, 3] rfl
  have hD := hD.sub (ws' := [(h0, .inr (3, [.ref bk, .ref q83, .int 0, .int 0, .int 0])), (q83, .inl (G.2.2.1, 13, .inr (.inr (.inr (.inr (va_up (va_up (va_up (va_up (va_up (va_up (va_up (va_up (va_up (fun _ => none) 0 (some q84)) 1 (some q88)) 2 (some q92)) 3 (some q96)) 4 (some q100)) 5 (some q104)) 6 (some q108)) 7 (some q112)) 8 (some q116))))))), (q84, .inr (1, [.ref ca87])), (ca87, .inl (G.2.1, 36, .inl (fun _ => 0)))]) [0, 1, 2, 3] (by decide) rfl
  refine lv_iinc (v := 9) (lv' := [(2, .int 9), (0, .ref h0), (1, .ref bk)]) hx hb dX3_init_42 hl (k := 0) rfl (by decide) (by decide) rfl (fun ls hl => ?_)
  refine lv_goto (tgt := 20) hx hb dX3_init_45 (by decide) ?_
  refine lv_iload_n hx hb dX3_init_20 rfl (lv_at hl 0 rfl) ?_
  refine lv_aload_n hx hb dX3_init_21 rfl (lv_at hl 1 rfl) ?_
  refine gf_X3_11 hC rfl hK hP 0 rfl rfl dX3_init_22 ?_
  refine va_alen (v := 13) hx hb hK.1 hP 1 1 rfl rfl (show Int32.ofNat 13 = 13 by decide) dX3_init_25 ?_
  refine lv_icmp_ge (tgt := 48) hx hb dX3_init_26 (by decide) (fun c9 => absurd c9 (by decide)) (fun _ => ?_)
  refine lv_aload_n hx hb dX3_init_29 rfl (lv_at hl 1 rfl) ?_
  refine gf_X3_11 hC rfl hK hP 0 rfl rfl dX3_init_30 ?_
  refine lv_iload_n hx hb dX3_init_33 rfl (lv_at hl 0 rfl) ?_
  refine nw_X3_9 hC rfl hK hP hD hS hA (Nat.le_of_ble_eq_true rfl) (Nat.le_of_ble_eq_true rfl) dX3_init_34 (fun q120 H hP hD hS => ?_)
  have hP : va_P G.1 vwCl [(h0, .inr (3, [.ref bk, .ref q83, .int 0, .int 0, .int 0])), (q83, .inl (G.2.2.1, 13, .inr (.inr (.inr (.inr (va_up (va_up (va_up (va_up (va_up (va_up (va_up (va_up (va_up (fun _ => none) 0 (some q84)) 1 (some q88)) 2 (some q92)) 3 (some q96)) 4 (some q100)) 5 (some q104)) 6 (some q108)) 7 (some q112)) 8 (some q116))))))), (q84, .inr (1, [.ref ca87])), (ca87, .inl (G.2.1, 36, .inl (fun _ => 0))), (q120, .inr (1, [.null]))] H := hP
  have hD : va_D A [(h0, .inr (3, [.ref bk, .ref q83, .int 0, .int 0, .int 0])), (q83, .inl (G.2.2.1, 13, .inr (.inr (.inr (.inr (va_up (va_up (va_up (va_up (va_up (va_up (va_up (va_up (va_up (fun _ => none) 0 (some q84)) 1 (some q88)) 2 (some q92)) 3 (some q96)) 4 (some q100)) 5 (some q104)) 6 (some q108)) 7 (some q112)) 8 (some q116))))))), (q84, .inr (1, [.ref ca87])), (ca87, .inl (G.2.1, 36, .inl (fun _ => 0))), (q120, .inr (1, [.null]))] := hD
  refine Wcast (c1 := 20) (s1 := 347) rfl rfl ?_
  refine lv_dup hx hb dX3_init_37 rfl ?_
  refine vIN (wr := [(h0, .inr (3, [.ref bk, .ref q83, .int 0, .int 0, .int 0])), (q83, .inl (G.2.2.1, 13, .inr (.inr (.inr (.inr (va_up (va_up (va_up (va_up (va_up (va_up (va_up (va_up (va_up (fun _ => none) 0 (some q84)) 1 (some q88)) 2 (some q92)) 3 (some q96)) 4 (some q100)) 5 (some q104)) 6 (some q108)) 7 (some q112)) 8 (some q116))))))), (q84, .inr (1, [.ref ca87])), (ca87, .inl (G.2.1, 36, .inl (fun _ => 0)))]) hC hK hl hP hD hS hA (c_Cl_init l G q120) si_X3_21 [4] [0, 1, 2, 3] rfl rfl (by decide) rfl (by decide) (by decide) rfl rfl (Nat.le_of_ble_eq_true rfl) ⟨Nat.le_of_ble_eq_true rfl, Nat.le_of_ble_eq_true rfl⟩ ⟨by first | exact Nat.le_of_ble_eq_true rfl | omega, by first | exact Nat.le_of_ble_eq_true rfl | omega⟩ dX3_init_38 (fun u122 H locs hr121 hP hD hS => ?_)
  obtain ⟨ca123, rfl⟩ : ∃ z9, z9 = u122 := ⟨_, rfl⟩
  have hP : va_P G.1 vwCl [(h0, .inr (3, [.ref bk, .ref q83, .int 0, .int 0, .int 0])), (q83, .inl (G.2.2.1, 13, .inr (.inr (.inr (.inr (va_up (va_up (va_up (va_up (va_up (va_up (va_up (va_up (va_up (fun _ => none) 0 (some q84)) 1 (some q88)) 2 (some q92)) 3 (some q96)) 4 (some q100)) 5 (some q104)) 6 (some q108)) 7 (some q112)) 8 (some q116))))))), (q84, .inr (1, [.ref ca87])), (ca87, .inl (G.2.1, 36, .inl (fun _ => 0))), (q120, .inr (1, [.ref ca123])), (ca123, .inl (G.2.1, 36, .inl (fun _ => 0)))] H := hP
  have hD : va_D A [(h0, .inr (3, [.ref bk, .ref q83, .int 0, .int 0, .int 0])), (q83, .inl (G.2.2.1, 13, .inr (.inr (.inr (.inr (va_up (va_up (va_up (va_up (va_up (va_up (va_up (va_up (va_up (fun _ => none) 0 (some q84)) 1 (some q88)) 2 (some q92)) 3 (some q96)) 4 (some q100)) 5 (some q104)) 6 (some q108)) 7 (some q112)) 8 (some q116))))))), (q84, .inr (1, [.ref ca87])), (ca87, .inl (G.2.1, 36, .inl (fun _ => 0))), (q120, .inr (1, [.ref ca123])), (ca123, .inl (G.2.1, 36, .inl (fun _ => 0)))] := hD
  refine Wcast (c1 := 21) (s1 := 383) rfl rfl ?_
  refine va_astq (r := (RX1, TX1, 1)) hx hb hK.1 hP hD hS 1 1 4 1 rfl rfl rfl rfl (vin (by decide +kernel)) dX3_init_41 (fun H locs hP hD hS => ?_)
  have hP : va_P G.1 vwCl [(h0, .inr (3, [.ref bk, .ref q83, .int 0, .int 0, .int 0])), (q83, .inl (G.2.2.1, 13, .inr (.inr (.inr (.inr (va_up (va_up (va_up (va_up (va_up (va_up (va_up (va_up (va_up (va_up (fun _ => none) 0 (some q84)) 1 (some q88)) 2 (some q92)) 3 (some q96)) 4 (some q100)) 5 (some q104)) 6 (some q108)) 7 (some q112)) 8 (some q116)) 9 (some q120))))))), (q84, .inr (1, [.ref ca87])), (ca87, .inl (G.2.1, 36, .inl (fun _ => 0))), (q120, .inr (1, [.ref ca123])), (ca123, .inl (G.2.1, 36, .inl (fun _ => 0)))] H := hP
  have hD : va_D A [(h0, .inr (3, [.ref bk, .ref q83, .int 0, .int 0, .int 0])), (q83, .inl (G.2.2.1, 13, .inr (.inr (.inr (.inr (va_up (va_up (va_up (va_up (va_up (va_up (va_up (va_up (va_up (va_up (fun _ => none) 0 (some q84)) 1 (some q88)) 2 (some q92)) 3 (some q96)) 4 (some q100)) 5 (some q104)) 6 (some q108)) 7 (some q112)) 8 (some q116)) 9 (some q120))))))), (q84, .inr (1, [.ref ca87])), (ca87, .inl (G.2.1, 36, .inl (fun _ => 0))), (q120, .inr (1, [.ref ca123])), (ca123, .inl (G.2.1, 36, .inl (fun _ => 0)))] := hD
  have hP := hP.sub (ws' := [(h0, .inr (3, [.ref bk, .ref q83, .int 0, .int 0, .int 0])), (q83, .inl (G.2.2.1, 13, .inr (.inr (.inr (.inr (va_up (va_up (va_up (va_up (va_up (va_up (va_up (va_up (va_up (va_up (fun _ => none) 0 (some q84)) 1 (some q88)) 2 (some q92)) 3 (some q96)) 4 (some q100)) 5 (some q104)) 6 (some q108)) 7 (some q112)) 8 (some q116)) 9 (some q120))))))), (q84, .inr (1, [.ref ca87])), (ca87, .inl (G.2.1, 36, .inl (fun _ => 0)))]) [0, 1, 2, 3] rfl
  have hD := hD.sub (ws' := [(h0, .inr (3, [.ref bk, .ref q83, .int 0, .int 0, .int 0])), (q83, .inl (G.2.2.1, 13, .inr (.inr (.inr (.inr (va_up (va_up (va_up (va_up (va_up (va_up (va_up (va_up (va_up (va_up (fun _ => none) 0 (some q84)) 1 (some q88)) 2 (some q92)) 3 (some q96)) 4 (some q100)) 5 (some q104)) 6 (some q108)) 7 (some q112)) 8 (some q116)) 9 (some q120))))))), (q84, .inr (1, [.ref ca87])), (ca87, .inl (G.2.1, 36, .inl (fun _ => 0)))]) [0, 1, 2, 3] (by decide) rfl
  refine lv_iinc (v := 10) (lv' := [(2, .int 10), (0, .ref h0), (1, .ref bk)]) hx hb dX3_init_42 hl (k := 0) rfl (by decide) (by decide) rfl (fun ls hl => ?_)
  refine lv_goto (tgt := 20) hx hb dX3_init_45 (by decide) ?_
  refine lv_iload_n hx hb dX3_init_20 rfl (lv_at hl 0 rfl) ?_
  refine lv_aload_n hx hb dX3_init_21 rfl (lv_at hl 1 rfl) ?_
  refine gf_X3_11 hC rfl hK hP 0 rfl rfl dX3_init_22 ?_
  refine va_alen (v := 13) hx hb hK.1 hP 1 1 rfl rfl (show Int32.ofNat 13 = 13 by decide) dX3_init_25 ?_
  refine lv_icmp_ge (tgt := 48) hx hb dX3_init_26 (by decide) (fun c9 => absurd c9 (by decide)) (fun _ => ?_)
  refine lv_aload_n hx hb dX3_init_29 rfl (lv_at hl 1 rfl) ?_
  refine gf_X3_11 hC rfl hK hP 0 rfl rfl dX3_init_30 ?_
  refine lv_iload_n hx hb dX3_init_33 rfl (lv_at hl 0 rfl) ?_
  refine nw_X3_9 hC rfl hK hP hD hS hA (Nat.le_of_ble_eq_true rfl) (Nat.le_of_ble_eq_true rfl) dX3_init_34 (fun q124 H hP hD hS => ?_)
  have hP : va_P G.1 vwCl [(h0, .inr (3, [.ref bk, .ref q83, .int 0, .int 0, .int 0])), (q83, .inl (G.2.2.1, 13, .inr (.inr (.inr (.inr (va_up (va_up (va_up (va_up (va_up (va_up (va_up (va_up (va_up (va_up (fun _ => none) 0 (some q84)) 1 (some q88)) 2 (some q92)) 3 (some q96)) 4 (some q100)) 5 (some q104)) 6 (some q108)) 7 (some q112)) 8 (some q116)) 9 (some q120))))))), (q84, .inr (1, [.ref ca87])), (ca87, .inl (G.2.1, 36, .inl (fun _ => 0))), (q124, .inr (1, [.null]))] H := hP
  have hD : va_D A [(h0, .inr (3, [.ref bk, .ref q83, .int 0, .int 0, .int 0])), (q83, .inl (G.2.2.1, 13, .inr (.inr (.inr (.inr (va_up (va_up (va_up (va_up (va_up (va_up (va_up (va_up (va_up (va_up (fun _ => none) 0 (some q84)) 1 (some q88)) 2 (some q92)) 3 (some q96)) 4 (some q100)) 5 (some q104)) 6 (some q108)) 7 (some q112)) 8 (some q116)) 9 (some q120))))))), (q84, .inr (1, [.ref ca87])), (ca87, .inl (G.2.1, 36, .inl (fun _ => 0))), (q124, .inr (1, [.null]))] := hD
  refine Wcast (c1 := 22) (s1 := 384) rfl rfl ?_
  refine lv_dup hx hb dX3_init_37 rfl ?_
  refine vIN (wr := [(h0, .inr (3, [.ref bk, .ref q83, .int 0, .int 0, .int 0])), (q83, .inl (G.2.2.1, 13, .inr (.inr (.inr (.inr (va_up (va_up (va_up (va_up (va_up (va_up (va_up (va_up (va_up (va_up (fun _ => none) 0 (some q84)) 1 (some q88)) 2 (some q92)) 3 (some q96)) 4 (some q100)) 5 (some q104)) 6 (some q108)) 7 (some q112)) 8 (some q116)) 9 (some q120))))))), (q84, .inr (1, [.ref ca87])), (ca87, .inl (G.2.1, 36, .inl (fun _ => 0)))]) hC hK hl hP hD hS hA (c_Cl_init l G q124) si_X3_21 [4] [0, 1, 2, 3] rfl rfl (by decide) rfl (by decide) (by decide) rfl rfl (Nat.le_of_ble_eq_true rfl) ⟨Nat.le_of_ble_eq_true rfl, Nat.le_of_ble_eq_true rfl⟩ ⟨by first | exact Nat.le_of_ble_eq_true rfl | omega, by first | exact Nat.le_of_ble_eq_true rfl | omega⟩ dX3_init_38 (fun u126 H locs hr125 hP hD hS => ?_)
  obtain ⟨ca127, rfl⟩ : ∃ z9, z9 = u126 := ⟨_, rfl⟩
  have hP : va_P G.1 vwCl [(h0, .inr (3, [.ref bk, .ref q83, .int 0, .int 0, .int 0])), (q83, .inl (G.2.2.1, 13, .inr (.inr (.inr (.inr (va_up (va_up (va_up (va_up (va_up (va_up (va_up (va_up (va_up (va_up (fun _ => none) 0 (some q84)) 1 (some q88)) 2 (some q92)) 3 (some q96)) 4 (some q100)) 5 (some q104)) 6 (some q108)) 7 (some q112)) 8 (some q116)) 9 (some q120))))))), (q84, .inr (1, [.ref ca87])), (ca87, .inl (G.2.1, 36, .inl (fun _ => 0))), (q124, .inr (1, [.ref ca127])), (ca127, .inl (G.2.1, 36, .inl (fun _ => 0)))] H := hP
  have hD : va_D A [(h0, .inr (3, [.ref bk, .ref q83, .int 0, .int 0, .int 0])), (q83, .inl (G.2.2.1, 13, .inr (.inr (.inr (.inr (va_up (va_up (va_up (va_up (va_up (va_up (va_up (va_up (va_up (va_up (fun _ => none) 0 (some q84)) 1 (some q88)) 2 (some q92)) 3 (some q96)) 4 (some q100)) 5 (some q104)) 6 (some q108)) 7 (some q112)) 8 (some q116)) 9 (some q120))))))), (q84, .inr (1, [.ref ca87])), (ca87, .inl (G.2.1, 36, .inl (fun _ => 0))), (q124, .inr (1, [.ref ca127])), (ca127, .inl (G.2.1, 36, .inl (fun _ => 0)))] := hD
  refine Wcast (c1 := 23) (s1 := 420) rfl rfl ?_
  refine va_astq (r := (RX1, TX1, 1)) hx hb hK.1 hP hD hS 1 1 4 1 rfl rfl rfl rfl (vin (by decide +kernel)) dX3_init_41 (fun H locs hP hD hS => ?_)
  have hP : va_P G.1 vwCl [(h0, .inr (3, [.ref bk, .ref q83, .int 0, .int 0, .int 0])), (q83, .inl (G.2.2.1, 13, .inr (.inr (.inr (.inr (va_up (va_up (va_up (va_up (va_up (va_up (va_up (va_up (va_up (va_up (va_up (fun _ => none) 0 (some q84)) 1 (some q88)) 2 (some q92)) 3 (some q96)) 4 (some q100)) 5 (some q104)) 6 (some q108)) 7 (some q112)) 8 (some q116)) 9 (some q120)) 10 (some q124))))))), (q84, .inr (1, [.ref ca87])), (ca87, .inl (G.2.1, 36, .inl (fun _ => 0))), (q124, .inr (1, [.ref ca127])), (ca127, .inl (G.2.1, 36, .inl (fun _ => 0)))] H := hP
  have hD : va_D A [(h0, .inr (3, [.ref bk, .ref q83, .int 0, .int 0, .int 0])), (q83, .inl (G.2.2.1, 13, .inr (.inr (.inr (.inr (va_up (va_up (va_up (va_up (va_up (va_up (va_up (va_up (va_up (va_up (va_up (fun _ => none) 0 (some q84)) 1 (some q88)) 2 (some q92)) 3 (some q96)) 4 (some q100)) 5 (some q104)) 6 (some q108)) 7 (some q112)) 8 (some q116)) 9 (some q120)) 10 (some q124))))))), (q84, .inr (1, [.ref ca87])), (ca87, .inl (G.2.1, 36, .inl (fun _ => 0))), (q124, .inr (1, [.ref ca127])), (ca127, .inl (G.2.1, 36, .inl (fun _ => 0)))] := hD
  have hP := hP.sub (ws' := [(h0, .inr (3, [.ref bk, .ref q83, .int 0, .int 0, .int 0])), (q83, .inl (G.2.2.1, 13, .inr (.inr (.inr (.inr (va_up (va_up (va_up (va_up (va_up (va_up (va_up (va_up (va_up (va_up (va_up (fun _ => none) 0 (some q84)) 1 (some q88)) 2 (some q92)) 3 (some q96)) 4 (some q100)) 5 (some q104)) 6 (some q108)) 7 (some q112)) 8 (some q116)) 9 (some q120)) 10 (some q124))))))), (q84, .inr (1, [.ref ca87])), (ca87, .inl (G.2.1, 36, .inl (fun _ => 0)))]) [0, 1, 2, 3] rfl
  have hD := hD.sub (ws' := [(h0, .inr (3, [.ref bk, .ref q83, .int 0, .int 0, .int 0])), (q83, .inl (G.2.2.1, 13, .inr (.inr (.inr (.inr (va_up (va_up (va_up (va_up (va_up (va_up (va_up (va_up (va_up (va_up (va_up (fun _ => none) 0 (some q84)) 1 (some q88)) 2 (some q92)) 3 (some q96)) 4 (some q100)) 5 (some q104)) 6 (some q108)) 7 (some q112)) 8 (some q116)) 9 (some q120)) 10 (some q124))))))), (q84, .inr (1, [.ref ca87])), (ca87, .inl (G.2.1, 36, .inl (fun _ => 0)))]) [0, 1, 2, 3] (by decide) rfl
  refine lv_iinc (v := 11) (lv' := [(2, .int 11), (0, .ref h0), (1, .ref bk)]) hx hb dX3_init_42 hl (k := 0) rfl (by decide) (by decide) rfl (fun ls hl => ?_)
  refine lv_goto (tgt := 20) hx hb dX3_init_45 (by decide) ?_
  refine lv_iload_n hx hb dX3_init_20 rfl (lv_at hl 0 rfl) ?_
  refine lv_aload_n hx hb dX3_init_21 rfl (lv_at hl 1 rfl) ?_
  refine gf_X3_11 hC rfl hK hP 0 rfl rfl dX3_init_22 ?_
  refine va_alen (v := 13) hx hb hK.1 hP 1 1 rfl rfl (show Int32.ofNat 13 = 13 by decide) dX3_init_25 ?_
  refine lv_icmp_ge (tgt := 48) hx hb dX3_init_26 (by decide) (fun c9 => absurd c9 (by decide)) (fun _ => ?_)
  refine lv_aload_n hx hb dX3_init_29 rfl (lv_at hl 1 rfl) ?_
  refine gf_X3_11 hC rfl hK hP 0 rfl rfl dX3_init_30 ?_
  refine lv_iload_n hx hb dX3_init_33 rfl (lv_at hl 0 rfl) ?_
  refine nw_X3_9 hC rfl hK hP hD hS hA (Nat.le_of_ble_eq_true rfl) (Nat.le_of_ble_eq_true rfl) dX3_init_34 (fun q128 H hP hD hS => ?_)
  have hP : va_P G.1 vwCl [(h0, .inr (3, [.ref bk, .ref q83, .int 0, .int 0, .int 0])), (q83, .inl (G.2.2.1, 13, .inr (.inr (.inr (.inr (va_up (va_up (va_up (va_up (va_up (va_up (va_up (va_up (va_up (va_up (va_up (fun _ => none) 0 (some q84)) 1 (some q88)) 2 (some q92)) 3 (some q96)) 4 (some q100)) 5 (some q104)) 6 (some q108)) 7 (some q112)) 8 (some q116)) 9 (some q120)) 10 (some q124))))))), (q84, .inr (1, [.ref ca87])), (ca87, .inl (G.2.1, 36, .inl (fun _ => 0))), (q128, .inr (1, [.null]))] H := hP
  have hD : va_D A [(h0, .inr (3, [.ref bk, .ref q83, .int 0, .int 0, .int 0])), (q83, .inl (G.2.2.1, 13, .inr (.inr (.inr (.inr (va_up (va_up (va_up (va_up (va_up (va_up (va_up (va_up (va_up (va_up (va_up (fun _ => none) 0 (some q84)) 1 (some q88)) 2 (some q92)) 3 (some q96)) 4 (some q100)) 5 (some q104)) 6 (some q108)) 7 (some q112)) 8 (some q116)) 9 (some q120)) 10 (some q124))))))), (q84, .inr (1, [.ref ca87])), (ca87, .inl (G.2.1, 36, .inl (fun _ => 0))), (q128, .inr (1, [.null]))] := hD
  refine Wcast (c1 := 24) (s1 := 421) rfl rfl ?_
  refine lv_dup hx hb dX3_init_37 rfl ?_
  refine vIN (wr := [(h0, .inr (3, [.ref bk, .ref q83, .int 0, .int 0, .int 0])), (q83, .inl (G.2.2.1, 13, .inr (.inr (.inr (.inr (va_up (va_up (va_up (va_up (va_up (va_up (va_up (va_up (va_up (va_up (va_up (fun _ => none) 0 (some q84)) 1 (some q88)) 2 (some q92)) 3 (some q96)) 4 (some q100)) 5 (some q104)) 6 (some q108)) 7 (some q112)) 8 (some q116)) 9 (some q120)) 10 (some q124))))))), (q84, .inr (1, [.ref ca87])), (ca87, .inl (G.2.1, 36, .inl (fun _ => 0)))]) hC hK hl hP hD hS hA (c_Cl_init l G q128) si_X3_21 [4] [0, 1, 2, 3] rfl rfl (by decide) rfl (by decide) (by decide) rfl rfl (Nat.le_of_ble_eq_true rfl) ⟨Nat.le_of_ble_eq_true rfl, Nat.le_of_ble_eq_true rfl⟩ ⟨by first | exact Nat.le_of_ble_eq_true rfl | omega, by first | exact Nat.le_of_ble_eq_true rfl | omega⟩ dX3_init_38 (fun u130 H locs hr129 hP hD hS => ?_)
  obtain ⟨ca131, rfl⟩ : ∃ z9, z9 = u130 := ⟨_, rfl⟩
  have hP : va_P G.1 vwCl [(h0, .inr (3, [.ref bk, .ref q83, .int 0, .int 0, .int 0])), (q83, .inl (G.2.2.1, 13, .inr (.inr (.inr (.inr (va_up (va_up (va_up (va_up (va_up (va_up (va_up (va_up (va_up (va_up (va_up (fun _ => none) 0 (some q84)) 1 (some q88)) 2 (some q92)) 3 (some q96)) 4 (some q100)) 5 (some q104)) 6 (some q108)) 7 (some q112)) 8 (some q116)) 9 (some q120)) 10 (some q124))))))), (q84, .inr (1, [.ref ca87])), (ca87, .inl (G.2.1, 36, .inl (fun _ => 0))), (q128, .inr (1, [.ref ca131])), (ca131, .inl (G.2.1, 36, .inl (fun _ => 0)))] H := hP
  have hD : va_D A [(h0, .inr (3, [.ref bk, .ref q83, .int 0, .int 0, .int 0])), (q83, .inl (G.2.2.1, 13, .inr (.inr (.inr (.inr (va_up (va_up (va_up (va_up (va_up (va_up (va_up (va_up (va_up (va_up (va_up (fun _ => none) 0 (some q84)) 1 (some q88)) 2 (some q92)) 3 (some q96)) 4 (some q100)) 5 (some q104)) 6 (some q108)) 7 (some q112)) 8 (some q116)) 9 (some q120)) 10 (some q124))))))), (q84, .inr (1, [.ref ca87])), (ca87, .inl (G.2.1, 36, .inl (fun _ => 0))), (q128, .inr (1, [.ref ca131])), (ca131, .inl (G.2.1, 36, .inl (fun _ => 0)))] := hD
  refine Wcast (c1 := 25) (s1 := 457) rfl rfl ?_
  refine va_astq (r := (RX1, TX1, 1)) hx hb hK.1 hP hD hS 1 1 4 1 rfl rfl rfl rfl (vin (by decide +kernel)) dX3_init_41 (fun H locs hP hD hS => ?_)
  have hP : va_P G.1 vwCl [(h0, .inr (3, [.ref bk, .ref q83, .int 0, .int 0, .int 0])), (q83, .inl (G.2.2.1, 13, .inr (.inr (.inr (.inr (va_up (va_up (va_up (va_up (va_up (va_up (va_up (va_up (va_up (va_up (va_up (va_up (fun _ => none) 0 (some q84)) 1 (some q88)) 2 (some q92)) 3 (some q96)) 4 (some q100)) 5 (some q104)) 6 (some q108)) 7 (some q112)) 8 (some q116)) 9 (some q120)) 10 (some q124)) 11 (some q128))))))), (q84, .inr (1, [.ref ca87])), (ca87, .inl (G.2.1, 36, .inl (fun _ => 0))), (q128, .inr (1, [.ref ca131])), (ca131, .inl (G.2.1, 36, .inl (fun _ => 0)))] H := hP
  have hD : va_D A [(h0, .inr (3, [.ref bk, .ref q83, .int 0, .int 0, .int 0])), (q83, .inl (G.2.2.1, 13, .inr (.inr (.inr (.inr (va_up (va_up (va_up (va_up (va_up (va_up (va_up (va_up (va_up (va_up (va_up (va_up (fun _ => none) 0 (some q84)) 1 (some q88)) 2 (some q92)) 3 (some q96)) 4 (some q100)) 5 (some q104)) 6 (some q108)) 7 (some q112)) 8 (some q116)) 9 (some q120)) 10 (some q124)) 11 (some q128))))))), (q84, .inr (1, [.ref ca87])), (ca87, .inl (G.2.1, 36, .inl (fun _ => 0))), (q128, .inr (1, [.ref ca131])), (ca131, .inl (G.2.1, 36, .inl (fun _ => 0)))] := hD
  have hP := hP.sub (ws' := [(h0, .inr (3, [.ref bk, .ref q83, .int 0, .int 0, .int 0])), (q83, .inl (G.2.2.1, 13, .inr (.inr (.inr (.inr (va_up (va_up (va_up (va_up (va_up (va_up (va_up (va_up (va_up (va_up (va_up (va_up (fun _ => none) 0 (some q84)) 1 (some q88)) 2 (some q92)) 3 (some q96)) 4 (some q100)) 5 (some q104)) 6 (some q108)) 7 (some q112)) 8 (some q116)) 9 (some q120)) 10 (some q124)) 11 (some q128))))))), (q84, .inr (1, [.ref ca87])), (ca87, .inl (G.2.1, 36, .inl (fun _ => 0)))]) [0, 1, 2, 3] rfl
  have hD := hD.sub (ws' := [(h0, .inr (3, [.ref bk, .ref q83, .int 0, .int 0, .int 0])), (q83, .inl (G.2.2.1, 13, .inr (.inr (.inr (.inr (va_up (va_up (va_up (va_up (va_up (va_up (va_up (va_up (va_up (va_up (va_up (va_up (fun _ => none) 0 (some q84)) 1 (some q88)) 2 (some q92)) 3 (some q96)) 4 (some q100)) 5 (some q104)) 6 (some q108)) 7 (some q112)) 8 (some q116)) 9 (some q120)) 10 (some q124)) 11 (some q128))))))), (q84, .inr (1, [.ref ca87])), (ca87, .inl (G.2.1, 36, .inl (fun _ => 0)))]) [0, 1, 2, 3] (by decide) rfl
  refine lv_iinc (v := 12) (lv' := [(2, .int 12), (0, .ref h0), (1, .ref bk)]) hx hb dX3_init_42 hl (k := 0) rfl (by decide) (by decide) rfl (fun ls hl => ?_)
  refine lv_goto (tgt := 20) hx hb dX3_init_45 (by decide) ?_
  refine lv_iload_n hx hb dX3_init_20 rfl (lv_at hl 0 rfl) ?_
  refine lv_aload_n hx hb dX3_init_21 rfl (lv_at hl 1 rfl) ?_
  refine gf_X3_11 hC rfl hK hP 0 rfl rfl dX3_init_22 ?_
  refine va_alen (v := 13) hx hb hK.1 hP 1 1 rfl rfl (show Int32.ofNat 13 = 13 by decide) dX3_init_25 ?_
  refine lv_icmp_ge (tgt := 48) hx hb dX3_init_26 (by decide) (fun c9 => absurd c9 (by decide)) (fun _ => ?_)
  refine lv_aload_n hx hb dX3_init_29 rfl (lv_at hl 1 rfl) ?_
  refine gf_X3_11 hC rfl hK hP 0 rfl rfl dX3_init_30 ?_
  refine lv_iload_n hx hb dX3_init_33 rfl (lv_at hl 0 rfl) ?_
  refine nw_X3_9 hC rfl hK hP hD hS hA (Nat.le_of_ble_eq_true rfl) (Nat.le_of_ble_eq_true rfl) dX3_init_34 (fun q132 H hP hD hS => ?_)
  have hP : va_P G.1 vwCl [(h0, .inr (3, [.ref bk, .ref q83, .int 0, .int 0, .int 0])), (q83, .inl (G.2.2.1, 13, .inr (.inr (.inr (.inr (va_up (va_up (va_up (va_up (va_up (va_up (va_up (va_up (va_up (va_up (va_up (va_up (fun _ => none) 0 (some q84)) 1 (some q88)) 2 (some q92)) 3 (some q96)) 4 (some q100)) 5 (some q104)) 6 (some q108)) 7 (some q112)) 8 (some q116)) 9 (some q120)) 10 (some q124)) 11 (some q128))))))), (q84, .inr (1, [.ref ca87])), (ca87, .inl (G.2.1, 36, .inl (fun _ => 0))), (q132, .inr (1, [.null]))] H := hP
  have hD : va_D A [(h0, .inr (3, [.ref bk, .ref q83, .int 0, .int 0, .int 0])), (q83, .inl (G.2.2.1, 13, .inr (.inr (.inr (.inr (va_up (va_up (va_up (va_up (va_up (va_up (va_up (va_up (va_up (va_up (va_up (va_up (fun _ => none) 0 (some q84)) 1 (some q88)) 2 (some q92)) 3 (some q96)) 4 (some q100)) 5 (some q104)) 6 (some q108)) 7 (some q112)) 8 (some q116)) 9 (some q120)) 10 (some q124)) 11 (some q128))))))), (q84, .inr (1, [.ref ca87])), (ca87, .inl (G.2.1, 36, .inl (fun _ => 0))), (q132, .inr (1, [.null]))] := hD
  refine Wcast (c1 := 26) (s1 := 458) rfl rfl ?_
  refine lv_dup hx hb dX3_init_37 rfl ?_
  refine vIN (wr := [(h0, .inr (3, [.ref bk, .ref q83, .int 0, .int 0, .int 0])), (q83, .inl (G.2.2.1, 13, .inr (.inr (.inr (.inr (va_up (va_up (va_up (va_up (va_up (va_up (va_up (va_up (va_up (va_up (va_up (va_up (fun _ => none) 0 (some q84)) 1 (some q88)) 2 (some q92)) 3 (some q96)) 4 (some q100)) 5 (some q104)) 6 (some q108)) 7 (some q112)) 8 (some q116)) 9 (some q120)) 10 (some q124)) 11 (some q128))))))), (q84, .inr (1, [.ref ca87])), (ca87, .inl (G.2.1, 36, .inl (fun _ => 0)))]) hC hK hl hP hD hS hA (c_Cl_init l G q132) si_X3_21 [4] [0, 1, 2, 3] rfl rfl (by decide) rfl (by decide) (by decide) rfl rfl (Nat.le_of_ble_eq_true rfl) ⟨Nat.le_of_ble_eq_true rfl, Nat.le_of_ble_eq_true rfl⟩ ⟨by first | exact Nat.le_of_ble_eq_true rfl | omega, by first | exact Nat.le_of_ble_eq_true rfl | omega⟩ dX3_init_38 (fun u134 H locs hr133 hP hD hS => ?_)
  obtain ⟨ca135, rfl⟩ : ∃ z9, z9 = u134 := ⟨_, rfl⟩
  have hP : va_P G.1 vwCl [(h0, .inr (3, [.ref bk, .ref q83, .int 0, .int 0, .int 0])), (q83, .inl (G.2.2.1, 13, .inr (.inr (.inr (.inr (va_up (va_up (va_up (va_up (va_up (va_up (va_up (va_up (va_up (va_up (va_up (va_up (fun _ => none) 0 (some q84)) 1 (some q88)) 2 (some q92)) 3 (some q96)) 4 (some q100)) 5 (some q104)) 6 (some q108)) 7 (some q112)) 8 (some q116)) 9 (some q120)) 10 (some q124)) 11 (some q128))))))), (q84, .inr (1, [.ref ca87])), (ca87, .inl (G.2.1, 36, .inl (fun _ => 0))), (q132, .inr (1, [.ref ca135])), (ca135, .inl (G.2.1, 36, .inl (fun _ => 0)))] H := hP
  have hD : va_D A [(h0, .inr (3, [.ref bk, .ref q83, .int 0, .int 0, .int 0])), (q83, .inl (G.2.2.1, 13, .inr (.inr (.inr (.inr (va_up (va_up (va_up (va_up (va_up (va_up (va_up (va_up (va_up (va_up (va_up (va_up (fun _ => none) 0 (some q84)) 1 (some q88)) 2 (some q92)) 3 (some q96)) 4 (some q100)) 5 (some q104)) 6 (some q108)) 7 (some q112)) 8 (some q116)) 9 (some q120)) 10 (some q124)) 11 (some q128))))))), (q84, .inr (1, [.ref ca87])), (ca87, .inl (G.2.1, 36, .inl (fun _ => 0))), (q132, .inr (1, [.ref ca135])), (ca135, .inl (G.2.1, 36, .inl (fun _ => 0)))] := hD
  refine Wcast (c1 := 27) (s1 := 494) rfl rfl ?_
  refine va_astq (r := (RX1, TX1, 1)) hx hb hK.1 hP hD hS 1 1 4 1 rfl rfl rfl rfl (vin (by decide +kernel)) dX3_init_41 (fun H locs hP hD hS => ?_)
  have hP : va_P G.1 vwCl [(h0, .inr (3, [.ref bk, .ref q83, .int 0, .int 0, .int 0])), (q83, .inl (G.2.2.1, 13, .inr (.inr (.inr (.inr (va_up (va_up (va_up (va_up (va_up (va_up (va_up (va_up (va_up (va_up (va_up (va_up (va_up (fun _ => none) 0 (some q84)) 1 (some q88)) 2 (some q92)) 3 (some q96)) 4 (some q100)) 5 (some q104)) 6 (some q108)) 7 (some q112)) 8 (some q116)) 9 (some q120)) 10 (some q124)) 11 (some q128)) 12 (some q132))))))), (q84, .inr (1, [.ref ca87])), (ca87, .inl (G.2.1, 36, .inl (fun _ => 0))), (q132, .inr (1, [.ref ca135])), (ca135, .inl (G.2.1, 36, .inl (fun _ => 0)))] H := hP
  have hD : va_D A [(h0, .inr (3, [.ref bk, .ref q83, .int 0, .int 0, .int 0])), (q83, .inl (G.2.2.1, 13, .inr (.inr (.inr (.inr (va_up (va_up (va_up (va_up (va_up (va_up (va_up (va_up (va_up (va_up (va_up (va_up (va_up (fun _ => none) 0 (some q84)) 1 (some q88)) 2 (some q92)) 3 (some q96)) 4 (some q100)) 5 (some q104)) 6 (some q108)) 7 (some q112)) 8 (some q116)) 9 (some q120)) 10 (some q124)) 11 (some q128)) 12 (some q132))))))), (q84, .inr (1, [.ref ca87])), (ca87, .inl (G.2.1, 36, .inl (fun _ => 0))), (q132, .inr (1, [.ref ca135])), (ca135, .inl (G.2.1, 36, .inl (fun _ => 0)))] := hD
  have hP := hP.sub (ws' := [(h0, .inr (3, [.ref bk, .ref q83, .int 0, .int 0, .int 0])), (q83, .inl (G.2.2.1, 13, .inr (.inr (.inr (.inr (va_up (va_up (va_up (va_up (va_up (va_up (va_up (va_up (va_up (va_up (va_up (va_up (va_up (fun _ => none) 0 (some q84)) 1 (some q88)) 2 (some q92)) 3 (some q96)) 4 (some q100)) 5 (some q104)) 6 (some q108)) 7 (some q112)) 8 (some q116)) 9 (some q120)) 10 (some q124)) 11 (some q128)) 12 (some q132))))))), (q84, .inr (1, [.ref ca87])), (ca87, .inl (G.2.1, 36, .inl (fun _ => 0)))]) [0, 1, 2, 3] rfl
  have hD := hD.sub (ws' := [(h0, .inr (3, [.ref bk, .ref q83, .int 0, .int 0, .int 0])), (q83, .inl (G.2.2.1, 13, .inr (.inr (.inr (.inr (va_up (va_up (va_up (va_up (va_up (va_up (va_up (va_up (va_up (va_up (va_up (va_up (va_up (fun _ => none) 0 (some q84)) 1 (some q88)) 2 (some q92)) 3 (some q96)) 4 (some q100)) 5 (some q104)) 6 (some q108)) 7 (some q112)) 8 (some q116)) 9 (some q120)) 10 (some q124)) 11 (some q128)) 12 (some q132))))))), (q84, .inr (1, [.ref ca87])), (ca87, .inl (G.2.1, 36, .inl (fun _ => 0)))]) [0, 1, 2, 3] (by decide) rfl
  refine lv_iinc (v := 13) (lv' := [(2, .int 13), (0, .ref h0), (1, .ref bk)]) hx hb dX3_init_42 hl (k := 0) rfl (by decide) (by decide) rfl (fun ls hl => ?_)
  refine lv_goto (tgt := 20) hx hb dX3_init_45 (by decide) ?_
  refine lv_iload_n hx hb dX3_init_20 rfl (lv_at hl 0 rfl) ?_
  refine lv_aload_n hx hb dX3_init_21 rfl (lv_at hl 1 rfl) ?_
  refine gf_X3_11 hC rfl hK hP 0 rfl rfl dX3_init_22 ?_
  refine va_alen (v := 13) hx hb hK.1 hP 1 1 rfl rfl (show Int32.ofNat 13 = 13 by decide) dX3_init_25 ?_
  refine lv_icmp_ge (tgt := 48) hx hb dX3_init_26 (by decide) (fun _ => ?_) (fun c9 => absurd (by decide) c9)
  refine lv_aload_n hx hb dX3_init_48 rfl (lv_at hl 1 rfl) ?_
  refine lv_iconst (v := 0) hx hb dX3_init_49 (by decide) ?_
  refine pf_X3_22 hC rfl hK hP hD hS 0 (ws' := [(h0, .inr (3, [.ref bk, .ref q83, .int 0, .int 0, .int 0])), (q83, .inl (G.2.2.1, 13, .inr (.inr (.inr (.inr (va_up (va_up (va_up (va_up (va_up (va_up (va_up (va_up (va_up (va_up (va_up (va_up (va_up (fun _ => none) 0 (some q84)) 1 (some q88)) 2 (some q92)) 3 (some q96)) 4 (some q100)) 5 (some q104)) 6 (some q108)) 7 (some q112)) 8 (some q116)) 9 (some q120)) 10 (some q124)) 11 (some q128)) 12 (some q132))))))), (q84, .inr (1, [.ref ca87])), (ca87, .inl (G.2.1, 36, .inl (fun _ => 0)))]) rfl (Nat.le_of_ble_eq_true rfl) rfl rfl rfl dX3_init_50 (fun H locs hP hD hS => ?_)
  refine lv_aload_n hx hb dX3_init_53 rfl (lv_at hl 1 rfl) ?_
  refine lv_iconst (v := 0) hx hb dX3_init_54 (by decide) ?_
  refine pf_X3_26 hC rfl hK hP hD hS 0 (ws' := [(h0, .inr (3, [.ref bk, .ref q83, .int 0, .int 0, .int 0])), (q83, .inl (G.2.2.1, 13, .inr (.inr (.inr (.inr (va_up (va_up (va_up (va_up (va_up (va_up (va_up (va_up (va_up (va_up (va_up (va_up (va_up (fun _ => none) 0 (some q84)) 1 (some q88)) 2 (some q92)) 3 (some q96)) 4 (some q100)) 5 (some q104)) 6 (some q108)) 7 (some q112)) 8 (some q116)) 9 (some q120)) 10 (some q124)) 11 (some q128)) 12 (some q132))))))), (q84, .inr (1, [.ref ca87])), (ca87, .inl (G.2.1, 36, .inl (fun _ => 0)))]) rfl (Nat.le_of_ble_eq_true rfl) rfl rfl rfl dX3_init_55 (fun H locs hP hD hS => ?_)
  refine lv_aload_n hx hb dX3_init_58 rfl (lv_at hl 1 rfl) ?_
  refine lv_iconst (v := 0) hx hb dX3_init_59 (by decide) ?_
  refine pf_X3_29 hC rfl hK hP hD hS 0 (ws' := [(h0, .inr (3, [.ref bk, .ref q83, .int 0, .int 0, .int 0])), (q83, .inl (G.2.2.1, 13, .inr (.inr (.inr (.inr (va_up (va_up (va_up (va_up (va_up (va_up (va_up (va_up (va_up (va_up (va_up (va_up (va_up (fun _ => none) 0 (some q84)) 1 (some q88)) 2 (some q92)) 3 (some q96)) 4 (some q100)) 5 (some q104)) 6 (some q108)) 7 (some q112)) 8 (some q116)) 9 (some q120)) 10 (some q124)) 11 (some q128)) 12 (some q132))))))), (q84, .inr (1, [.ref ca87])), (ca87, .inl (G.2.1, 36, .inl (fun _ => 0)))]) rfl (Nat.le_of_ble_eq_true rfl) rfl rfl rfl dX3_init_60 (fun H locs hP hD hS => ?_)
  exact RV hC hP hD hS [0, 1, 2, 3] (q83, va_up (va_up (va_up (va_up (va_up (va_up (va_up (va_up (va_up (va_up (va_up (va_up (va_up (fun _ => none) 0 (some q84)) 1 (some q88)) 2 (some q92)) 3 (some q96)) 4 (some q100)) 5 (some q104)) 6 (some q108)) 7 (some q112)) 8 (some q116)) 9 (some q120)) 10 (some q124)) 11 (some q128)) 12 (some q132), q84, ca87) rfl rfl (by decide) (rfl) dX3_init_63
set_option maxHeartbeats 4000000 in
set_option maxRecDepth 100000 in
theorem c_R_init (l : Launch) (G : GG) (h0 : Nat) (bk : Nat) (sg : Nat) : MV l G yX6_init cX6_init 3 2 2 13 [.ref h0, .ref bk, .ref sg] [(h0, .inr (6, [.null, .null, .null, .null, .int 0, .int 0, .int 0]))] (fun u : Nat × Nat => True) (fun u : Nat × Nat => [(h0, .inr (6, [.ref bk, .ref sg, .ref u.1, .ref u.2, .int 0, .int 0, .int 0])), (u.1, .inl (G.2.1, 5, .inl (fun _ => 0))), (u.2, .inl (G.2.1, 8, .inl (fun _ => 0)))]) := by
  refine MV.start (by decide +kernel) (Nat.le_of_ble_eq_true rfl) ?_
  intro p e s m below meth c A ls hC hK hP hD hS hA hl
  have hl : lv_has ls 3 [(0, .ref h0), (1, .ref bk), (2, .ref sg)] := hl
  obtain ⟨hx, hb, hr, hml, hB, hown, hlocks, hnm⟩ := id hC
  refine lv_aload_n hx hb dX6_init_0 rfl (lv_at hl 0 rfl) ?_
  refine W.objInit hx hb hown (hB _ m_117) (hB _ m_11) (hB _ m_12) rfl (by rw [hml]; exact hl.1) rfl dX6_init_1 (Nat.le_of_ble_eq_true rfl) (Nat.le_of_ble_eq_true rfl) ?_
  refine W.eq (g2 := F0 m 4 ls []) rfl ?_
  refine lv_aload_n hx hb dX6_init_4 rfl (lv_at hl 0 rfl) ?_
  refine lv_iconst (v := 5) hx hb dX6_init_5 (by decide) ?_
  refine newI hC hK hP hD hS hA m_81 (by decide) (N := 5) (by decide +kernel) (Nat.le_of_ble_eq_true rfl) (by decide) (Nat.le_of_ble_eq_true rfl) dX6_init_6 (fun q136 H hP hD hS => ?_)
  have hP : va_P G.1 vwCl [(h0, .inr (6, [.null, .null, .null, .null, .int 0, .int 0, .int 0])), (q136, .inl (G.2.1, 5, .inl (fun _ => 0)))] H := hP
  have hD : va_D A [(h0, .inr (6, [.null, .null, .null, .null, .int 0, .int 0, .int 0])), (q136, .inl (G.2.1, 5, .inl (fun _ => 0)))] := hD
  refine Wcast (c1 := 1) (s1 := 5) rfl rfl ?_
  refine pf_X6_9 hC rfl rfl hK hP hD hS 0 (ws' := [(h0, .inr (6, [.null, .null, .ref q136, .null, .int 0, .int 0, .int 0])), (q136, .inl (G.2.1, 5, .inl (fun _ => 0)))]) rfl (Nat.le_of_ble_eq_true rfl) rfl rfl rfl dX6_init_8 (fun H locs hP hD hS => ?_)
  refine lv_aload_n hx hb dX6_init_11 rfl (lv_at hl 0 rfl) ?_
  refine lv_bipush (v := 8) hx hb dX6_init_12 (by decide) ?_
  refine newI hC hK hP hD hS hA m_81 (by decide) (N := 8) (by decide +kernel) (Nat.le_of_ble_eq_true rfl) (by decide) (Nat.le_of_ble_eq_true rfl) dX6_init_14 (fun q137 H hP hD hS => ?_)
  have hP : va_P G.1 vwCl [(h0, .inr (6, [.null, .null, .ref q136, .null, .int 0, .int 0, .int 0])), (q136, .inl (G.2.1, 5, .inl (fun _ => 0))), (q137, .inl (G.2.1, 8, .inl (fun _ => 0)))] H := hP
  have hD : va_D A [(h0, .inr (6, [.null, .null, .ref q136, .null, .int 0, .int 0, .int 0])), (q136, .inl (G.2.1, 5, .inl (fun _ => 0))), (q137, .inl (G.2.1, 8, .inl (fun _ => 0)))] := hD
  refine Wcast (c1 := 2) (s1 := 13) rfl rfl ?_
  refine pf_X6_15 hC rfl rfl hK hP hD hS 0 (ws' := [(h0, .inr (6, [.null, .null, .ref q136, .ref q137, .int 0, .int 0, .int 0])), (q136, .inl (G.2.1, 5, .inl (fun _ => 0))), (q137, .inl (G.2.1, 8, .inl (fun _ => 0)))]) rfl (Nat.le_of_ble_eq_true rfl) rfl rfl rfl dX6_init_16 (fun H locs hP hD hS => ?_)
  refine lv_aload_n hx hb dX6_init_19 rfl (lv_at hl 0 rfl) ?_
  refine lv_aload_n hx hb dX6_init_20 rfl (lv_at hl 1 rfl) ?_
  refine pf_X6_18 hC rfl rfl hK hP hD hS 0 (ws' := [(h0, .inr (6, [.ref bk, .null, .ref q136, .ref q137, .int 0, .int 0, .int 0])), (q136, .inl (G.2.1, 5, .inl (fun _ => 0))), (q137, .inl (G.2.1, 8, .inl (fun _ => 0)))]) rfl (Nat.le_of_ble_eq_true rfl) rfl rfl rfl dX6_init_21 (fun H locs hP hD hS => ?_)
  refine lv_aload_n hx hb dX6_init_24 rfl (lv_at hl 0 rfl) ?_
  refine lv_aload_n hx hb dX6_init_25 rfl (lv_at hl 2 rfl) ?_
  refine pf_X6_22 hC rfl rfl hK hP hD hS 0 (ws' := [(h0, .inr (6, [.ref bk, .ref sg, .ref q136, .ref q137, .int 0, .int 0, .int 0])), (q136, .inl (G.2.1, 5, .inl (fun _ => 0))), (q137, .inl (G.2.1, 8, .inl (fun _ => 0)))]) rfl (Nat.le_of_ble_eq_true rfl) rfl rfl rfl dX6_init_26 (fun H locs hP hD hS => ?_)
  refine lv_aload_n hx hb dX6_init_29 rfl (lv_at hl 0 rfl) ?_
  refine lv_iconst (v := 0) hx hb dX6_init_30 (by decide) ?_
  refine pf_X6_26 hC rfl hK hP hD hS 0 (ws' := [(h0, .inr (6, [.ref bk, .ref sg, .ref q136, .ref q137, .int 0, .int 0, .int 0])), (q136, .inl (G.2.1, 5, .inl (fun _ => 0))), (q137, .inl (G.2.1, 8, .inl (fun _ => 0)))]) rfl (Nat.le_of_ble_eq_true rfl) rfl rfl rfl dX6_init_31 (fun H locs hP hD hS => ?_)
  refine lv_aload_n hx hb dX6_init_34 rfl (lv_at hl 0 rfl) ?_
  refine lv_iconst (v := 0) hx hb dX6_init_35 (by decide) ?_
  refine pf_X6_30 hC rfl hK hP hD hS 0 (ws' := [(h0, .inr (6, [.ref bk, .ref sg, .ref q136, .ref q137, .int 0, .int 0, .int 0])), (q136, .inl (G.2.1, 5, .inl (fun _ => 0))), (q137, .inl (G.2.1, 8, .inl (fun _ => 0)))]) rfl (Nat.le_of_ble_eq_true rfl) rfl rfl rfl dX6_init_36 (fun H locs hP hD hS => ?_)
  refine lv_aload_n hx hb dX6_init_39 rfl (lv_at hl 0 rfl) ?_
  refine lv_iconst (v := 0) hx hb dX6_init_40 (by decide) ?_
  refine pf_X6_33 hC rfl hK hP hD hS 0 (ws' := [(h0, .inr (6, [.ref bk, .ref sg, .ref q136, .ref q137, .int 0, .int 0, .int 0])), (q136, .inl (G.2.1, 5, .inl (fun _ => 0))), (q137, .inl (G.2.1, 8, .inl (fun _ => 0)))]) rfl (Nat.le_of_ble_eq_true rfl) rfl rfl rfl dX6_init_41 (fun H locs hP hD hS => ?_)
  exact RV hC hP hD hS [0, 1, 2] (q136, q137) rfl rfl (by decide) (trivial) dX6_init_44
set_option maxHeartbeats 4000000 in
set_option maxRecDepth 100000 in
theorem c_Ta_init (l : Launch) (G : GG) (h0 : Nat) (bk : Nat) (sg : Nat) : MV l G yX9_init cX9_init 3 2 0 0 [.ref h0, .ref bk, .ref sg] [(h0, .inr (9, [.null, .null, .int 0, .int 0, .int 0, .int 0]))] (fun u : Unit => True) (fun u : Unit => [(h0, .inr (9, [.ref bk, .ref sg, .int 0, .int 0, .int 0, .int 0]))]) := by
  refine MV.start (by decide +kernel) (Nat.le_of_ble_eq_true rfl) ?_
  intro p e s m below meth c A ls hC hK hP hD hS hA hl
  have hl : lv_has ls 3 [(0, .ref h0), (1, .ref bk), (2, .ref sg)] := hl
  obtain ⟨hx, hb, hr, hml, hB, hown, hlocks, hnm⟩ := id hC
  refine lv_aload_n hx hb dX9_init_0 rfl (lv_at hl 0 rfl) ?_
  refine W.objInit hx hb hown (hB _ m_128) (hB _ m_11) (hB _ m_12) rfl (by rw [hml]; exact hl.1) rfl dX9_init_1 (Nat.le_of_ble_eq_true rfl) (Nat.le_of_ble_eq_true rfl) ?_
  refine W.eq (g2 := F0 m 4 ls []) rfl ?_
  refine lv_aload_n hx hb dX9_init_4 rfl (lv_at hl 0 rfl) ?_
  refine lv_aload_n hx hb dX9_init_5 rfl (lv_at hl 1 rfl) ?_
  refine pf_X9_9 hC rfl rfl hK hP hD hS 0 (ws' := [(h0, .inr (9, [.ref bk, .null, .int 0, .int 0, .int 0, .int 0]))]) rfl (Nat.le_of_ble_eq_true rfl) rfl rfl rfl dX9_init_6 (fun H locs hP hD hS => ?_)
  refine lv_aload_n hx hb dX9_init_9 rfl (lv_at hl 0 rfl) ?_
  refine lv_aload_n hx hb dX9_init_10 rfl (lv_at hl 2 rfl) ?_
  refine pf_X9_15 hC rfl rfl hK hP hD hS 0 (ws' := [(h0, .inr (9, [.ref bk, .ref sg, .int 0, .int 0, .int 0, .int 0]))]) rfl (Nat.le_of_ble_eq_true rfl) rfl rfl rfl dX9_init_11 (fun H locs hP hD hS => ?_)
  refine lv_aload_n hx hb dX9_init_14 rfl (lv_at hl 0 rfl) ?_
  refine lv_iconst (v := 0) hx hb dX9_init_15 (by decide) ?_
  refine pf_X9_19 hC rfl hK hP hD hS 0 (ws' := [(h0, .inr (9, [.ref bk, .ref sg, .int 0, .int 0, .int 0, .int 0]))]) rfl (Nat.le_of_ble_eq_true rfl) rfl rfl rfl dX9_init_16 (fun H locs hP hD hS => ?_)
  refine lv_aload_n hx hb dX9_init_19 rfl (lv_at hl 0 rfl) ?_
  refine lv_iconst (v := 0) hx hb dX9_init_20 (by decide) ?_
  refine pf_X9_23 hC rfl hK hP hD hS 0 (ws' := [(h0, .inr (9, [.ref bk, .ref sg, .int 0, .int 0, .int 0, .int 0]))]) rfl (Nat.le_of_ble_eq_true rfl) rfl rfl rfl dX9_init_21 (fun H locs hP hD hS => ?_)
  refine lv_aload_n hx hb dX9_init_24 rfl (lv_at hl 0 rfl) ?_
  refine lv_iconst (v := 0) hx hb dX9_init_25 (by decide) ?_
  refine pf_X9_26 hC rfl hK hP hD hS 0 (ws' := [(h0, .inr (9, [.ref bk, .ref sg, .int 0, .int 0, .int 0, .int 0]))]) rfl (Nat.le_of_ble_eq_true rfl) rfl rfl rfl dX9_init_26 (fun H locs hP hD hS => ?_)
  refine lv_aload_n hx hb dX9_init_29 rfl (lv_at hl 0 rfl) ?_
  refine lv_iconst (v := 0) hx hb dX9_init_30 (by decide) ?_
  refine pf_X9_29 hC rfl hK hP hD hS 0 (ws' := [(h0, .inr (9, [.ref bk, .ref sg, .int 0, .int 0, .int 0, .int 0]))]) rfl (Nat.le_of_ble_eq_true rfl) rfl rfl rfl dX9_init_31 (fun H locs hP hD hS => ?_)
  exact RV hC hP hD hS [0] () rfl rfl (by decide) (trivial) dX9_init_34
set_option maxHeartbeats 4000000 in
set_option maxRecDepth 100000 in
/-- Tape() -/
theorem c_Tp_init (l : Launch) (G : GG) (h0 : Nat) : MV l G yX10_init cX10_init 1 3 5 431 [.ref h0] [(h0, .inr (10, [.null, .int 0, .null, .null, .int 0, .int 0, .int 0, .int 0]))] (fun u : (Nat → Nat) => True) (fun u : (Nat → Nat) => [(h0, .inr (10, [.ref (u 0), .int 0, .ref (u 1), .ref (u 3), .int (-1), .int 0, .int 0, .int (-1)])), ((u 0), .inl (G.2.1, 240, .inl (fun _ => 0))), ((u 1), .inr (8, [.int 9, .int 7, .ref (u 2), .int 0])), ((u 2), .inl (G.2.1, 63, .inl (fun _ => 0))), ((u 3), .inr (8, [.int 120, .int 1, .ref (u 4), .int 0])), ((u 4), .inl (G.2.1, 120, .inl (fun _ => 0)))]) := by
  refine MV.start (by decide +kernel) (Nat.le_of_ble_eq_true rfl) ?_
  intro p e s m below meth c A ls hC hK hP hD hS hA hl
  have hl : lv_has ls 1 [(0, .ref h0)] := hl
  obtain ⟨hx, hb, hr, hml, hB, hown, hlocks, hnm⟩ := id hC
  refine lv_aload_n hx hb dX10_init_0 rfl (lv_at hl 0 rfl) ?_
  refine W.objInit hx hb hown (hB _ m_138) (hB _ m_11) (hB _ m_12) rfl (by rw [hml]; exact hl.1) rfl dX10_init_1 (Nat.le_of_ble_eq_true rfl) (Nat.le_of_ble_eq_true rfl) ?_
  refine W.eq (g2 := F0 m 4 ls []) rfl ?_
  refine lv_aload_n hx hb dX10_init_4 rfl (lv_at hl 0 rfl) ?_
  refine lv_sipush (v := 240) hx hb dX10_init_5 (by decide) ?_
  refine newI hC hK hP hD hS hA m_81 (by decide) (N := 240) (by decide +kernel) (Nat.le_of_ble_eq_true rfl) (by decide) (Nat.le_of_ble_eq_true rfl) dX10_init_8 (fun q138 H hP hD hS => ?_)
  have hP : va_P G.1 vwCl [(h0, .inr (10, [.null, .int 0, .null, .null, .int 0, .int 0, .int 0, .int 0])), (q138, .inl (G.2.1, 240, .inl (fun _ => 0)))] H := hP
  have hD : va_D A [(h0, .inr (10, [.null, .int 0, .null, .null, .int 0, .int 0, .int 0, .int 0])), (q138, .inl (G.2.1, 240, .inl (fun _ => 0)))] := hD
  refine Wcast (c1 := 1) (s1 := 240) rfl rfl ?_
  refine pf_X10_9 hC rfl rfl hK hP hD hS 0 (ws' := [(h0, .inr (10, [.ref q138, .int 0, .null, .null, .int 0, .int 0, .int 0, .int 0])), (q138, .inl (G.2.1, 240, .inl (fun _ => 0)))]) rfl (Nat.le_of_ble_eq_true rfl) rfl rfl rfl dX10_init_10 (fun H locs hP hD hS => ?_)
  refine lv_aload_n hx hb dX10_init_13 rfl (lv_at hl 0 rfl) ?_
  refine nw_X10_15 hC rfl hK hP hD hS hA (Nat.le_of_ble_eq_true rfl) (Nat.le_of_ble_eq_true rfl) dX10_init_14 (fun q139 H hP hD hS => ?_)
  have hP : va_P G.1 vwCl [(h0, .inr (10, [.ref q138, .int 0, .null, .null, .int 0, .int 0, .int 0, .int 0])), (q138, .inl (G.2.1, 240, .inl (fun _ => 0))), (q139, .inr (8, [.int 0, .int 0, .null, .int 0]))] H := hP
  have hD : va_D A [(h0, .inr (10, [.ref q138, .int 0, .null, .null, .int 0, .int 0, .int 0, .int 0])), (q138, .inl (G.2.1, 240, .inl (fun _ => 0))), (q139, .inr (8, [.int 0, .int 0, .null, .int 0]))] := hD
  refine Wcast (c1 := 2) (s1 := 244) rfl rfl ?_
  refine lv_dup hx hb dX10_init_17 rfl ?_
  refine lv_bipush (v := 9) hx hb dX10_init_18 (by decide) ?_
  refine lv_bipush (v := 7) hx hb dX10_init_20 (by decide) ?_
  refine vI (wr := [(h0, .inr (10, [.ref q138, .int 0, .null, .null, .int 0, .int 0, .int 0, .int 0])), (q138, .inl (G.2.1, 240, .inl (fun _ => 0)))]) hC hK hl hP hD hS hA (c_T_init_9_7 l G q139) si_X10_17 [2] [0, 1] rfl rfl (by decide) rfl (by decide) (by decide) rfl rfl (Nat.le_of_ble_eq_true rfl) ⟨Nat.le_of_ble_eq_true rfl, Nat.le_of_ble_eq_true rfl⟩ ⟨by first | exact Nat.le_of_ble_eq_true rfl | omega, by first | exact Nat.le_of_ble_eq_true rfl | omega⟩ dX10_init_22 (fun u141 H locs hr140 hP hD hS => ?_)
  obtain ⟨ca142, rfl⟩ : ∃ z9, z9 = u141 := ⟨_, rfl⟩
  have hP : va_P G.1 vwCl [(h0, .inr (10, [.ref q138, .int 0, .null, .null, .int 0, .int 0, .int 0, .int 0])), (q138, .inl (G.2.1, 240, .inl (fun _ => 0))), (q139, .inr (8, [.int 9, .int 7, .ref ca142, .int 0])), (ca142, .inl (G.2.1, 63, .inl (fun _ => 0)))] H := hP
  have hD : va_D A [(h0, .inr (10, [.ref q138, .int 0, .null, .null, .int 0, .int 0, .int 0, .int 0])), (q138, .inl (G.2.1, 240, .inl (fun _ => 0))), (q139, .inr (8, [.int 9, .int 7, .ref ca142, .int 0])), (ca142, .inl (G.2.1, 63, .inl (fun _ => 0)))] := hD
  refine Wcast (c1 := 3) (s1 := 307) rfl rfl ?_
  refine pf_X10_20 hC rfl rfl hK hP hD hS 0 (ws' := [(h0, .inr (10, [.ref q138, .int 0, .ref q139, .null, .int 0, .int 0, .int 0, .int 0])), (q138, .inl (G.2.1, 240, .inl (fun _ => 0))), (q139, .inr (8, [.int 9, .int 7, .ref ca142, .int 0])), (ca142, .inl (G.2.1, 63, .inl (fun _ => 0)))]) rfl (Nat.le_of_ble_eq_true rfl) rfl rfl rfl dX10_init_25 (fun H locs hP hD hS => ?_)
  refine lv_aload_n hx hb dX10_init_28 rfl (lv_at hl 0 rfl) ?_
  refine nw_X10_15 hC rfl hK hP hD hS hA (Nat.le_of_ble_eq_true rfl) (Nat.le_of_ble_eq_true rfl) dX10_init_29 (fun q143 H hP hD hS => ?_)
  have hP : va_P G.1 vwCl [(h0, .inr (10, [.ref q138, .int 0, .ref q139, .null, .int 0, .int 0, .int 0, .int 0])), (q138, .inl (G.2.1, 240, .inl (fun _ => 0))), (q139, .inr (8, [.int 9, .int 7, .ref ca142, .int 0])), (ca142, .inl (G.2.1, 63, .inl (fun _ => 0))), (q143, .inr (8, [.int 0, .int 0, .null, .int 0]))] H := hP
  have hD : va_D A [(h0, .inr (10, [.ref q138, .int 0, .ref q139, .null, .int 0, .int 0, .int 0, .int 0])), (q138, .inl (G.2.1, 240, .inl (fun _ => 0))), (q139, .inr (8, [.int 9, .int 7, .ref ca142, .int 0])), (ca142, .inl (G.2.1, 63, .inl (fun _ => 0))), (q143, .inr (8, [.int 0, .int 0, .null, .int 0]))] := hD
  refine Wcast (c1 := 4) (s1 := 311) rfl rfl ?_
  refine lv_dup hx hb dX10_init_32 rfl ?_
  refine lv_bipush (v := 120) hx hb dX10_init_33 (by decide) ?_
  refine lv_iconst (v := 1) hx hb dX10_init_35 (by decide) ?_
  refine vI (wr := [(h0, .inr (10, [.ref q138, .int 0, .ref q139, .null, .int 0, .int 0, .int 0, .int 0])), (q138, .inl (G.2.1, 240, .inl (fun _ => 0))), (q139, .inr (8, [.int 9, .int 7, .ref ca142, .int 0])), (ca142, .inl (G.2.1, 63, .inl (fun _ => 0)))]) hC hK hl hP hD hS hA (c_T_init_120_1 l G q143) si_X10_17 [4] [0, 1, 2, 3] rfl rfl (by decide) rfl (by decide) (by decide) rfl rfl (Nat.le_of_ble_eq_true rfl) ⟨Nat.le_of_ble_eq_true rfl, Nat.le_of_ble_eq_true rfl⟩ ⟨by first | exact Nat.le_of_ble_eq_true rfl | omega, by first | exact Nat.le_of_ble_eq_true rfl | omega⟩ dX10_init_36 (fun u145 H locs hr144 hP hD hS => ?_)
  obtain ⟨ca146, rfl⟩ : ∃ z9, z9 = u145 := ⟨_, rfl⟩
  have hP : va_P G.1 vwCl [(h0, .inr (10, [.ref q138, .int 0, .ref q139, .null, .int 0, .int 0, .int 0, .int 0])), (q138, .inl (G.2.1, 240, .inl (fun _ => 0))), (q139, .inr (8, [.int 9, .int 7, .ref ca142, .int 0])), (ca142, .inl (G.2.1, 63, .inl (fun _ => 0))), (q143, .inr (8, [.int 120, .int 1, .ref ca146, .int 0])), (ca146, .inl (G.2.1, 120, .inl (fun _ => 0)))] H := hP
  have hD : va_D A [(h0, .inr (10, [.ref q138, .int 0, .ref q139, .null, .int 0, .int 0, .int 0, .int 0])), (q138, .inl (G.2.1, 240, .inl (fun _ => 0))), (q139, .inr (8, [.int 9, .int 7, .ref ca142, .int 0])), (ca142, .inl (G.2.1, 63, .inl (fun _ => 0))), (q143, .inr (8, [.int 120, .int 1, .ref ca146, .int 0])), (ca146, .inl (G.2.1, 120, .inl (fun _ => 0)))] := hD
  refine Wcast (c1 := 5) (s1 := 431) rfl rfl ?_
  refine pf_X10_24 hC rfl rfl hK hP hD hS 0 (ws' := [(h0, .inr (10, [.ref q138, .int 0, .ref q139, .ref q143, .int 0, .int 0, .int 0, .int 0])), (q138, .inl (G.2.1, 240, .inl (fun _ => 0))), (q139, .inr (8, [.int 9, .int 7, .ref ca142, .int 0])), (ca142, .inl (G.2.1, 63, .inl (fun _ => 0))), (q143, .inr (8, [.int 120, .int 1, .ref ca146, .int 0])), (ca146, .inl (G.2.1, 120, .inl (fun _ => 0)))]) rfl (Nat.le_of_ble_eq_true rfl) rfl rfl rfl dX10_init_39 (fun H locs hP hD hS => ?_)
  refine lv_aload_n hx hb dX10_init_42 rfl (lv_at hl 0 rfl) ?_
  refine lv_iconst (v := 0) hx hb dX10_init_43 (by decide) ?_
  refine pf_X10_27 hC rfl hK hP hD hS 0 (ws' := [(h0, .inr (10, [.ref q138, .int 0, .ref q139, .ref q143, .int 0, .int 0, .int 0, .int 0])), (q138, .inl (G.2.1, 240, .inl (fun _ => 0))), (q139, .inr (8, [.int 9, .int 7, .ref ca142, .int 0])), (ca142, .inl (G.2.1, 63, .inl (fun _ => 0))), (q143, .inr (8, [.int 120, .int 1, .ref ca146, .int 0])), (ca146, .inl (G.2.1, 120, .inl (fun _ => 0)))]) rfl (Nat.le_of_ble_eq_true rfl) rfl rfl rfl dX10_init_44 (fun H locs hP hD hS => ?_)
  refine lv_aload_n hx hb dX10_init_47 rfl (lv_at hl 0 rfl) ?_
  refine lv_iconst (v := (-1)) hx hb dX10_init_48 (by decide) ?_
  refine pf_X10_31 hC rfl hK hP hD hS 0 (ws' := [(h0, .inr (10, [.ref q138, .int 0, .ref q139, .ref q143, .int (-1), .int 0, .int 0, .int 0])), (q138, .inl (G.2.1, 240, .inl (fun _ => 0))), (q139, .inr (8, [.int 9, .int 7, .ref ca142, .int 0])), (ca142, .inl (G.2.1, 63, .inl (fun _ => 0))), (q143, .inr (8, [.int 120, .int 1, .ref ca146, .int 0])), (ca146, .inl (G.2.1, 120, .inl (fun _ => 0)))]) rfl (Nat.le_of_ble_eq_true rfl) rfl rfl rfl dX10_init_49 (fun H locs hP hD hS => ?_)
  refine lv_aload_n hx hb dX10_init_52 rfl (lv_at hl 0 rfl) ?_
  refine lv_iconst (v := 0) hx hb dX10_init_53 (by decide) ?_
  refine pf_X10_34 hC rfl hK hP hD hS 0 (ws' := [(h0, .inr (10, [.ref q138, .int 0, .ref q139, .ref q143, .int (-1), .int 0, .int 0, .int 0])), (q138, .inl (G.2.1, 240, .inl (fun _ => 0))), (q139, .inr (8, [.int 9, .int 7, .ref ca142, .int 0])), (ca142, .inl (G.2.1, 63, .inl (fun _ => 0))), (q143, .inr (8, [.int 120, .int 1, .ref ca146, .int 0])), (ca146, .inl (G.2.1, 120, .inl (fun _ => 0)))]) rfl (Nat.le_of_ble_eq_true rfl) rfl rfl rfl dX10_init_54 (fun H locs hP hD hS => ?_)
  refine lv_aload_n hx hb dX10_init_57 rfl (lv_at hl 0 rfl) ?_
  refine lv_iconst (v := 0) hx hb dX10_init_58 (by decide) ?_
  refine pf_X10_37 hC rfl hK hP hD hS 0 (ws' := [(h0, .inr (10, [.ref q138, .int 0, .ref q139, .ref q143, .int (-1), .int 0, .int 0, .int 0])), (q138, .inl (G.2.1, 240, .inl (fun _ => 0))), (q139, .inr (8, [.int 9, .int 7, .ref ca142, .int 0])), (ca142, .inl (G.2.1, 63, .inl (fun _ => 0))), (q143, .inr (8, [.int 120, .int 1, .ref ca146, .int 0])), (ca146, .inl (G.2.1, 120, .inl (fun _ => 0)))]) rfl (Nat.le_of_ble_eq_true rfl) rfl rfl rfl dX10_init_59 (fun H locs hP hD hS => ?_)
  refine lv_aload_n hx hb dX10_init_62 rfl (lv_at hl 0 rfl) ?_
  refine lv_iconst (v := (-1)) hx hb dX10_init_63 (by decide) ?_
  refine pf_X10_40 hC rfl hK hP hD hS 0 (ws' := [(h0, .inr (10, [.ref q138, .int 0, .ref q139, .ref q143, .int (-1), .int 0, .int 0, .int (-1)])), (q138, .inl (G.2.1, 240, .inl (fun _ => 0))), (q139, .inr (8, [.int 9, .int 7, .ref ca142, .int 0])), (ca142, .inl (G.2.1, 63, .inl (fun _ => 0))), (q143, .inr (8, [.int 120, .int 1, .ref ca146, .int 0])), (ca146, .inl (G.2.1, 120, .inl (fun _ => 0)))]) rfl (Nat.le_of_ble_eq_true rfl) rfl rfl rfl dX10_init_64 (fun H locs hP hD hS => ?_)
  exact RV hC hP hD hS [0, 1, 2, 3, 4, 5] (fun k9 => ([q138, q139, ca142, q143, ca146] : List Nat).getD k9 0) rfl rfl (by decide) (trivial) dX10_init_67
set_option maxHeartbeats 4000000 in
set_option maxRecDepth 100000 in
theorem c_Ro_init (l : Launch) (G : GG) (h0 : Nat) (bk : Nat) : MV l G yX5_init cX5_init 2 3 3 146 [.ref h0, .ref bk] [(h0, .inr (5, [.null, .null, .null, .int 0, .int 0, .int 0]))] (fun u : Nat × Nat × Nat => True) (fun u : Nat × Nat × Nat => [(h0, .inr (5, [.ref bk, .ref u.1, .ref u.2.2, .int 0, .int 0, .int 0])), (u.1, .inr (8, [.int 7, .int 2, .ref u.2.1, .int 0])), (u.2.1, .inl (G.2.1, 14, .inl (fun _ => 0))), (u.2.2, .inl (G.2.1, 128, .inl (fun _ => 0)))]) := by
  refine MV.start (by decide +kernel) (Nat.le_of_ble_eq_true rfl) ?_
  intro p e s m below meth c A ls hC hK hP hD hS hA hl
  have hl : lv_has ls 2 [(0, .ref h0), (1, .ref bk)] := hl
  obtain ⟨hx, hb, hr, hml, hB, hown, hlocks, hnm⟩ := id hC
  refine lv_aload_n hx hb dX5_init_0 rfl (lv_at hl 0 rfl) ?_
  refine W.objInit hx hb hown (hB _ m_152) (hB _ m_11) (hB _ m_12) rfl (by rw [hml]; exact hl.1) rfl dX5_init_1 (Nat.le_of_ble_eq_true rfl) (Nat.le_of_ble_eq_true rfl) ?_
  refine W.eq (g2 := F0 m 4 ls []) rfl ?_
  refine lv_aload_n hx hb dX5_init_4 rfl (lv_at hl 0 rfl) ?_
  refine nw_X5_9 hC rfl hK hP hD hS hA (Nat.le_of_ble_eq_true rfl) (Nat.le_of_ble_eq_true rfl) dX5_init_5 (fun q147 H hP hD hS => ?_)
  have hP : va_P G.1 vwCl [(h0, .inr (5, [.null, .null, .null, .int 0, .int 0, .int 0])), (q147, .inr (8, [.int 0, .int 0, .null, .int 0]))] H := hP
  have hD : va_D A [(h0, .inr (5, [.null, .null, .null, .int 0, .int 0, .int 0])), (q147, .inr (8, [.int 0, .int 0, .null, .int 0]))] := hD
  refine Wcast (c1 := 1) (s1 := 4) rfl rfl ?_
  refine lv_dup hx hb dX5_init_8 rfl ?_
  refine lv_bipush (v := 7) hx hb dX5_init_9 (by decide) ?_
  refine lv_iconst (v := 2) hx hb dX5_init_11 (by decide) ?_
  refine vI (wr := [(h0, .inr (5, [.null, .null, .null, .int 0, .int 0, .int 0]))]) hC hK hl hP hD hS hA (c_T_init_7_2 l G q147) si_X5_11 [1] [0] rfl rfl (by decide) rfl (by decide) (by decide) rfl rfl (Nat.le_of_ble_eq_true rfl) ⟨Nat.le_of_ble_eq_true rfl, Nat.le_of_ble_eq_true rfl⟩ ⟨by first | exact Nat.le_of_ble_eq_true rfl | omega, by first | exact Nat.le_of_ble_eq_true rfl | omega⟩ dX5_init_12 (fun u149 H locs hr148 hP hD hS => ?_)
  obtain ⟨ca150, rfl⟩ : ∃ z9, z9 = u149 := ⟨_, rfl⟩
  have hP : va_P G.1 vwCl [(h0, .inr (5, [.null, .null, .null, .int 0, .int 0, .int 0])), (q147, .inr (8, [.int 7, .int 2, .ref ca150, .int 0])), (ca150, .inl (G.2.1, 14, .inl (fun _ => 0)))] H := hP
  have hD : va_D A [(h0, .inr (5, [.null, .null, .null, .int 0, .int 0, .int 0])), (q147, .inr (8, [.int 7, .int 2, .ref ca150, .int 0])), (ca150, .inl (G.2.1, 14, .inl (fun _ => 0)))] := hD
  refine Wcast (c1 := 2) (s1 := 18) rfl rfl ?_
  refine pf_X5_14 hC rfl rfl hK hP hD hS 0 (ws' := [(h0, .inr (5, [.null, .ref q147, .null, .int 0, .int 0, .int 0])), (q147, .inr (8, [.int 7, .int 2, .ref ca150, .int 0])), (ca150, .inl (G.2.1, 14, .inl (fun _ => 0)))]) rfl (Nat.le_of_ble_eq_true rfl) rfl rfl rfl dX5_init_15 (fun H locs hP hD hS => ?_)
  refine lv_aload_n hx hb dX5_init_18 rfl (lv_at hl 0 rfl) ?_
  refine lv_sipush (v := 128) hx hb dX5_init_19 (by decide) ?_
  refine newI hC hK hP hD hS hA m_81 (by decide) (N := 128) (by decide +kernel) (Nat.le_of_ble_eq_true rfl) (by decide) (Nat.le_of_ble_eq_true rfl) dX5_init_22 (fun q151 H hP hD hS => ?_)
  have hP : va_P G.1 vwCl [(h0, .inr (5, [.null, .ref q147, .null, .int 0, .int 0, .int 0])), (q147, .inr (8, [.int 7, .int 2, .ref ca150, .int 0])), (ca150, .inl (G.2.1, 14, .inl (fun _ => 0))), (q151, .inl (G.2.1, 128, .inl (fun _ => 0)))] H := hP
  have hD : va_D A [(h0, .inr (5, [.null, .ref q147, .null, .int 0, .int 0, .int 0])), (q147, .inr (8, [.int 7, .int 2, .ref ca150, .int 0])), (ca150, .inl (G.2.1, 14, .inl (fun _ => 0))), (q151, .inl (G.2.1, 128, .inl (fun _ => 0)))] := hD
  refine Wcast (c1 := 3) (s1 := 146) rfl rfl ?_
  refine pf_X5_20 hC rfl rfl hK hP hD hS 0 (ws' := [(h0, .inr (5, [.null, .ref q147, .ref q151, .int 0, .int 0, .int 0])), (q147, .inr (8, [.int 7, .int 2, .ref ca150, .int 0])), (ca150, .inl (G.2.1, 14, .inl (fun _ => 0))), (q151, .inl (G.2.1, 128, .inl (fun _ => 0)))]) rfl (Nat.le_of_ble_eq_true rfl) rfl rfl rfl dX5_init_24 (fun H locs hP hD hS => ?_)
  refine lv_aload_n hx hb dX5_init_27 rfl (lv_at hl 0 rfl) ?_
  refine lv_aload_n hx hb dX5_init_28 rfl (lv_at hl 1 rfl) ?_
  refine pf_X5_24 hC rfl rfl hK hP hD hS 0 (ws' := [(h0, .inr (5, [.ref bk, .ref q147, .ref q151, .int 0, .int 0, .int 0])), (q147, .inr (8, [.int 7, .int 2, .ref ca150, .int 0])), (ca150, .inl (G.2.1, 14, .inl (fun _ => 0))), (q151, .inl (G.2.1, 128, .inl (fun _ => 0)))]) rfl (Nat.le_of_ble_eq_true rfl) rfl rfl rfl dX5_init_29 (fun H locs hP hD hS => ?_)
  refine lv_aload_n hx hb dX5_init_32 rfl (lv_at hl 0 rfl) ?_
  refine lv_iconst (v := 0) hx hb dX5_init_33 (by decide) ?_
  refine pf_X5_28 hC rfl hK hP hD hS 0 (ws' := [(h0, .inr (5, [.ref bk, .ref q147, .ref q151, .int 0, .int 0, .int 0])), (q147, .inr (8, [.int 7, .int 2, .ref ca150, .int 0])), (ca150, .inl (G.2.1, 14, .inl (fun _ => 0))), (q151, .inl (G.2.1, 128, .inl (fun _ => 0)))]) rfl (Nat.le_of_ble_eq_true rfl) rfl rfl rfl dX5_init_34 (fun H locs hP hD hS => ?_)
  refine lv_aload_n hx hb dX5_init_37 rfl (lv_at hl 0 rfl) ?_
  refine lv_iconst (v := 0) hx hb dX5_init_38 (by decide) ?_
  refine pf_X5_32 hC rfl hK hP hD hS 0 (ws' := [(h0, .inr (5, [.ref bk, .ref q147, .ref q151, .int 0, .int 0, .int 0])), (q147, .inr (8, [.int 7, .int 2, .ref ca150, .int 0])), (ca150, .inl (G.2.1, 14, .inl (fun _ => 0))), (q151, .inl (G.2.1, 128, .inl (fun _ => 0)))]) rfl (Nat.le_of_ble_eq_true rfl) rfl rfl rfl dX5_init_39 (fun H locs hP hD hS => ?_)
  refine lv_aload_n hx hb dX5_init_42 rfl (lv_at hl 0 rfl) ?_
  refine lv_iconst (v := 0) hx hb dX5_init_43 (by decide) ?_
  refine pf_X5_35 hC rfl hK hP hD hS 0 (ws' := [(h0, .inr (5, [.ref bk, .ref q147, .ref q151, .int 0, .int 0, .int 0])), (q147, .inr (8, [.int 7, .int 2, .ref ca150, .int 0])), (ca150, .inl (G.2.1, 14, .inl (fun _ => 0))), (q151, .inl (G.2.1, 128, .inl (fun _ => 0)))]) rfl (Nat.le_of_ble_eq_true rfl) rfl (by decide +kernel) (by decide +kernel) dX5_init_44 (fun H locs hP hD hS => ?_)
  exact RV hC hP hD hS [0, 1, 2, 3] (q147, ca150, q151) rfl rfl (by decide) (trivial) dX5_init_47
set_option maxHeartbeats 4000000 in
set_option maxRecDepth 100000 in
/-- Host() -/
theorem c_H_init (l : Launch) (G : GG) (h0 : Nat) : MV l G yX4_init cX4_init 2 2 6 180 [.ref h0] [(h0, .inr (4, [.null, .null, .null, .null, .null, .null]))] (fun u : (Nat → Nat) => True) (fun u : (Nat → Nat) => [(h0, .inr (4, [.ref (u 0), .ref (u 1), .ref (u 2), .ref (u 3), .ref (u 4), .ref (u 5)])), ((u 0), .inl (G.2.1, 4, .inl (upd (upd (upd (upd (fun _ => 0) 0 (-1)) 1 (-1)) 2 (-1)) 3 (-1)))), ((u 1), .inl (G.2.1, 4, .inl (fun _ => 0))), ((u 2), .inl (G.2.1, 160, .inl (fun _ => 0))), ((u 3), .inl (G.2.1, 4, .inl (upd (upd (upd (upd (fun _ => 0) 0 4) 1 4) 2 4) 3 4))), ((u 4), .inl (G.2.1, 4, .inl (fun _ => 0))), ((u 5), .inl (G.2.1, 4, .inl (fun _ => 0)))]) := by
  refine MV.start (by decide +kernel) (Nat.le_of_ble_eq_true rfl) ?_
  intro p e s m below meth c A ls hC hK hP hD hS hA hl
  have hl : lv_has ls 2 [(0, .ref h0)] := hl
  obtain ⟨hx, hb, hr, hml, hB, hown, hlocks, hnm⟩ := id hC
  refine lv_aload_n hx hb dX4_init_0 rfl (lv_at hl 0 rfl) ?_
  refine W.objInit hx hb hown (hB _ m_164) (hB _ m_11) (hB _ m_12) rfl (by rw [hml]; exact hl.1) rfl dX4_init_1 (Nat.le_of_ble_eq_true rfl) (Nat.le_of_ble_eq_true rfl) ?_
  refine W.eq (g2 := F0 m 4 ls []) rfl ?_
  refine lv_aload_n hx hb dX4_init_4 rfl (lv_at hl 0 rfl) ?_
  refine lv_iconst (v := 4) hx hb dX4_init_5 (by decide) ?_
  refine newI hC hK hP hD hS hA m_81 (by decide) (N := 4) (by decide +kernel) (Nat.le_of_ble_eq_true rfl) (by decide) (Nat.le_of_ble_eq_true rfl) dX4_init_6 (fun q152 H hP hD hS => ?_)
  have hP : va_P G.1 vwCl [(h0, .inr (4, [.null, .null, .null, .null, .null, .null])), (q152, .inl (G.2.1, 4, .inl (fun _ => 0)))] H := hP
  have hD : va_D A [(h0, .inr (4, [.null, .null, .null, .null, .null, .null])), (q152, .inl (G.2.1, 4, .inl (fun _ => 0)))] := hD
  refine Wcast (c1 := 1) (s1 := 4) rfl rfl ?_
  refine pf_X4_11 hC rfl rfl hK hP hD hS 0 (ws' := [(h0, .inr (4, [.ref q152, .null, .null, .null, .null, .null])), (q152, .inl (G.2.1, 4, .inl (fun _ => 0)))]) rfl (Nat.le_of_ble_eq_true rfl) rfl rfl rfl dX4_init_8 (fun H locs hP hD hS => ?_)
  refine lv_aload_n hx hb dX4_init_11 rfl (lv_at hl 0 rfl) ?_
  refine lv_iconst (v := 4) hx hb dX4_init_12 (by decide) ?_
  refine newI hC hK hP hD hS hA m_81 (by decide) (N := 4) (by decide +kernel) (Nat.le_of_ble_eq_true rfl) (by decide) (Nat.le_of_ble_eq_true rfl) dX4_init_13 (fun q153 H hP hD hS => ?_)
  have hP : va_P G.1 vwCl [(h0, .inr (4, [.ref q152, .null, .null, .null, .null, .null])), (q152, .inl (G.2.1, 4, .inl (fun _ => 0))), (q153, .inl (G.2.1, 4, .inl (fun _ => 0)))] H := hP
  have hD : va_D A [(h0, .inr (4, [.ref q152, .null, .null, .null, .null, .null])), (q152, .inl (G.2.1, 4, .inl (fun _ => 0))), (q153, .inl (G.2.1, 4, .inl (fun _ => 0)))] := hD
  refine Wcast (c1 := 2) (s1 := 8) rfl rfl ?_
  refine pf_X4_15 hC rfl rfl hK hP hD hS 0 (ws' := [(h0, .inr (4, [.ref q152, .ref q153, .null, .null, .null, .null])), (q152, .inl (G.2.1, 4, .inl (fun _ => 0))), (q153, .inl (G.2.1, 4, .inl (fun _ => 0)))]) rfl (Nat.le_of_ble_eq_true rfl) rfl rfl rfl dX4_init_15 (fun H locs hP hD hS => ?_)
  refine lv_aload_n hx hb dX4_init_18 rfl (lv_at hl 0 rfl) ?_
  refine lv_sipush (v := 160) hx hb dX4_init_19 (by decide) ?_
  refine newI hC hK hP hD hS hA m_81 (by decide) (N := 160) (by decide +kernel) (Nat.le_of_ble_eq_true rfl) (by decide) (Nat.le_of_ble_eq_true rfl) dX4_init_22 (fun q154 H hP hD hS => ?_)
  have hP : va_P G.1 vwCl [(h0, .inr (4, [.ref q152, .ref q153, .null, .null, .null, .null])), (q152, .inl (G.2.1, 4, .inl (fun _ => 0))), (q153, .inl (G.2.1, 4, .inl (fun _ => 0))), (q154, .inl (G.2.1, 160, .inl (fun _ => 0)))] H := hP
  have hD : va_D A [(h0, .inr (4, [.ref q152, .ref q153, .null, .null, .null, .null])), (q152, .inl (G.2.1, 4, .inl (fun _ => 0))), (q153, .inl (G.2.1, 4, .inl (fun _ => 0))), (q154, .inl (G.2.1, 160, .inl (fun _ => 0)))] := hD
  refine Wcast (c1 := 3) (s1 := 168) rfl rfl ?_
  refine pf_X4_18 hC rfl rfl hK hP hD hS 0 (ws' := [(h0, .inr (4, [.ref q152, .ref q153, .ref q154, .null, .null, .null])), (q152, .inl (G.2.1, 4, .inl (fun _ => 0))), (q153, .inl (G.2.1, 4, .inl (fun _ => 0))), (q154, .inl (G.2.1, 160, .inl (fun _ => 0)))]) rfl (Nat.le_of_ble_eq_true rfl) rfl rfl rfl dX4_init_24 (fun H locs hP hD hS => ?_)
  refine lv_aload_n hx hb dX4_init_27 rfl (lv_at hl 0 rfl) ?_
  refine lv_iconst (v := 4) hx hb dX4_init_28 (by decide) ?_
  refine newI hC hK hP hD hS hA m_81 (by decide) (N := 4) (by decide +kernel) (Nat.le_of_ble_eq_true rfl) (by decide) (Nat.le_of_ble_eq_true rfl) dX4_init_29 (fun q155 H hP hD hS => ?_)
  have hP : va_P G.1 vwCl [(h0, .inr (4, [.ref q152, .ref q153, .ref q154, .null, .null, .null])), (q152, .inl (G.2.1, 4, .inl (fun _ => 0))), (q153, .inl (G.2.1, 4, .inl (fun _ => 0))), (q154, .inl (G.2.1, 160, .inl (fun _ => 0))), (q155, .inl (G.2.1, 4, .inl (fun _ => 0)))] H := hP
  have hD : va_D A [(h0, .inr (4, [.ref q152, .ref q153, .ref q154, .null, .null, .null])), (q152, .inl (G.2.1, 4, .inl (fun _ => 0))), (q153, .inl (G.2.1, 4, .inl (fun _ => 0))), (q154, .inl (G.2.1, 160, .inl (fun _ => 0))), (q155, .inl (G.2.1, 4, .inl (fun _ => 0)))] := hD
  refine Wcast (c1 := 4) (s1 := 172) rfl rfl ?_
  refine pf_X4_21 hC rfl rfl hK hP hD hS 0 (ws' := [(h0, .inr (4, [.ref q152, .ref q153, .ref q154, .ref q155, .null, .null])), (q152, .inl (G.2.1, 4, .inl (fun _ => 0))), (q153, .inl (G.2.1, 4, .inl (fun _ => 0))), (q154, .inl (G.2.1, 160, .inl (fun _ => 0))), (q155, .inl (G.2.1, 4, .inl (fun _ => 0)))]) rfl (Nat.le_of_ble_eq_true rfl) rfl rfl rfl dX4_init_31 (fun H locs hP hD hS => ?_)
  refine lv_aload_n hx hb dX4_init_34 rfl (lv_at hl 0 rfl) ?_
  refine lv_iconst (v := 4) hx hb dX4_init_35 (by decide) ?_
  refine newI hC hK hP hD hS hA m_81 (by decide) (N := 4) (by decide +kernel) (Nat.le_of_ble_eq_true rfl) (by decide) (Nat.le_of_ble_eq_true rfl) dX4_init_36 (fun q156 H hP hD hS => ?_)
  have hP : va_P G.1 vwCl [(h0, .inr (4, [.ref q152, .ref q153, .ref q154, .ref q155, .null, .null])), (q152, .inl (G.2.1, 4, .inl (fun _ => 0))), (q153, .inl (G.2.1, 4, .inl (fun _ => 0))), (q154, .inl (G.2.1, 160, .inl (fun _ => 0))), (q155, .inl (G.2.1, 4, .inl (fun _ => 0))), (q156, .inl (G.2.1, 4, .inl (fun _ => 0)))] H := hP
  have hD : va_D A [(h0, .inr (4, [.ref q152, .ref q153, .ref q154, .ref q155, .null, .null])), (q152, .inl (G.2.1, 4, .inl (fun _ => 0))), (q153, .inl (G.2.1, 4, .inl (fun _ => 0))), (q154, .inl (G.2.1, 160, .inl (fun _ => 0))), (q155, .inl (G.2.1, 4, .inl (fun _ => 0))), (q156, .inl (G.2.1, 4, .inl (fun _ => 0)))] := hD
  refine Wcast (c1 := 5) (s1 := 176) rfl rfl ?_
  refine pf_X4_24 hC rfl rfl hK hP hD hS 0 (ws' := [(h0, .inr (4, [.ref q152, .ref q153, .ref q154, .ref q155, .ref q156, .null])), (q152, .inl (G.2.1, 4, .inl (fun _ => 0))), (q153, .inl (G.2.1, 4, .inl (fun _ => 0))), (q154, .inl (G.2.1, 160, .inl (fun _ => 0))), (q155, .inl (G.2.1, 4, .inl (fun _ => 0))), (q156, .inl (G.2.1, 4, .inl (fun _ => 0)))]) rfl (Nat.le_of_ble_eq_true rfl) rfl rfl rfl dX4_init_38 (fun H locs hP hD hS => ?_)
  refine lv_aload_n hx hb dX4_init_41 rfl (lv_at hl 0 rfl) ?_
  refine lv_iconst (v := 4) hx hb dX4_init_42 (by decide) ?_
  refine newI hC hK hP hD hS hA m_81 (by decide) (N := 4) (by decide +kernel) (Nat.le_of_ble_eq_true rfl) (by decide) (Nat.le_of_ble_eq_true rfl) dX4_init_43 (fun q157 H hP hD hS => ?_)
  have hP : va_P G.1 vwCl [(h0, .inr (4, [.ref q152, .ref q153, .ref q154, .ref q155, .ref q156, .null])), (q152, .inl (G.2.1, 4, .inl (fun _ => 0))), (q153, .inl (G.2.1, 4, .inl (fun _ => 0))), (q154, .inl (G.2.1, 160, .inl (fun _ => 0))), (q155, .inl (G.2.1, 4, .inl (fun _ => 0))), (q156, .inl (G.2.1, 4, .inl (fun _ => 0))), (q157, .inl (G.2.1, 4, .inl (fun _ => 0)))] H := hP
  have hD : va_D A [(h0, .inr (4, [.ref q152, .ref q153, .ref q154, .ref q155, .ref q156, .null])), (q152, .inl (G.2.1, 4, .inl (fun _ => 0))), (q153, .inl (G.2.1, 4, .inl (fun _ => 0))), (q154, .inl (G.2.1, 160, .inl (fun _ => 0))), (q155, .inl (G.2.1, 4, .inl (fun _ => 0))), (q156, .inl (G.2.1, 4, .inl (fun _ => 0))), (q157, .inl (G.2.1, 4, .inl (fun _ => 0)))] := hD
  refine Wcast (c1 := 6) (s1 := 180) rfl rfl ?_
  refine pf_X4_27 hC rfl rfl hK hP hD hS 0 (ws' := [(h0, .inr (4, [.ref q152, .ref q153, .ref q154, .ref q155, .ref q156, .ref q157])), (q152, .inl (G.2.1, 4, .inl (fun _ => 0))), (q153, .inl (G.2.1, 4, .inl (fun _ => 0))), (q154, .inl (G.2.1, 160, .inl (fun _ => 0))), (q155, .inl (G.2.1, 4, .inl (fun _ => 0))), (q156, .inl (G.2.1, 4, .inl (fun _ => 0))), (q157, .inl (G.2.1, 4, .inl (fun _ => 0)))]) rfl (Nat.le_of_ble_eq_true rfl) rfl rfl rfl dX4_init_45 (fun H locs hP hD hS => ?_)
  refine lv_iconst (v := 0) hx hb dX4_init_48 (by decide) ?_
  refine lv_istore_n (lv' := [(1, .int 0), (0, .ref h0)]) hx hb dX4_init_49 rfl hl (by decide) rfl (fun ls hl => ?_)
  refine lv_iload_n hx hb dX4_init_50 rfl (lv_at hl 0 rfl) ?_
  refine lv_iconst (v := 4) hx hb dX4_init_51 (by decide) ?_
  refine lv_icmp_ge (tgt := 68) hx hb dX4_init_52 (by decide) (fun c9 => absurd c9 (by decide)) (fun _ => ?_)
  refine lv_aload_n hx hb dX4_init_55 rfl (lv_at hl 1 rfl) ?_
  refine gf_X4_11 hC rfl hK hP 0 rfl rfl dX4_init_56 ?_
  refine lv_iload_n hx hb dX4_init_59 rfl (lv_at hl 0 rfl) ?_
  refine lv_iconst (v := (-1)) hx hb dX4_init_60 (by decide) ?_
  refine ast hC hK hP hD hS 1 (ws' := [(h0, .inr (4, [.ref q152, .ref q153, .ref q154, .ref q155, .ref q156, .ref q157])), (q152, .inl (G.2.1, 4, .inl (upd (fun _ => 0) 0 (-1)))), (q153, .inl (G.2.1, 4, .inl (fun _ => 0))), (q154, .inl (G.2.1, 160, .inl (fun _ => 0))), (q155, .inl (G.2.1, 4, .inl (fun _ => 0))), (q156, .inl (G.2.1, 4, .inl (fun _ => 0))), (q157, .inl (G.2.1, 4, .inl (fun _ => 0)))]) rfl (vin (by decide +kernel)) (k := 0) (by decide +kernel) (rfl) dX4_init_61 (fun H locs hP hD hS => ?_)
  refine lv_iinc (v := 1) (lv' := [(1, .int 1), (0, .ref h0)]) hx hb dX4_init_62 hl (k := 0) rfl (by decide) (by decide) rfl (fun ls hl => ?_)
  refine lv_goto (tgt := 50) hx hb dX4_init_65 (by decide) ?_
  refine lv_iload_n hx hb dX4_init_50 rfl (lv_at hl 0 rfl) ?_
  refine lv_iconst (v := 4) hx hb dX4_init_51 (by decide) ?_
  refine lv_icmp_ge (tgt := 68) hx hb dX4_init_52 (by decide) (fun c9 => absurd c9 (by decide)) (fun _ => ?_)
  refine lv_aload_n hx hb dX4_init_55 rfl (lv_at hl 1 rfl) ?_
  refine gf_X4_11 hC rfl hK hP 0 rfl rfl dX4_init_56 ?_
  refine lv_iload_n hx hb dX4_init_59 rfl (lv_at hl 0 rfl) ?_
  refine lv_iconst (v := (-1)) hx hb dX4_init_60 (by decide) ?_
  refine ast hC hK hP hD hS 1 (ws' := [(h0, .inr (4, [.ref q152, .ref q153, .ref q154, .ref q155, .ref q156, .ref q157])), (q152, .inl (G.2.1, 4, .inl (upd (upd (fun _ => 0) 0 (-1)) 1 (-1)))), (q153, .inl (G.2.1, 4, .inl (fun _ => 0))), (q154, .inl (G.2.1, 160, .inl (fun _ => 0))), (q155, .inl (G.2.1, 4, .inl (fun _ => 0))), (q156, .inl (G.2.1, 4, .inl (fun _ => 0))), (q157, .inl (G.2.1, 4, .inl (fun _ => 0)))]) rfl (vin (by decide +kernel)) (k := 1) (by decide +kernel) (rfl) dX4_init_61 (fun H locs hP hD hS => ?_)
  refine lv_iinc (v := 2) (lv' := [(1, .int 2), (0, .ref h0)]) hx hb dX4_init_62 hl (k := 0) rfl (by decide) (by decide) rfl (fun ls hl => ?_)
  refine lv_goto (tgt := 50) hx hb dX4_init_65 (by decide) ?_
  refine lv_iload_n hx hb dX4_init_50 rfl (lv_at hl 0 rfl) ?_
  refine lv_iconst (v := 4) hx hb dX4_init_51 (by decide) ?_
  refine lv_icmp_ge (tgt := 68) hx hb dX4_init_52 (by decide) (fun c9 => absurd c9 (by decide)) (fun _ => ?_)
  refine lv_aload_n hx hb dX4_init_55 rfl (lv_at hl 1 rfl) ?_
  refine gf_X4_11 hC rfl hK hP 0 rfl rfl dX4_init_56 ?_
  refine lv_iload_n hx hb dX4_init_59 rfl (lv_at hl 0 rfl) ?_
  refine lv_iconst (v := (-1)) hx hb dX4_init_60 (by decide) ?_
  refine ast hC hK hP hD hS 1 (ws' := [(h0, .inr (4, [.ref q152, .ref q153, .ref q154, .ref q155, .ref q156, .ref q157])), (q152, .inl (G.2.1, 4, .inl (upd (upd (upd (fun _ => 0) 0 (-1)) 1 (-1)) 2 (-1)))), (q153, .inl (G.2.1, 4, .inl (fun _ => 0))), (q154, .inl (G.2.1, 160, .inl (fun _ => 0))), (q155, .inl (G.2.1, 4, .inl (fun _ => 0))), (q156, .inl (G.2.1, 4, .inl (fun _ => 0))), (q157, .inl (G.2.1, 4, .inl (fun _ => 0)))]) rfl (vin (by decide +kernel)) (k := 2) (by decide +kernel) (rfl) dX4_init_61 (fun H locs hP hD hS => ?_)
  refine lv_iinc (v := 3) (lv' := [(1, .int 3), (0, .ref h0)]) hx hb dX4_init_62 hl (k := 0) rfl (by decide) (by decide) rfl (fun ls hl => ?_)
  refine lv_goto (tgt := 50) hx hb dX4_init_65 (by decide) ?_
  refine lv_iload_n hx hb dX4_init_50 rfl (lv_at hl 0 rfl) ?_
  refine lv_iconst (v := 4) hx hb dX4_init_51 (by decide) ?_
  refine lv_icmp_ge (tgt := 68) hx hb dX4_init_52 (by decide) (fun c9 => absurd c9 (by decide)) (fun _ => ?_)
  refine lv_aload_n hx hb dX4_init_55 rfl (lv_at hl 1 rfl) ?_
  refine gf_X4_11 hC rfl hK hP 0 rfl rfl dX4_init_56 ?_
  refine lv_iload_n hx hb dX4_init_59 rfl (lv_at hl 0 rfl) ?_
  refine lv_iconst (v := (-1)) hx hb dX4_init_60 (by decide) ?_
  refine ast hC hK hP hD hS 1 (ws' := [(h0, .inr (4, [.ref q152, .ref q153, .ref q154, .ref q155, .ref q156, .ref q157])), (q152, .inl (G.2.1, 4, .inl (upd (upd (upd (upd (fun _ => 0) 0 (-1)) 1 (-1)) 2 (-1)) 3 (-1)))), (q153, .inl (G.2.1, 4, .inl (fun _ => 0))), (q154, .inl (G.2.1, 160, .inl (fun _ => 0))), (q155, .inl (G.2.1, 4, .inl (fun _ => 0))), (q156, .inl (G.2.1, 4, .inl (fun _ => 0))), (q157, .inl (G.2.1, 4, .inl (fun _ => 0)))]) rfl (vin (by decide +kernel)) (k := 3) (by decide +kernel) (rfl) dX4_init_61 (fun H locs hP hD hS => ?_)
  refine lv_iinc (v := 4) (lv' := [(1, .int 4), (0, .ref h0)]) hx hb dX4_init_62 hl (k := 0) rfl (by decide) (by decide) rfl (fun ls hl => ?_)
  refine lv_goto (tgt := 50) hx hb dX4_init_65 (by decide) ?_
  refine lv_iload_n hx hb dX4_init_50 rfl (lv_at hl 0 rfl) ?_
  refine lv_iconst (v := 4) hx hb dX4_init_51 (by decide) ?_
  refine lv_icmp_ge (tgt := 68) hx hb dX4_init_52 (by decide) (fun _ => ?_) (fun c9 => absurd (by decide) c9)
  refine lv_iconst (v := 0) hx hb dX4_init_68 (by decide) ?_
  refine lv_istore_n (lv' := [(1, .int 0), (0, .ref h0)]) hx hb dX4_init_69 rfl hl (by decide) rfl (fun ls hl => ?_)
  refine lv_iload_n hx hb dX4_init_70 rfl (lv_at hl 0 rfl) ?_
  refine lv_iconst (v := 4) hx hb dX4_init_71 (by decide) ?_
  refine lv_icmp_ge (tgt := 88) hx hb dX4_init_72 (by decide) (fun c9 => absurd c9 (by decide)) (fun _ => ?_)
  refine lv_aload_n hx hb dX4_init_75 rfl (lv_at hl 1 rfl) ?_
  refine gf_X4_21 hC rfl hK hP 0 rfl rfl dX4_init_76 ?_
  refine lv_iload_n hx hb dX4_init_79 rfl (lv_at hl 0 rfl) ?_
  refine lv_iconst (v := 4) hx hb dX4_init_80 (by decide) ?_
  refine ast hC hK hP hD hS 4 (ws' := [(h0, .inr (4, [.ref q152, .ref q153, .ref q154, .ref q155, .ref q156, .ref q157])), (q152, .inl (G.2.1, 4, .inl (upd (upd (upd (upd (fun _ => 0) 0 (-1)) 1 (-1)) 2 (-1)) 3 (-1)))), (q153, .inl (G.2.1, 4, .inl (fun _ => 0))), (q154, .inl (G.2.1, 160, .inl (fun _ => 0))), (q155, .inl (G.2.1, 4, .inl (upd (fun _ => 0) 0 4))), (q156, .inl (G.2.1, 4, .inl (fun _ => 0))), (q157, .inl (G.2.1, 4, .inl (fun _ => 0)))]) rfl (vin (by decide +kernel)) (k := 0) (by decide +kernel) (rfl) dX4_init_81 (fun H locs hP hD hS => ?_)
  refine lv_iinc (v := 1) (lv' := [(1, .int 1), (0, .ref h0)]) hx hb dX4_init_82 hl (k := 0) rfl (by decide) (by decide) rfl (fun ls hl => ?_)
  refine lv_goto (tgt := 70) hx hb dX4_init_85 (by decide) ?_
  refine lv_iload_n hx hb dX4_init_70 rfl (lv_at hl 0 rfl) ?_
  refine lv_iconst (v := 4) hx hb dX4_init_71 (by decide) ?_
  refine lv_icmp_ge (tgt := 88) hx hb dX4_init_72 (by decide) (fun c9 => absurd c9 (by decide)) (fun _ => ?_)
  refine lv_aload_n hx hb dX4_init_75 rfl (lv_at hl 1 rfl) ?_
  refine gf_X4_21 hC rfl hK hP 0 rfl rfl dX4_init_76 ?_
  refine lv_iload_n hx hb dX4_init_79 rfl (lv_at hl 0 rfl) ?_
  refine lv_iconst (v := 4) hx hb dX4_init_80 (by decide) ?_
  refine ast hC hK hP hD hS 4 (ws' := [(h0, .inr (4, [.ref q152, .ref q153, .ref q154, .ref q155, .ref q156, .ref q157])), (q152, .inl (G.2.1, 4, .inl (upd (upd (upd (upd (fun _ => 0) 0 (-1)) 1 (-1)) 2 (-1)) 3 (-1)))), (q153, .inl (G.2.1, 4, .inl (fun _ => 0))), (q154, .inl (G.2.1, 160, .inl (fun _ => 0))), (q155, .inl (G.2.1, 4, .inl (upd (upd (fun _ => 0) 0 4) 1 4))), (q156, .inl (G.2.1, 4, .inl (fun _ => 0))), (q157, .inl (G.2.1, 4, .inl (fun _ => 0)))]) rfl (vin (by decide +kernel)) (k := 1) (by decide +kernel) (rfl) dX4_init_81 (fun H locs hP hD hS => ?_)
  refine lv_iinc (v := 2) (lv' := [(1, .int 2), (0, .ref h0)]) hx hb dX4_init_82 hl (k := 0) rfl (by decide) (by decide) rfl (fun ls hl => ?_)
  refine lv_goto (tgt := 70) hx hb dX4_init_85 (by decide) ?_
  refine lv_iload_n hx hb dX4_init_70 rfl (lv_at hl 0 rfl) ?_
  refine lv_iconst (v := 4) hx hb dX4_init_71 (by decide) ?_
  refine lv_icmp_ge (tgt := 88) hx hb dX4_init_72 (by decide) (fun c9 => absurd c9 (by decide)) (fun _ => ?_)
  refine lv_aload_n hx hb dX4_init_75 rfl (lv_at hl 1 rfl) ?_
  refine gf_X4_21 hC rfl hK hP 0 rfl rfl dX4_init_76 ?_
  refine lv_iload_n hx hb dX4_init_79 rfl (lv_at hl 0 rfl) ?_
  refine lv_iconst (v := 4) hx hb dX4_init_80 (by decide) ?_
  refine ast hC hK hP hD hS 4 (ws' := [(h0, .inr (4, [.ref q152, .ref q153, .ref q154, .ref q155, .ref q156, .ref q157])), (q152, .inl (G.2.1, 4, .inl (upd (upd (upd (upd (fun _ => 0) 0 (-1)) 1 (-1)) 2 (-1)) 3 (-1)))), (q153, .inl (G.2.1, 4, .inl (fun _ => 0))), (q154, .inl (G.2.1, 160, .inl (fun _ => 0))), (q155, .inl (G.2.1, 4, .inl (upd (upd (upd (fun _ => 0) 0 4) 1 4) 2 4))), (q156, .inl (G.2.1, 4, .inl (fun _ => 0))), (q157, .inl (G.2.1, 4, .inl (fun _ => 0)))]) rfl (vin (by decide +kernel)) (k := 2) (by decide +kernel) (rfl) dX4_init_81 (fun H locs hP hD hS => ?_)
  refine lv_iinc (v := 3) (lv' := [(1, .int 3), (0, .ref h0)]) hx hb dX4_init_82 hl (k := 0) rfl (by decide) (by decide) rfl (fun ls hl => ?_)
  refine lv_goto (tgt := 70) hx hb dX4_init_85 (by decide) ?_
  refine lv_iload_n hx hb dX4_init_70 rfl (lv_at hl 0 rfl) ?_
  refine lv_iconst (v := 4) hx hb dX4_init_71 (by decide) ?_
  refine lv_icmp_ge (tgt := 88) hx hb dX4_init_72 (by decide) (fun c9 => absurd c9 (by decide)) (fun _ => ?_)
  refine lv_aload_n hx hb dX4_init_75 rfl (lv_at hl 1 rfl) ?_
  refine gf_X4_21 hC rfl hK hP 0 rfl rfl dX4_init_76 ?_
  refine lv_iload_n hx hb dX4_init_79 rfl (lv_at hl 0 rfl) ?_
  refine lv_iconst (v := 4) hx hb dX4_init_80 (by decide) ?_
  refine ast hC hK hP hD hS 4 (ws' := [(h0, .inr (4, [.ref q152, .ref q153, .ref q154, .ref q155, .ref q156, .ref q157])), (q152, .inl (G.2.1, 4, .inl (upd (upd (upd (upd (fun _ => 0) 0 (-1)) 1 (-1)) 2 (-1)) 3 (-1)))), (q153, .inl (G.2.1, 4, .inl (fun _ => 0))), (q154, .inl (G.2.1, 160, .inl (fun _ => 0))), (q155, .inl (G.2.1, 4, .inl (upd (upd (upd (upd (fun _ => 0) 0 4) 1 4) 2 4) 3 4))), (q156, .inl (G.2.1, 4, .inl (fun _ => 0))), (q157, .inl (G.2.1, 4, .inl (fun _ => 0)))]) rfl (vin (by decide +kernel)) (k := 3) (by decide +kernel) (rfl) dX4_init_81 (fun H locs hP hD hS => ?_)
  refine lv_iinc (v := 4) (lv' := [(1, .int 4), (0, .ref h0)]) hx hb dX4_init_82 hl (k := 0) rfl (by decide) (by decide) rfl (fun ls hl => ?_)
  refine lv_goto (tgt := 70) hx hb dX4_init_85 (by decide) ?_
  refine lv_iload_n hx hb dX4_init_70 rfl (lv_at hl 0 rfl) ?_
  refine lv_iconst (v := 4) hx hb dX4_init_71 (by decide) ?_
  refine lv_icmp_ge (tgt := 88) hx hb dX4_init_72 (by decide) (fun _ => ?_) (fun c9 => absurd (by decide) c9)
  exact RV hC hP hD hS [0, 1, 2, 3, 4, 5, 6] (fun k9 => ([q152, q153, q154, q155, q156, q157] : List Nat).getD k9 0) rfl rfl (by decide) (trivial) dX4_init_88
set_option maxHeartbeats 4000000 in
set_option maxRecDepth 100000 in
theorem c_De_init (l : Launch) (G : GG) (h0 : Nat) (bk : Nat) : MV l G yX2_init cX2_init 2 2 1 30 [.ref h0, .ref bk] [(h0, .inr (2, [.null, .null, .int 0, .int 0, .int 0, .int 0, .int 0, .int 0]))] (fun u : Nat => True) (fun u : Nat => [(h0, .inr (2, [.ref bk, .ref u, .int 0, .int 0, .int 0, .int 0, .int 0, .int 0])), (u, .inl (G.2.1, 30, .inl (fun _ => 0)))]) := by
  refine MV.start (by decide +kernel) (Nat.le_of_ble_eq_true rfl) ?_
  intro p e s m below meth c A ls hC hK hP hD hS hA hl
  have hl : lv_has ls 2 [(0, .ref h0), (1, .ref bk)] := hl
  obtain ⟨hx, hb, hr, hml, hB, hown, hlocks, hnm⟩ := id hC
  refine lv_aload_n hx hb dX2_init_0 rfl (lv_at hl 0 rfl) ?_
  refine W.objInit hx hb hown (hB _ m_174) (hB _ m_11) (hB _ m_12) rfl (by rw [hml]; exact hl.1) rfl dX2_init_1 (Nat.le_of_ble_eq_true rfl) (Nat.le_of_ble_eq_true rfl) ?_
  refine W.eq (g2 := F0 m 4 ls []) rfl ?_
  refine lv_aload_n hx hb dX2_init_4 rfl (lv_at hl 0 rfl) ?_
  refine lv_bipush (v := 30) hx hb dX2_init_5 (by decide) ?_
  refine newI hC hK hP hD hS hA m_81 (by decide) (N := 30) (by decide +kernel) (Nat.le_of_ble_eq_true rfl) (by decide) (Nat.le_of_ble_eq_true rfl) dX2_init_7 (fun q158 H hP hD hS => ?_)
  have hP : va_P G.1 vwCl [(h0, .inr (2, [.null, .null, .int 0, .int 0, .int 0, .int 0, .int 0, .int 0])), (q158, .inl (G.2.1, 30, .inl (fun _ => 0)))] H := hP
  have hD : va_D A [(h0, .inr (2, [.null, .null, .int 0, .int 0, .int 0, .int 0, .int 0, .int 0])), (q158, .inl (G.2.1, 30, .inl (fun _ => 0)))] := hD
  refine Wcast (c1 := 1) (s1 := 30) rfl rfl ?_
  refine pf_X2_11 hC rfl rfl hK hP hD hS 0 (ws' := [(h0, .inr (2, [.null, .ref q158, .int 0, .int 0, .int 0, .int 0, .int 0, .int 0])), (q158, .inl (G.2.1, 30, .inl (fun _ => 0)))]) rfl (Nat.le_of_ble_eq_true rfl) rfl rfl rfl dX2_init_9 (fun H locs hP hD hS => ?_)
  refine lv_aload_n hx hb dX2_init_12 rfl (lv_at hl 0 rfl) ?_
  refine lv_aload_n hx hb dX2_init_13 rfl (lv_at hl 1 rfl) ?_
  refine pf_X2_15 hC rfl rfl hK hP hD hS 0 (ws' := [(h0, .inr (2, [.ref bk, .ref q158, .int 0, .int 0, .int 0, .int 0, .int 0, .int 0])), (q158, .inl (G.2.1, 30, .inl (fun _ => 0)))]) rfl (Nat.le_of_ble_eq_true rfl) rfl rfl rfl dX2_init_14 (fun H locs hP hD hS => ?_)
  refine lv_aload_n hx hb dX2_init_17 rfl (lv_at hl 0 rfl) ?_
  refine lv_iconst (v := 0) hx hb dX2_init_18 (by decide) ?_
  refine pf_X2_19 hC rfl hK hP hD hS 0 (ws' := [(h0, .inr (2, [.ref bk, .ref q158, .int 0, .int 0, .int 0, .int 0, .int 0, .int 0])), (q158, .inl (G.2.1, 30, .inl (fun _ => 0)))]) rfl (Nat.le_of_ble_eq_true rfl) rfl rfl rfl dX2_init_19 (fun H locs hP hD hS => ?_)
  refine lv_aload_n hx hb dX2_init_22 rfl (lv_at hl 0 rfl) ?_
  refine lv_iconst (v := 0) hx hb dX2_init_23 (by decide) ?_
  refine pf_X2_23 hC rfl hK hP hD hS 0 (ws' := [(h0, .inr (2, [.ref bk, .ref q158, .int 0, .int 0, .int 0, .int 0, .int 0, .int 0])), (q158, .inl (G.2.1, 30, .inl (fun _ => 0)))]) rfl (Nat.le_of_ble_eq_true rfl) rfl rfl rfl dX2_init_24 (fun H locs hP hD hS => ?_)
  refine lv_aload_n hx hb dX2_init_27 rfl (lv_at hl 0 rfl) ?_
  refine lv_iconst (v := 0) hx hb dX2_init_28 (by decide) ?_
  refine pf_X2_26 hC rfl hK hP hD hS 0 (ws' := [(h0, .inr (2, [.ref bk, .ref q158, .int 0, .int 0, .int 0, .int 0, .int 0, .int 0])), (q158, .inl (G.2.1, 30, .inl (fun _ => 0)))]) rfl (Nat.le_of_ble_eq_true rfl) rfl rfl rfl dX2_init_29 (fun H locs hP hD hS => ?_)
  refine lv_aload_n hx hb dX2_init_32 rfl (lv_at hl 0 rfl) ?_
  refine lv_iconst (v := 0) hx hb dX2_init_33 (by decide) ?_
  refine pf_X2_29 hC rfl hK hP hD hS 0 (ws' := [(h0, .inr (2, [.ref bk, .ref q158, .int 0, .int 0, .int 0, .int 0, .int 0, .int 0])), (q158, .inl (G.2.1, 30, .inl (fun _ => 0)))]) rfl (Nat.le_of_ble_eq_true rfl) rfl rfl rfl dX2_init_34 (fun H locs hP hD hS => ?_)
  refine lv_aload_n hx hb dX2_init_37 rfl (lv_at hl 0 rfl) ?_
  refine lv_iconst (v := 0) hx hb dX2_init_38 (by decide) ?_
  refine pf_X2_32 hC rfl hK hP hD hS 0 (ws' := [(h0, .inr (2, [.ref bk, .ref q158, .int 0, .int 0, .int 0, .int 0, .int 0, .int 0])), (q158, .inl (G.2.1, 30, .inl (fun _ => 0)))]) rfl (Nat.le_of_ble_eq_true rfl) rfl rfl rfl dX2_init_39 (fun H locs hP hD hS => ?_)
  refine lv_aload_n hx hb dX2_init_42 rfl (lv_at hl 0 rfl) ?_
  refine lv_iconst (v := 0) hx hb dX2_init_43 (by decide) ?_
  refine pf_X2_35 hC rfl hK hP hD hS 0 (ws' := [(h0, .inr (2, [.ref bk, .ref q158, .int 0, .int 0, .int 0, .int 0, .int 0, .int 0])), (q158, .inl (G.2.1, 30, .inl (fun _ => 0)))]) rfl (Nat.le_of_ble_eq_true rfl) rfl (by decide +kernel) (by decide +kernel) dX2_init_44 (fun H locs hP hD hS => ?_)
  exact RV hC hP hD hS [0, 1] q158 rfl rfl (by decide) (trivial) dX2_init_47
