section WR
variable {p : Program} {l : Launch} {e : Env} {R : Room} {s : State} {m : MethodId} {args : Array Value} {below : List Frame} {meth : Method} {c : Code} {H : Heap} {locs : List Loc} {cells slots : Nat} {Q : State → Prop}
variable {pc : Nat} {ls : Array Slot} {rest : List Value} {G : GG} {ws : va_W} {A : Nat → Prop} {y0 : MethodName} {b0 : ByteArray} {mL0 : Nat} {rt0 : Option FieldType} {a : Nat} {H0 : Heap}
end WR
theorem any_ofO {K : OO} {A : Nat → Prop} {s : State} {H : Heap} {locs : List Loc} {i : Nat} (hi : i < 16) (hO : OX K A s s.heap) (hS : va_S A s.heap H locs) : va_Any RJ0 s H (K.1 i) := by
  obtain ⟨cell, h3, h4, h5, -⟩ := (hO.1.1 i hi).1.kept hS.2.1
  obtain ⟨kC, hkC, -⟩ := Vm.findClass_spec h5
  refine ⟨cell, h3, h4, ⟨kC, hkC⟩, fun comp h => ?_⟩
  have e : comp = cell.cls := Option.some.inj (h.symm.trans h5)
  subst e
  exact va_asg _ _
theorem fct_eq (K : OO) : va_up (va_up (va_up (va_up (va_up (fun _ => none) (0 : Int32).toNatClampNeg (some (K.1 11))) (1 : Int32).toNatClampNeg (some (K.1 12))) (2 : Int32).toNatClampNeg (some (K.1 13))) (3 : Int32).toNatClampNeg (some (K.1 14))) (4 : Int32).toNatClampNeg (some (K.1 15)) = FCT K := by
  have e0 : (0 : Int32).toNatClampNeg = 0 := by decide
  have e1 : (1 : Int32).toNatClampNeg = 1 := by decide
  have e2 : (2 : Int32).toNatClampNeg = 2 := by decide
  have e3 : (3 : Int32).toNatClampNeg = 3 := by decide
  have e4 : (4 : Int32).toNatClampNeg = 4 := by decide
  rw [e0, e1, e2, e3, e4]
  funext k
  rcases k with _ | _ | _ | _ | _ | k
  · rfl
  · rfl
  · rfl
  · rfl
  · rfl
  · show va_up _ 4 _ (k + 5) = if k + 5 < 5 then some (K.1 (11 + (k + 5))) else none
    rw [if_neg (by omega)]
    unfold va_up
    simp
theorem NI.zero : NI (fun _ => 0) := by
  intro i
  have e0 : (0 : Int32).toInt = 0 := by decide
  show (bnd i).1 ≤ (0 : Int32).toInt ∧ (0 : Int32).toInt ≤ (bnd i).2
  rw [e0]
  by_cases h1 : i < 4
  · rw [bnd_low h1]; exact ⟨by decide, by decide⟩
  by_cases h2 : i < 12
  · have hb : bnd i = (0, CAPS.getD (i - 4) 0) := by
      unfold bnd
      rw [if_neg (by omega), if_pos h2]
    have hc : ∀ k : Fin 8, 0 ≤ CAPS.getD k.1 0 := by decide
    rw [hb]
    exact ⟨Int.le_refl 0, hc ⟨i - 4, by omega⟩⟩
  unfold bnd
  rw [if_neg h1, if_neg h2]
  repeat' split
  all_goals exact ⟨by decide, by decide⟩
theorem VI.zero : VI (fun _ => 0) := by
  intro v hv
  exact ⟨0, by omega, rfl, fun l h => absurd h (Nat.not_lt_zero l)⟩
theorem NI.start : NI (upd (upd (upd (fun _ => 0) 1 (-1)) 2 3) 3 24) := ((NI.zero.setA (bnd_low (by omega))).setA (bnd_low (by omega))).setA (bnd_low (by omega))
theorem VI.start : VI (upd (upd (upd (fun _ => 0) 1 (-1)) 2 3) 3 24) := ((VI.zero.set (by omega)).set (by omega)).set (by omega)
theorem MB.zero : MB (fun _ => 0) := fun _ _ => by show (0 : Int32).toInt ≤ 120; decide
theorem B66.zero : B66 (fun _ => 0) (fun _ => 0) := ⟨fun _ _ => ⟨0, by omega, rfl⟩, fun _ _ => ⟨0, by omega, rfl⟩⟩
theorem SHR.init : SHR (upd (upd (upd (upd (fun _ => 0) 0 (-1)) 1 (-1)) 2 (-1)) 3 (-1)) (fun _ => 0) (fun _ => 0) (upd (upd (upd (upd (fun _ => 0) 0 (-1)) 1 (-1)) 2 (-1)) 3 (-1)) (fun _ => 0) (fun _ => 0) := fun t ht => ⟨rfl, rfl, by rcases (show t = 0 ∨ t = 1 ∨ t = 2 ∨ t = 3 by omega) with rfl | rfl | rfl | rfl <;> (unfold Wi; first | decide | decide +kernel), Or.inr (fun _ _ => rfl)⟩
theorem SLR.init : SLR (upd (upd (upd (upd (fun _ => 0) 0 4) 1 4) 2 4) 3 4) (fun _ => 0) (fun _ => 0) (fun _ => 0) (fun _ => 0) (fun _ => 0) := fun t ht => Or.inl ⟨by rcases (show t = 0 ∨ t = 1 ∨ t = 2 ∨ t = 3 by omega) with rfl | rfl | rfl | rfl <;> rfl, rfl⟩
theorem SZ.init : SZ (fun _ => 0) := fun _ _ => ⟨0, by omega, rfl⟩
section WR
variable {p : Program} {l : Launch} {e : Env} {R : Room} {s : State} {m : MethodId} {args : Array Value} {below : List Frame} {meth : Method} {c : Code} {H : Heap} {locs : List Loc} {cells slots : Nat} {Q : State → Prop}
variable {pc : Nat} {ls : Array Slot} {rest : List Value} {G : GG} {K : OO} {ws : va_W} {A : Nat → Prop} {y0 : MethodName} {b0 : ByteArray} {mL0 : Nat} {rt0 : Option FieldType} {a : Nat} {H0 : Heap}
theorem dX8_init_0 : decode cX8_init 0 = .ok (.aload_n 0, 1) := by decide +kernel
theorem dX8_init_1 : decode cX8_init 1 = .ok (.invokespecial 3, 3) := by decide +kernel
theorem m_140 : Cond.methodLink RX8 3 objectInit ∈ BW := iB_BW7 _ (List.mem_of_getElem? (i := 18) rfl)
theorem m_128 : Cond.instanceMethod objectInit ∈ BW := iB_BW7 _ (List.mem_of_getElem? (i := 6) rfl)
theorem m_129 : Cond.code objectInit ⟨#[0xb1]⟩ 1 none ∈ BW := iB_BW7 _ (List.mem_of_getElem? (i := 7) rfl)
theorem dX8_init_4 : decode cX8_init 4 = .ok (.aload_n 0, 1) := by decide +kernel
theorem dX8_init_5 : decode cX8_init 5 = .ok (.iload_n 1, 1) := by decide +kernel
theorem dX8_init_6 : decode cX8_init 6 = .ok (.iconst 0, 1) := by decide +kernel
theorem dX8_init_7 : decode cX8_init 7 = .ok (.invokestatic 9, 3) := by decide +kernel
theorem m_141 : Cond.methodLink RX8 9 Lib.Math.max.name ∈ BW := iB_BW7 _ (List.mem_of_getElem? (i := 19) rfl)
theorem dX8_init_10 : decode cX8_init 10 = .ok (.putfield 15, 3) := by decide +kernel
theorem pf_X8_15 (hC : CX p s m meth c y0 b0 mL0 rt0 args) (hy0 : y0.cls = RX8) (hin : y0.name = "<init>") (hK : KK G s) (hP : va_P G.1 vwCl ws H) (hD : va_D A ws) (hS : va_S A H0 H locs) (q0 : Nat) {fs : List Value} {v : Value} {ws' : va_W} (he : ws[q0]? = some (a, .inr (8, fs))) (hl : 0 < fs.length) (hws : ws.set q0 (a, .inr (8, fs.set 0 v)) = ws') (hn : narrow .int v = v) (hfit : fits .int v = true) (hdg : decode b0 pc = .ok (.putfield 15, 3)) (kk : ∀ (H1 : Heap) (locs1 : List Loc), va_P G.1 vwCl ws' H1 → va_D A ws' → va_S A H0 H1 locs1 → W p l e R s m args below meth c H1 locs1 cells slots Q (F0 m (pc + 3) ls rest)) : W p l e R s m args below meth c H locs cells slots Q (F0 m pc ls (v :: .ref a :: rest)) := by
  obtain ⟨hx, hb, hr, hml, hB, hown, hlocks, hnm⟩ := hC
  rw [hy0] at hown
  subst hws
  exact va_putF (ci := 8) (ty := .int) (C := RX8) (T := TX8) (N := 4) hx hb hB in_X8 tyX8 tyX8_ok nmX8 hown hK.1 hP hD hS q0 he rfl 0 (by decide) (hB _ m_144) (fun _ h => h) rfl (hnm.trans hin) rfl (by decide +kernel) hn hfit hl hdg kk
theorem dX8_init_13 : decode cX8_init 13 = .ok (.aload_n 0, 1) := by decide +kernel
theorem dX8_init_14 : decode cX8_init 14 = .ok (.iload_n 2, 1) := by decide +kernel
theorem dX8_init_15 : decode cX8_init 15 = .ok (.iconst 1, 1) := by decide +kernel
theorem dX8_init_16 : decode cX8_init 16 = .ok (.invokestatic 9, 3) := by decide +kernel
theorem dX8_init_19 : decode cX8_init 19 = .ok (.putfield 21, 3) := by decide +kernel
theorem pf_X8_21 (hC : CX p s m meth c y0 b0 mL0 rt0 args) (hy0 : y0.cls = RX8) (hin : y0.name = "<init>") (hK : KK G s) (hP : va_P G.1 vwCl ws H) (hD : va_D A ws) (hS : va_S A H0 H locs) (q0 : Nat) {fs : List Value} {v : Value} {ws' : va_W} (he : ws[q0]? = some (a, .inr (8, fs))) (hl : 1 < fs.length) (hws : ws.set q0 (a, .inr (8, fs.set 1 v)) = ws') (hn : narrow .int v = v) (hfit : fits .int v = true) (hdg : decode b0 pc = .ok (.putfield 21, 3)) (kk : ∀ (H1 : Heap) (locs1 : List Loc), va_P G.1 vwCl ws' H1 → va_D A ws' → va_S A H0 H1 locs1 → W p l e R s m args below meth c H1 locs1 cells slots Q (F0 m (pc + 3) ls rest)) : W p l e R s m args below meth c H locs cells slots Q (F0 m pc ls (v :: .ref a :: rest)) := by
  obtain ⟨hx, hb, hr, hml, hB, hown, hlocks, hnm⟩ := hC
  rw [hy0] at hown
  subst hws
  exact va_putF (ci := 8) (ty := .int) (C := RX8) (T := TX8) (N := 4) hx hb hB in_X8 tyX8 tyX8_ok nmX8 hown hK.1 hP hD hS q0 he rfl 1 (by decide) (hB _ m_145) (fun _ h => h) rfl (hnm.trans hin) rfl (by decide +kernel) hn hfit hl hdg kk
theorem dX8_init_22 : decode cX8_init 22 = .ok (.aload_n 0, 1) := by decide +kernel
theorem dX8_init_23 : decode cX8_init 23 = .ok (.aload_n 0, 1) := by decide +kernel
theorem dX8_init_24 : decode cX8_init 24 = .ok (.getfield 15, 3) := by decide +kernel
theorem dX8_init_27 : decode cX8_init 27 = .ok (.aload_n 0, 1) := by decide +kernel
theorem dX8_init_28 : decode cX8_init 28 = .ok (.getfield 21, 3) := by decide +kernel
theorem dX8_init_31 : decode cX8_init 31 = .ok (.imul, 1) := by decide +kernel
theorem dX8_init_32 : decode cX8_init 32 = .ok (.newarray .int, 2) := by decide +kernel
theorem m_148 : Cond.arrayClass .int ∈ BW := iB_BW8 _ (List.mem_of_getElem? (i := 6) rfl)
theorem dX8_init_34 : decode cX8_init 34 = .ok (.putfield 24, 3) := by decide +kernel
theorem pf_X8_24 (hC : CX p s m meth c y0 b0 mL0 rt0 args) (hy0 : y0.cls = RX8) (hin : y0.name = "<init>") (hK : KK G s) (hP : va_P G.1 vwCl ws H) (hD : va_D A ws) (hS : va_S A H0 H locs) (q0 : Nat) {fs : List Value} {v : Value} {ws' : va_W} (he : ws[q0]? = some (a, .inr (8, fs))) (hl : 2 < fs.length) (hws : ws.set q0 (a, .inr (8, fs.set 2 v)) = ws') (hn : narrow (.array .int) v = v) (hfit : fits (.array .int) v = true) (hdg : decode b0 pc = .ok (.putfield 24, 3)) (kk : ∀ (H1 : Heap) (locs1 : List Loc), va_P G.1 vwCl ws' H1 → va_D A ws' → va_S A H0 H1 locs1 → W p l e R s m args below meth c H1 locs1 cells slots Q (F0 m (pc + 3) ls rest)) : W p l e R s m args below meth c H locs cells slots Q (F0 m pc ls (v :: .ref a :: rest)) := by
  obtain ⟨hx, hb, hr, hml, hB, hown, hlocks, hnm⟩ := hC
  rw [hy0] at hown
  subst hws
  exact va_putF (ci := 8) (ty := (.array .int)) (C := RX8) (T := TX8) (N := 4) hx hb hB in_X8 tyX8 tyX8_ok nmX8 hown hK.1 hP hD hS q0 he rfl 2 (by decide) (hB _ m_146) (fun _ h => h) rfl (hnm.trans hin) rfl (by decide +kernel) hn hfit hl hdg kk
theorem dX8_init_37 : decode cX8_init 37 = .ok (.aload_n 0, 1) := by decide +kernel
theorem dX8_init_38 : decode cX8_init 38 = .ok (.iconst 0, 1) := by decide +kernel
theorem dX8_init_39 : decode cX8_init 39 = .ok (.putfield 28, 3) := by decide +kernel
theorem dX8_init_42 : decode cX8_init 42 = .ok (.return_, 1) := by decide +kernel
theorem dX0_init_0 : decode cX0_init 0 = .ok (.aload_n 0, 1) := by decide +kernel
theorem dX0_init_1 : decode cX0_init 1 = .ok (.invokespecial 3, 3) := by decide +kernel
theorem m_134 : Cond.methodLink RX0 3 objectInit ∈ BW := iB_BW7 _ (List.mem_of_getElem? (i := 12) rfl)
theorem dX0_init_4 : decode cX0_init 4 = .ok (.aload_n 0, 1) := by decide +kernel
theorem dX0_init_5 : decode cX0_init 5 = .ok (.new 9, 3) := by decide +kernel
theorem m_135 : Cond.classLink RX0 9 RX8 ∈ BW := iB_BW7 _ (List.mem_of_getElem? (i := 13) rfl)
theorem m_136 : Cond.instantiable RX8 4 ∈ BW := iB_BW7 _ (List.mem_of_getElem? (i := 14) rfl)
theorem nw_X0_9 (hC : CX p s m meth c y0 b0 mL0 rt0 args) (hy0 : y0.cls = RX0) (hK : KK G s) (hP : va_P G.1 vwCl ws H) (hD : va_D A ws) (hS : va_S A H0 H locs) (hA : ∀ q : Nat, H0.size ≤ q → A q) (hcells : cells + 1 ≤ R.cells) (hslots : slots + 4 ≤ R.slots) (hdg : decode b0 pc = .ok (.new 9, 3)) (kk : ∀ (q : Nat) (H1 : Heap), va_P G.1 vwCl (ws ++ [(q, .inr (8, [.int 0, .int 0, .null, .int 0]))]) H1 → va_D A (ws ++ [(q, .inr (8, [.int 0, .int 0, .null, .int 0]))]) → va_S A H0 H1 locs → W p l e R s m args below meth c H1 locs (cells + 1) (slots + 4) Q (F0 m (pc + 3) ls (.ref q :: rest))) : W p l e R s m args below meth c H locs cells slots Q (F0 m pc ls rest) := by
  obtain ⟨hx, hb, hr, hml, hB, hown, hlocks, hnm⟩ := hC
  rw [hy0] at hown
  exact va_new (ci := 8) (C := RX8) (T := TX8) (N := 4) hx hb hB in_X8 tyX8 tyX8_ok hown (hB _ m_135) (hB _ m_136) (hB _ m_104) hK.1 hP hD hS hA rfl (fun j hj => by rcases (show j = 0 ∨ j = 1 ∨ j = 2 ∨ j = 3 by omega) with rfl | rfl | rfl | rfl <;> rfl) hcells hslots hdg kk
theorem dX0_init_8 : decode cX0_init 8 = .ok (.dup, 1) := by decide +kernel
theorem dX0_init_9 : decode cX0_init 9 = .ok (.bipush 10, 2) := by decide +kernel
theorem dX0_init_11 : decode cX0_init 11 = .ok (.iconst 2, 1) := by decide +kernel
theorem dX0_init_12 : decode cX0_init 12 = .ok (.invokespecial 11, 3) := by decide +kernel
theorem m_139 : Cond.code yX8_init cX8_init 3 none ∈ BW := iB_BW7 _ (List.mem_of_getElem? (i := 17) rfl)
theorem m_137 : Cond.methodLink RX0 11 yX8_init ∈ BW := iB_BW7 _ (List.mem_of_getElem? (i := 15) rfl)
theorem m_138 : Cond.instanceMethod yX8_init ∈ BW := iB_BW7 _ (List.mem_of_getElem? (i := 16) rfl)
theorem si_X0_11 : SI RX0 11 yX8_init cX8_init 3 2 := ⟨⟨m_137, m_138, m_104, m_139⟩, rfl, ⟨nK_RX8.1, nK_RX8.2, pd_14⟩⟩
theorem dX0_init_15 : decode cX0_init 15 = .ok (.putfield 14, 3) := by decide +kernel
theorem pf_X0_14 (hC : CX p s m meth c y0 b0 mL0 rt0 args) (hy0 : y0.cls = RX0) (hin : y0.name = "<init>") (hK : KK G s) (hP : va_P G.1 vwCl ws H) (hD : va_D A ws) (hS : va_S A H0 H locs) (q0 : Nat) {fs : List Value} {v : Value} {ws' : va_W} (he : ws[q0]? = some (a, .inr (0, fs))) (hl : 0 < fs.length) (hws : ws.set q0 (a, .inr (0, fs.set 0 v)) = ws') (hn : narrow (.object "InquiryBench$Table") v = v) (hfit : fits (.object "InquiryBench$Table") v = true) (hdg : decode b0 pc = .ok (.putfield 14, 3)) (kk : ∀ (H1 : Heap) (locs1 : List Loc), va_P G.1 vwCl ws' H1 → va_D A ws' → va_S A H0 H1 locs1 → W p l e R s m args below meth c H1 locs1 cells slots Q (F0 m (pc + 3) ls rest)) : W p l e R s m args below meth c H locs cells slots Q (F0 m pc ls (v :: .ref a :: rest)) := by
  obtain ⟨hx, hb, hr, hml, hB, hown, hlocks, hnm⟩ := hC
  rw [hy0] at hown
  subst hws
  exact va_putF (ci := 0) (ty := (.object "InquiryBench$Table")) (C := RX0) (T := TX0) (N := 14) hx hb hB in_X0 tyX0 tyX0_ok nmX0 hown hK.1 hP hD hS q0 he rfl 0 (by decide) (hB _ m_149) (fun _ h => h) rfl (hnm.trans hin) rfl (by decide +kernel) hn hfit hl hdg kk
theorem dX0_init_18 : decode cX0_init 18 = .ok (.aload_n 0, 1) := by decide +kernel
theorem dX0_init_19 : decode cX0_init 19 = .ok (.new 9, 3) := by decide +kernel
theorem dX0_init_22 : decode cX0_init 22 = .ok (.dup, 1) := by decide +kernel
theorem dX0_init_23 : decode cX0_init 23 = .ok (.bipush 12, 2) := by decide +kernel
theorem dX0_init_25 : decode cX0_init 25 = .ok (.bipush 6, 2) := by decide +kernel
theorem dX0_init_27 : decode cX0_init 27 = .ok (.invokespecial 11, 3) := by decide +kernel
theorem dX0_init_30 : decode cX0_init 30 = .ok (.putfield 20, 3) := by decide +kernel
theorem pf_X0_20 (hC : CX p s m meth c y0 b0 mL0 rt0 args) (hy0 : y0.cls = RX0) (hin : y0.name = "<init>") (hK : KK G s) (hP : va_P G.1 vwCl ws H) (hD : va_D A ws) (hS : va_S A H0 H locs) (q0 : Nat) {fs : List Value} {v : Value} {ws' : va_W} (he : ws[q0]? = some (a, .inr (0, fs))) (hl : 1 < fs.length) (hws : ws.set q0 (a, .inr (0, fs.set 1 v)) = ws') (hn : narrow (.object "InquiryBench$Table") v = v) (hfit : fits (.object "InquiryBench$Table") v = true) (hdg : decode b0 pc = .ok (.putfield 20, 3)) (kk : ∀ (H1 : Heap) (locs1 : List Loc), va_P G.1 vwCl ws' H1 → va_D A ws' → va_S A H0 H1 locs1 → W p l e R s m args below meth c H1 locs1 cells slots Q (F0 m (pc + 3) ls rest)) : W p l e R s m args below meth c H locs cells slots Q (F0 m pc ls (v :: .ref a :: rest)) := by
  obtain ⟨hx, hb, hr, hml, hB, hown, hlocks, hnm⟩ := hC
  rw [hy0] at hown
  subst hws
  exact va_putF (ci := 0) (ty := (.object "InquiryBench$Table")) (C := RX0) (T := TX0) (N := 14) hx hb hB in_X0 tyX0 tyX0_ok nmX0 hown hK.1 hP hD hS q0 he rfl 1 (by decide) (hB _ m_150) (fun _ h => h) rfl (hnm.trans hin) rfl (by decide +kernel) hn hfit hl hdg kk
theorem dX0_init_33 : decode cX0_init 33 = .ok (.aload_n 0, 1) := by decide +kernel
theorem dX0_init_34 : decode cX0_init 34 = .ok (.new 9, 3) := by decide +kernel
theorem dX0_init_37 : decode cX0_init 37 = .ok (.dup, 1) := by decide +kernel
theorem dX0_init_38 : decode cX0_init 38 = .ok (.bipush 24, 2) := by decide +kernel
theorem dX0_init_40 : decode cX0_init 40 = .ok (.iconst 3, 1) := by decide +kernel
theorem dX0_init_41 : decode cX0_init 41 = .ok (.invokespecial 11, 3) := by decide +kernel
theorem dX0_init_44 : decode cX0_init 44 = .ok (.putfield 23, 3) := by decide +kernel
theorem pf_X0_23 (hC : CX p s m meth c y0 b0 mL0 rt0 args) (hy0 : y0.cls = RX0) (hin : y0.name = "<init>") (hK : KK G s) (hP : va_P G.1 vwCl ws H) (hD : va_D A ws) (hS : va_S A H0 H locs) (q0 : Nat) {fs : List Value} {v : Value} {ws' : va_W} (he : ws[q0]? = some (a, .inr (0, fs))) (hl : 2 < fs.length) (hws : ws.set q0 (a, .inr (0, fs.set 2 v)) = ws') (hn : narrow (.object "InquiryBench$Table") v = v) (hfit : fits (.object "InquiryBench$Table") v = true) (hdg : decode b0 pc = .ok (.putfield 23, 3)) (kk : ∀ (H1 : Heap) (locs1 : List Loc), va_P G.1 vwCl ws' H1 → va_D A ws' → va_S A H0 H1 locs1 → W p l e R s m args below meth c H1 locs1 cells slots Q (F0 m (pc + 3) ls rest)) : W p l e R s m args below meth c H locs cells slots Q (F0 m pc ls (v :: .ref a :: rest)) := by
  obtain ⟨hx, hb, hr, hml, hB, hown, hlocks, hnm⟩ := hC
  rw [hy0] at hown
  subst hws
  exact va_putF (ci := 0) (ty := (.object "InquiryBench$Table")) (C := RX0) (T := TX0) (N := 14) hx hb hB in_X0 tyX0 tyX0_ok nmX0 hown hK.1 hP hD hS q0 he rfl 2 (by decide) (hB _ m_151) (fun _ h => h) rfl (hnm.trans hin) rfl (by decide +kernel) hn hfit hl hdg kk
theorem dX0_init_47 : decode cX0_init 47 = .ok (.aload_n 0, 1) := by decide +kernel
theorem dX0_init_48 : decode cX0_init 48 = .ok (.new 9, 3) := by decide +kernel
theorem dX0_init_51 : decode cX0_init 51 = .ok (.dup, 1) := by decide +kernel
theorem dX0_init_52 : decode cX0_init 52 = .ok (.bipush 8, 2) := by decide +kernel
theorem dX0_init_54 : decode cX0_init 54 = .ok (.iconst 3, 1) := by decide +kernel
theorem dX0_init_55 : decode cX0_init 55 = .ok (.invokespecial 11, 3) := by decide +kernel
theorem dX0_init_58 : decode cX0_init 58 = .ok (.putfield 26, 3) := by decide +kernel
theorem pf_X0_26 (hC : CX p s m meth c y0 b0 mL0 rt0 args) (hy0 : y0.cls = RX0) (hin : y0.name = "<init>") (hK : KK G s) (hP : va_P G.1 vwCl ws H) (hD : va_D A ws) (hS : va_S A H0 H locs) (q0 : Nat) {fs : List Value} {v : Value} {ws' : va_W} (he : ws[q0]? = some (a, .inr (0, fs))) (hl : 3 < fs.length) (hws : ws.set q0 (a, .inr (0, fs.set 3 v)) = ws') (hn : narrow (.object "InquiryBench$Table") v = v) (hfit : fits (.object "InquiryBench$Table") v = true) (hdg : decode b0 pc = .ok (.putfield 26, 3)) (kk : ∀ (H1 : Heap) (locs1 : List Loc), va_P G.1 vwCl ws' H1 → va_D A ws' → va_S A H0 H1 locs1 → W p l e R s m args below meth c H1 locs1 cells slots Q (F0 m (pc + 3) ls rest)) : W p l e R s m args below meth c H locs cells slots Q (F0 m pc ls (v :: .ref a :: rest)) := by
  obtain ⟨hx, hb, hr, hml, hB, hown, hlocks, hnm⟩ := hC
  rw [hy0] at hown
  subst hws
  exact va_putF (ci := 0) (ty := (.object "InquiryBench$Table")) (C := RX0) (T := TX0) (N := 14) hx hb hB in_X0 tyX0 tyX0_ok nmX0 hown hK.1 hP hD hS q0 he rfl 3 (by decide) (hB _ m_152) (fun _ h => h) rfl (hnm.trans hin) rfl (by decide +kernel) hn hfit hl hdg kk
theorem dX0_init_61 : decode cX0_init 61 = .ok (.aload_n 0, 1) := by decide +kernel
theorem dX0_init_62 : decode cX0_init 62 = .ok (.new 9, 3) := by decide +kernel
theorem dX0_init_65 : decode cX0_init 65 = .ok (.dup, 1) := by decide +kernel
theorem dX0_init_66 : decode cX0_init 66 = .ok (.bipush 72, 2) := by decide +kernel
theorem dX0_init_68 : decode cX0_init 68 = .ok (.bipush 7, 2) := by decide +kernel
theorem dX0_init_70 : decode cX0_init 70 = .ok (.invokespecial 11, 3) := by decide +kernel
theorem dX0_init_73 : decode cX0_init 73 = .ok (.putfield 29, 3) := by decide +kernel
theorem pf_X0_29 (hC : CX p s m meth c y0 b0 mL0 rt0 args) (hy0 : y0.cls = RX0) (hin : y0.name = "<init>") (hK : KK G s) (hP : va_P G.1 vwCl ws H) (hD : va_D A ws) (hS : va_S A H0 H locs) (q0 : Nat) {fs : List Value} {v : Value} {ws' : va_W} (he : ws[q0]? = some (a, .inr (0, fs))) (hl : 4 < fs.length) (hws : ws.set q0 (a, .inr (0, fs.set 4 v)) = ws') (hn : narrow (.object "InquiryBench$Table") v = v) (hfit : fits (.object "InquiryBench$Table") v = true) (hdg : decode b0 pc = .ok (.putfield 29, 3)) (kk : ∀ (H1 : Heap) (locs1 : List Loc), va_P G.1 vwCl ws' H1 → va_D A ws' → va_S A H0 H1 locs1 → W p l e R s m args below meth c H1 locs1 cells slots Q (F0 m (pc + 3) ls rest)) : W p l e R s m args below meth c H locs cells slots Q (F0 m pc ls (v :: .ref a :: rest)) := by
  obtain ⟨hx, hb, hr, hml, hB, hown, hlocks, hnm⟩ := hC
  rw [hy0] at hown
  subst hws
  exact va_putF (ci := 0) (ty := (.object "InquiryBench$Table")) (C := RX0) (T := TX0) (N := 14) hx hb hB in_X0 tyX0 tyX0_ok nmX0 hown hK.1 hP hD hS q0 he rfl 4 (by decide) (hB _ m_153) (fun _ h => h) rfl (hnm.trans hin) rfl (by decide +kernel) hn hfit hl hdg kk
theorem dX0_init_76 : decode cX0_init 76 = .ok (.aload_n 0, 1) := by decide +kernel
theorem dX0_init_77 : decode cX0_init 77 = .ok (.new 9, 3) := by decide +kernel
theorem dX0_init_80 : decode cX0_init 80 = .ok (.dup, 1) := by decide +kernel
theorem dX0_init_81 : decode cX0_init 81 = .ok (.sipush 960, 3) := by decide +kernel
theorem dX0_init_84 : decode cX0_init 84 = .ok (.iconst 1, 1) := by decide +kernel
theorem dX0_init_85 : decode cX0_init 85 = .ok (.invokespecial 11, 3) := by decide +kernel
theorem dX0_init_88 : decode cX0_init 88 = .ok (.putfield 32, 3) := by decide +kernel
theorem pf_X0_32 (hC : CX p s m meth c y0 b0 mL0 rt0 args) (hy0 : y0.cls = RX0) (hin : y0.name = "<init>") (hK : KK G s) (hP : va_P G.1 vwCl ws H) (hD : va_D A ws) (hS : va_S A H0 H locs) (q0 : Nat) {fs : List Value} {v : Value} {ws' : va_W} (he : ws[q0]? = some (a, .inr (0, fs))) (hl : 5 < fs.length) (hws : ws.set q0 (a, .inr (0, fs.set 5 v)) = ws') (hn : narrow (.object "InquiryBench$Table") v = v) (hfit : fits (.object "InquiryBench$Table") v = true) (hdg : decode b0 pc = .ok (.putfield 32, 3)) (kk : ∀ (H1 : Heap) (locs1 : List Loc), va_P G.1 vwCl ws' H1 → va_D A ws' → va_S A H0 H1 locs1 → W p l e R s m args below meth c H1 locs1 cells slots Q (F0 m (pc + 3) ls rest)) : W p l e R s m args below meth c H locs cells slots Q (F0 m pc ls (v :: .ref a :: rest)) := by
  obtain ⟨hx, hb, hr, hml, hB, hown, hlocks, hnm⟩ := hC
  rw [hy0] at hown
  subst hws
  exact va_putF (ci := 0) (ty := (.object "InquiryBench$Table")) (C := RX0) (T := TX0) (N := 14) hx hb hB in_X0 tyX0 tyX0_ok nmX0 hown hK.1 hP hD hS q0 he rfl 5 (by decide) (hB _ m_154) (fun _ h => h) rfl (hnm.trans hin) rfl (by decide +kernel) hn hfit hl hdg kk
theorem dX0_init_91 : decode cX0_init 91 = .ok (.aload_n 0, 1) := by decide +kernel
theorem dX0_init_92 : decode cX0_init 92 = .ok (.new 9, 3) := by decide +kernel
theorem dX0_init_95 : decode cX0_init 95 = .ok (.dup, 1) := by decide +kernel
theorem dX0_init_96 : decode cX0_init 96 = .ok (.bipush 16, 2) := by decide +kernel
theorem dX0_init_98 : decode cX0_init 98 = .ok (.bipush 8, 2) := by decide +kernel
theorem dX0_init_100 : decode cX0_init 100 = .ok (.invokespecial 11, 3) := by decide +kernel
theorem dX0_init_103 : decode cX0_init 103 = .ok (.putfield 35, 3) := by decide +kernel
theorem pf_X0_35 (hC : CX p s m meth c y0 b0 mL0 rt0 args) (hy0 : y0.cls = RX0) (hin : y0.name = "<init>") (hK : KK G s) (hP : va_P G.1 vwCl ws H) (hD : va_D A ws) (hS : va_S A H0 H locs) (q0 : Nat) {fs : List Value} {v : Value} {ws' : va_W} (he : ws[q0]? = some (a, .inr (0, fs))) (hl : 6 < fs.length) (hws : ws.set q0 (a, .inr (0, fs.set 6 v)) = ws') (hn : narrow (.object "InquiryBench$Table") v = v) (hfit : fits (.object "InquiryBench$Table") v = true) (hdg : decode b0 pc = .ok (.putfield 35, 3)) (kk : ∀ (H1 : Heap) (locs1 : List Loc), va_P G.1 vwCl ws' H1 → va_D A ws' → va_S A H0 H1 locs1 → W p l e R s m args below meth c H1 locs1 cells slots Q (F0 m (pc + 3) ls rest)) : W p l e R s m args below meth c H locs cells slots Q (F0 m pc ls (v :: .ref a :: rest)) := by
  obtain ⟨hx, hb, hr, hml, hB, hown, hlocks, hnm⟩ := hC
  rw [hy0] at hown
  subst hws
  exact va_putF (ci := 0) (ty := (.object "InquiryBench$Table")) (C := RX0) (T := TX0) (N := 14) hx hb hB in_X0 tyX0 tyX0_ok nmX0 hown hK.1 hP hD hS q0 he rfl 6 (by decide) (hB _ m_155) (fun _ h => h) rfl (hnm.trans hin) rfl (by decide +kernel) hn hfit hl hdg kk
theorem dX0_init_106 : decode cX0_init 106 = .ok (.aload_n 0, 1) := by decide +kernel
theorem dX0_init_107 : decode cX0_init 107 = .ok (.new 9, 3) := by decide +kernel
theorem dX0_init_110 : decode cX0_init 110 = .ok (.dup, 1) := by decide +kernel
theorem dX0_init_111 : decode cX0_init 111 = .ok (.bipush 12, 2) := by decide +kernel
theorem dX0_init_113 : decode cX0_init 113 = .ok (.iconst 4, 1) := by decide +kernel
theorem dX0_init_114 : decode cX0_init 114 = .ok (.invokespecial 11, 3) := by decide +kernel
theorem dX0_init_117 : decode cX0_init 117 = .ok (.putfield 38, 3) := by decide +kernel
theorem pf_X0_38 (hC : CX p s m meth c y0 b0 mL0 rt0 args) (hy0 : y0.cls = RX0) (hin : y0.name = "<init>") (hK : KK G s) (hP : va_P G.1 vwCl ws H) (hD : va_D A ws) (hS : va_S A H0 H locs) (q0 : Nat) {fs : List Value} {v : Value} {ws' : va_W} (he : ws[q0]? = some (a, .inr (0, fs))) (hl : 7 < fs.length) (hws : ws.set q0 (a, .inr (0, fs.set 7 v)) = ws') (hn : narrow (.object "InquiryBench$Table") v = v) (hfit : fits (.object "InquiryBench$Table") v = true) (hdg : decode b0 pc = .ok (.putfield 38, 3)) (kk : ∀ (H1 : Heap) (locs1 : List Loc), va_P G.1 vwCl ws' H1 → va_D A ws' → va_S A H0 H1 locs1 → W p l e R s m args below meth c H1 locs1 cells slots Q (F0 m (pc + 3) ls rest)) : W p l e R s m args below meth c H locs cells slots Q (F0 m pc ls (v :: .ref a :: rest)) := by
  obtain ⟨hx, hb, hr, hml, hB, hown, hlocks, hnm⟩ := hC
  rw [hy0] at hown
  subst hws
  exact va_putF (ci := 0) (ty := (.object "InquiryBench$Table")) (C := RX0) (T := TX0) (N := 14) hx hb hB in_X0 tyX0 tyX0_ok nmX0 hown hK.1 hP hD hS q0 he rfl 7 (by decide) (hB _ m_156) (fun _ h => h) rfl (hnm.trans hin) rfl (by decide +kernel) hn hfit hl hdg kk
theorem dX0_init_120 : decode cX0_init 120 = .ok (.aload_n 0, 1) := by decide +kernel
theorem dX0_init_121 : decode cX0_init 121 = .ok (.new 9, 3) := by decide +kernel
theorem dX0_init_124 : decode cX0_init 124 = .ok (.dup, 1) := by decide +kernel
theorem dX0_init_125 : decode cX0_init 125 = .ok (.bipush 16, 2) := by decide +kernel
theorem dX0_init_127 : decode cX0_init 127 = .ok (.iconst 3, 1) := by decide +kernel
theorem dX0_init_128 : decode cX0_init 128 = .ok (.invokespecial 11, 3) := by decide +kernel
theorem dX0_init_131 : decode cX0_init 131 = .ok (.putfield 41, 3) := by decide +kernel
theorem pf_X0_41 (hC : CX p s m meth c y0 b0 mL0 rt0 args) (hy0 : y0.cls = RX0) (hin : y0.name = "<init>") (hK : KK G s) (hP : va_P G.1 vwCl ws H) (hD : va_D A ws) (hS : va_S A H0 H locs) (q0 : Nat) {fs : List Value} {v : Value} {ws' : va_W} (he : ws[q0]? = some (a, .inr (0, fs))) (hl : 8 < fs.length) (hws : ws.set q0 (a, .inr (0, fs.set 8 v)) = ws') (hn : narrow (.object "InquiryBench$Table") v = v) (hfit : fits (.object "InquiryBench$Table") v = true) (hdg : decode b0 pc = .ok (.putfield 41, 3)) (kk : ∀ (H1 : Heap) (locs1 : List Loc), va_P G.1 vwCl ws' H1 → va_D A ws' → va_S A H0 H1 locs1 → W p l e R s m args below meth c H1 locs1 cells slots Q (F0 m (pc + 3) ls rest)) : W p l e R s m args below meth c H locs cells slots Q (F0 m pc ls (v :: .ref a :: rest)) := by
  obtain ⟨hx, hb, hr, hml, hB, hown, hlocks, hnm⟩ := hC
  rw [hy0] at hown
  subst hws
  exact va_putF (ci := 0) (ty := (.object "InquiryBench$Table")) (C := RX0) (T := TX0) (N := 14) hx hb hB in_X0 tyX0 tyX0_ok nmX0 hown hK.1 hP hD hS q0 he rfl 8 (by decide) (hB _ m_157) (fun _ h => h) rfl (hnm.trans hin) rfl (by decide +kernel) hn hfit hl hdg kk
theorem dX0_init_134 : decode cX0_init 134 = .ok (.aload_n 0, 1) := by decide +kernel
theorem dX0_init_135 : decode cX0_init 135 = .ok (.new 9, 3) := by decide +kernel
theorem dX0_init_138 : decode cX0_init 138 = .ok (.dup, 1) := by decide +kernel
theorem dX0_init_139 : decode cX0_init 139 = .ok (.bipush 7, 2) := by decide +kernel
theorem dX0_init_141 : decode cX0_init 141 = .ok (.iconst 2, 1) := by decide +kernel
theorem dX0_init_142 : decode cX0_init 142 = .ok (.invokespecial 11, 3) := by decide +kernel
theorem dX0_init_145 : decode cX0_init 145 = .ok (.putfield 44, 3) := by decide +kernel
theorem pf_X0_44 (hC : CX p s m meth c y0 b0 mL0 rt0 args) (hy0 : y0.cls = RX0) (hin : y0.name = "<init>") (hK : KK G s) (hP : va_P G.1 vwCl ws H) (hD : va_D A ws) (hS : va_S A H0 H locs) (q0 : Nat) {fs : List Value} {v : Value} {ws' : va_W} (he : ws[q0]? = some (a, .inr (0, fs))) (hl : 9 < fs.length) (hws : ws.set q0 (a, .inr (0, fs.set 9 v)) = ws') (hn : narrow (.object "InquiryBench$Table") v = v) (hfit : fits (.object "InquiryBench$Table") v = true) (hdg : decode b0 pc = .ok (.putfield 44, 3)) (kk : ∀ (H1 : Heap) (locs1 : List Loc), va_P G.1 vwCl ws' H1 → va_D A ws' → va_S A H0 H1 locs1 → W p l e R s m args below meth c H1 locs1 cells slots Q (F0 m (pc + 3) ls rest)) : W p l e R s m args below meth c H locs cells slots Q (F0 m pc ls (v :: .ref a :: rest)) := by
  obtain ⟨hx, hb, hr, hml, hB, hown, hlocks, hnm⟩ := hC
  rw [hy0] at hown
  subst hws
  exact va_putF (ci := 0) (ty := (.object "InquiryBench$Table")) (C := RX0) (T := TX0) (N := 14) hx hb hB in_X0 tyX0 tyX0_ok nmX0 hown hK.1 hP hD hS q0 he rfl 9 (by decide) (hB _ m_158) (fun _ h => h) rfl (hnm.trans hin) rfl (by decide +kernel) hn hfit hl hdg kk
theorem dX0_init_148 : decode cX0_init 148 = .ok (.aload_n 0, 1) := by decide +kernel
theorem dX0_init_149 : decode cX0_init 149 = .ok (.iconst 0, 1) := by decide +kernel
theorem dX0_init_150 : decode cX0_init 150 = .ok (.putfield 47, 3) := by decide +kernel
theorem dX0_init_153 : decode cX0_init 153 = .ok (.aload_n 0, 1) := by decide +kernel
theorem dX0_init_154 : decode cX0_init 154 = .ok (.iconst (-1), 1) := by decide +kernel
theorem dX0_init_155 : decode cX0_init 155 = .ok (.putfield 51, 3) := by decide +kernel
theorem dX0_init_158 : decode cX0_init 158 = .ok (.aload_n 0, 1) := by decide +kernel
theorem dX0_init_159 : decode cX0_init 159 = .ok (.iconst 3, 1) := by decide +kernel
theorem dX0_init_160 : decode cX0_init 160 = .ok (.putfield 54, 3) := by decide +kernel
theorem dX0_init_163 : decode cX0_init 163 = .ok (.aload_n 0, 1) := by decide +kernel
theorem dX0_init_164 : decode cX0_init 164 = .ok (.bipush 24, 2) := by decide +kernel
theorem dX0_init_166 : decode cX0_init 166 = .ok (.putfield 57, 3) := by decide +kernel
theorem dX0_init_169 : decode cX0_init 169 = .ok (.return_, 1) := by decide +kernel
theorem dX1_init_0 : decode cX1_init 0 = .ok (.aload_n 0, 1) := by decide +kernel
theorem dX1_init_1 : decode cX1_init 1 = .ok (.invokespecial 3, 3) := by decide +kernel
theorem m_173 : Cond.methodLink RX1 3 objectInit ∈ BW := iB_BW9 _ (List.mem_of_getElem? (i := 11) rfl)
theorem dX1_init_4 : decode cX1_init 4 = .ok (.aload_n 0, 1) := by decide +kernel
theorem dX1_init_5 : decode cX1_init 5 = .ok (.bipush 36, 2) := by decide +kernel
theorem dX1_init_7 : decode cX1_init 7 = .ok (.newarray .int, 2) := by decide +kernel
theorem dX1_init_9 : decode cX1_init 9 = .ok (.putfield 9, 3) := by decide +kernel
theorem pf_X1_9 (hC : CX p s m meth c y0 b0 mL0 rt0 args) (hy0 : y0.cls = RX1) (hin : y0.name = "<init>") (hK : KK G s) (hP : va_P G.1 vwCl ws H) (hD : va_D A ws) (hS : va_S A H0 H locs) (q0 : Nat) {fs : List Value} {v : Value} {ws' : va_W} (he : ws[q0]? = some (a, .inr (1, fs))) (hl : 0 < fs.length) (hws : ws.set q0 (a, .inr (1, fs.set 0 v)) = ws') (hn : narrow (.array .int) v = v) (hfit : fits (.array .int) v = true) (hdg : decode b0 pc = .ok (.putfield 9, 3)) (kk : ∀ (H1 : Heap) (locs1 : List Loc), va_P G.1 vwCl ws' H1 → va_D A ws' → va_S A H0 H1 locs1 → W p l e R s m args below meth c H1 locs1 cells slots Q (F0 m (pc + 3) ls rest)) : W p l e R s m args below meth c H locs cells slots Q (F0 m pc ls (v :: .ref a :: rest)) := by
  obtain ⟨hx, hb, hr, hml, hB, hown, hlocks, hnm⟩ := hC
  rw [hy0] at hown
  subst hws
  exact va_putF (ci := 1) (ty := (.array .int)) (C := RX1) (T := TX1) (N := 1) hx hb hB in_X1 tyX1 tyX1_ok nmX1 hown hK.1 hP hD hS q0 he rfl 0 (by decide) (hB _ m_174) (fun _ h => h) rfl (hnm.trans hin) rfl (by decide +kernel) hn hfit hl hdg kk
theorem dX1_init_12 : decode cX1_init 12 = .ok (.return_, 1) := by decide +kernel
theorem dX7_init_0 : decode cX7_init 0 = .ok (.aload_n 0, 1) := by decide +kernel
theorem dX7_init_1 : decode cX7_init 1 = .ok (.invokespecial 3, 3) := by decide +kernel
theorem m_168 : Cond.methodLink RX7 3 objectInit ∈ BW := iB_BW9 _ (List.mem_of_getElem? (i := 6) rfl)
theorem dX7_init_4 : decode cX7_init 4 = .ok (.aload_n 0, 1) := by decide +kernel
theorem dX7_init_5 : decode cX7_init 5 = .ok (.new 9, 3) := by decide +kernel
theorem m_169 : Cond.classLink RX7 9 RX1 ∈ BW := iB_BW9 _ (List.mem_of_getElem? (i := 7) rfl)
theorem m_170 : Cond.instantiable RX1 1 ∈ BW := iB_BW9 _ (List.mem_of_getElem? (i := 8) rfl)
theorem nw_X7_9 (hC : CX p s m meth c y0 b0 mL0 rt0 args) (hy0 : y0.cls = RX7) (hK : KK G s) (hP : va_P G.1 vwCl ws H) (hD : va_D A ws) (hS : va_S A H0 H locs) (hA : ∀ q : Nat, H0.size ≤ q → A q) (hcells : cells + 1 ≤ R.cells) (hslots : slots + 1 ≤ R.slots) (hdg : decode b0 pc = .ok (.new 9, 3)) (kk : ∀ (q : Nat) (H1 : Heap), va_P G.1 vwCl (ws ++ [(q, .inr (1, [.null]))]) H1 → va_D A (ws ++ [(q, .inr (1, [.null]))]) → va_S A H0 H1 locs → W p l e R s m args below meth c H1 locs (cells + 1) (slots + 1) Q (F0 m (pc + 3) ls (.ref q :: rest))) : W p l e R s m args below meth c H locs cells slots Q (F0 m pc ls rest) := by
  obtain ⟨hx, hb, hr, hml, hB, hown, hlocks, hnm⟩ := hC
  rw [hy0] at hown
  exact va_new (ci := 1) (C := RX1) (T := TX1) (N := 1) hx hb hB in_X1 tyX1 tyX1_ok hown (hB _ m_169) (hB _ m_170) (hB _ m_107) hK.1 hP hD hS hA rfl (fun j hj => by rcases (show j = 0 by omega) with rfl <;> rfl) hcells hslots hdg kk
theorem dX7_init_8 : decode cX7_init 8 = .ok (.dup, 1) := by decide +kernel
theorem dX7_init_9 : decode cX7_init 9 = .ok (.invokespecial 11, 3) := by decide +kernel
theorem m_172 : Cond.code yX1_init cX1_init 1 none ∈ BW := iB_BW9 _ (List.mem_of_getElem? (i := 10) rfl)
theorem nm_38 : Cond.methodLinkNest RX7 11 yX1_init RX11 ∈ NestW := List.mem_of_getElem? (i := 38) rfl
theorem m_171 : Cond.instanceMethod yX1_init ∈ BW := iB_BW9 _ (List.mem_of_getElem? (i := 9) rfl)
theorem si_X7_11 : SIN RX7 RX11 11 yX1_init cX1_init 1 0 := ⟨⟨nm_38, m_171, m_107, m_172⟩, rfl, ⟨nK_RX1.1, nK_RX1.2, pd_9⟩⟩
theorem dX7_init_12 : decode cX7_init 12 = .ok (.putfield 12, 3) := by decide +kernel
theorem pf_X7_12 (hC : CX p s m meth c y0 b0 mL0 rt0 args) (hy0 : y0.cls = RX7) (hin : y0.name = "<init>") (hK : KK G s) (hP : va_P G.1 vwCl ws H) (hD : va_D A ws) (hS : va_S A H0 H locs) (q0 : Nat) {fs : List Value} {v : Value} {ws' : va_W} (he : ws[q0]? = some (a, .inr (7, fs))) (hl : 1 < fs.length) (hws : ws.set q0 (a, .inr (7, fs.set 1 v)) = ws') (hn : narrow (.object "InquiryBench$Clocks") v = v) (hfit : fits (.object "InquiryBench$Clocks") v = true) (hdg : decode b0 pc = .ok (.putfield 12, 3)) (kk : ∀ (H1 : Heap) (locs1 : List Loc), va_P G.1 vwCl ws' H1 → va_D A ws' → va_S A H0 H1 locs1 → W p l e R s m args below meth c H1 locs1 cells slots Q (F0 m (pc + 3) ls rest)) : W p l e R s m args below meth c H locs cells slots Q (F0 m pc ls (v :: .ref a :: rest)) := by
  obtain ⟨hx, hb, hr, hml, hB, hown, hlocks, hnm⟩ := hC
  rw [hy0] at hown
  subst hws
  exact va_putF (ci := 7) (ty := (.object "InquiryBench$Clocks")) (C := RX7) (T := TX7) (N := 9) hx hb hB in_X7 tyX7 tyX7_ok nmX7 hown hK.1 hP hD hS q0 he rfl 1 (by decide) (hB _ m_176) (fun _ h => h) rfl (hnm.trans hin) rfl (by decide +kernel) hn hfit hl hdg kk
theorem dX7_init_15 : decode cX7_init 15 = .ok (.aload_n 0, 1) := by decide +kernel
theorem dX7_init_16 : decode cX7_init 16 = .ok (.bipush 12, 2) := by decide +kernel
theorem dX7_init_18 : decode cX7_init 18 = .ok (.newarray .int, 2) := by decide +kernel
theorem dX7_init_20 : decode cX7_init 20 = .ok (.putfield 18, 3) := by decide +kernel
theorem pf_X7_18 (hC : CX p s m meth c y0 b0 mL0 rt0 args) (hy0 : y0.cls = RX7) (hin : y0.name = "<init>") (hK : KK G s) (hP : va_P G.1 vwCl ws H) (hD : va_D A ws) (hS : va_S A H0 H locs) (q0 : Nat) {fs : List Value} {v : Value} {ws' : va_W} (he : ws[q0]? = some (a, .inr (7, fs))) (hl : 2 < fs.length) (hws : ws.set q0 (a, .inr (7, fs.set 2 v)) = ws') (hn : narrow (.array .int) v = v) (hfit : fits (.array .int) v = true) (hdg : decode b0 pc = .ok (.putfield 18, 3)) (kk : ∀ (H1 : Heap) (locs1 : List Loc), va_P G.1 vwCl ws' H1 → va_D A ws' → va_S A H0 H1 locs1 → W p l e R s m args below meth c H1 locs1 cells slots Q (F0 m (pc + 3) ls rest)) : W p l e R s m args below meth c H locs cells slots Q (F0 m pc ls (v :: .ref a :: rest)) := by
  obtain ⟨hx, hb, hr, hml, hB, hown, hlocks, hnm⟩ := hC
  rw [hy0] at hown
  subst hws
  exact va_putF (ci := 7) (ty := (.array .int)) (C := RX7) (T := TX7) (N := 9) hx hb hB in_X7 tyX7 tyX7_ok nmX7 hown hK.1 hP hD hS q0 he rfl 2 (by decide) (hB _ m_177) (fun _ h => h) rfl (hnm.trans hin) rfl (by decide +kernel) hn hfit hl hdg kk
theorem dX7_init_23 : decode cX7_init 23 = .ok (.aload_n 0, 1) := by decide +kernel
theorem dX7_init_24 : decode cX7_init 24 = .ok (.bipush 12, 2) := by decide +kernel
theorem dX7_init_26 : decode cX7_init 26 = .ok (.newarray .int, 2) := by decide +kernel
theorem dX7_init_28 : decode cX7_init 28 = .ok (.putfield 22, 3) := by decide +kernel
theorem pf_X7_22 (hC : CX p s m meth c y0 b0 mL0 rt0 args) (hy0 : y0.cls = RX7) (hin : y0.name = "<init>") (hK : KK G s) (hP : va_P G.1 vwCl ws H) (hD : va_D A ws) (hS : va_S A H0 H locs) (q0 : Nat) {fs : List Value} {v : Value} {ws' : va_W} (he : ws[q0]? = some (a, .inr (7, fs))) (hl : 3 < fs.length) (hws : ws.set q0 (a, .inr (7, fs.set 3 v)) = ws') (hn : narrow (.array .int) v = v) (hfit : fits (.array .int) v = true) (hdg : decode b0 pc = .ok (.putfield 22, 3)) (kk : ∀ (H1 : Heap) (locs1 : List Loc), va_P G.1 vwCl ws' H1 → va_D A ws' → va_S A H0 H1 locs1 → W p l e R s m args below meth c H1 locs1 cells slots Q (F0 m (pc + 3) ls rest)) : W p l e R s m args below meth c H locs cells slots Q (F0 m pc ls (v :: .ref a :: rest)) := by
  obtain ⟨hx, hb, hr, hml, hB, hown, hlocks, hnm⟩ := hC
  rw [hy0] at hown
  subst hws
  exact va_putF (ci := 7) (ty := (.array .int)) (C := RX7) (T := TX7) (N := 9) hx hb hB in_X7 tyX7 tyX7_ok nmX7 hown hK.1 hP hD hS q0 he rfl 3 (by decide) (hB _ m_178) (fun _ h => h) rfl (hnm.trans hin) rfl (by decide +kernel) hn hfit hl hdg kk
theorem dX7_init_31 : decode cX7_init 31 = .ok (.aload_n 0, 1) := by decide +kernel
theorem dX7_init_32 : decode cX7_init 32 = .ok (.bipush 12, 2) := by decide +kernel
theorem dX7_init_34 : decode cX7_init 34 = .ok (.newarray .int, 2) := by decide +kernel
theorem dX7_init_36 : decode cX7_init 36 = .ok (.putfield 25, 3) := by decide +kernel
theorem pf_X7_25 (hC : CX p s m meth c y0 b0 mL0 rt0 args) (hy0 : y0.cls = RX7) (hin : y0.name = "<init>") (hK : KK G s) (hP : va_P G.1 vwCl ws H) (hD : va_D A ws) (hS : va_S A H0 H locs) (q0 : Nat) {fs : List Value} {v : Value} {ws' : va_W} (he : ws[q0]? = some (a, .inr (7, fs))) (hl : 4 < fs.length) (hws : ws.set q0 (a, .inr (7, fs.set 4 v)) = ws') (hn : narrow (.array .int) v = v) (hfit : fits (.array .int) v = true) (hdg : decode b0 pc = .ok (.putfield 25, 3)) (kk : ∀ (H1 : Heap) (locs1 : List Loc), va_P G.1 vwCl ws' H1 → va_D A ws' → va_S A H0 H1 locs1 → W p l e R s m args below meth c H1 locs1 cells slots Q (F0 m (pc + 3) ls rest)) : W p l e R s m args below meth c H locs cells slots Q (F0 m pc ls (v :: .ref a :: rest)) := by
  obtain ⟨hx, hb, hr, hml, hB, hown, hlocks, hnm⟩ := hC
  rw [hy0] at hown
  subst hws
  exact va_putF (ci := 7) (ty := (.array .int)) (C := RX7) (T := TX7) (N := 9) hx hb hB in_X7 tyX7 tyX7_ok nmX7 hown hK.1 hP hD hS q0 he rfl 4 (by decide) (hB _ m_179) (fun _ h => h) rfl (hnm.trans hin) rfl (by decide +kernel) hn hfit hl hdg kk
theorem dX7_init_39 : decode cX7_init 39 = .ok (.aload_n 0, 1) := by decide +kernel
theorem dX7_init_40 : decode cX7_init 40 = .ok (.bipush 12, 2) := by decide +kernel
theorem dX7_init_42 : decode cX7_init 42 = .ok (.newarray .int, 2) := by decide +kernel
theorem dX7_init_44 : decode cX7_init 44 = .ok (.putfield 28, 3) := by decide +kernel
theorem pf_X7_28 (hC : CX p s m meth c y0 b0 mL0 rt0 args) (hy0 : y0.cls = RX7) (hin : y0.name = "<init>") (hK : KK G s) (hP : va_P G.1 vwCl ws H) (hD : va_D A ws) (hS : va_S A H0 H locs) (q0 : Nat) {fs : List Value} {v : Value} {ws' : va_W} (he : ws[q0]? = some (a, .inr (7, fs))) (hl : 5 < fs.length) (hws : ws.set q0 (a, .inr (7, fs.set 5 v)) = ws') (hn : narrow (.array .int) v = v) (hfit : fits (.array .int) v = true) (hdg : decode b0 pc = .ok (.putfield 28, 3)) (kk : ∀ (H1 : Heap) (locs1 : List Loc), va_P G.1 vwCl ws' H1 → va_D A ws' → va_S A H0 H1 locs1 → W p l e R s m args below meth c H1 locs1 cells slots Q (F0 m (pc + 3) ls rest)) : W p l e R s m args below meth c H locs cells slots Q (F0 m pc ls (v :: .ref a :: rest)) := by
  obtain ⟨hx, hb, hr, hml, hB, hown, hlocks, hnm⟩ := hC
  rw [hy0] at hown
  subst hws
  exact va_putF (ci := 7) (ty := (.array .int)) (C := RX7) (T := TX7) (N := 9) hx hb hB in_X7 tyX7 tyX7_ok nmX7 hown hK.1 hP hD hS q0 he rfl 5 (by decide) (hB _ m_180) (fun _ h => h) rfl (hnm.trans hin) rfl (by decide +kernel) hn hfit hl hdg kk
theorem dX7_init_47 : decode cX7_init 47 = .ok (.aload_n 0, 1) := by decide +kernel
theorem dX7_init_48 : decode cX7_init 48 = .ok (.bipush 12, 2) := by decide +kernel
theorem dX7_init_50 : decode cX7_init 50 = .ok (.newarray .int, 2) := by decide +kernel
theorem dX7_init_52 : decode cX7_init 52 = .ok (.putfield 31, 3) := by decide +kernel
theorem pf_X7_31 (hC : CX p s m meth c y0 b0 mL0 rt0 args) (hy0 : y0.cls = RX7) (hin : y0.name = "<init>") (hK : KK G s) (hP : va_P G.1 vwCl ws H) (hD : va_D A ws) (hS : va_S A H0 H locs) (q0 : Nat) {fs : List Value} {v : Value} {ws' : va_W} (he : ws[q0]? = some (a, .inr (7, fs))) (hl : 6 < fs.length) (hws : ws.set q0 (a, .inr (7, fs.set 6 v)) = ws') (hn : narrow (.array .int) v = v) (hfit : fits (.array .int) v = true) (hdg : decode b0 pc = .ok (.putfield 31, 3)) (kk : ∀ (H1 : Heap) (locs1 : List Loc), va_P G.1 vwCl ws' H1 → va_D A ws' → va_S A H0 H1 locs1 → W p l e R s m args below meth c H1 locs1 cells slots Q (F0 m (pc + 3) ls rest)) : W p l e R s m args below meth c H locs cells slots Q (F0 m pc ls (v :: .ref a :: rest)) := by
  obtain ⟨hx, hb, hr, hml, hB, hown, hlocks, hnm⟩ := hC
  rw [hy0] at hown
  subst hws
  exact va_putF (ci := 7) (ty := (.array .int)) (C := RX7) (T := TX7) (N := 9) hx hb hB in_X7 tyX7 tyX7_ok nmX7 hown hK.1 hP hD hS q0 he rfl 6 (by decide) (hB _ m_181) (fun _ h => h) rfl (hnm.trans hin) rfl (by decide +kernel) hn hfit hl hdg kk
theorem dX7_init_55 : decode cX7_init 55 = .ok (.aload_n 0, 1) := by decide +kernel
theorem dX7_init_56 : decode cX7_init 56 = .ok (.bipush 12, 2) := by decide +kernel
theorem dX7_init_58 : decode cX7_init 58 = .ok (.newarray .int, 2) := by decide +kernel
theorem dX7_init_60 : decode cX7_init 60 = .ok (.putfield 34, 3) := by decide +kernel
theorem pf_X7_34 (hC : CX p s m meth c y0 b0 mL0 rt0 args) (hy0 : y0.cls = RX7) (hin : y0.name = "<init>") (hK : KK G s) (hP : va_P G.1 vwCl ws H) (hD : va_D A ws) (hS : va_S A H0 H locs) (q0 : Nat) {fs : List Value} {v : Value} {ws' : va_W} (he : ws[q0]? = some (a, .inr (7, fs))) (hl : 7 < fs.length) (hws : ws.set q0 (a, .inr (7, fs.set 7 v)) = ws') (hn : narrow (.array .int) v = v) (hfit : fits (.array .int) v = true) (hdg : decode b0 pc = .ok (.putfield 34, 3)) (kk : ∀ (H1 : Heap) (locs1 : List Loc), va_P G.1 vwCl ws' H1 → va_D A ws' → va_S A H0 H1 locs1 → W p l e R s m args below meth c H1 locs1 cells slots Q (F0 m (pc + 3) ls rest)) : W p l e R s m args below meth c H locs cells slots Q (F0 m pc ls (v :: .ref a :: rest)) := by
  obtain ⟨hx, hb, hr, hml, hB, hown, hlocks, hnm⟩ := hC
  rw [hy0] at hown
  subst hws
  exact va_putF (ci := 7) (ty := (.array .int)) (C := RX7) (T := TX7) (N := 9) hx hb hB in_X7 tyX7 tyX7_ok nmX7 hown hK.1 hP hD hS q0 he rfl 7 (by decide) (hB _ m_182) (fun _ h => h) rfl (hnm.trans hin) rfl (by decide +kernel) hn hfit hl hdg kk
theorem dX7_init_63 : decode cX7_init 63 = .ok (.aload_n 0, 1) := by decide +kernel
theorem dX7_init_64 : decode cX7_init 64 = .ok (.aload_n 1, 1) := by decide +kernel
theorem dX7_init_65 : decode cX7_init 65 = .ok (.putfield 37, 3) := by decide +kernel
theorem pf_X7_37 (hC : CX p s m meth c y0 b0 mL0 rt0 args) (hy0 : y0.cls = RX7) (hin : y0.name = "<init>") (hK : KK G s) (hP : va_P G.1 vwCl ws H) (hD : va_D A ws) (hS : va_S A H0 H locs) (q0 : Nat) {fs : List Value} {v : Value} {ws' : va_W} (he : ws[q0]? = some (a, .inr (7, fs))) (hl : 0 < fs.length) (hws : ws.set q0 (a, .inr (7, fs.set 0 v)) = ws') (hn : narrow (.object "InquiryBench$Book") v = v) (hfit : fits (.object "InquiryBench$Book") v = true) (hdg : decode b0 pc = .ok (.putfield 37, 3)) (kk : ∀ (H1 : Heap) (locs1 : List Loc), va_P G.1 vwCl ws' H1 → va_D A ws' → va_S A H0 H1 locs1 → W p l e R s m args below meth c H1 locs1 cells slots Q (F0 m (pc + 3) ls rest)) : W p l e R s m args below meth c H locs cells slots Q (F0 m pc ls (v :: .ref a :: rest)) := by
  obtain ⟨hx, hb, hr, hml, hB, hown, hlocks, hnm⟩ := hC
  rw [hy0] at hown
  subst hws
  exact va_putF (ci := 7) (ty := (.object "InquiryBench$Book")) (C := RX7) (T := TX7) (N := 9) hx hb hB in_X7 tyX7 tyX7_ok nmX7 hown hK.1 hP hD hS q0 he rfl 0 (by decide) (hB _ m_175) (fun _ h => h) rfl (hnm.trans hin) rfl (by decide +kernel) hn hfit hl hdg kk
theorem dX7_init_68 : decode cX7_init 68 = .ok (.aload_n 0, 1) := by decide +kernel
theorem dX7_init_69 : decode cX7_init 69 = .ok (.iconst 0, 1) := by decide +kernel
theorem dX7_init_70 : decode cX7_init 70 = .ok (.putfield 41, 3) := by decide +kernel
theorem dX7_init_73 : decode cX7_init 73 = .ok (.return_, 1) := by decide +kernel
theorem dX3_init_0 : decode cX3_init 0 = .ok (.aload_n 0, 1) := by decide +kernel
theorem dX3_init_1 : decode cX3_init 1 = .ok (.invokespecial 3, 3) := by decide +kernel
theorem m_189 : Cond.methodLink RX3 3 objectInit ∈ BW := iB_BW10 _ (List.mem_of_getElem? (i := 7) rfl)
theorem dX3_init_4 : decode cX3_init 4 = .ok (.aload_n 0, 1) := by decide +kernel
theorem dX3_init_5 : decode cX3_init 5 = .ok (.bipush 13, 2) := by decide +kernel
theorem dX3_init_7 : decode cX3_init 7 = .ok (.anewarray 9, 3) := by decide +kernel
theorem m_190 : Cond.classLink RX3 9 RX1 ∈ BW := iB_BW10 _ (List.mem_of_getElem? (i := 8) rfl)
theorem dX3_init_10 : decode cX3_init 10 = .ok (.putfield 11, 3) := by decide +kernel
theorem pf_X3_11 (hC : CX p s m meth c y0 b0 mL0 rt0 args) (hy0 : y0.cls = RX3) (hin : y0.name = "<init>") (hK : KK G s) (hP : va_P G.1 vwCl ws H) (hD : va_D A ws) (hS : va_S A H0 H locs) (q0 : Nat) {fs : List Value} {v : Value} {ws' : va_W} (he : ws[q0]? = some (a, .inr (3, fs))) (hl : 1 < fs.length) (hws : ws.set q0 (a, .inr (3, fs.set 1 v)) = ws') (hn : narrow (.array (.object "InquiryBench$Clocks")) v = v) (hfit : fits (.array (.object "InquiryBench$Clocks")) v = true) (hdg : decode b0 pc = .ok (.putfield 11, 3)) (kk : ∀ (H1 : Heap) (locs1 : List Loc), va_P G.1 vwCl ws' H1 → va_D A ws' → va_S A H0 H1 locs1 → W p l e R s m args below meth c H1 locs1 cells slots Q (F0 m (pc + 3) ls rest)) : W p l e R s m args below meth c H locs cells slots Q (F0 m pc ls (v :: .ref a :: rest)) := by
  obtain ⟨hx, hb, hr, hml, hB, hown, hlocks, hnm⟩ := hC
  rw [hy0] at hown
  subst hws
  exact va_putF (ci := 3) (ty := (.array (.object "InquiryBench$Clocks"))) (C := RX3) (T := TX3) (N := 5) hx hb hB in_X3 tyX3 tyX3_ok nmX3 hown hK.1 hP hD hS q0 he rfl 1 (by decide) (hB _ m_192) (fun _ h => h) rfl (hnm.trans hin) rfl (by decide +kernel) hn hfit hl hdg kk
theorem dX3_init_13 : decode cX3_init 13 = .ok (.aload_n 0, 1) := by decide +kernel
theorem dX3_init_14 : decode cX3_init 14 = .ok (.aload_n 1, 1) := by decide +kernel
theorem dX3_init_15 : decode cX3_init 15 = .ok (.putfield 17, 3) := by decide +kernel
theorem pf_X3_17 (hC : CX p s m meth c y0 b0 mL0 rt0 args) (hy0 : y0.cls = RX3) (hin : y0.name = "<init>") (hK : KK G s) (hP : va_P G.1 vwCl ws H) (hD : va_D A ws) (hS : va_S A H0 H locs) (q0 : Nat) {fs : List Value} {v : Value} {ws' : va_W} (he : ws[q0]? = some (a, .inr (3, fs))) (hl : 0 < fs.length) (hws : ws.set q0 (a, .inr (3, fs.set 0 v)) = ws') (hn : narrow (.object "InquiryBench$Book") v = v) (hfit : fits (.object "InquiryBench$Book") v = true) (hdg : decode b0 pc = .ok (.putfield 17, 3)) (kk : ∀ (H1 : Heap) (locs1 : List Loc), va_P G.1 vwCl ws' H1 → va_D A ws' → va_S A H0 H1 locs1 → W p l e R s m args below meth c H1 locs1 cells slots Q (F0 m (pc + 3) ls rest)) : W p l e R s m args below meth c H locs cells slots Q (F0 m pc ls (v :: .ref a :: rest)) := by
  obtain ⟨hx, hb, hr, hml, hB, hown, hlocks, hnm⟩ := hC
  rw [hy0] at hown
  subst hws
  exact va_putF (ci := 3) (ty := (.object "InquiryBench$Book")) (C := RX3) (T := TX3) (N := 5) hx hb hB in_X3 tyX3 tyX3_ok nmX3 hown hK.1 hP hD hS q0 he rfl 0 (by decide) (hB _ m_191) (fun _ h => h) rfl (hnm.trans hin) rfl (by decide +kernel) hn hfit hl hdg kk
theorem dX3_init_18 : decode cX3_init 18 = .ok (.iconst 0, 1) := by decide +kernel
theorem dX3_init_19 : decode cX3_init 19 = .ok (.istore_n 2, 1) := by decide +kernel
theorem dX3_init_20 : decode cX3_init 20 = .ok (.iload_n 2, 1) := by decide +kernel
theorem dX3_init_21 : decode cX3_init 21 = .ok (.aload_n 0, 1) := by decide +kernel
theorem dX3_init_22 : decode cX3_init 22 = .ok (.getfield 11, 3) := by decide +kernel
theorem dX3_init_25 : decode cX3_init 25 = .ok (.arraylength, 1) := by decide +kernel
theorem dX3_init_26 : decode cX3_init 26 = .ok (.if_icmp .ge 22, 3) := by decide +kernel
theorem dX3_init_29 : decode cX3_init 29 = .ok (.aload_n 0, 1) := by decide +kernel
theorem dX3_init_30 : decode cX3_init 30 = .ok (.getfield 11, 3) := by decide +kernel
theorem dX3_init_33 : decode cX3_init 33 = .ok (.iload_n 2, 1) := by decide +kernel
theorem dX3_init_34 : decode cX3_init 34 = .ok (.new 9, 3) := by decide +kernel
theorem nw_X3_9 (hC : CX p s m meth c y0 b0 mL0 rt0 args) (hy0 : y0.cls = RX3) (hK : KK G s) (hP : va_P G.1 vwCl ws H) (hD : va_D A ws) (hS : va_S A H0 H locs) (hA : ∀ q : Nat, H0.size ≤ q → A q) (hcells : cells + 1 ≤ R.cells) (hslots : slots + 1 ≤ R.slots) (hdg : decode b0 pc = .ok (.new 9, 3)) (kk : ∀ (q : Nat) (H1 : Heap), va_P G.1 vwCl (ws ++ [(q, .inr (1, [.null]))]) H1 → va_D A (ws ++ [(q, .inr (1, [.null]))]) → va_S A H0 H1 locs → W p l e R s m args below meth c H1 locs (cells + 1) (slots + 1) Q (F0 m (pc + 3) ls (.ref q :: rest))) : W p l e R s m args below meth c H locs cells slots Q (F0 m pc ls rest) := by
  obtain ⟨hx, hb, hr, hml, hB, hown, hlocks, hnm⟩ := hC
  rw [hy0] at hown
  exact va_new (ci := 1) (C := RX1) (T := TX1) (N := 1) hx hb hB in_X1 tyX1 tyX1_ok hown (hB _ m_190) (hB _ m_170) (hB _ m_107) hK.1 hP hD hS hA rfl (fun j hj => by rcases (show j = 0 by omega) with rfl <;> rfl) hcells hslots hdg kk
theorem dX3_init_37 : decode cX3_init 37 = .ok (.dup, 1) := by decide +kernel
theorem dX3_init_38 : decode cX3_init 38 = .ok (.invokespecial 21, 3) := by decide +kernel
theorem nm_39 : Cond.methodLinkNest RX3 21 yX1_init RX11 ∈ NestW := List.mem_of_getElem? (i := 39) rfl
theorem si_X3_21 : SIN RX3 RX11 21 yX1_init cX1_init 1 0 := ⟨⟨nm_39, m_171, m_107, m_172⟩, rfl, ⟨nK_RX1.1, nK_RX1.2, pd_9⟩⟩
theorem dX3_init_41 : decode cX3_init 41 = .ok (.aastore, 1) := by decide +kernel
theorem dX3_init_42 : decode cX3_init 42 = .ok (.iinc 2 1, 3) := by decide +kernel
theorem dX3_init_45 : decode cX3_init 45 = .ok (.goto (-25), 3) := by decide +kernel
theorem dX3_init_48 : decode cX3_init 48 = .ok (.aload_n 0, 1) := by decide +kernel
theorem dX3_init_49 : decode cX3_init 49 = .ok (.iconst 0, 1) := by decide +kernel
theorem dX3_init_50 : decode cX3_init 50 = .ok (.putfield 22, 3) := by decide +kernel
theorem dX3_init_53 : decode cX3_init 53 = .ok (.aload_n 0, 1) := by decide +kernel
theorem dX3_init_54 : decode cX3_init 54 = .ok (.iconst 0, 1) := by decide +kernel
theorem dX3_init_55 : decode cX3_init 55 = .ok (.putfield 26, 3) := by decide +kernel
theorem dX3_init_58 : decode cX3_init 58 = .ok (.aload_n 0, 1) := by decide +kernel
theorem dX3_init_59 : decode cX3_init 59 = .ok (.iconst 0, 1) := by decide +kernel
theorem dX3_init_60 : decode cX3_init 60 = .ok (.putfield 29, 3) := by decide +kernel
theorem dX3_init_63 : decode cX3_init 63 = .ok (.return_, 1) := by decide +kernel
theorem dX6_init_0 : decode cX6_init 0 = .ok (.aload_n 0, 1) := by decide +kernel
theorem dX6_init_1 : decode cX6_init 1 = .ok (.invokespecial 3, 3) := by decide +kernel
theorem m_201 : Cond.methodLink RX6 3 objectInit ∈ BW := iB_BW10 _ (List.mem_of_getElem? (i := 19) rfl)
theorem dX6_init_4 : decode cX6_init 4 = .ok (.aload_n 0, 1) := by decide +kernel
theorem dX6_init_5 : decode cX6_init 5 = .ok (.iconst 5, 1) := by decide +kernel
theorem dX6_init_6 : decode cX6_init 6 = .ok (.newarray .int, 2) := by decide +kernel
theorem dX6_init_8 : decode cX6_init 8 = .ok (.putfield 9, 3) := by decide +kernel
theorem pf_X6_9 (hC : CX p s m meth c y0 b0 mL0 rt0 args) (hy0 : y0.cls = RX6) (hin : y0.name = "<init>") (hK : KK G s) (hP : va_P G.1 vwCl ws H) (hD : va_D A ws) (hS : va_S A H0 H locs) (q0 : Nat) {fs : List Value} {v : Value} {ws' : va_W} (he : ws[q0]? = some (a, .inr (6, fs))) (hl : 2 < fs.length) (hws : ws.set q0 (a, .inr (6, fs.set 2 v)) = ws') (hn : narrow (.array .int) v = v) (hfit : fits (.array .int) v = true) (hdg : decode b0 pc = .ok (.putfield 9, 3)) (kk : ∀ (H1 : Heap) (locs1 : List Loc), va_P G.1 vwCl ws' H1 → va_D A ws' → va_S A H0 H1 locs1 → W p l e R s m args below meth c H1 locs1 cells slots Q (F0 m (pc + 3) ls rest)) : W p l e R s m args below meth c H locs cells slots Q (F0 m pc ls (v :: .ref a :: rest)) := by
  obtain ⟨hx, hb, hr, hml, hB, hown, hlocks, hnm⟩ := hC
  rw [hy0] at hown
  subst hws
  exact va_putF (ci := 6) (ty := (.array .int)) (C := RX6) (T := TX6) (N := 7) hx hb hB in_X6 tyX6 tyX6_ok nmX6 hown hK.1 hP hD hS q0 he rfl 2 (by decide) (hB _ m_204) (fun _ h => h) rfl (hnm.trans hin) rfl (by decide +kernel) hn hfit hl hdg kk
theorem dX6_init_11 : decode cX6_init 11 = .ok (.aload_n 0, 1) := by decide +kernel
theorem dX6_init_12 : decode cX6_init 12 = .ok (.bipush 8, 2) := by decide +kernel
theorem dX6_init_14 : decode cX6_init 14 = .ok (.newarray .int, 2) := by decide +kernel
theorem dX6_init_16 : decode cX6_init 16 = .ok (.putfield 15, 3) := by decide +kernel
theorem pf_X6_15 (hC : CX p s m meth c y0 b0 mL0 rt0 args) (hy0 : y0.cls = RX6) (hin : y0.name = "<init>") (hK : KK G s) (hP : va_P G.1 vwCl ws H) (hD : va_D A ws) (hS : va_S A H0 H locs) (q0 : Nat) {fs : List Value} {v : Value} {ws' : va_W} (he : ws[q0]? = some (a, .inr (6, fs))) (hl : 3 < fs.length) (hws : ws.set q0 (a, .inr (6, fs.set 3 v)) = ws') (hn : narrow (.array .int) v = v) (hfit : fits (.array .int) v = true) (hdg : decode b0 pc = .ok (.putfield 15, 3)) (kk : ∀ (H1 : Heap) (locs1 : List Loc), va_P G.1 vwCl ws' H1 → va_D A ws' → va_S A H0 H1 locs1 → W p l e R s m args below meth c H1 locs1 cells slots Q (F0 m (pc + 3) ls rest)) : W p l e R s m args below meth c H locs cells slots Q (F0 m pc ls (v :: .ref a :: rest)) := by
  obtain ⟨hx, hb, hr, hml, hB, hown, hlocks, hnm⟩ := hC
  rw [hy0] at hown
  subst hws
  exact va_putF (ci := 6) (ty := (.array .int)) (C := RX6) (T := TX6) (N := 7) hx hb hB in_X6 tyX6 tyX6_ok nmX6 hown hK.1 hP hD hS q0 he rfl 3 (by decide) (hB _ m_205) (fun _ h => h) rfl (hnm.trans hin) rfl (by decide +kernel) hn hfit hl hdg kk
theorem dX6_init_19 : decode cX6_init 19 = .ok (.aload_n 0, 1) := by decide +kernel
theorem dX6_init_20 : decode cX6_init 20 = .ok (.aload_n 1, 1) := by decide +kernel
theorem dX6_init_21 : decode cX6_init 21 = .ok (.putfield 18, 3) := by decide +kernel
theorem pf_X6_18 (hC : CX p s m meth c y0 b0 mL0 rt0 args) (hy0 : y0.cls = RX6) (hin : y0.name = "<init>") (hK : KK G s) (hP : va_P G.1 vwCl ws H) (hD : va_D A ws) (hS : va_S A H0 H locs) (q0 : Nat) {fs : List Value} {v : Value} {ws' : va_W} (he : ws[q0]? = some (a, .inr (6, fs))) (hl : 0 < fs.length) (hws : ws.set q0 (a, .inr (6, fs.set 0 v)) = ws') (hn : narrow (.object "InquiryBench$Book") v = v) (hfit : fits (.object "InquiryBench$Book") v = true) (hdg : decode b0 pc = .ok (.putfield 18, 3)) (kk : ∀ (H1 : Heap) (locs1 : List Loc), va_P G.1 vwCl ws' H1 → va_D A ws' → va_S A H0 H1 locs1 → W p l e R s m args below meth c H1 locs1 cells slots Q (F0 m (pc + 3) ls rest)) : W p l e R s m args below meth c H locs cells slots Q (F0 m pc ls (v :: .ref a :: rest)) := by
  obtain ⟨hx, hb, hr, hml, hB, hown, hlocks, hnm⟩ := hC
  rw [hy0] at hown
  subst hws
  exact va_putF (ci := 6) (ty := (.object "InquiryBench$Book")) (C := RX6) (T := TX6) (N := 7) hx hb hB in_X6 tyX6 tyX6_ok nmX6 hown hK.1 hP hD hS q0 he rfl 0 (by decide) (hB _ m_202) (fun _ h => h) rfl (hnm.trans hin) rfl (by decide +kernel) hn hfit hl hdg kk
theorem dX6_init_24 : decode cX6_init 24 = .ok (.aload_n 0, 1) := by decide +kernel
theorem dX6_init_25 : decode cX6_init 25 = .ok (.aload_n 2, 1) := by decide +kernel
theorem dX6_init_26 : decode cX6_init 26 = .ok (.putfield 22, 3) := by decide +kernel
theorem pf_X6_22 (hC : CX p s m meth c y0 b0 mL0 rt0 args) (hy0 : y0.cls = RX6) (hin : y0.name = "<init>") (hK : KK G s) (hP : va_P G.1 vwCl ws H) (hD : va_D A ws) (hS : va_S A H0 H locs) (q0 : Nat) {fs : List Value} {v : Value} {ws' : va_W} (he : ws[q0]? = some (a, .inr (6, fs))) (hl : 1 < fs.length) (hws : ws.set q0 (a, .inr (6, fs.set 1 v)) = ws') (hn : narrow (.object "InquiryBench$Sight") v = v) (hfit : fits (.object "InquiryBench$Sight") v = true) (hdg : decode b0 pc = .ok (.putfield 22, 3)) (kk : ∀ (H1 : Heap) (locs1 : List Loc), va_P G.1 vwCl ws' H1 → va_D A ws' → va_S A H0 H1 locs1 → W p l e R s m args below meth c H1 locs1 cells slots Q (F0 m (pc + 3) ls rest)) : W p l e R s m args below meth c H locs cells slots Q (F0 m pc ls (v :: .ref a :: rest)) := by
  obtain ⟨hx, hb, hr, hml, hB, hown, hlocks, hnm⟩ := hC
  rw [hy0] at hown
  subst hws
  exact va_putF (ci := 6) (ty := (.object "InquiryBench$Sight")) (C := RX6) (T := TX6) (N := 7) hx hb hB in_X6 tyX6 tyX6_ok nmX6 hown hK.1 hP hD hS q0 he rfl 1 (by decide) (hB _ m_203) (fun _ h => h) rfl (hnm.trans hin) rfl (by decide +kernel) hn hfit hl hdg kk
theorem dX6_init_29 : decode cX6_init 29 = .ok (.aload_n 0, 1) := by decide +kernel
theorem dX6_init_30 : decode cX6_init 30 = .ok (.iconst 0, 1) := by decide +kernel
theorem dX6_init_31 : decode cX6_init 31 = .ok (.putfield 26, 3) := by decide +kernel
theorem dX6_init_34 : decode cX6_init 34 = .ok (.aload_n 0, 1) := by decide +kernel
theorem dX6_init_35 : decode cX6_init 35 = .ok (.iconst 0, 1) := by decide +kernel
theorem dX6_init_36 : decode cX6_init 36 = .ok (.putfield 30, 3) := by decide +kernel
theorem dX6_init_39 : decode cX6_init 39 = .ok (.aload_n 0, 1) := by decide +kernel
theorem dX6_init_40 : decode cX6_init 40 = .ok (.iconst 0, 1) := by decide +kernel
theorem dX6_init_41 : decode cX6_init 41 = .ok (.putfield 33, 3) := by decide +kernel
theorem dX6_init_44 : decode cX6_init 44 = .ok (.return_, 1) := by decide +kernel
theorem dX9_init_0 : decode cX9_init 0 = .ok (.aload_n 0, 1) := by decide +kernel
theorem dX9_init_1 : decode cX9_init 1 = .ok (.invokespecial 3, 3) := by decide +kernel
theorem m_214 : Cond.methodLink RX9 3 objectInit ∈ BW := iB_BW12 _ (List.mem_of_getElem? (i := 0) rfl)
theorem dX9_init_4 : decode cX9_init 4 = .ok (.aload_n 0, 1) := by decide +kernel
theorem dX9_init_5 : decode cX9_init 5 = .ok (.aload_n 1, 1) := by decide +kernel
theorem dX9_init_6 : decode cX9_init 6 = .ok (.putfield 9, 3) := by decide +kernel
theorem pf_X9_9 (hC : CX p s m meth c y0 b0 mL0 rt0 args) (hy0 : y0.cls = RX9) (hin : y0.name = "<init>") (hK : KK G s) (hP : va_P G.1 vwCl ws H) (hD : va_D A ws) (hS : va_S A H0 H locs) (q0 : Nat) {fs : List Value} {v : Value} {ws' : va_W} (he : ws[q0]? = some (a, .inr (9, fs))) (hl : 0 < fs.length) (hws : ws.set q0 (a, .inr (9, fs.set 0 v)) = ws') (hn : narrow (.object "InquiryBench$Book") v = v) (hfit : fits (.object "InquiryBench$Book") v = true) (hdg : decode b0 pc = .ok (.putfield 9, 3)) (kk : ∀ (H1 : Heap) (locs1 : List Loc), va_P G.1 vwCl ws' H1 → va_D A ws' → va_S A H0 H1 locs1 → W p l e R s m args below meth c H1 locs1 cells slots Q (F0 m (pc + 3) ls rest)) : W p l e R s m args below meth c H locs cells slots Q (F0 m pc ls (v :: .ref a :: rest)) := by
  obtain ⟨hx, hb, hr, hml, hB, hown, hlocks, hnm⟩ := hC
  rw [hy0] at hown
  subst hws
  exact va_putF (ci := 9) (ty := (.object "InquiryBench$Book")) (C := RX9) (T := TX9) (N := 6) hx hb hB in_X9 tyX9 tyX9_ok nmX9 hown hK.1 hP hD hS q0 he rfl 0 (by decide) (hB _ m_215) (fun _ h => h) rfl (hnm.trans hin) rfl (by decide +kernel) hn hfit hl hdg kk
theorem dX9_init_9 : decode cX9_init 9 = .ok (.aload_n 0, 1) := by decide +kernel
theorem dX9_init_10 : decode cX9_init 10 = .ok (.aload_n 2, 1) := by decide +kernel
theorem dX9_init_11 : decode cX9_init 11 = .ok (.putfield 15, 3) := by decide +kernel
theorem pf_X9_15 (hC : CX p s m meth c y0 b0 mL0 rt0 args) (hy0 : y0.cls = RX9) (hin : y0.name = "<init>") (hK : KK G s) (hP : va_P G.1 vwCl ws H) (hD : va_D A ws) (hS : va_S A H0 H locs) (q0 : Nat) {fs : List Value} {v : Value} {ws' : va_W} (he : ws[q0]? = some (a, .inr (9, fs))) (hl : 1 < fs.length) (hws : ws.set q0 (a, .inr (9, fs.set 1 v)) = ws') (hn : narrow (.object "InquiryBench$Sight") v = v) (hfit : fits (.object "InquiryBench$Sight") v = true) (hdg : decode b0 pc = .ok (.putfield 15, 3)) (kk : ∀ (H1 : Heap) (locs1 : List Loc), va_P G.1 vwCl ws' H1 → va_D A ws' → va_S A H0 H1 locs1 → W p l e R s m args below meth c H1 locs1 cells slots Q (F0 m (pc + 3) ls rest)) : W p l e R s m args below meth c H locs cells slots Q (F0 m pc ls (v :: .ref a :: rest)) := by
  obtain ⟨hx, hb, hr, hml, hB, hown, hlocks, hnm⟩ := hC
  rw [hy0] at hown
  subst hws
  exact va_putF (ci := 9) (ty := (.object "InquiryBench$Sight")) (C := RX9) (T := TX9) (N := 6) hx hb hB in_X9 tyX9 tyX9_ok nmX9 hown hK.1 hP hD hS q0 he rfl 1 (by decide) (hB _ m_216) (fun _ h => h) rfl (hnm.trans hin) rfl (by decide +kernel) hn hfit hl hdg kk
theorem dX9_init_14 : decode cX9_init 14 = .ok (.aload_n 0, 1) := by decide +kernel
theorem dX9_init_15 : decode cX9_init 15 = .ok (.iconst 0, 1) := by decide +kernel
theorem dX9_init_16 : decode cX9_init 16 = .ok (.putfield 19, 3) := by decide +kernel
theorem dX9_init_19 : decode cX9_init 19 = .ok (.aload_n 0, 1) := by decide +kernel
theorem dX9_init_20 : decode cX9_init 20 = .ok (.iconst 0, 1) := by decide +kernel
theorem dX9_init_21 : decode cX9_init 21 = .ok (.putfield 23, 3) := by decide +kernel
theorem dX9_init_24 : decode cX9_init 24 = .ok (.aload_n 0, 1) := by decide +kernel
theorem dX9_init_25 : decode cX9_init 25 = .ok (.iconst 0, 1) := by decide +kernel
theorem dX9_init_26 : decode cX9_init 26 = .ok (.putfield 26, 3) := by decide +kernel
theorem dX9_init_29 : decode cX9_init 29 = .ok (.aload_n 0, 1) := by decide +kernel
theorem dX9_init_30 : decode cX9_init 30 = .ok (.iconst 0, 1) := by decide +kernel
theorem dX9_init_31 : decode cX9_init 31 = .ok (.putfield 29, 3) := by decide +kernel
theorem dX9_init_34 : decode cX9_init 34 = .ok (.return_, 1) := by decide +kernel
theorem dX10_init_0 : decode cX10_init 0 = .ok (.aload_n 0, 1) := by decide +kernel
theorem dX10_init_1 : decode cX10_init 1 = .ok (.invokespecial 3, 3) := by decide +kernel
theorem m_226 : Cond.methodLink RX10 3 objectInit ∈ BW := iB_BW12 _ (List.mem_of_getElem? (i := 12) rfl)
theorem dX10_init_4 : decode cX10_init 4 = .ok (.aload_n 0, 1) := by decide +kernel
theorem dX10_init_5 : decode cX10_init 5 = .ok (.sipush 240, 3) := by decide +kernel
theorem dX10_init_8 : decode cX10_init 8 = .ok (.newarray .int, 2) := by decide +kernel
theorem dX10_init_10 : decode cX10_init 10 = .ok (.putfield 9, 3) := by decide +kernel
theorem pf_X10_9 (hC : CX p s m meth c y0 b0 mL0 rt0 args) (hy0 : y0.cls = RX10) (hin : y0.name = "<init>") (hK : KK G s) (hP : va_P G.1 vwCl ws H) (hD : va_D A ws) (hS : va_S A H0 H locs) (q0 : Nat) {fs : List Value} {v : Value} {ws' : va_W} (he : ws[q0]? = some (a, .inr (10, fs))) (hl : 0 < fs.length) (hws : ws.set q0 (a, .inr (10, fs.set 0 v)) = ws') (hn : narrow (.array .int) v = v) (hfit : fits (.array .int) v = true) (hdg : decode b0 pc = .ok (.putfield 9, 3)) (kk : ∀ (H1 : Heap) (locs1 : List Loc), va_P G.1 vwCl ws' H1 → va_D A ws' → va_S A H0 H1 locs1 → W p l e R s m args below meth c H1 locs1 cells slots Q (F0 m (pc + 3) ls rest)) : W p l e R s m args below meth c H locs cells slots Q (F0 m pc ls (v :: .ref a :: rest)) := by
  obtain ⟨hx, hb, hr, hml, hB, hown, hlocks, hnm⟩ := hC
  rw [hy0] at hown
  subst hws
  exact va_putF (ci := 10) (ty := (.array .int)) (C := RX10) (T := TX10) (N := 8) hx hb hB in_X10 tyX10 tyX10_ok nmX10 hown hK.1 hP hD hS q0 he rfl 0 (by decide) (hB _ m_229) (fun _ h => h) rfl (hnm.trans hin) rfl (by decide +kernel) hn hfit hl hdg kk
theorem dX10_init_13 : decode cX10_init 13 = .ok (.aload_n 0, 1) := by decide +kernel
theorem dX10_init_14 : decode cX10_init 14 = .ok (.new 15, 3) := by decide +kernel
theorem m_227 : Cond.classLink RX10 15 RX8 ∈ BW := iB_BW12 _ (List.mem_of_getElem? (i := 13) rfl)
theorem nw_X10_15 (hC : CX p s m meth c y0 b0 mL0 rt0 args) (hy0 : y0.cls = RX10) (hK : KK G s) (hP : va_P G.1 vwCl ws H) (hD : va_D A ws) (hS : va_S A H0 H locs) (hA : ∀ q : Nat, H0.size ≤ q → A q) (hcells : cells + 1 ≤ R.cells) (hslots : slots + 4 ≤ R.slots) (hdg : decode b0 pc = .ok (.new 15, 3)) (kk : ∀ (q : Nat) (H1 : Heap), va_P G.1 vwCl (ws ++ [(q, .inr (8, [.int 0, .int 0, .null, .int 0]))]) H1 → va_D A (ws ++ [(q, .inr (8, [.int 0, .int 0, .null, .int 0]))]) → va_S A H0 H1 locs → W p l e R s m args below meth c H1 locs (cells + 1) (slots + 4) Q (F0 m (pc + 3) ls (.ref q :: rest))) : W p l e R s m args below meth c H locs cells slots Q (F0 m pc ls rest) := by
  obtain ⟨hx, hb, hr, hml, hB, hown, hlocks, hnm⟩ := hC
  rw [hy0] at hown
  exact va_new (ci := 8) (C := RX8) (T := TX8) (N := 4) hx hb hB in_X8 tyX8 tyX8_ok hown (hB _ m_227) (hB _ m_136) (hB _ m_104) hK.1 hP hD hS hA rfl (fun j hj => by rcases (show j = 0 ∨ j = 1 ∨ j = 2 ∨ j = 3 by omega) with rfl | rfl | rfl | rfl <;> rfl) hcells hslots hdg kk
theorem dX10_init_17 : decode cX10_init 17 = .ok (.dup, 1) := by decide +kernel
theorem dX10_init_18 : decode cX10_init 18 = .ok (.bipush 9, 2) := by decide +kernel
theorem dX10_init_20 : decode cX10_init 20 = .ok (.bipush 7, 2) := by decide +kernel
theorem dX10_init_22 : decode cX10_init 22 = .ok (.invokespecial 17, 3) := by decide +kernel
theorem m_228 : Cond.methodLink RX10 17 yX8_init ∈ BW := iB_BW12 _ (List.mem_of_getElem? (i := 14) rfl)
theorem si_X10_17 : SI RX10 17 yX8_init cX8_init 3 2 := ⟨⟨m_228, m_138, m_104, m_139⟩, rfl, ⟨nK_RX8.1, nK_RX8.2, pd_14⟩⟩
theorem dX10_init_25 : decode cX10_init 25 = .ok (.putfield 20, 3) := by decide +kernel
theorem pf_X10_20 (hC : CX p s m meth c y0 b0 mL0 rt0 args) (hy0 : y0.cls = RX10) (hin : y0.name = "<init>") (hK : KK G s) (hP : va_P G.1 vwCl ws H) (hD : va_D A ws) (hS : va_S A H0 H locs) (q0 : Nat) {fs : List Value} {v : Value} {ws' : va_W} (he : ws[q0]? = some (a, .inr (10, fs))) (hl : 2 < fs.length) (hws : ws.set q0 (a, .inr (10, fs.set 2 v)) = ws') (hn : narrow (.object "InquiryBench$Table") v = v) (hfit : fits (.object "InquiryBench$Table") v = true) (hdg : decode b0 pc = .ok (.putfield 20, 3)) (kk : ∀ (H1 : Heap) (locs1 : List Loc), va_P G.1 vwCl ws' H1 → va_D A ws' → va_S A H0 H1 locs1 → W p l e R s m args below meth c H1 locs1 cells slots Q (F0 m (pc + 3) ls rest)) : W p l e R s m args below meth c H locs cells slots Q (F0 m pc ls (v :: .ref a :: rest)) := by
  obtain ⟨hx, hb, hr, hml, hB, hown, hlocks, hnm⟩ := hC
  rw [hy0] at hown
  subst hws
  exact va_putF (ci := 10) (ty := (.object "InquiryBench$Table")) (C := RX10) (T := TX10) (N := 8) hx hb hB in_X10 tyX10 tyX10_ok nmX10 hown hK.1 hP hD hS q0 he rfl 2 (by decide) (hB _ m_231) (fun _ h => h) rfl (hnm.trans hin) rfl (by decide +kernel) hn hfit hl hdg kk
theorem dX10_init_28 : decode cX10_init 28 = .ok (.aload_n 0, 1) := by decide +kernel
theorem dX10_init_29 : decode cX10_init 29 = .ok (.new 15, 3) := by decide +kernel
theorem dX10_init_32 : decode cX10_init 32 = .ok (.dup, 1) := by decide +kernel
theorem dX10_init_33 : decode cX10_init 33 = .ok (.bipush 120, 2) := by decide +kernel
theorem dX10_init_35 : decode cX10_init 35 = .ok (.iconst 1, 1) := by decide +kernel
theorem dX10_init_36 : decode cX10_init 36 = .ok (.invokespecial 17, 3) := by decide +kernel
theorem dX10_init_39 : decode cX10_init 39 = .ok (.putfield 24, 3) := by decide +kernel
theorem pf_X10_24 (hC : CX p s m meth c y0 b0 mL0 rt0 args) (hy0 : y0.cls = RX10) (hin : y0.name = "<init>") (hK : KK G s) (hP : va_P G.1 vwCl ws H) (hD : va_D A ws) (hS : va_S A H0 H locs) (q0 : Nat) {fs : List Value} {v : Value} {ws' : va_W} (he : ws[q0]? = some (a, .inr (10, fs))) (hl : 3 < fs.length) (hws : ws.set q0 (a, .inr (10, fs.set 3 v)) = ws') (hn : narrow (.object "InquiryBench$Table") v = v) (hfit : fits (.object "InquiryBench$Table") v = true) (hdg : decode b0 pc = .ok (.putfield 24, 3)) (kk : ∀ (H1 : Heap) (locs1 : List Loc), va_P G.1 vwCl ws' H1 → va_D A ws' → va_S A H0 H1 locs1 → W p l e R s m args below meth c H1 locs1 cells slots Q (F0 m (pc + 3) ls rest)) : W p l e R s m args below meth c H locs cells slots Q (F0 m pc ls (v :: .ref a :: rest)) := by
  obtain ⟨hx, hb, hr, hml, hB, hown, hlocks, hnm⟩ := hC
  rw [hy0] at hown
  subst hws
  exact va_putF (ci := 10) (ty := (.object "InquiryBench$Table")) (C := RX10) (T := TX10) (N := 8) hx hb hB in_X10 tyX10 tyX10_ok nmX10 hown hK.1 hP hD hS q0 he rfl 3 (by decide) (hB _ m_232) (fun _ h => h) rfl (hnm.trans hin) rfl (by decide +kernel) hn hfit hl hdg kk
theorem dX10_init_42 : decode cX10_init 42 = .ok (.aload_n 0, 1) := by decide +kernel
theorem dX10_init_43 : decode cX10_init 43 = .ok (.iconst 0, 1) := by decide +kernel
theorem dX10_init_44 : decode cX10_init 44 = .ok (.putfield 27, 3) := by decide +kernel
theorem dX10_init_47 : decode cX10_init 47 = .ok (.aload_n 0, 1) := by decide +kernel
theorem dX10_init_48 : decode cX10_init 48 = .ok (.iconst (-1), 1) := by decide +kernel
theorem dX10_init_49 : decode cX10_init 49 = .ok (.putfield 31, 3) := by decide +kernel
theorem dX10_init_52 : decode cX10_init 52 = .ok (.aload_n 0, 1) := by decide +kernel
theorem dX10_init_53 : decode cX10_init 53 = .ok (.iconst 0, 1) := by decide +kernel
theorem dX10_init_54 : decode cX10_init 54 = .ok (.putfield 34, 3) := by decide +kernel
theorem dX10_init_57 : decode cX10_init 57 = .ok (.aload_n 0, 1) := by decide +kernel
theorem dX10_init_58 : decode cX10_init 58 = .ok (.iconst 0, 1) := by decide +kernel
theorem dX10_init_59 : decode cX10_init 59 = .ok (.putfield 37, 3) := by decide +kernel
theorem dX10_init_62 : decode cX10_init 62 = .ok (.aload_n 0, 1) := by decide +kernel
theorem dX10_init_63 : decode cX10_init 63 = .ok (.iconst (-1), 1) := by decide +kernel
theorem dX10_init_64 : decode cX10_init 64 = .ok (.putfield 40, 3) := by decide +kernel
theorem dX10_init_67 : decode cX10_init 67 = .ok (.return_, 1) := by decide +kernel
theorem dX5_init_0 : decode cX5_init 0 = .ok (.aload_n 0, 1) := by decide +kernel
theorem dX5_init_1 : decode cX5_init 1 = .ok (.invokespecial 3, 3) := by decide +kernel
theorem m_242 : Cond.methodLink RX5 3 objectInit ∈ BW := iB_BW13 _ (List.mem_of_getElem? (i := 8) rfl)
theorem dX5_init_4 : decode cX5_init 4 = .ok (.aload_n 0, 1) := by decide +kernel
theorem dX5_init_5 : decode cX5_init 5 = .ok (.new 9, 3) := by decide +kernel
theorem m_243 : Cond.classLink RX5 9 RX8 ∈ BW := iB_BW13 _ (List.mem_of_getElem? (i := 9) rfl)
theorem nw_X5_9 (hC : CX p s m meth c y0 b0 mL0 rt0 args) (hy0 : y0.cls = RX5) (hK : KK G s) (hP : va_P G.1 vwCl ws H) (hD : va_D A ws) (hS : va_S A H0 H locs) (hA : ∀ q : Nat, H0.size ≤ q → A q) (hcells : cells + 1 ≤ R.cells) (hslots : slots + 4 ≤ R.slots) (hdg : decode b0 pc = .ok (.new 9, 3)) (kk : ∀ (q : Nat) (H1 : Heap), va_P G.1 vwCl (ws ++ [(q, .inr (8, [.int 0, .int 0, .null, .int 0]))]) H1 → va_D A (ws ++ [(q, .inr (8, [.int 0, .int 0, .null, .int 0]))]) → va_S A H0 H1 locs → W p l e R s m args below meth c H1 locs (cells + 1) (slots + 4) Q (F0 m (pc + 3) ls (.ref q :: rest))) : W p l e R s m args below meth c H locs cells slots Q (F0 m pc ls rest) := by
  obtain ⟨hx, hb, hr, hml, hB, hown, hlocks, hnm⟩ := hC
  rw [hy0] at hown
  exact va_new (ci := 8) (C := RX8) (T := TX8) (N := 4) hx hb hB in_X8 tyX8 tyX8_ok hown (hB _ m_243) (hB _ m_136) (hB _ m_104) hK.1 hP hD hS hA rfl (fun j hj => by rcases (show j = 0 ∨ j = 1 ∨ j = 2 ∨ j = 3 by omega) with rfl | rfl | rfl | rfl <;> rfl) hcells hslots hdg kk
theorem dX5_init_8 : decode cX5_init 8 = .ok (.dup, 1) := by decide +kernel
theorem dX5_init_9 : decode cX5_init 9 = .ok (.bipush 7, 2) := by decide +kernel
theorem dX5_init_11 : decode cX5_init 11 = .ok (.iconst 2, 1) := by decide +kernel
theorem dX5_init_12 : decode cX5_init 12 = .ok (.invokespecial 11, 3) := by decide +kernel
theorem m_244 : Cond.methodLink RX5 11 yX8_init ∈ BW := iB_BW13 _ (List.mem_of_getElem? (i := 10) rfl)
theorem si_X5_11 : SI RX5 11 yX8_init cX8_init 3 2 := ⟨⟨m_244, m_138, m_104, m_139⟩, rfl, ⟨nK_RX8.1, nK_RX8.2, pd_14⟩⟩
theorem dX5_init_15 : decode cX5_init 15 = .ok (.putfield 14, 3) := by decide +kernel
theorem pf_X5_14 (hC : CX p s m meth c y0 b0 mL0 rt0 args) (hy0 : y0.cls = RX5) (hin : y0.name = "<init>") (hK : KK G s) (hP : va_P G.1 vwCl ws H) (hD : va_D A ws) (hS : va_S A H0 H locs) (q0 : Nat) {fs : List Value} {v : Value} {ws' : va_W} (he : ws[q0]? = some (a, .inr (5, fs))) (hl : 1 < fs.length) (hws : ws.set q0 (a, .inr (5, fs.set 1 v)) = ws') (hn : narrow (.object "InquiryBench$Table") v = v) (hfit : fits (.object "InquiryBench$Table") v = true) (hdg : decode b0 pc = .ok (.putfield 14, 3)) (kk : ∀ (H1 : Heap) (locs1 : List Loc), va_P G.1 vwCl ws' H1 → va_D A ws' → va_S A H0 H1 locs1 → W p l e R s m args below meth c H1 locs1 cells slots Q (F0 m (pc + 3) ls rest)) : W p l e R s m args below meth c H locs cells slots Q (F0 m pc ls (v :: .ref a :: rest)) := by
  obtain ⟨hx, hb, hr, hml, hB, hown, hlocks, hnm⟩ := hC
  rw [hy0] at hown
  subst hws
  exact va_putF (ci := 5) (ty := (.object "InquiryBench$Table")) (C := RX5) (T := TX5) (N := 6) hx hb hB in_X5 tyX5 tyX5_ok nmX5 hown hK.1 hP hD hS q0 he rfl 1 (by decide) (hB _ m_246) (fun _ h => h) rfl (hnm.trans hin) rfl (by decide +kernel) hn hfit hl hdg kk
theorem dX5_init_18 : decode cX5_init 18 = .ok (.aload_n 0, 1) := by decide +kernel
theorem dX5_init_19 : decode cX5_init 19 = .ok (.sipush 128, 3) := by decide +kernel
theorem dX5_init_22 : decode cX5_init 22 = .ok (.newarray .int, 2) := by decide +kernel
theorem dX5_init_24 : decode cX5_init 24 = .ok (.putfield 20, 3) := by decide +kernel
theorem pf_X5_20 (hC : CX p s m meth c y0 b0 mL0 rt0 args) (hy0 : y0.cls = RX5) (hin : y0.name = "<init>") (hK : KK G s) (hP : va_P G.1 vwCl ws H) (hD : va_D A ws) (hS : va_S A H0 H locs) (q0 : Nat) {fs : List Value} {v : Value} {ws' : va_W} (he : ws[q0]? = some (a, .inr (5, fs))) (hl : 2 < fs.length) (hws : ws.set q0 (a, .inr (5, fs.set 2 v)) = ws') (hn : narrow (.array .int) v = v) (hfit : fits (.array .int) v = true) (hdg : decode b0 pc = .ok (.putfield 20, 3)) (kk : ∀ (H1 : Heap) (locs1 : List Loc), va_P G.1 vwCl ws' H1 → va_D A ws' → va_S A H0 H1 locs1 → W p l e R s m args below meth c H1 locs1 cells slots Q (F0 m (pc + 3) ls rest)) : W p l e R s m args below meth c H locs cells slots Q (F0 m pc ls (v :: .ref a :: rest)) := by
  obtain ⟨hx, hb, hr, hml, hB, hown, hlocks, hnm⟩ := hC
  rw [hy0] at hown
  subst hws
  exact va_putF (ci := 5) (ty := (.array .int)) (C := RX5) (T := TX5) (N := 6) hx hb hB in_X5 tyX5 tyX5_ok nmX5 hown hK.1 hP hD hS q0 he rfl 2 (by decide) (hB _ m_247) (fun _ h => h) rfl (hnm.trans hin) rfl (by decide +kernel) hn hfit hl hdg kk
theorem dX5_init_27 : decode cX5_init 27 = .ok (.aload_n 0, 1) := by decide +kernel
theorem dX5_init_28 : decode cX5_init 28 = .ok (.aload_n 1, 1) := by decide +kernel
theorem dX5_init_29 : decode cX5_init 29 = .ok (.putfield 24, 3) := by decide +kernel
theorem pf_X5_24 (hC : CX p s m meth c y0 b0 mL0 rt0 args) (hy0 : y0.cls = RX5) (hin : y0.name = "<init>") (hK : KK G s) (hP : va_P G.1 vwCl ws H) (hD : va_D A ws) (hS : va_S A H0 H locs) (q0 : Nat) {fs : List Value} {v : Value} {ws' : va_W} (he : ws[q0]? = some (a, .inr (5, fs))) (hl : 0 < fs.length) (hws : ws.set q0 (a, .inr (5, fs.set 0 v)) = ws') (hn : narrow (.object "InquiryBench$Book") v = v) (hfit : fits (.object "InquiryBench$Book") v = true) (hdg : decode b0 pc = .ok (.putfield 24, 3)) (kk : ∀ (H1 : Heap) (locs1 : List Loc), va_P G.1 vwCl ws' H1 → va_D A ws' → va_S A H0 H1 locs1 → W p l e R s m args below meth c H1 locs1 cells slots Q (F0 m (pc + 3) ls rest)) : W p l e R s m args below meth c H locs cells slots Q (F0 m pc ls (v :: .ref a :: rest)) := by
  obtain ⟨hx, hb, hr, hml, hB, hown, hlocks, hnm⟩ := hC
  rw [hy0] at hown
  subst hws
  exact va_putF (ci := 5) (ty := (.object "InquiryBench$Book")) (C := RX5) (T := TX5) (N := 6) hx hb hB in_X5 tyX5 tyX5_ok nmX5 hown hK.1 hP hD hS q0 he rfl 0 (by decide) (hB _ m_245) (fun _ h => h) rfl (hnm.trans hin) rfl (by decide +kernel) hn hfit hl hdg kk
theorem dX5_init_32 : decode cX5_init 32 = .ok (.aload_n 0, 1) := by decide +kernel
theorem dX5_init_33 : decode cX5_init 33 = .ok (.iconst 0, 1) := by decide +kernel
theorem dX5_init_34 : decode cX5_init 34 = .ok (.putfield 28, 3) := by decide +kernel
theorem dX5_init_37 : decode cX5_init 37 = .ok (.aload_n 0, 1) := by decide +kernel
theorem dX5_init_38 : decode cX5_init 38 = .ok (.iconst 0, 1) := by decide +kernel
theorem dX5_init_39 : decode cX5_init 39 = .ok (.putfield 32, 3) := by decide +kernel
theorem dX5_init_42 : decode cX5_init 42 = .ok (.aload_n 0, 1) := by decide +kernel
theorem dX5_init_43 : decode cX5_init 43 = .ok (.iconst 0, 1) := by decide +kernel
theorem dX5_init_44 : decode cX5_init 44 = .ok (.putfield 35, 3) := by decide +kernel
theorem dX5_init_47 : decode cX5_init 47 = .ok (.return_, 1) := by decide +kernel
theorem dX4_init_0 : decode cX4_init 0 = .ok (.aload_n 0, 1) := by decide +kernel
theorem dX4_init_1 : decode cX4_init 1 = .ok (.invokespecial 3, 3) := by decide +kernel
theorem m_256 : Cond.methodLink RX4 3 objectInit ∈ BW := iB_BW14 _ (List.mem_of_getElem? (i := 2) rfl)
theorem dX4_init_4 : decode cX4_init 4 = .ok (.aload_n 0, 1) := by decide +kernel
theorem dX4_init_5 : decode cX4_init 5 = .ok (.iconst 4, 1) := by decide +kernel
theorem dX4_init_6 : decode cX4_init 6 = .ok (.newarray .int, 2) := by decide +kernel
theorem dX4_init_8 : decode cX4_init 8 = .ok (.putfield 11, 3) := by decide +kernel
theorem pf_X4_11 (hC : CX p s m meth c y0 b0 mL0 rt0 args) (hy0 : y0.cls = RX4) (hin : y0.name = "<init>") (hK : KK G s) (hP : va_P G.1 vwCl ws H) (hD : va_D A ws) (hS : va_S A H0 H locs) (q0 : Nat) {fs : List Value} {v : Value} {ws' : va_W} (he : ws[q0]? = some (a, .inr (4, fs))) (hl : 0 < fs.length) (hws : ws.set q0 (a, .inr (4, fs.set 0 v)) = ws') (hn : narrow (.array .int) v = v) (hfit : fits (.array .int) v = true) (hdg : decode b0 pc = .ok (.putfield 11, 3)) (kk : ∀ (H1 : Heap) (locs1 : List Loc), va_P G.1 vwCl ws' H1 → va_D A ws' → va_S A H0 H1 locs1 → W p l e R s m args below meth c H1 locs1 cells slots Q (F0 m (pc + 3) ls rest)) : W p l e R s m args below meth c H locs cells slots Q (F0 m pc ls (v :: .ref a :: rest)) := by
  obtain ⟨hx, hb, hr, hml, hB, hown, hlocks, hnm⟩ := hC
  rw [hy0] at hown
  subst hws
  exact va_putF (ci := 4) (ty := (.array .int)) (C := RX4) (T := TX4) (N := 6) hx hb hB in_X4 tyX4 tyX4_ok nmX4 hown hK.1 hP hD hS q0 he rfl 0 (by decide) (hB _ m_257) (fun _ h => h) rfl (hnm.trans hin) rfl (by decide +kernel) hn hfit hl hdg kk
theorem dX4_init_11 : decode cX4_init 11 = .ok (.aload_n 0, 1) := by decide +kernel
theorem dX4_init_12 : decode cX4_init 12 = .ok (.iconst 4, 1) := by decide +kernel
theorem dX4_init_13 : decode cX4_init 13 = .ok (.newarray .int, 2) := by decide +kernel
theorem dX4_init_15 : decode cX4_init 15 = .ok (.putfield 15, 3) := by decide +kernel
theorem pf_X4_15 (hC : CX p s m meth c y0 b0 mL0 rt0 args) (hy0 : y0.cls = RX4) (hin : y0.name = "<init>") (hK : KK G s) (hP : va_P G.1 vwCl ws H) (hD : va_D A ws) (hS : va_S A H0 H locs) (q0 : Nat) {fs : List Value} {v : Value} {ws' : va_W} (he : ws[q0]? = some (a, .inr (4, fs))) (hl : 1 < fs.length) (hws : ws.set q0 (a, .inr (4, fs.set 1 v)) = ws') (hn : narrow (.array .int) v = v) (hfit : fits (.array .int) v = true) (hdg : decode b0 pc = .ok (.putfield 15, 3)) (kk : ∀ (H1 : Heap) (locs1 : List Loc), va_P G.1 vwCl ws' H1 → va_D A ws' → va_S A H0 H1 locs1 → W p l e R s m args below meth c H1 locs1 cells slots Q (F0 m (pc + 3) ls rest)) : W p l e R s m args below meth c H locs cells slots Q (F0 m pc ls (v :: .ref a :: rest)) := by
  obtain ⟨hx, hb, hr, hml, hB, hown, hlocks, hnm⟩ := hC
  rw [hy0] at hown
  subst hws
  exact va_putF (ci := 4) (ty := (.array .int)) (C := RX4) (T := TX4) (N := 6) hx hb hB in_X4 tyX4 tyX4_ok nmX4 hown hK.1 hP hD hS q0 he rfl 1 (by decide) (hB _ m_258) (fun _ h => h) rfl (hnm.trans hin) rfl (by decide +kernel) hn hfit hl hdg kk
theorem dX4_init_18 : decode cX4_init 18 = .ok (.aload_n 0, 1) := by decide +kernel
theorem dX4_init_19 : decode cX4_init 19 = .ok (.sipush 160, 3) := by decide +kernel
theorem dX4_init_22 : decode cX4_init 22 = .ok (.newarray .int, 2) := by decide +kernel
theorem dX4_init_24 : decode cX4_init 24 = .ok (.putfield 18, 3) := by decide +kernel
theorem pf_X4_18 (hC : CX p s m meth c y0 b0 mL0 rt0 args) (hy0 : y0.cls = RX4) (hin : y0.name = "<init>") (hK : KK G s) (hP : va_P G.1 vwCl ws H) (hD : va_D A ws) (hS : va_S A H0 H locs) (q0 : Nat) {fs : List Value} {v : Value} {ws' : va_W} (he : ws[q0]? = some (a, .inr (4, fs))) (hl : 2 < fs.length) (hws : ws.set q0 (a, .inr (4, fs.set 2 v)) = ws') (hn : narrow (.array .int) v = v) (hfit : fits (.array .int) v = true) (hdg : decode b0 pc = .ok (.putfield 18, 3)) (kk : ∀ (H1 : Heap) (locs1 : List Loc), va_P G.1 vwCl ws' H1 → va_D A ws' → va_S A H0 H1 locs1 → W p l e R s m args below meth c H1 locs1 cells slots Q (F0 m (pc + 3) ls rest)) : W p l e R s m args below meth c H locs cells slots Q (F0 m pc ls (v :: .ref a :: rest)) := by
  obtain ⟨hx, hb, hr, hml, hB, hown, hlocks, hnm⟩ := hC
  rw [hy0] at hown
  subst hws
  exact va_putF (ci := 4) (ty := (.array .int)) (C := RX4) (T := TX4) (N := 6) hx hb hB in_X4 tyX4 tyX4_ok nmX4 hown hK.1 hP hD hS q0 he rfl 2 (by decide) (hB _ m_259) (fun _ h => h) rfl (hnm.trans hin) rfl (by decide +kernel) hn hfit hl hdg kk
theorem dX4_init_27 : decode cX4_init 27 = .ok (.aload_n 0, 1) := by decide +kernel
theorem dX4_init_28 : decode cX4_init 28 = .ok (.iconst 4, 1) := by decide +kernel
theorem dX4_init_29 : decode cX4_init 29 = .ok (.newarray .int, 2) := by decide +kernel
theorem dX4_init_31 : decode cX4_init 31 = .ok (.putfield 21, 3) := by decide +kernel
theorem pf_X4_21 (hC : CX p s m meth c y0 b0 mL0 rt0 args) (hy0 : y0.cls = RX4) (hin : y0.name = "<init>") (hK : KK G s) (hP : va_P G.1 vwCl ws H) (hD : va_D A ws) (hS : va_S A H0 H locs) (q0 : Nat) {fs : List Value} {v : Value} {ws' : va_W} (he : ws[q0]? = some (a, .inr (4, fs))) (hl : 3 < fs.length) (hws : ws.set q0 (a, .inr (4, fs.set 3 v)) = ws') (hn : narrow (.array .int) v = v) (hfit : fits (.array .int) v = true) (hdg : decode b0 pc = .ok (.putfield 21, 3)) (kk : ∀ (H1 : Heap) (locs1 : List Loc), va_P G.1 vwCl ws' H1 → va_D A ws' → va_S A H0 H1 locs1 → W p l e R s m args below meth c H1 locs1 cells slots Q (F0 m (pc + 3) ls rest)) : W p l e R s m args below meth c H locs cells slots Q (F0 m pc ls (v :: .ref a :: rest)) := by
  obtain ⟨hx, hb, hr, hml, hB, hown, hlocks, hnm⟩ := hC
  rw [hy0] at hown
  subst hws
  exact va_putF (ci := 4) (ty := (.array .int)) (C := RX4) (T := TX4) (N := 6) hx hb hB in_X4 tyX4 tyX4_ok nmX4 hown hK.1 hP hD hS q0 he rfl 3 (by decide) (hB _ m_260) (fun _ h => h) rfl (hnm.trans hin) rfl (by decide +kernel) hn hfit hl hdg kk
theorem dX4_init_34 : decode cX4_init 34 = .ok (.aload_n 0, 1) := by decide +kernel
theorem dX4_init_35 : decode cX4_init 35 = .ok (.iconst 4, 1) := by decide +kernel
theorem dX4_init_36 : decode cX4_init 36 = .ok (.newarray .int, 2) := by decide +kernel
theorem dX4_init_38 : decode cX4_init 38 = .ok (.putfield 24, 3) := by decide +kernel
theorem pf_X4_24 (hC : CX p s m meth c y0 b0 mL0 rt0 args) (hy0 : y0.cls = RX4) (hin : y0.name = "<init>") (hK : KK G s) (hP : va_P G.1 vwCl ws H) (hD : va_D A ws) (hS : va_S A H0 H locs) (q0 : Nat) {fs : List Value} {v : Value} {ws' : va_W} (he : ws[q0]? = some (a, .inr (4, fs))) (hl : 4 < fs.length) (hws : ws.set q0 (a, .inr (4, fs.set 4 v)) = ws') (hn : narrow (.array .int) v = v) (hfit : fits (.array .int) v = true) (hdg : decode b0 pc = .ok (.putfield 24, 3)) (kk : ∀ (H1 : Heap) (locs1 : List Loc), va_P G.1 vwCl ws' H1 → va_D A ws' → va_S A H0 H1 locs1 → W p l e R s m args below meth c H1 locs1 cells slots Q (F0 m (pc + 3) ls rest)) : W p l e R s m args below meth c H locs cells slots Q (F0 m pc ls (v :: .ref a :: rest)) := by
  obtain ⟨hx, hb, hr, hml, hB, hown, hlocks, hnm⟩ := hC
  rw [hy0] at hown
  subst hws
  exact va_putF (ci := 4) (ty := (.array .int)) (C := RX4) (T := TX4) (N := 6) hx hb hB in_X4 tyX4 tyX4_ok nmX4 hown hK.1 hP hD hS q0 he rfl 4 (by decide) (hB _ m_261) (fun _ h => h) rfl (hnm.trans hin) rfl (by decide +kernel) hn hfit hl hdg kk
theorem dX4_init_41 : decode cX4_init 41 = .ok (.aload_n 0, 1) := by decide +kernel
theorem dX4_init_42 : decode cX4_init 42 = .ok (.iconst 4, 1) := by decide +kernel
theorem dX4_init_43 : decode cX4_init 43 = .ok (.newarray .int, 2) := by decide +kernel
theorem dX4_init_45 : decode cX4_init 45 = .ok (.putfield 27, 3) := by decide +kernel
theorem pf_X4_27 (hC : CX p s m meth c y0 b0 mL0 rt0 args) (hy0 : y0.cls = RX4) (hin : y0.name = "<init>") (hK : KK G s) (hP : va_P G.1 vwCl ws H) (hD : va_D A ws) (hS : va_S A H0 H locs) (q0 : Nat) {fs : List Value} {v : Value} {ws' : va_W} (he : ws[q0]? = some (a, .inr (4, fs))) (hl : 5 < fs.length) (hws : ws.set q0 (a, .inr (4, fs.set 5 v)) = ws') (hn : narrow (.array .int) v = v) (hfit : fits (.array .int) v = true) (hdg : decode b0 pc = .ok (.putfield 27, 3)) (kk : ∀ (H1 : Heap) (locs1 : List Loc), va_P G.1 vwCl ws' H1 → va_D A ws' → va_S A H0 H1 locs1 → W p l e R s m args below meth c H1 locs1 cells slots Q (F0 m (pc + 3) ls rest)) : W p l e R s m args below meth c H locs cells slots Q (F0 m pc ls (v :: .ref a :: rest)) := by
  obtain ⟨hx, hb, hr, hml, hB, hown, hlocks, hnm⟩ := hC
  rw [hy0] at hown
  subst hws
  exact va_putF (ci := 4) (ty := (.array .int)) (C := RX4) (T := TX4) (N := 6) hx hb hB in_X4 tyX4 tyX4_ok nmX4 hown hK.1 hP hD hS q0 he rfl 5 (by decide) (hB _ m_262) (fun _ h => h) rfl (hnm.trans hin) rfl (by decide +kernel) hn hfit hl hdg kk
theorem dX4_init_48 : decode cX4_init 48 = .ok (.iconst 0, 1) := by decide +kernel
theorem dX4_init_49 : decode cX4_init 49 = .ok (.istore_n 1, 1) := by decide +kernel
theorem dX4_init_50 : decode cX4_init 50 = .ok (.iload_n 1, 1) := by decide +kernel
theorem dX4_init_51 : decode cX4_init 51 = .ok (.iconst 4, 1) := by decide +kernel
theorem dX4_init_52 : decode cX4_init 52 = .ok (.if_icmp .ge 16, 3) := by decide +kernel
theorem dX4_init_55 : decode cX4_init 55 = .ok (.aload_n 0, 1) := by decide +kernel
theorem dX4_init_56 : decode cX4_init 56 = .ok (.getfield 11, 3) := by decide +kernel
theorem dX4_init_59 : decode cX4_init 59 = .ok (.iload_n 1, 1) := by decide +kernel
theorem dX4_init_60 : decode cX4_init 60 = .ok (.iconst (-1), 1) := by decide +kernel
theorem dX4_init_61 : decode cX4_init 61 = .ok (.iastore, 1) := by decide +kernel
theorem dX4_init_62 : decode cX4_init 62 = .ok (.iinc 1 1, 3) := by decide +kernel
theorem dX4_init_65 : decode cX4_init 65 = .ok (.goto (-15), 3) := by decide +kernel
theorem dX4_init_68 : decode cX4_init 68 = .ok (.iconst 0, 1) := by decide +kernel
theorem dX4_init_69 : decode cX4_init 69 = .ok (.istore_n 1, 1) := by decide +kernel
theorem dX4_init_70 : decode cX4_init 70 = .ok (.iload_n 1, 1) := by decide +kernel
theorem dX4_init_71 : decode cX4_init 71 = .ok (.iconst 4, 1) := by decide +kernel
theorem dX4_init_72 : decode cX4_init 72 = .ok (.if_icmp .ge 16, 3) := by decide +kernel
theorem dX4_init_75 : decode cX4_init 75 = .ok (.aload_n 0, 1) := by decide +kernel
theorem dX4_init_76 : decode cX4_init 76 = .ok (.getfield 21, 3) := by decide +kernel
theorem dX4_init_79 : decode cX4_init 79 = .ok (.iload_n 1, 1) := by decide +kernel
theorem dX4_init_80 : decode cX4_init 80 = .ok (.iconst 4, 1) := by decide +kernel
theorem dX4_init_81 : decode cX4_init 81 = .ok (.iastore, 1) := by decide +kernel
theorem dX4_init_82 : decode cX4_init 82 = .ok (.iinc 1 1, 3) := by decide +kernel
theorem dX4_init_85 : decode cX4_init 85 = .ok (.goto (-15), 3) := by decide +kernel
theorem dX4_init_88 : decode cX4_init 88 = .ok (.return_, 1) := by decide +kernel
theorem dX2_init_0 : decode cX2_init 0 = .ok (.aload_n 0, 1) := by decide +kernel
theorem dX2_init_1 : decode cX2_init 1 = .ok (.invokespecial 3, 3) := by decide +kernel
theorem m_268 : Cond.methodLink RX2 3 objectInit ∈ BW := iB_BW14 _ (List.mem_of_getElem? (i := 14) rfl)
theorem dX2_init_4 : decode cX2_init 4 = .ok (.aload_n 0, 1) := by decide +kernel
theorem dX2_init_5 : decode cX2_init 5 = .ok (.bipush 30, 2) := by decide +kernel
theorem dX2_init_7 : decode cX2_init 7 = .ok (.newarray .int, 2) := by decide +kernel
theorem dX2_init_9 : decode cX2_init 9 = .ok (.putfield 11, 3) := by decide +kernel
theorem pf_X2_11 (hC : CX p s m meth c y0 b0 mL0 rt0 args) (hy0 : y0.cls = RX2) (hin : y0.name = "<init>") (hK : KK G s) (hP : va_P G.1 vwCl ws H) (hD : va_D A ws) (hS : va_S A H0 H locs) (q0 : Nat) {fs : List Value} {v : Value} {ws' : va_W} (he : ws[q0]? = some (a, .inr (2, fs))) (hl : 1 < fs.length) (hws : ws.set q0 (a, .inr (2, fs.set 1 v)) = ws') (hn : narrow (.array .int) v = v) (hfit : fits (.array .int) v = true) (hdg : decode b0 pc = .ok (.putfield 11, 3)) (kk : ∀ (H1 : Heap) (locs1 : List Loc), va_P G.1 vwCl ws' H1 → va_D A ws' → va_S A H0 H1 locs1 → W p l e R s m args below meth c H1 locs1 cells slots Q (F0 m (pc + 3) ls rest)) : W p l e R s m args below meth c H locs cells slots Q (F0 m pc ls (v :: .ref a :: rest)) := by
  obtain ⟨hx, hb, hr, hml, hB, hown, hlocks, hnm⟩ := hC
  rw [hy0] at hown
  subst hws
  exact va_putF (ci := 2) (ty := (.array .int)) (C := RX2) (T := TX2) (N := 8) hx hb hB in_X2 tyX2 tyX2_ok nmX2 hown hK.1 hP hD hS q0 he rfl 1 (by decide) (hB _ m_270) (fun _ h => h) rfl (hnm.trans hin) rfl (by decide +kernel) hn hfit hl hdg kk
theorem dX2_init_12 : decode cX2_init 12 = .ok (.aload_n 0, 1) := by decide +kernel
theorem dX2_init_13 : decode cX2_init 13 = .ok (.aload_n 1, 1) := by decide +kernel
theorem dX2_init_14 : decode cX2_init 14 = .ok (.putfield 15, 3) := by decide +kernel
theorem pf_X2_15 (hC : CX p s m meth c y0 b0 mL0 rt0 args) (hy0 : y0.cls = RX2) (hin : y0.name = "<init>") (hK : KK G s) (hP : va_P G.1 vwCl ws H) (hD : va_D A ws) (hS : va_S A H0 H locs) (q0 : Nat) {fs : List Value} {v : Value} {ws' : va_W} (he : ws[q0]? = some (a, .inr (2, fs))) (hl : 0 < fs.length) (hws : ws.set q0 (a, .inr (2, fs.set 0 v)) = ws') (hn : narrow (.object "InquiryBench$Book") v = v) (hfit : fits (.object "InquiryBench$Book") v = true) (hdg : decode b0 pc = .ok (.putfield 15, 3)) (kk : ∀ (H1 : Heap) (locs1 : List Loc), va_P G.1 vwCl ws' H1 → va_D A ws' → va_S A H0 H1 locs1 → W p l e R s m args below meth c H1 locs1 cells slots Q (F0 m (pc + 3) ls rest)) : W p l e R s m args below meth c H locs cells slots Q (F0 m pc ls (v :: .ref a :: rest)) := by
  obtain ⟨hx, hb, hr, hml, hB, hown, hlocks, hnm⟩ := hC
  rw [hy0] at hown
  subst hws
  exact va_putF (ci := 2) (ty := (.object "InquiryBench$Book")) (C := RX2) (T := TX2) (N := 8) hx hb hB in_X2 tyX2 tyX2_ok nmX2 hown hK.1 hP hD hS q0 he rfl 0 (by decide) (hB _ m_269) (fun _ h => h) rfl (hnm.trans hin) rfl (by decide +kernel) hn hfit hl hdg kk
theorem dX2_init_17 : decode cX2_init 17 = .ok (.aload_n 0, 1) := by decide +kernel
theorem dX2_init_18 : decode cX2_init 18 = .ok (.iconst 0, 1) := by decide +kernel
theorem dX2_init_19 : decode cX2_init 19 = .ok (.putfield 19, 3) := by decide +kernel
theorem dX2_init_22 : decode cX2_init 22 = .ok (.aload_n 0, 1) := by decide +kernel
theorem dX2_init_23 : decode cX2_init 23 = .ok (.iconst 0, 1) := by decide +kernel
theorem dX2_init_24 : decode cX2_init 24 = .ok (.putfield 23, 3) := by decide +kernel
theorem dX2_init_27 : decode cX2_init 27 = .ok (.aload_n 0, 1) := by decide +kernel
theorem dX2_init_28 : decode cX2_init 28 = .ok (.iconst 0, 1) := by decide +kernel
theorem dX2_init_29 : decode cX2_init 29 = .ok (.putfield 26, 3) := by decide +kernel
theorem dX2_init_32 : decode cX2_init 32 = .ok (.aload_n 0, 1) := by decide +kernel
theorem dX2_init_33 : decode cX2_init 33 = .ok (.iconst 0, 1) := by decide +kernel
theorem dX2_init_34 : decode cX2_init 34 = .ok (.putfield 29, 3) := by decide +kernel
theorem dX2_init_37 : decode cX2_init 37 = .ok (.aload_n 0, 1) := by decide +kernel
theorem dX2_init_38 : decode cX2_init 38 = .ok (.iconst 0, 1) := by decide +kernel
theorem dX2_init_39 : decode cX2_init 39 = .ok (.putfield 32, 3) := by decide +kernel
theorem dX2_init_42 : decode cX2_init 42 = .ok (.aload_n 0, 1) := by decide +kernel
theorem dX2_init_43 : decode cX2_init 43 = .ok (.iconst 0, 1) := by decide +kernel
theorem dX2_init_44 : decode cX2_init 44 = .ok (.putfield 35, 3) := by decide +kernel
theorem dX2_init_47 : decode cX2_init 47 = .ok (.return_, 1) := by decide +kernel
theorem dX11_init_0 : decode cX11_init 0 = .ok (.aload_n 0, 1) := by decide +kernel
theorem dX11_init_1 : decode cX11_init 1 = .ok (.invokespecial 1, 3) := by decide +kernel
theorem m_127 : Cond.methodLink RX11 1 objectInit ∈ BW := iB_BW7 _ (List.mem_of_getElem? (i := 5) rfl)
theorem dX11_init_4 : decode cX11_init 4 = .ok (.new 7, 3) := by decide +kernel
theorem m_130 : Cond.classLink RX11 7 RX0 ∈ BW := iB_BW7 _ (List.mem_of_getElem? (i := 8) rfl)
theorem m_131 : Cond.instantiable RX0 14 ∈ BW := iB_BW7 _ (List.mem_of_getElem? (i := 9) rfl)
theorem nw_X11_7 (hC : CX p s m meth c y0 b0 mL0 rt0 args) (hy0 : y0.cls = RX11) (hK : KK G s) (hP : va_P G.1 vwCl ws H) (hD : va_D A ws) (hS : va_S A H0 H locs) (hA : ∀ q : Nat, H0.size ≤ q → A q) (hcells : cells + 1 ≤ R.cells) (hslots : slots + 14 ≤ R.slots) (hdg : decode b0 pc = .ok (.new 7, 3)) (kk : ∀ (q : Nat) (H1 : Heap), va_P G.1 vwCl (ws ++ [(q, .inr (0, [.null, .null, .null, .null, .null, .null, .null, .null, .null, .null, .int 0, .int 0, .int 0, .int 0]))]) H1 → va_D A (ws ++ [(q, .inr (0, [.null, .null, .null, .null, .null, .null, .null, .null, .null, .null, .int 0, .int 0, .int 0, .int 0]))]) → va_S A H0 H1 locs → W p l e R s m args below meth c H1 locs (cells + 1) (slots + 14) Q (F0 m (pc + 3) ls (.ref q :: rest))) : W p l e R s m args below meth c H locs cells slots Q (F0 m pc ls rest) := by
  obtain ⟨hx, hb, hr, hml, hB, hown, hlocks, hnm⟩ := hC
  rw [hy0] at hown
  exact va_new (ci := 0) (C := RX0) (T := TX0) (N := 14) hx hb hB in_X0 tyX0 tyX0_ok hown (hB _ m_130) (hB _ m_131) (hB _ m_103) hK.1 hP hD hS hA rfl (fun j hj => by rcases (show j = 0 ∨ j = 1 ∨ j = 2 ∨ j = 3 ∨ j = 4 ∨ j = 5 ∨ j = 6 ∨ j = 7 ∨ j = 8 ∨ j = 9 ∨ j = 10 ∨ j = 11 ∨ j = 12 ∨ j = 13 by omega) with rfl | rfl | rfl | rfl | rfl | rfl | rfl | rfl | rfl | rfl | rfl | rfl | rfl | rfl <;> rfl) hcells hslots hdg kk
theorem dX11_init_7 : decode cX11_init 7 = .ok (.dup, 1) := by decide +kernel
theorem dX11_init_8 : decode cX11_init 8 = .ok (.invokespecial 9, 3) := by decide +kernel
theorem m_133 : Cond.code yX0_init cX0_init 1 none ∈ BW := iB_BW7 _ (List.mem_of_getElem? (i := 11) rfl)
theorem nm_0 : Cond.methodLinkNest RX11 9 yX0_init RX11 ∈ NestW := List.mem_of_getElem? (i := 0) rfl
theorem m_132 : Cond.instanceMethod yX0_init ∈ BW := iB_BW7 _ (List.mem_of_getElem? (i := 10) rfl)
theorem si_X11_9 : SIN RX11 RX11 9 yX0_init cX0_init 1 0 := ⟨⟨nm_0, m_132, m_103, m_133⟩, rfl, ⟨nK_RX0.1, nK_RX0.2, pd_9⟩⟩
theorem dX11_init_11 : decode cX11_init 11 = .ok (.astore_n 1, 1) := by decide +kernel
theorem dX11_init_12 : decode cX11_init 12 = .ok (.new 10, 3) := by decide +kernel
theorem m_163 : Cond.classLink RX11 10 RX7 ∈ BW := iB_BW9 _ (List.mem_of_getElem? (i := 1) rfl)
theorem m_164 : Cond.instantiable RX7 9 ∈ BW := iB_BW9 _ (List.mem_of_getElem? (i := 2) rfl)
theorem nw_X11_10 (hC : CX p s m meth c y0 b0 mL0 rt0 args) (hy0 : y0.cls = RX11) (hK : KK G s) (hP : va_P G.1 vwCl ws H) (hD : va_D A ws) (hS : va_S A H0 H locs) (hA : ∀ q : Nat, H0.size ≤ q → A q) (hcells : cells + 1 ≤ R.cells) (hslots : slots + 9 ≤ R.slots) (hdg : decode b0 pc = .ok (.new 10, 3)) (kk : ∀ (q : Nat) (H1 : Heap), va_P G.1 vwCl (ws ++ [(q, .inr (7, [.null, .null, .null, .null, .null, .null, .null, .null, .int 0]))]) H1 → va_D A (ws ++ [(q, .inr (7, [.null, .null, .null, .null, .null, .null, .null, .null, .int 0]))]) → va_S A H0 H1 locs → W p l e R s m args below meth c H1 locs (cells + 1) (slots + 9) Q (F0 m (pc + 3) ls (.ref q :: rest))) : W p l e R s m args below meth c H locs cells slots Q (F0 m pc ls rest) := by
  obtain ⟨hx, hb, hr, hml, hB, hown, hlocks, hnm⟩ := hC
  rw [hy0] at hown
  exact va_new (ci := 7) (C := RX7) (T := TX7) (N := 9) hx hb hB in_X7 tyX7 tyX7_ok hown (hB _ m_163) (hB _ m_164) (hB _ m_106) hK.1 hP hD hS hA rfl (fun j hj => by rcases (show j = 0 ∨ j = 1 ∨ j = 2 ∨ j = 3 ∨ j = 4 ∨ j = 5 ∨ j = 6 ∨ j = 7 ∨ j = 8 by omega) with rfl | rfl | rfl | rfl | rfl | rfl | rfl | rfl | rfl <;> rfl) hcells hslots hdg kk
theorem dX11_init_15 : decode cX11_init 15 = .ok (.dup, 1) := by decide +kernel
theorem dX11_init_16 : decode cX11_init 16 = .ok (.aload_n 1, 1) := by decide +kernel
theorem dX11_init_17 : decode cX11_init 17 = .ok (.invokespecial 12, 3) := by decide +kernel
theorem m_167 : Cond.code yX7_init cX7_init 2 none ∈ BW := iB_BW9 _ (List.mem_of_getElem? (i := 5) rfl)
theorem m_165 : Cond.methodLink RX11 12 yX7_init ∈ BW := iB_BW9 _ (List.mem_of_getElem? (i := 3) rfl)
theorem m_166 : Cond.instanceMethod yX7_init ∈ BW := iB_BW9 _ (List.mem_of_getElem? (i := 4) rfl)
theorem si_X11_12 : SI RX11 12 yX7_init cX7_init 2 1 := ⟨⟨m_165, m_166, m_106, m_167⟩, rfl, ⟨nK_RX7.1, nK_RX7.2, pd_21⟩⟩
theorem dX11_init_20 : decode cX11_init 20 = .ok (.astore_n 2, 1) := by decide +kernel
theorem dX11_init_21 : decode cX11_init 21 = .ok (.aload_n 0, 1) := by decide +kernel
theorem dX11_init_22 : decode cX11_init 22 = .ok (.aload_n 1, 1) := by decide +kernel
theorem dX11_init_23 : decode cX11_init 23 = .ok (.putfield 15, 3) := by decide +kernel
theorem pf_X11_15 (hC : CX p s m meth c y0 b0 mL0 rt0 args) (hy0 : y0.cls = RX11) (hin : y0.name = "<init>") (hK : KK G s) (hP : va_P G.1 vwCl ws H) (hD : va_D A ws) (hS : va_S A H0 H locs) (q0 : Nat) {fs : List Value} {v : Value} {ws' : va_W} (he : ws[q0]? = some (a, .inr (11, fs))) (hl : 0 < fs.length) (hws : ws.set q0 (a, .inr (11, fs.set 0 v)) = ws') (hn : narrow (.object "InquiryBench$Book") v = v) (hfit : fits (.object "InquiryBench$Book") v = true) (hdg : decode b0 pc = .ok (.putfield 15, 3)) (kk : ∀ (H1 : Heap) (locs1 : List Loc), va_P G.1 vwCl ws' H1 → va_D A ws' → va_S A H0 H1 locs1 → W p l e R s m args below meth c H1 locs1 cells slots Q (F0 m (pc + 3) ls rest)) : W p l e R s m args below meth c H locs cells slots Q (F0 m pc ls (v :: .ref a :: rest)) := by
  obtain ⟨hx, hb, hr, hml, hB, hown, hlocks, hnm⟩ := hC
  rw [hy0] at hown
  subst hws
  exact va_putF (ci := 11) (ty := (.object "InquiryBench$Book")) (C := RX11) (T := TX11) (N := 11) hx hb hB in_X11 tyX11 tyX11_ok nmX11 hown hK.1 hP hD hS q0 he rfl 0 (by decide) (hB _ m_277) (fun _ h => h) rfl (hnm.trans hin) rfl (by decide +kernel) hn hfit hl hdg kk
theorem dX11_init_26 : decode cX11_init 26 = .ok (.aload_n 0, 1) := by decide +kernel
theorem dX11_init_27 : decode cX11_init 27 = .ok (.new 7, 3) := by decide +kernel
theorem dX11_init_30 : decode cX11_init 30 = .ok (.dup, 1) := by decide +kernel
theorem dX11_init_31 : decode cX11_init 31 = .ok (.invokespecial 9, 3) := by decide +kernel
theorem dX11_init_34 : decode cX11_init 34 = .ok (.putfield 21, 3) := by decide +kernel
theorem pf_X11_21 (hC : CX p s m meth c y0 b0 mL0 rt0 args) (hy0 : y0.cls = RX11) (hin : y0.name = "<init>") (hK : KK G s) (hP : va_P G.1 vwCl ws H) (hD : va_D A ws) (hS : va_S A H0 H locs) (q0 : Nat) {fs : List Value} {v : Value} {ws' : va_W} (he : ws[q0]? = some (a, .inr (11, fs))) (hl : 1 < fs.length) (hws : ws.set q0 (a, .inr (11, fs.set 1 v)) = ws') (hn : narrow (.object "InquiryBench$Book") v = v) (hfit : fits (.object "InquiryBench$Book") v = true) (hdg : decode b0 pc = .ok (.putfield 21, 3)) (kk : ∀ (H1 : Heap) (locs1 : List Loc), va_P G.1 vwCl ws' H1 → va_D A ws' → va_S A H0 H1 locs1 → W p l e R s m args below meth c H1 locs1 cells slots Q (F0 m (pc + 3) ls rest)) : W p l e R s m args below meth c H locs cells slots Q (F0 m pc ls (v :: .ref a :: rest)) := by
  obtain ⟨hx, hb, hr, hml, hB, hown, hlocks, hnm⟩ := hC
  rw [hy0] at hown
  subst hws
  exact va_putF (ci := 11) (ty := (.object "InquiryBench$Book")) (C := RX11) (T := TX11) (N := 11) hx hb hB in_X11 tyX11 tyX11_ok nmX11 hown hK.1 hP hD hS q0 he rfl 1 (by decide) (hB _ m_278) (fun _ h => h) rfl (hnm.trans hin) rfl (by decide +kernel) hn hfit hl hdg kk
theorem dX11_init_37 : decode cX11_init 37 = .ok (.aload_n 0, 1) := by decide +kernel
theorem dX11_init_38 : decode cX11_init 38 = .ok (.iconst 0, 1) := by decide +kernel
theorem dX11_init_39 : decode cX11_init 39 = .ok (.putfield 24, 3) := by decide +kernel
theorem dX11_init_42 : decode cX11_init 42 = .ok (.aload_n 0, 1) := by decide +kernel
theorem dX11_init_43 : decode cX11_init 43 = .ok (.aload_n 2, 1) := by decide +kernel
theorem dX11_init_44 : decode cX11_init 44 = .ok (.putfield 28, 3) := by decide +kernel
theorem pf_X11_28 (hC : CX p s m meth c y0 b0 mL0 rt0 args) (hy0 : y0.cls = RX11) (hin : y0.name = "<init>") (hK : KK G s) (hP : va_P G.1 vwCl ws H) (hD : va_D A ws) (hS : va_S A H0 H locs) (q0 : Nat) {fs : List Value} {v : Value} {ws' : va_W} (he : ws[q0]? = some (a, .inr (11, fs))) (hl : 3 < fs.length) (hws : ws.set q0 (a, .inr (11, fs.set 3 v)) = ws') (hn : narrow (.object "InquiryBench$Sight") v = v) (hfit : fits (.object "InquiryBench$Sight") v = true) (hdg : decode b0 pc = .ok (.putfield 28, 3)) (kk : ∀ (H1 : Heap) (locs1 : List Loc), va_P G.1 vwCl ws' H1 → va_D A ws' → va_S A H0 H1 locs1 → W p l e R s m args below meth c H1 locs1 cells slots Q (F0 m (pc + 3) ls rest)) : W p l e R s m args below meth c H locs cells slots Q (F0 m pc ls (v :: .ref a :: rest)) := by
  obtain ⟨hx, hb, hr, hml, hB, hown, hlocks, hnm⟩ := hC
  rw [hy0] at hown
  subst hws
  exact va_putF (ci := 11) (ty := (.object "InquiryBench$Sight")) (C := RX11) (T := TX11) (N := 11) hx hb hB in_X11 tyX11 tyX11_ok nmX11 hown hK.1 hP hD hS q0 he rfl 3 (by decide) (hB _ m_280) (fun _ h => h) rfl (hnm.trans hin) rfl (by decide +kernel) hn hfit hl hdg kk
theorem dX11_init_47 : decode cX11_init 47 = .ok (.aload_n 0, 1) := by decide +kernel
theorem dX11_init_48 : decode cX11_init 48 = .ok (.new 32, 3) := by decide +kernel
theorem m_184 : Cond.classLink RX11 32 RX3 ∈ BW := iB_BW10 _ (List.mem_of_getElem? (i := 2) rfl)
theorem m_185 : Cond.instantiable RX3 5 ∈ BW := iB_BW10 _ (List.mem_of_getElem? (i := 3) rfl)
theorem nw_X11_32 (hC : CX p s m meth c y0 b0 mL0 rt0 args) (hy0 : y0.cls = RX11) (hK : KK G s) (hP : va_P G.1 vwCl ws H) (hD : va_D A ws) (hS : va_S A H0 H locs) (hA : ∀ q : Nat, H0.size ≤ q → A q) (hcells : cells + 1 ≤ R.cells) (hslots : slots + 5 ≤ R.slots) (hdg : decode b0 pc = .ok (.new 32, 3)) (kk : ∀ (q : Nat) (H1 : Heap), va_P G.1 vwCl (ws ++ [(q, .inr (3, [.null, .null, .int 0, .int 0, .int 0]))]) H1 → va_D A (ws ++ [(q, .inr (3, [.null, .null, .int 0, .int 0, .int 0]))]) → va_S A H0 H1 locs → W p l e R s m args below meth c H1 locs (cells + 1) (slots + 5) Q (F0 m (pc + 3) ls (.ref q :: rest))) : W p l e R s m args below meth c H locs cells slots Q (F0 m pc ls rest) := by
  obtain ⟨hx, hb, hr, hml, hB, hown, hlocks, hnm⟩ := hC
  rw [hy0] at hown
  exact va_new (ci := 3) (C := RX3) (T := TX3) (N := 5) hx hb hB in_X3 tyX3 tyX3_ok hown (hB _ m_184) (hB _ m_185) (hB _ m_108) hK.1 hP hD hS hA rfl (fun j hj => by rcases (show j = 0 ∨ j = 1 ∨ j = 2 ∨ j = 3 ∨ j = 4 by omega) with rfl | rfl | rfl | rfl | rfl <;> rfl) hcells hslots hdg kk
theorem dX11_init_51 : decode cX11_init 51 = .ok (.dup, 1) := by decide +kernel
theorem dX11_init_52 : decode cX11_init 52 = .ok (.aload_n 1, 1) := by decide +kernel
theorem dX11_init_53 : decode cX11_init 53 = .ok (.invokespecial 34, 3) := by decide +kernel
theorem m_188 : Cond.code yX3_init cX3_init 3 none ∈ BW := iB_BW10 _ (List.mem_of_getElem? (i := 6) rfl)
theorem m_186 : Cond.methodLink RX11 34 yX3_init ∈ BW := iB_BW10 _ (List.mem_of_getElem? (i := 4) rfl)
theorem m_187 : Cond.instanceMethod yX3_init ∈ BW := iB_BW10 _ (List.mem_of_getElem? (i := 5) rfl)
theorem si_X11_34 : SI RX11 34 yX3_init cX3_init 3 1 := ⟨⟨m_186, m_187, m_108, m_188⟩, rfl, ⟨nK_RX3.1, nK_RX3.2, pd_21⟩⟩
theorem dX11_init_56 : decode cX11_init 56 = .ok (.putfield 35, 3) := by decide +kernel
theorem pf_X11_35 (hC : CX p s m meth c y0 b0 mL0 rt0 args) (hy0 : y0.cls = RX11) (hin : y0.name = "<init>") (hK : KK G s) (hP : va_P G.1 vwCl ws H) (hD : va_D A ws) (hS : va_S A H0 H locs) (q0 : Nat) {fs : List Value} {v : Value} {ws' : va_W} (he : ws[q0]? = some (a, .inr (11, fs))) (hl : 4 < fs.length) (hws : ws.set q0 (a, .inr (11, fs.set 4 v)) = ws') (hn : narrow (.object "InquiryBench$Doubt") v = v) (hfit : fits (.object "InquiryBench$Doubt") v = true) (hdg : decode b0 pc = .ok (.putfield 35, 3)) (kk : ∀ (H1 : Heap) (locs1 : List Loc), va_P G.1 vwCl ws' H1 → va_D A ws' → va_S A H0 H1 locs1 → W p l e R s m args below meth c H1 locs1 cells slots Q (F0 m (pc + 3) ls rest)) : W p l e R s m args below meth c H locs cells slots Q (F0 m pc ls (v :: .ref a :: rest)) := by
  obtain ⟨hx, hb, hr, hml, hB, hown, hlocks, hnm⟩ := hC
  rw [hy0] at hown
  subst hws
  exact va_putF (ci := 11) (ty := (.object "InquiryBench$Doubt")) (C := RX11) (T := TX11) (N := 11) hx hb hB in_X11 tyX11 tyX11_ok nmX11 hown hK.1 hP hD hS q0 he rfl 4 (by decide) (hB _ m_281) (fun _ h => h) rfl (hnm.trans hin) rfl (by decide +kernel) hn hfit hl hdg kk
theorem dX11_init_59 : decode cX11_init 59 = .ok (.aload_n 0, 1) := by decide +kernel
theorem dX11_init_60 : decode cX11_init 60 = .ok (.new 39, 3) := by decide +kernel
theorem m_196 : Cond.classLink RX11 39 RX6 ∈ BW := iB_BW10 _ (List.mem_of_getElem? (i := 14) rfl)
theorem m_197 : Cond.instantiable RX6 7 ∈ BW := iB_BW10 _ (List.mem_of_getElem? (i := 15) rfl)
theorem nw_X11_39 (hC : CX p s m meth c y0 b0 mL0 rt0 args) (hy0 : y0.cls = RX11) (hK : KK G s) (hP : va_P G.1 vwCl ws H) (hD : va_D A ws) (hS : va_S A H0 H locs) (hA : ∀ q : Nat, H0.size ≤ q → A q) (hcells : cells + 1 ≤ R.cells) (hslots : slots + 7 ≤ R.slots) (hdg : decode b0 pc = .ok (.new 39, 3)) (kk : ∀ (q : Nat) (H1 : Heap), va_P G.1 vwCl (ws ++ [(q, .inr (6, [.null, .null, .null, .null, .int 0, .int 0, .int 0]))]) H1 → va_D A (ws ++ [(q, .inr (6, [.null, .null, .null, .null, .int 0, .int 0, .int 0]))]) → va_S A H0 H1 locs → W p l e R s m args below meth c H1 locs (cells + 1) (slots + 7) Q (F0 m (pc + 3) ls (.ref q :: rest))) : W p l e R s m args below meth c H locs cells slots Q (F0 m pc ls rest) := by
  obtain ⟨hx, hb, hr, hml, hB, hown, hlocks, hnm⟩ := hC
  rw [hy0] at hown
  exact va_new (ci := 6) (C := RX6) (T := TX6) (N := 7) hx hb hB in_X6 tyX6 tyX6_ok hown (hB _ m_196) (hB _ m_197) (hB _ m_109) hK.1 hP hD hS hA rfl (fun j hj => by rcases (show j = 0 ∨ j = 1 ∨ j = 2 ∨ j = 3 ∨ j = 4 ∨ j = 5 ∨ j = 6 by omega) with rfl | rfl | rfl | rfl | rfl | rfl | rfl <;> rfl) hcells hslots hdg kk
theorem dX11_init_63 : decode cX11_init 63 = .ok (.dup, 1) := by decide +kernel
theorem dX11_init_64 : decode cX11_init 64 = .ok (.aload_n 1, 1) := by decide +kernel
theorem dX11_init_65 : decode cX11_init 65 = .ok (.aload_n 2, 1) := by decide +kernel
theorem dX11_init_66 : decode cX11_init 66 = .ok (.invokespecial 41, 3) := by decide +kernel
theorem m_200 : Cond.code yX6_init cX6_init 3 none ∈ BW := iB_BW10 _ (List.mem_of_getElem? (i := 18) rfl)
theorem pd_34 : (parseMethodDescriptor "(LInquiryBench$Book;LInquiryBench$Sight;)V").map (fun d => d.parameters.length) = some 2 := by decide +kernel
theorem m_198 : Cond.methodLink RX11 41 yX6_init ∈ BW := iB_BW10 _ (List.mem_of_getElem? (i := 16) rfl)
theorem m_199 : Cond.instanceMethod yX6_init ∈ BW := iB_BW10 _ (List.mem_of_getElem? (i := 17) rfl)
theorem si_X11_41 : SI RX11 41 yX6_init cX6_init 3 2 := ⟨⟨m_198, m_199, m_109, m_200⟩, rfl, ⟨nK_RX6.1, nK_RX6.2, pd_34⟩⟩
theorem dX11_init_69 : decode cX11_init 69 = .ok (.putfield 44, 3) := by decide +kernel
theorem pf_X11_44 (hC : CX p s m meth c y0 b0 mL0 rt0 args) (hy0 : y0.cls = RX11) (hin : y0.name = "<init>") (hK : KK G s) (hP : va_P G.1 vwCl ws H) (hD : va_D A ws) (hS : va_S A H0 H locs) (q0 : Nat) {fs : List Value} {v : Value} {ws' : va_W} (he : ws[q0]? = some (a, .inr (11, fs))) (hl : 5 < fs.length) (hws : ws.set q0 (a, .inr (11, fs.set 5 v)) = ws') (hn : narrow (.object "InquiryBench$Rules") v = v) (hfit : fits (.object "InquiryBench$Rules") v = true) (hdg : decode b0 pc = .ok (.putfield 44, 3)) (kk : ∀ (H1 : Heap) (locs1 : List Loc), va_P G.1 vwCl ws' H1 → va_D A ws' → va_S A H0 H1 locs1 → W p l e R s m args below meth c H1 locs1 cells slots Q (F0 m (pc + 3) ls rest)) : W p l e R s m args below meth c H locs cells slots Q (F0 m pc ls (v :: .ref a :: rest)) := by
  obtain ⟨hx, hb, hr, hml, hB, hown, hlocks, hnm⟩ := hC
  rw [hy0] at hown
  subst hws
  exact va_putF (ci := 11) (ty := (.object "InquiryBench$Rules")) (C := RX11) (T := TX11) (N := 11) hx hb hB in_X11 tyX11 tyX11_ok nmX11 hown hK.1 hP hD hS q0 he rfl 5 (by decide) (hB _ m_282) (fun _ h => h) rfl (hnm.trans hin) rfl (by decide +kernel) hn hfit hl hdg kk
theorem dX11_init_72 : decode cX11_init 72 = .ok (.aload_n 0, 1) := by decide +kernel
theorem dX11_init_73 : decode cX11_init 73 = .ok (.new 48, 3) := by decide +kernel
theorem m_209 : Cond.classLink RX11 48 RX9 ∈ BW := iB_BW11 _ (List.mem_of_getElem? (i := 7) rfl)
theorem m_210 : Cond.instantiable RX9 6 ∈ BW := iB_BW11 _ (List.mem_of_getElem? (i := 8) rfl)
theorem nw_X11_48 (hC : CX p s m meth c y0 b0 mL0 rt0 args) (hy0 : y0.cls = RX11) (hK : KK G s) (hP : va_P G.1 vwCl ws H) (hD : va_D A ws) (hS : va_S A H0 H locs) (hA : ∀ q : Nat, H0.size ≤ q → A q) (hcells : cells + 1 ≤ R.cells) (hslots : slots + 6 ≤ R.slots) (hdg : decode b0 pc = .ok (.new 48, 3)) (kk : ∀ (q : Nat) (H1 : Heap), va_P G.1 vwCl (ws ++ [(q, .inr (9, [.null, .null, .int 0, .int 0, .int 0, .int 0]))]) H1 → va_D A (ws ++ [(q, .inr (9, [.null, .null, .int 0, .int 0, .int 0, .int 0]))]) → va_S A H0 H1 locs → W p l e R s m args below meth c H1 locs (cells + 1) (slots + 6) Q (F0 m (pc + 3) ls (.ref q :: rest))) : W p l e R s m args below meth c H locs cells slots Q (F0 m pc ls rest) := by
  obtain ⟨hx, hb, hr, hml, hB, hown, hlocks, hnm⟩ := hC
  rw [hy0] at hown
  exact va_new (ci := 9) (C := RX9) (T := TX9) (N := 6) hx hb hB in_X9 tyX9 tyX9_ok hown (hB _ m_209) (hB _ m_210) (hB _ m_110) hK.1 hP hD hS hA rfl (fun j hj => by rcases (show j = 0 ∨ j = 1 ∨ j = 2 ∨ j = 3 ∨ j = 4 ∨ j = 5 by omega) with rfl | rfl | rfl | rfl | rfl | rfl <;> rfl) hcells hslots hdg kk
theorem dX11_init_76 : decode cX11_init 76 = .ok (.dup, 1) := by decide +kernel
theorem dX11_init_77 : decode cX11_init 77 = .ok (.aload_n 1, 1) := by decide +kernel
theorem dX11_init_78 : decode cX11_init 78 = .ok (.aload_n 2, 1) := by decide +kernel
theorem dX11_init_79 : decode cX11_init 79 = .ok (.invokespecial 50, 3) := by decide +kernel
theorem m_213 : Cond.code yX9_init cX9_init 3 none ∈ BW := iB_BW11 _ (List.mem_of_getElem? (i := 11) rfl)
theorem m_211 : Cond.methodLink RX11 50 yX9_init ∈ BW := iB_BW11 _ (List.mem_of_getElem? (i := 9) rfl)
theorem m_212 : Cond.instanceMethod yX9_init ∈ BW := iB_BW11 _ (List.mem_of_getElem? (i := 10) rfl)
theorem si_X11_50 : SI RX11 50 yX9_init cX9_init 3 2 := ⟨⟨m_211, m_212, m_110, m_213⟩, rfl, ⟨nK_RX9.1, nK_RX9.2, pd_34⟩⟩
theorem dX11_init_82 : decode cX11_init 82 = .ok (.putfield 51, 3) := by decide +kernel
theorem pf_X11_51 (hC : CX p s m meth c y0 b0 mL0 rt0 args) (hy0 : y0.cls = RX11) (hin : y0.name = "<init>") (hK : KK G s) (hP : va_P G.1 vwCl ws H) (hD : va_D A ws) (hS : va_S A H0 H locs) (q0 : Nat) {fs : List Value} {v : Value} {ws' : va_W} (he : ws[q0]? = some (a, .inr (11, fs))) (hl : 6 < fs.length) (hws : ws.set q0 (a, .inr (11, fs.set 6 v)) = ws') (hn : narrow (.object "InquiryBench$Talk") v = v) (hfit : fits (.object "InquiryBench$Talk") v = true) (hdg : decode b0 pc = .ok (.putfield 51, 3)) (kk : ∀ (H1 : Heap) (locs1 : List Loc), va_P G.1 vwCl ws' H1 → va_D A ws' → va_S A H0 H1 locs1 → W p l e R s m args below meth c H1 locs1 cells slots Q (F0 m (pc + 3) ls rest)) : W p l e R s m args below meth c H locs cells slots Q (F0 m pc ls (v :: .ref a :: rest)) := by
  obtain ⟨hx, hb, hr, hml, hB, hown, hlocks, hnm⟩ := hC
  rw [hy0] at hown
  subst hws
  exact va_putF (ci := 11) (ty := (.object "InquiryBench$Talk")) (C := RX11) (T := TX11) (N := 11) hx hb hB in_X11 tyX11 tyX11_ok nmX11 hown hK.1 hP hD hS q0 he rfl 6 (by decide) (hB _ m_283) (fun _ h => h) rfl (hnm.trans hin) rfl (by decide +kernel) hn hfit hl hdg kk
theorem dX11_init_85 : decode cX11_init 85 = .ok (.aload_n 0, 1) := by decide +kernel
theorem dX11_init_86 : decode cX11_init 86 = .ok (.new 55, 3) := by decide +kernel
theorem m_221 : Cond.classLink RX11 55 RX10 ∈ BW := iB_BW12 _ (List.mem_of_getElem? (i := 7) rfl)
theorem m_222 : Cond.instantiable RX10 8 ∈ BW := iB_BW12 _ (List.mem_of_getElem? (i := 8) rfl)
theorem nw_X11_55 (hC : CX p s m meth c y0 b0 mL0 rt0 args) (hy0 : y0.cls = RX11) (hK : KK G s) (hP : va_P G.1 vwCl ws H) (hD : va_D A ws) (hS : va_S A H0 H locs) (hA : ∀ q : Nat, H0.size ≤ q → A q) (hcells : cells + 1 ≤ R.cells) (hslots : slots + 8 ≤ R.slots) (hdg : decode b0 pc = .ok (.new 55, 3)) (kk : ∀ (q : Nat) (H1 : Heap), va_P G.1 vwCl (ws ++ [(q, .inr (10, [.null, .int 0, .null, .null, .int 0, .int 0, .int 0, .int 0]))]) H1 → va_D A (ws ++ [(q, .inr (10, [.null, .int 0, .null, .null, .int 0, .int 0, .int 0, .int 0]))]) → va_S A H0 H1 locs → W p l e R s m args below meth c H1 locs (cells + 1) (slots + 8) Q (F0 m (pc + 3) ls (.ref q :: rest))) : W p l e R s m args below meth c H locs cells slots Q (F0 m pc ls rest) := by
  obtain ⟨hx, hb, hr, hml, hB, hown, hlocks, hnm⟩ := hC
  rw [hy0] at hown
  exact va_new (ci := 10) (C := RX10) (T := TX10) (N := 8) hx hb hB in_X10 tyX10 tyX10_ok hown (hB _ m_221) (hB _ m_222) (hB _ m_111) hK.1 hP hD hS hA rfl (fun j hj => by rcases (show j = 0 ∨ j = 1 ∨ j = 2 ∨ j = 3 ∨ j = 4 ∨ j = 5 ∨ j = 6 ∨ j = 7 by omega) with rfl | rfl | rfl | rfl | rfl | rfl | rfl | rfl <;> rfl) hcells hslots hdg kk
theorem dX11_init_89 : decode cX11_init 89 = .ok (.dup, 1) := by decide +kernel
theorem dX11_init_90 : decode cX11_init 90 = .ok (.invokespecial 57, 3) := by decide +kernel
theorem m_225 : Cond.code yX10_init cX10_init 1 none ∈ BW := iB_BW12 _ (List.mem_of_getElem? (i := 11) rfl)
theorem m_223 : Cond.methodLink RX11 57 yX10_init ∈ BW := iB_BW12 _ (List.mem_of_getElem? (i := 9) rfl)
theorem m_224 : Cond.instanceMethod yX10_init ∈ BW := iB_BW12 _ (List.mem_of_getElem? (i := 10) rfl)
theorem si_X11_57 : SI RX11 57 yX10_init cX10_init 1 0 := ⟨⟨m_223, m_224, m_111, m_225⟩, rfl, ⟨nK_RX10.1, nK_RX10.2, pd_9⟩⟩
theorem dX11_init_93 : decode cX11_init 93 = .ok (.putfield 58, 3) := by decide +kernel
theorem pf_X11_58 (hC : CX p s m meth c y0 b0 mL0 rt0 args) (hy0 : y0.cls = RX11) (hin : y0.name = "<init>") (hK : KK G s) (hP : va_P G.1 vwCl ws H) (hD : va_D A ws) (hS : va_S A H0 H locs) (q0 : Nat) {fs : List Value} {v : Value} {ws' : va_W} (he : ws[q0]? = some (a, .inr (11, fs))) (hl : 7 < fs.length) (hws : ws.set q0 (a, .inr (11, fs.set 7 v)) = ws') (hn : narrow (.object "InquiryBench$Tape") v = v) (hfit : fits (.object "InquiryBench$Tape") v = true) (hdg : decode b0 pc = .ok (.putfield 58, 3)) (kk : ∀ (H1 : Heap) (locs1 : List Loc), va_P G.1 vwCl ws' H1 → va_D A ws' → va_S A H0 H1 locs1 → W p l e R s m args below meth c H1 locs1 cells slots Q (F0 m (pc + 3) ls rest)) : W p l e R s m args below meth c H locs cells slots Q (F0 m pc ls (v :: .ref a :: rest)) := by
  obtain ⟨hx, hb, hr, hml, hB, hown, hlocks, hnm⟩ := hC
  rw [hy0] at hown
  subst hws
  exact va_putF (ci := 11) (ty := (.object "InquiryBench$Tape")) (C := RX11) (T := TX11) (N := 11) hx hb hB in_X11 tyX11 tyX11_ok nmX11 hown hK.1 hP hD hS q0 he rfl 7 (by decide) (hB _ m_284) (fun _ h => h) rfl (hnm.trans hin) rfl (by decide +kernel) hn hfit hl hdg kk
theorem dX11_init_96 : decode cX11_init 96 = .ok (.aload_n 0, 1) := by decide +kernel
theorem dX11_init_97 : decode cX11_init 97 = .ok (.new 62, 3) := by decide +kernel
theorem m_237 : Cond.classLink RX11 62 RX5 ∈ BW := iB_BW13 _ (List.mem_of_getElem? (i := 3) rfl)
theorem m_238 : Cond.instantiable RX5 6 ∈ BW := iB_BW13 _ (List.mem_of_getElem? (i := 4) rfl)
theorem nw_X11_62 (hC : CX p s m meth c y0 b0 mL0 rt0 args) (hy0 : y0.cls = RX11) (hK : KK G s) (hP : va_P G.1 vwCl ws H) (hD : va_D A ws) (hS : va_S A H0 H locs) (hA : ∀ q : Nat, H0.size ≤ q → A q) (hcells : cells + 1 ≤ R.cells) (hslots : slots + 6 ≤ R.slots) (hdg : decode b0 pc = .ok (.new 62, 3)) (kk : ∀ (q : Nat) (H1 : Heap), va_P G.1 vwCl (ws ++ [(q, .inr (5, [.null, .null, .null, .int 0, .int 0, .int 0]))]) H1 → va_D A (ws ++ [(q, .inr (5, [.null, .null, .null, .int 0, .int 0, .int 0]))]) → va_S A H0 H1 locs → W p l e R s m args below meth c H1 locs (cells + 1) (slots + 6) Q (F0 m (pc + 3) ls (.ref q :: rest))) : W p l e R s m args below meth c H locs cells slots Q (F0 m pc ls rest) := by
  obtain ⟨hx, hb, hr, hml, hB, hown, hlocks, hnm⟩ := hC
  rw [hy0] at hown
  exact va_new (ci := 5) (C := RX5) (T := TX5) (N := 6) hx hb hB in_X5 tyX5 tyX5_ok hown (hB _ m_237) (hB _ m_238) (hB _ m_112) hK.1 hP hD hS hA rfl (fun j hj => by rcases (show j = 0 ∨ j = 1 ∨ j = 2 ∨ j = 3 ∨ j = 4 ∨ j = 5 by omega) with rfl | rfl | rfl | rfl | rfl | rfl <;> rfl) hcells hslots hdg kk
theorem dX11_init_100 : decode cX11_init 100 = .ok (.dup, 1) := by decide +kernel
theorem dX11_init_101 : decode cX11_init 101 = .ok (.aload_n 1, 1) := by decide +kernel
theorem dX11_init_102 : decode cX11_init 102 = .ok (.invokespecial 64, 3) := by decide +kernel
theorem m_241 : Cond.code yX5_init cX5_init 2 none ∈ BW := iB_BW13 _ (List.mem_of_getElem? (i := 7) rfl)
theorem m_239 : Cond.methodLink RX11 64 yX5_init ∈ BW := iB_BW13 _ (List.mem_of_getElem? (i := 5) rfl)
theorem m_240 : Cond.instanceMethod yX5_init ∈ BW := iB_BW13 _ (List.mem_of_getElem? (i := 6) rfl)
theorem si_X11_64 : SI RX11 64 yX5_init cX5_init 2 1 := ⟨⟨m_239, m_240, m_112, m_241⟩, rfl, ⟨nK_RX5.1, nK_RX5.2, pd_21⟩⟩
theorem dX11_init_105 : decode cX11_init 105 = .ok (.putfield 65, 3) := by decide +kernel
theorem pf_X11_65 (hC : CX p s m meth c y0 b0 mL0 rt0 args) (hy0 : y0.cls = RX11) (hin : y0.name = "<init>") (hK : KK G s) (hP : va_P G.1 vwCl ws H) (hD : va_D A ws) (hS : va_S A H0 H locs) (q0 : Nat) {fs : List Value} {v : Value} {ws' : va_W} (he : ws[q0]? = some (a, .inr (11, fs))) (hl : 8 < fs.length) (hws : ws.set q0 (a, .inr (11, fs.set 8 v)) = ws') (hn : narrow (.object "InquiryBench$Round") v = v) (hfit : fits (.object "InquiryBench$Round") v = true) (hdg : decode b0 pc = .ok (.putfield 65, 3)) (kk : ∀ (H1 : Heap) (locs1 : List Loc), va_P G.1 vwCl ws' H1 → va_D A ws' → va_S A H0 H1 locs1 → W p l e R s m args below meth c H1 locs1 cells slots Q (F0 m (pc + 3) ls rest)) : W p l e R s m args below meth c H locs cells slots Q (F0 m pc ls (v :: .ref a :: rest)) := by
  obtain ⟨hx, hb, hr, hml, hB, hown, hlocks, hnm⟩ := hC
  rw [hy0] at hown
  subst hws
  exact va_putF (ci := 11) (ty := (.object "InquiryBench$Round")) (C := RX11) (T := TX11) (N := 11) hx hb hB in_X11 tyX11 tyX11_ok nmX11 hown hK.1 hP hD hS q0 he rfl 8 (by decide) (hB _ m_285) (fun _ h => h) rfl (hnm.trans hin) rfl (by decide +kernel) hn hfit hl hdg kk
theorem dX11_init_108 : decode cX11_init 108 = .ok (.aload_n 0, 1) := by decide +kernel
theorem dX11_init_109 : decode cX11_init 109 = .ok (.new 69, 3) := by decide +kernel
theorem m_251 : Cond.classLink RX11 69 RX4 ∈ BW := iB_BW13 _ (List.mem_of_getElem? (i := 17) rfl)
theorem m_252 : Cond.instantiable RX4 6 ∈ BW := iB_BW13 _ (List.mem_of_getElem? (i := 18) rfl)
theorem nw_X11_69 (hC : CX p s m meth c y0 b0 mL0 rt0 args) (hy0 : y0.cls = RX11) (hK : KK G s) (hP : va_P G.1 vwCl ws H) (hD : va_D A ws) (hS : va_S A H0 H locs) (hA : ∀ q : Nat, H0.size ≤ q → A q) (hcells : cells + 1 ≤ R.cells) (hslots : slots + 6 ≤ R.slots) (hdg : decode b0 pc = .ok (.new 69, 3)) (kk : ∀ (q : Nat) (H1 : Heap), va_P G.1 vwCl (ws ++ [(q, .inr (4, [.null, .null, .null, .null, .null, .null]))]) H1 → va_D A (ws ++ [(q, .inr (4, [.null, .null, .null, .null, .null, .null]))]) → va_S A H0 H1 locs → W p l e R s m args below meth c H1 locs (cells + 1) (slots + 6) Q (F0 m (pc + 3) ls (.ref q :: rest))) : W p l e R s m args below meth c H locs cells slots Q (F0 m pc ls rest) := by
  obtain ⟨hx, hb, hr, hml, hB, hown, hlocks, hnm⟩ := hC
  rw [hy0] at hown
  exact va_new (ci := 4) (C := RX4) (T := TX4) (N := 6) hx hb hB in_X4 tyX4 tyX4_ok hown (hB _ m_251) (hB _ m_252) (hB _ m_113) hK.1 hP hD hS hA rfl (fun j hj => by rcases (show j = 0 ∨ j = 1 ∨ j = 2 ∨ j = 3 ∨ j = 4 ∨ j = 5 by omega) with rfl | rfl | rfl | rfl | rfl | rfl <;> rfl) hcells hslots hdg kk
theorem dX11_init_112 : decode cX11_init 112 = .ok (.dup, 1) := by decide +kernel
theorem dX11_init_113 : decode cX11_init 113 = .ok (.invokespecial 71, 3) := by decide +kernel
theorem m_255 : Cond.code yX4_init cX4_init 2 none ∈ BW := iB_BW14 _ (List.mem_of_getElem? (i := 1) rfl)
theorem m_253 : Cond.methodLink RX11 71 yX4_init ∈ BW := iB_BW13 _ (List.mem_of_getElem? (i := 19) rfl)
theorem m_254 : Cond.instanceMethod yX4_init ∈ BW := iB_BW14 _ (List.mem_of_getElem? (i := 0) rfl)
theorem si_X11_71 : SI RX11 71 yX4_init cX4_init 2 0 := ⟨⟨m_253, m_254, m_113, m_255⟩, rfl, ⟨nK_RX4.1, nK_RX4.2, pd_9⟩⟩
theorem dX11_init_116 : decode cX11_init 116 = .ok (.putfield 72, 3) := by decide +kernel
theorem pf_X11_72 (hC : CX p s m meth c y0 b0 mL0 rt0 args) (hy0 : y0.cls = RX11) (hin : y0.name = "<init>") (hK : KK G s) (hP : va_P G.1 vwCl ws H) (hD : va_D A ws) (hS : va_S A H0 H locs) (q0 : Nat) {fs : List Value} {v : Value} {ws' : va_W} (he : ws[q0]? = some (a, .inr (11, fs))) (hl : 9 < fs.length) (hws : ws.set q0 (a, .inr (11, fs.set 9 v)) = ws') (hn : narrow (.object "InquiryBench$Host") v = v) (hfit : fits (.object "InquiryBench$Host") v = true) (hdg : decode b0 pc = .ok (.putfield 72, 3)) (kk : ∀ (H1 : Heap) (locs1 : List Loc), va_P G.1 vwCl ws' H1 → va_D A ws' → va_S A H0 H1 locs1 → W p l e R s m args below meth c H1 locs1 cells slots Q (F0 m (pc + 3) ls rest)) : W p l e R s m args below meth c H locs cells slots Q (F0 m pc ls (v :: .ref a :: rest)) := by
  obtain ⟨hx, hb, hr, hml, hB, hown, hlocks, hnm⟩ := hC
  rw [hy0] at hown
  subst hws
  exact va_putF (ci := 11) (ty := (.object "InquiryBench$Host")) (C := RX11) (T := TX11) (N := 11) hx hb hB in_X11 tyX11 tyX11_ok nmX11 hown hK.1 hP hD hS q0 he rfl 9 (by decide) (hB _ m_286) (fun _ h => h) rfl (hnm.trans hin) rfl (by decide +kernel) hn hfit hl hdg kk
theorem dX11_init_119 : decode cX11_init 119 = .ok (.aload_n 0, 1) := by decide +kernel
theorem dX11_init_120 : decode cX11_init 120 = .ok (.new 76, 3) := by decide +kernel
theorem m_263 : Cond.classLink RX11 76 RX2 ∈ BW := iB_BW14 _ (List.mem_of_getElem? (i := 9) rfl)
theorem m_264 : Cond.instantiable RX2 8 ∈ BW := iB_BW14 _ (List.mem_of_getElem? (i := 10) rfl)
theorem nw_X11_76 (hC : CX p s m meth c y0 b0 mL0 rt0 args) (hy0 : y0.cls = RX11) (hK : KK G s) (hP : va_P G.1 vwCl ws H) (hD : va_D A ws) (hS : va_S A H0 H locs) (hA : ∀ q : Nat, H0.size ≤ q → A q) (hcells : cells + 1 ≤ R.cells) (hslots : slots + 8 ≤ R.slots) (hdg : decode b0 pc = .ok (.new 76, 3)) (kk : ∀ (q : Nat) (H1 : Heap), va_P G.1 vwCl (ws ++ [(q, .inr (2, [.null, .null, .int 0, .int 0, .int 0, .int 0, .int 0, .int 0]))]) H1 → va_D A (ws ++ [(q, .inr (2, [.null, .null, .int 0, .int 0, .int 0, .int 0, .int 0, .int 0]))]) → va_S A H0 H1 locs → W p l e R s m args below meth c H1 locs (cells + 1) (slots + 8) Q (F0 m (pc + 3) ls (.ref q :: rest))) : W p l e R s m args below meth c H locs cells slots Q (F0 m pc ls rest) := by
  obtain ⟨hx, hb, hr, hml, hB, hown, hlocks, hnm⟩ := hC
  rw [hy0] at hown
  exact va_new (ci := 2) (C := RX2) (T := TX2) (N := 8) hx hb hB in_X2 tyX2 tyX2_ok hown (hB _ m_263) (hB _ m_264) (hB _ m_114) hK.1 hP hD hS hA rfl (fun j hj => by rcases (show j = 0 ∨ j = 1 ∨ j = 2 ∨ j = 3 ∨ j = 4 ∨ j = 5 ∨ j = 6 ∨ j = 7 by omega) with rfl | rfl | rfl | rfl | rfl | rfl | rfl | rfl <;> rfl) hcells hslots hdg kk
theorem dX11_init_123 : decode cX11_init 123 = .ok (.dup, 1) := by decide +kernel
theorem dX11_init_124 : decode cX11_init 124 = .ok (.aload_n 1, 1) := by decide +kernel
theorem dX11_init_125 : decode cX11_init 125 = .ok (.invokespecial 78, 3) := by decide +kernel
theorem m_267 : Cond.code yX2_init cX2_init 2 none ∈ BW := iB_BW14 _ (List.mem_of_getElem? (i := 13) rfl)
theorem m_265 : Cond.methodLink RX11 78 yX2_init ∈ BW := iB_BW14 _ (List.mem_of_getElem? (i := 11) rfl)
theorem m_266 : Cond.instanceMethod yX2_init ∈ BW := iB_BW14 _ (List.mem_of_getElem? (i := 12) rfl)
theorem si_X11_78 : SI RX11 78 yX2_init cX2_init 2 1 := ⟨⟨m_265, m_266, m_114, m_267⟩, rfl, ⟨nK_RX2.1, nK_RX2.2, pd_21⟩⟩
theorem dX11_init_128 : decode cX11_init 128 = .ok (.putfield 79, 3) := by decide +kernel
theorem pf_X11_79 (hC : CX p s m meth c y0 b0 mL0 rt0 args) (hy0 : y0.cls = RX11) (hin : y0.name = "<init>") (hK : KK G s) (hP : va_P G.1 vwCl ws H) (hD : va_D A ws) (hS : va_S A H0 H locs) (q0 : Nat) {fs : List Value} {v : Value} {ws' : va_W} (he : ws[q0]? = some (a, .inr (11, fs))) (hl : 10 < fs.length) (hws : ws.set q0 (a, .inr (11, fs.set 10 v)) = ws') (hn : narrow (.object "InquiryBench$Deale\x72") v = v) (hfit : fits (.object "InquiryBench$Deale\x72") v = true) (hdg : decode b0 pc = .ok (.putfield 79, 3)) (kk : ∀ (H1 : Heap) (locs1 : List Loc), va_P G.1 vwCl ws' H1 → va_D A ws' → va_S A H0 H1 locs1 → W p l e R s m args below meth c H1 locs1 cells slots Q (F0 m (pc + 3) ls rest)) : W p l e R s m args below meth c H locs cells slots Q (F0 m pc ls (v :: .ref a :: rest)) := by
  obtain ⟨hx, hb, hr, hml, hB, hown, hlocks, hnm⟩ := hC
  rw [hy0] at hown
  subst hws
  exact va_putF (ci := 11) (ty := (.object "InquiryBench$Deale\x72")) (C := RX11) (T := TX11) (N := 11) hx hb hB in_X11 tyX11 tyX11_ok nmX11 hown hK.1 hP hD hS q0 he rfl 10 (by decide) (hB _ m_287) (fun _ h => h) rfl (hnm.trans hin) rfl (by decide +kernel) hn hfit hl hdg kk
theorem dX11_init_131 : decode cX11_init 131 = .ok (.return_, 1) := by decide +kernel
theorem dX12_init_0 : decode cX12_init 0 = .ok (.aload_n 0, 1) := by decide +kernel
theorem dX12_init_1 : decode cX12_init 1 = .ok (.invokespecial 1, 3) := by decide +kernel
theorem m_1028 : Cond.methodLink RX12 1 objectInit ∈ BW := iB_BW54 _ (List.mem_of_getElem? (i := 17) rfl)
theorem dX12_init_4 : decode cX12_init 4 = .ok (.aload_n 0, 1) := by decide +kernel
theorem dX12_init_5 : decode cX12_init 5 = .ok (.sipush 1662, 3) := by decide +kernel
theorem dX12_init_8 : decode cX12_init 8 = .ok (.newarray .int, 2) := by decide +kernel
theorem dX12_init_10 : decode cX12_init 10 = .ok (.putfield 9, 3) := by decide +kernel
theorem pf_X12_9 (hC : CX p s m meth c y0 b0 mL0 rt0 args) (hy0 : y0.cls = RX12) (hin : y0.name = "<init>") (hK : KK G s) (hP : va_P G.1 vwCl ws H) (hD : va_D A ws) (hS : va_S A H0 H locs) (q0 : Nat) {fs : List Value} {v : Value} {ws' : va_W} (he : ws[q0]? = some (a, .inr (12, fs))) (hl : 0 < fs.length) (hws : ws.set q0 (a, .inr (12, fs.set 0 v)) = ws') (hn : narrow (.array .int) v = v) (hfit : fits (.array .int) v = true) (hdg : decode b0 pc = .ok (.putfield 9, 3)) (kk : ∀ (H1 : Heap) (locs1 : List Loc), va_P G.1 vwCl ws' H1 → va_D A ws' → va_S A H0 H1 locs1 → W p l e R s m args below meth c H1 locs1 cells slots Q (F0 m (pc + 3) ls rest)) : W p l e R s m args below meth c H locs cells slots Q (F0 m pc ls (v :: .ref a :: rest)) := by
  obtain ⟨hx, hb, hr, hml, hB, hown, hlocks, hnm⟩ := hC
  rw [hy0] at hown
  subst hws
  exact va_putF (ci := 12) (ty := (.array .int)) (C := RX12) (T := TX12) (N := 41) hx hb hB in_X12 tyX12 tyX12_ok nmX12 hown hK.1 hP hD hS q0 he rfl 0 (by decide) (hB _ m_1030) (fun _ h => h) rfl (hnm.trans hin) rfl (by decide +kernel) hn hfit hl hdg kk
theorem dX12_init_13 : decode cX12_init 13 = .ok (.aload_n 0, 1) := by decide +kernel
theorem dX12_init_14 : decode cX12_init 14 = .ok (.sipush 1662, 3) := by decide +kernel
theorem dX12_init_17 : decode cX12_init 17 = .ok (.newarray .int, 2) := by decide +kernel
theorem dX12_init_19 : decode cX12_init 19 = .ok (.putfield 13, 3) := by decide +kernel
theorem pf_X12_13 (hC : CX p s m meth c y0 b0 mL0 rt0 args) (hy0 : y0.cls = RX12) (hin : y0.name = "<init>") (hK : KK G s) (hP : va_P G.1 vwCl ws H) (hD : va_D A ws) (hS : va_S A H0 H locs) (q0 : Nat) {fs : List Value} {v : Value} {ws' : va_W} (he : ws[q0]? = some (a, .inr (12, fs))) (hl : 1 < fs.length) (hws : ws.set q0 (a, .inr (12, fs.set 1 v)) = ws') (hn : narrow (.array .int) v = v) (hfit : fits (.array .int) v = true) (hdg : decode b0 pc = .ok (.putfield 13, 3)) (kk : ∀ (H1 : Heap) (locs1 : List Loc), va_P G.1 vwCl ws' H1 → va_D A ws' → va_S A H0 H1 locs1 → W p l e R s m args below meth c H1 locs1 cells slots Q (F0 m (pc + 3) ls rest)) : W p l e R s m args below meth c H locs cells slots Q (F0 m pc ls (v :: .ref a :: rest)) := by
  obtain ⟨hx, hb, hr, hml, hB, hown, hlocks, hnm⟩ := hC
  rw [hy0] at hown
  subst hws
  exact va_putF (ci := 12) (ty := (.array .int)) (C := RX12) (T := TX12) (N := 41) hx hb hB in_X12 tyX12 tyX12_ok nmX12 hown hK.1 hP hD hS q0 he rfl 1 (by decide) (hB _ m_1031) (fun _ h => h) rfl (hnm.trans hin) rfl (by decide +kernel) hn hfit hl hdg kk
theorem dX12_init_22 : decode cX12_init 22 = .ok (.aload_n 0, 1) := by decide +kernel
theorem dX12_init_23 : decode cX12_init 23 = .ok (.sipush 240, 3) := by decide +kernel
theorem dX12_init_26 : decode cX12_init 26 = .ok (.newarray .int, 2) := by decide +kernel
theorem dX12_init_28 : decode cX12_init 28 = .ok (.putfield 16, 3) := by decide +kernel
theorem pf_X12_16 (hC : CX p s m meth c y0 b0 mL0 rt0 args) (hy0 : y0.cls = RX12) (hin : y0.name = "<init>") (hK : KK G s) (hP : va_P G.1 vwCl ws H) (hD : va_D A ws) (hS : va_S A H0 H locs) (q0 : Nat) {fs : List Value} {v : Value} {ws' : va_W} (he : ws[q0]? = some (a, .inr (12, fs))) (hl : 3 < fs.length) (hws : ws.set q0 (a, .inr (12, fs.set 3 v)) = ws') (hn : narrow (.array .int) v = v) (hfit : fits (.array .int) v = true) (hdg : decode b0 pc = .ok (.putfield 16, 3)) (kk : ∀ (H1 : Heap) (locs1 : List Loc), va_P G.1 vwCl ws' H1 → va_D A ws' → va_S A H0 H1 locs1 → W p l e R s m args below meth c H1 locs1 cells slots Q (F0 m (pc + 3) ls rest)) : W p l e R s m args below meth c H locs cells slots Q (F0 m pc ls (v :: .ref a :: rest)) := by
  obtain ⟨hx, hb, hr, hml, hB, hown, hlocks, hnm⟩ := hC
  rw [hy0] at hown
  subst hws
  exact va_putF (ci := 12) (ty := (.array .int)) (C := RX12) (T := TX12) (N := 41) hx hb hB in_X12 tyX12 tyX12_ok nmX12 hown hK.1 hP hD hS q0 he rfl 3 (by decide) (hB _ m_1033) (fun _ h => h) rfl (hnm.trans hin) rfl (by decide +kernel) hn hfit hl hdg kk
theorem dX12_init_31 : decode cX12_init 31 = .ok (.aload_n 0, 1) := by decide +kernel
theorem dX12_init_32 : decode cX12_init 32 = .ok (.bipush 14, 2) := by decide +kernel
theorem dX12_init_34 : decode cX12_init 34 = .ok (.newarray .int, 2) := by decide +kernel
theorem dX12_init_36 : decode cX12_init 36 = .ok (.putfield 19, 3) := by decide +kernel
theorem pf_X12_19 (hC : CX p s m meth c y0 b0 mL0 rt0 args) (hy0 : y0.cls = RX12) (hin : y0.name = "<init>") (hK : KK G s) (hP : va_P G.1 vwCl ws H) (hD : va_D A ws) (hS : va_S A H0 H locs) (q0 : Nat) {fs : List Value} {v : Value} {ws' : va_W} (he : ws[q0]? = some (a, .inr (12, fs))) (hl : 5 < fs.length) (hws : ws.set q0 (a, .inr (12, fs.set 5 v)) = ws') (hn : narrow (.array .int) v = v) (hfit : fits (.array .int) v = true) (hdg : decode b0 pc = .ok (.putfield 19, 3)) (kk : ∀ (H1 : Heap) (locs1 : List Loc), va_P G.1 vwCl ws' H1 → va_D A ws' → va_S A H0 H1 locs1 → W p l e R s m args below meth c H1 locs1 cells slots Q (F0 m (pc + 3) ls rest)) : W p l e R s m args below meth c H locs cells slots Q (F0 m pc ls (v :: .ref a :: rest)) := by
  obtain ⟨hx, hb, hr, hml, hB, hown, hlocks, hnm⟩ := hC
  rw [hy0] at hown
  subst hws
  exact va_putF (ci := 12) (ty := (.array .int)) (C := RX12) (T := TX12) (N := 41) hx hb hB in_X12 tyX12 tyX12_ok nmX12 hown hK.1 hP hD hS q0 he rfl 5 (by decide) (hB _ m_1035) (fun _ h => h) rfl (hnm.trans hin) rfl (by decide +kernel) hn hfit hl hdg kk
theorem dX12_init_39 : decode cX12_init 39 = .ok (.aload_n 0, 1) := by decide +kernel
theorem dX12_init_40 : decode cX12_init 40 = .ok (.iconst (-1), 1) := by decide +kernel
theorem dX12_init_41 : decode cX12_init 41 = .ok (.putfield 22, 3) := by decide +kernel
theorem dX12_init_44 : decode cX12_init 44 = .ok (.aload_n 0, 1) := by decide +kernel
theorem dX12_init_45 : decode cX12_init 45 = .ok (.bipush 36, 2) := by decide +kernel
theorem dX12_init_47 : decode cX12_init 47 = .ok (.newarray .int, 2) := by decide +kernel
theorem dX12_init_49 : decode cX12_init 49 = .ok (.putfield 26, 3) := by decide +kernel
theorem pf_X12_26 (hC : CX p s m meth c y0 b0 mL0 rt0 args) (hy0 : y0.cls = RX12) (hin : y0.name = "<init>") (hK : KK G s) (hP : va_P G.1 vwCl ws H) (hD : va_D A ws) (hS : va_S A H0 H locs) (q0 : Nat) {fs : List Value} {v : Value} {ws' : va_W} (he : ws[q0]? = some (a, .inr (12, fs))) (hl : 10 < fs.length) (hws : ws.set q0 (a, .inr (12, fs.set 10 v)) = ws') (hn : narrow (.array .int) v = v) (hfit : fits (.array .int) v = true) (hdg : decode b0 pc = .ok (.putfield 26, 3)) (kk : ∀ (H1 : Heap) (locs1 : List Loc), va_P G.1 vwCl ws' H1 → va_D A ws' → va_S A H0 H1 locs1 → W p l e R s m args below meth c H1 locs1 cells slots Q (F0 m (pc + 3) ls rest)) : W p l e R s m args below meth c H locs cells slots Q (F0 m pc ls (v :: .ref a :: rest)) := by
  obtain ⟨hx, hb, hr, hml, hB, hown, hlocks, hnm⟩ := hC
  rw [hy0] at hown
  subst hws
  exact va_putF (ci := 12) (ty := (.array .int)) (C := RX12) (T := TX12) (N := 41) hx hb hB in_X12 tyX12 tyX12_ok nmX12 hown hK.1 hP hD hS q0 he rfl 10 (by decide) (hB _ m_1040) (fun _ h => h) rfl (hnm.trans hin) rfl (by decide +kernel) hn hfit hl hdg kk
theorem dX12_init_52 : decode cX12_init 52 = .ok (.aload_n 0, 1) := by decide +kernel
theorem dX12_init_53 : decode cX12_init 53 = .ok (.bipush 8, 2) := by decide +kernel
theorem dX12_init_55 : decode cX12_init 55 = .ok (.newarray .int, 2) := by decide +kernel
theorem dX12_init_57 : decode cX12_init 57 = .ok (.putfield 29, 3) := by decide +kernel
theorem pf_X12_29 (hC : CX p s m meth c y0 b0 mL0 rt0 args) (hy0 : y0.cls = RX12) (hin : y0.name = "<init>") (hK : KK G s) (hP : va_P G.1 vwCl ws H) (hD : va_D A ws) (hS : va_S A H0 H locs) (q0 : Nat) {fs : List Value} {v : Value} {ws' : va_W} (he : ws[q0]? = some (a, .inr (12, fs))) (hl : 13 < fs.length) (hws : ws.set q0 (a, .inr (12, fs.set 13 v)) = ws') (hn : narrow (.array .int) v = v) (hfit : fits (.array .int) v = true) (hdg : decode b0 pc = .ok (.putfield 29, 3)) (kk : ∀ (H1 : Heap) (locs1 : List Loc), va_P G.1 vwCl ws' H1 → va_D A ws' → va_S A H0 H1 locs1 → W p l e R s m args below meth c H1 locs1 cells slots Q (F0 m (pc + 3) ls rest)) : W p l e R s m args below meth c H locs cells slots Q (F0 m pc ls (v :: .ref a :: rest)) := by
  obtain ⟨hx, hb, hr, hml, hB, hown, hlocks, hnm⟩ := hC
  rw [hy0] at hown
  subst hws
  exact va_putF (ci := 12) (ty := (.array .int)) (C := RX12) (T := TX12) (N := 41) hx hb hB in_X12 tyX12 tyX12_ok nmX12 hown hK.1 hP hD hS q0 he rfl 13 (by decide) (hB _ m_1043) (fun _ h => h) rfl (hnm.trans hin) rfl (by decide +kernel) hn hfit hl hdg kk
theorem dX12_init_60 : decode cX12_init 60 = .ok (.aload_n 0, 1) := by decide +kernel
theorem dX12_init_61 : decode cX12_init 61 = .ok (.bipush 54, 2) := by decide +kernel
theorem dX12_init_63 : decode cX12_init 63 = .ok (.newarray .int, 2) := by decide +kernel
theorem dX12_init_65 : decode cX12_init 65 = .ok (.putfield 32, 3) := by decide +kernel
theorem pf_X12_32 (hC : CX p s m meth c y0 b0 mL0 rt0 args) (hy0 : y0.cls = RX12) (hin : y0.name = "<init>") (hK : KK G s) (hP : va_P G.1 vwCl ws H) (hD : va_D A ws) (hS : va_S A H0 H locs) (q0 : Nat) {fs : List Value} {v : Value} {ws' : va_W} (he : ws[q0]? = some (a, .inr (12, fs))) (hl : 21 < fs.length) (hws : ws.set q0 (a, .inr (12, fs.set 21 v)) = ws') (hn : narrow (.array .int) v = v) (hfit : fits (.array .int) v = true) (hdg : decode b0 pc = .ok (.putfield 32, 3)) (kk : ∀ (H1 : Heap) (locs1 : List Loc), va_P G.1 vwCl ws' H1 → va_D A ws' → va_S A H0 H1 locs1 → W p l e R s m args below meth c H1 locs1 cells slots Q (F0 m (pc + 3) ls rest)) : W p l e R s m args below meth c H locs cells slots Q (F0 m pc ls (v :: .ref a :: rest)) := by
  obtain ⟨hx, hb, hr, hml, hB, hown, hlocks, hnm⟩ := hC
  rw [hy0] at hown
  subst hws
  exact va_putF (ci := 12) (ty := (.array .int)) (C := RX12) (T := TX12) (N := 41) hx hb hB in_X12 tyX12 tyX12_ok nmX12 hown hK.1 hP hD hS q0 he rfl 21 (by decide) (hB _ m_1051) (fun _ h => h) rfl (hnm.trans hin) rfl (by decide +kernel) hn hfit hl hdg kk
theorem dX12_init_68 : decode cX12_init 68 = .ok (.aload_n 0, 1) := by decide +kernel
theorem dX12_init_69 : decode cX12_init 69 = .ok (.bipush 100, 2) := by decide +kernel
theorem dX12_init_71 : decode cX12_init 71 = .ok (.newarray .int, 2) := by decide +kernel
theorem dX12_init_73 : decode cX12_init 73 = .ok (.putfield 35, 3) := by decide +kernel
theorem pf_X12_35 (hC : CX p s m meth c y0 b0 mL0 rt0 args) (hy0 : y0.cls = RX12) (hin : y0.name = "<init>") (hK : KK G s) (hP : va_P G.1 vwCl ws H) (hD : va_D A ws) (hS : va_S A H0 H locs) (q0 : Nat) {fs : List Value} {v : Value} {ws' : va_W} (he : ws[q0]? = some (a, .inr (12, fs))) (hl : 22 < fs.length) (hws : ws.set q0 (a, .inr (12, fs.set 22 v)) = ws') (hn : narrow (.array .int) v = v) (hfit : fits (.array .int) v = true) (hdg : decode b0 pc = .ok (.putfield 35, 3)) (kk : ∀ (H1 : Heap) (locs1 : List Loc), va_P G.1 vwCl ws' H1 → va_D A ws' → va_S A H0 H1 locs1 → W p l e R s m args below meth c H1 locs1 cells slots Q (F0 m (pc + 3) ls rest)) : W p l e R s m args below meth c H locs cells slots Q (F0 m pc ls (v :: .ref a :: rest)) := by
  obtain ⟨hx, hb, hr, hml, hB, hown, hlocks, hnm⟩ := hC
  rw [hy0] at hown
  subst hws
  exact va_putF (ci := 12) (ty := (.array .int)) (C := RX12) (T := TX12) (N := 41) hx hb hB in_X12 tyX12 tyX12_ok nmX12 hown hK.1 hP hD hS q0 he rfl 22 (by decide) (hB _ m_1052) (fun _ h => h) rfl (hnm.trans hin) rfl (by decide +kernel) hn hfit hl hdg kk
theorem dX12_init_76 : decode cX12_init 76 = .ok (.aload_n 0, 1) := by decide +kernel
theorem dX12_init_77 : decode cX12_init 77 = .ok (.iconst 5, 1) := by decide +kernel
theorem dX12_init_78 : decode cX12_init 78 = .ok (.anewarray 38, 3) := by decide +kernel
theorem m_1029 : Cond.classLink RX12 38 RJ0 ∈ BW := iB_BW54 _ (List.mem_of_getElem? (i := 18) rfl)
theorem dX12_init_81 : decode cX12_init 81 = .ok (.dup, 1) := by decide +kernel
theorem dX12_init_82 : decode cX12_init 82 = .ok (.iconst 0, 1) := by decide +kernel
theorem dX12_init_83 : decode cX12_init 83 = .ok (.ldc 40, 2) := by decide +kernel
theorem dX12_init_85 : decode cX12_init 85 = .ok (.aastore, 1) := by decide +kernel
theorem dX12_init_86 : decode cX12_init 86 = .ok (.dup, 1) := by decide +kernel
theorem dX12_init_87 : decode cX12_init 87 = .ok (.iconst 1, 1) := by decide +kernel
theorem dX12_init_88 : decode cX12_init 88 = .ok (.ldc 42, 2) := by decide +kernel
theorem dX12_init_90 : decode cX12_init 90 = .ok (.aastore, 1) := by decide +kernel
theorem dX12_init_91 : decode cX12_init 91 = .ok (.dup, 1) := by decide +kernel
theorem dX12_init_92 : decode cX12_init 92 = .ok (.iconst 2, 1) := by decide +kernel
theorem dX12_init_93 : decode cX12_init 93 = .ok (.ldc 44, 2) := by decide +kernel
theorem dX12_init_95 : decode cX12_init 95 = .ok (.aastore, 1) := by decide +kernel
theorem dX12_init_96 : decode cX12_init 96 = .ok (.dup, 1) := by decide +kernel
theorem dX12_init_97 : decode cX12_init 97 = .ok (.iconst 3, 1) := by decide +kernel
theorem dX12_init_98 : decode cX12_init 98 = .ok (.ldc 46, 2) := by decide +kernel
theorem dX12_init_100 : decode cX12_init 100 = .ok (.aastore, 1) := by decide +kernel
theorem dX12_init_101 : decode cX12_init 101 = .ok (.dup, 1) := by decide +kernel
theorem dX12_init_102 : decode cX12_init 102 = .ok (.iconst 4, 1) := by decide +kernel
theorem dX12_init_103 : decode cX12_init 103 = .ok (.ldc 48, 2) := by decide +kernel
theorem dX12_init_105 : decode cX12_init 105 = .ok (.aastore, 1) := by decide +kernel
theorem dX12_init_106 : decode cX12_init 106 = .ok (.putfield 50, 3) := by decide +kernel
theorem pf_X12_50 (hC : CX p s m meth c y0 b0 mL0 rt0 args) (hy0 : y0.cls = RX12) (hin : y0.name = "<init>") (hK : KK G s) (hP : va_P G.1 vwCl ws H) (hD : va_D A ws) (hS : va_S A H0 H locs) (q0 : Nat) {fs : List Value} {v : Value} {ws' : va_W} (he : ws[q0]? = some (a, .inr (12, fs))) (hl : 23 < fs.length) (hws : ws.set q0 (a, .inr (12, fs.set 23 v)) = ws') (hn : narrow (.array (.object "java/lang/String")) v = v) (hfit : fits (.array (.object "java/lang/String")) v = true) (hdg : decode b0 pc = .ok (.putfield 50, 3)) (kk : ∀ (H1 : Heap) (locs1 : List Loc), va_P G.1 vwCl ws' H1 → va_D A ws' → va_S A H0 H1 locs1 → W p l e R s m args below meth c H1 locs1 cells slots Q (F0 m (pc + 3) ls rest)) : W p l e R s m args below meth c H locs cells slots Q (F0 m pc ls (v :: .ref a :: rest)) := by
  obtain ⟨hx, hb, hr, hml, hB, hown, hlocks, hnm⟩ := hC
  rw [hy0] at hown
  subst hws
  exact va_putF (ci := 12) (ty := (.array (.object "java/lang/String"))) (C := RX12) (T := TX12) (N := 41) hx hb hB in_X12 tyX12 tyX12_ok nmX12 hown hK.1 hP hD hS q0 he rfl 23 (by decide) (hB _ m_1053) (fun _ h => h) rfl (hnm.trans hin) rfl (by decide +kernel) hn hfit hl hdg kk
theorem dX12_init_109 : decode cX12_init 109 = .ok (.aload_n 0, 1) := by decide +kernel
theorem dX12_init_110 : decode cX12_init 110 = .ok (.bipush 100, 2) := by decide +kernel
theorem dX12_init_112 : decode cX12_init 112 = .ok (.newarray .int, 2) := by decide +kernel
theorem dX12_init_114 : decode cX12_init 114 = .ok (.putfield 54, 3) := by decide +kernel
theorem pf_X12_54 (hC : CX p s m meth c y0 b0 mL0 rt0 args) (hy0 : y0.cls = RX12) (hin : y0.name = "<init>") (hK : KK G s) (hP : va_P G.1 vwCl ws H) (hD : va_D A ws) (hS : va_S A H0 H locs) (q0 : Nat) {fs : List Value} {v : Value} {ws' : va_W} (he : ws[q0]? = some (a, .inr (12, fs))) (hl : 24 < fs.length) (hws : ws.set q0 (a, .inr (12, fs.set 24 v)) = ws') (hn : narrow (.array .int) v = v) (hfit : fits (.array .int) v = true) (hdg : decode b0 pc = .ok (.putfield 54, 3)) (kk : ∀ (H1 : Heap) (locs1 : List Loc), va_P G.1 vwCl ws' H1 → va_D A ws' → va_S A H0 H1 locs1 → W p l e R s m args below meth c H1 locs1 cells slots Q (F0 m (pc + 3) ls rest)) : W p l e R s m args below meth c H locs cells slots Q (F0 m pc ls (v :: .ref a :: rest)) := by
  obtain ⟨hx, hb, hr, hml, hB, hown, hlocks, hnm⟩ := hC
  rw [hy0] at hown
  subst hws
  exact va_putF (ci := 12) (ty := (.array .int)) (C := RX12) (T := TX12) (N := 41) hx hb hB in_X12 tyX12 tyX12_ok nmX12 hown hK.1 hP hD hS q0 he rfl 24 (by decide) (hB _ m_1054) (fun _ h => h) rfl (hnm.trans hin) rfl (by decide +kernel) hn hfit hl hdg kk
theorem dX12_init_117 : decode cX12_init 117 = .ok (.aload_n 0, 1) := by decide +kernel
theorem dX12_init_118 : decode cX12_init 118 = .ok (.bipush 7, 2) := by decide +kernel
theorem dX12_init_120 : decode cX12_init 120 = .ok (.newarray .int, 2) := by decide +kernel
theorem dX12_init_122 : decode cX12_init 122 = .ok (.putfield 57, 3) := by decide +kernel
theorem pf_X12_57 (hC : CX p s m meth c y0 b0 mL0 rt0 args) (hy0 : y0.cls = RX12) (hin : y0.name = "<init>") (hK : KK G s) (hP : va_P G.1 vwCl ws H) (hD : va_D A ws) (hS : va_S A H0 H locs) (q0 : Nat) {fs : List Value} {v : Value} {ws' : va_W} (he : ws[q0]? = some (a, .inr (12, fs))) (hl : 25 < fs.length) (hws : ws.set q0 (a, .inr (12, fs.set 25 v)) = ws') (hn : narrow (.array .int) v = v) (hfit : fits (.array .int) v = true) (hdg : decode b0 pc = .ok (.putfield 57, 3)) (kk : ∀ (H1 : Heap) (locs1 : List Loc), va_P G.1 vwCl ws' H1 → va_D A ws' → va_S A H0 H1 locs1 → W p l e R s m args below meth c H1 locs1 cells slots Q (F0 m (pc + 3) ls rest)) : W p l e R s m args below meth c H locs cells slots Q (F0 m pc ls (v :: .ref a :: rest)) := by
  obtain ⟨hx, hb, hr, hml, hB, hown, hlocks, hnm⟩ := hC
  rw [hy0] at hown
  subst hws
  exact va_putF (ci := 12) (ty := (.array .int)) (C := RX12) (T := TX12) (N := 41) hx hb hB in_X12 tyX12 tyX12_ok nmX12 hown hK.1 hP hD hS q0 he rfl 25 (by decide) (hB _ m_1055) (fun _ h => h) rfl (hnm.trans hin) rfl (by decide +kernel) hn hfit hl hdg kk
theorem dX12_init_125 : decode cX12_init 125 = .ok (.aload_n 0, 1) := by decide +kernel
theorem dX12_init_126 : decode cX12_init 126 = .ok (.bipush 7, 2) := by decide +kernel
theorem dX12_init_128 : decode cX12_init 128 = .ok (.newarray .int, 2) := by decide +kernel
theorem dX12_init_130 : decode cX12_init 130 = .ok (.putfield 60, 3) := by decide +kernel
theorem pf_X12_60 (hC : CX p s m meth c y0 b0 mL0 rt0 args) (hy0 : y0.cls = RX12) (hin : y0.name = "<init>") (hK : KK G s) (hP : va_P G.1 vwCl ws H) (hD : va_D A ws) (hS : va_S A H0 H locs) (q0 : Nat) {fs : List Value} {v : Value} {ws' : va_W} (he : ws[q0]? = some (a, .inr (12, fs))) (hl : 26 < fs.length) (hws : ws.set q0 (a, .inr (12, fs.set 26 v)) = ws') (hn : narrow (.array .int) v = v) (hfit : fits (.array .int) v = true) (hdg : decode b0 pc = .ok (.putfield 60, 3)) (kk : ∀ (H1 : Heap) (locs1 : List Loc), va_P G.1 vwCl ws' H1 → va_D A ws' → va_S A H0 H1 locs1 → W p l e R s m args below meth c H1 locs1 cells slots Q (F0 m (pc + 3) ls rest)) : W p l e R s m args below meth c H locs cells slots Q (F0 m pc ls (v :: .ref a :: rest)) := by
  obtain ⟨hx, hb, hr, hml, hB, hown, hlocks, hnm⟩ := hC
  rw [hy0] at hown
  subst hws
  exact va_putF (ci := 12) (ty := (.array .int)) (C := RX12) (T := TX12) (N := 41) hx hb hB in_X12 tyX12 tyX12_ok nmX12 hown hK.1 hP hD hS q0 he rfl 26 (by decide) (hB _ m_1056) (fun _ h => h) rfl (hnm.trans hin) rfl (by decide +kernel) hn hfit hl hdg kk
theorem dX12_init_133 : decode cX12_init 133 = .ok (.aload_n 0, 1) := by decide +kernel
theorem dX12_init_134 : decode cX12_init 134 = .ok (.iconst 4, 1) := by decide +kernel
theorem dX12_init_135 : decode cX12_init 135 = .ok (.newarray .int, 2) := by decide +kernel
theorem dX12_init_137 : decode cX12_init 137 = .ok (.putfield 63, 3) := by decide +kernel
theorem pf_X12_63 (hC : CX p s m meth c y0 b0 mL0 rt0 args) (hy0 : y0.cls = RX12) (hin : y0.name = "<init>") (hK : KK G s) (hP : va_P G.1 vwCl ws H) (hD : va_D A ws) (hS : va_S A H0 H locs) (q0 : Nat) {fs : List Value} {v : Value} {ws' : va_W} (he : ws[q0]? = some (a, .inr (12, fs))) (hl : 28 < fs.length) (hws : ws.set q0 (a, .inr (12, fs.set 28 v)) = ws') (hn : narrow (.array .int) v = v) (hfit : fits (.array .int) v = true) (hdg : decode b0 pc = .ok (.putfield 63, 3)) (kk : ∀ (H1 : Heap) (locs1 : List Loc), va_P G.1 vwCl ws' H1 → va_D A ws' → va_S A H0 H1 locs1 → W p l e R s m args below meth c H1 locs1 cells slots Q (F0 m (pc + 3) ls rest)) : W p l e R s m args below meth c H locs cells slots Q (F0 m pc ls (v :: .ref a :: rest)) := by
  obtain ⟨hx, hb, hr, hml, hB, hown, hlocks, hnm⟩ := hC
  rw [hy0] at hown
  subst hws
  exact va_putF (ci := 12) (ty := (.array .int)) (C := RX12) (T := TX12) (N := 41) hx hb hB in_X12 tyX12 tyX12_ok nmX12 hown hK.1 hP hD hS q0 he rfl 28 (by decide) (hB _ m_1058) (fun _ h => h) rfl (hnm.trans hin) rfl (by decide +kernel) hn hfit hl hdg kk
theorem dX12_init_140 : decode cX12_init 140 = .ok (.aload_n 0, 1) := by decide +kernel
theorem dX12_init_141 : decode cX12_init 141 = .ok (.iconst 4, 1) := by decide +kernel
theorem dX12_init_142 : decode cX12_init 142 = .ok (.newarray .int, 2) := by decide +kernel
theorem dX12_init_144 : decode cX12_init 144 = .ok (.putfield 66, 3) := by decide +kernel
theorem pf_X12_66 (hC : CX p s m meth c y0 b0 mL0 rt0 args) (hy0 : y0.cls = RX12) (hin : y0.name = "<init>") (hK : KK G s) (hP : va_P G.1 vwCl ws H) (hD : va_D A ws) (hS : va_S A H0 H locs) (q0 : Nat) {fs : List Value} {v : Value} {ws' : va_W} (he : ws[q0]? = some (a, .inr (12, fs))) (hl : 29 < fs.length) (hws : ws.set q0 (a, .inr (12, fs.set 29 v)) = ws') (hn : narrow (.array .int) v = v) (hfit : fits (.array .int) v = true) (hdg : decode b0 pc = .ok (.putfield 66, 3)) (kk : ∀ (H1 : Heap) (locs1 : List Loc), va_P G.1 vwCl ws' H1 → va_D A ws' → va_S A H0 H1 locs1 → W p l e R s m args below meth c H1 locs1 cells slots Q (F0 m (pc + 3) ls rest)) : W p l e R s m args below meth c H locs cells slots Q (F0 m pc ls (v :: .ref a :: rest)) := by
  obtain ⟨hx, hb, hr, hml, hB, hown, hlocks, hnm⟩ := hC
  rw [hy0] at hown
  subst hws
  exact va_putF (ci := 12) (ty := (.array .int)) (C := RX12) (T := TX12) (N := 41) hx hb hB in_X12 tyX12 tyX12_ok nmX12 hown hK.1 hP hD hS q0 he rfl 29 (by decide) (hB _ m_1059) (fun _ h => h) rfl (hnm.trans hin) rfl (by decide +kernel) hn hfit hl hdg kk
theorem dX12_init_147 : decode cX12_init 147 = .ok (.aload_n 0, 1) := by decide +kernel
theorem dX12_init_148 : decode cX12_init 148 = .ok (.sipush 160, 3) := by decide +kernel
theorem dX12_init_151 : decode cX12_init 151 = .ok (.newarray .int, 2) := by decide +kernel
theorem dX12_init_153 : decode cX12_init 153 = .ok (.putfield 69, 3) := by decide +kernel
theorem pf_X12_69 (hC : CX p s m meth c y0 b0 mL0 rt0 args) (hy0 : y0.cls = RX12) (hin : y0.name = "<init>") (hK : KK G s) (hP : va_P G.1 vwCl ws H) (hD : va_D A ws) (hS : va_S A H0 H locs) (q0 : Nat) {fs : List Value} {v : Value} {ws' : va_W} (he : ws[q0]? = some (a, .inr (12, fs))) (hl : 30 < fs.length) (hws : ws.set q0 (a, .inr (12, fs.set 30 v)) = ws') (hn : narrow (.array .int) v = v) (hfit : fits (.array .int) v = true) (hdg : decode b0 pc = .ok (.putfield 69, 3)) (kk : ∀ (H1 : Heap) (locs1 : List Loc), va_P G.1 vwCl ws' H1 → va_D A ws' → va_S A H0 H1 locs1 → W p l e R s m args below meth c H1 locs1 cells slots Q (F0 m (pc + 3) ls rest)) : W p l e R s m args below meth c H locs cells slots Q (F0 m pc ls (v :: .ref a :: rest)) := by
  obtain ⟨hx, hb, hr, hml, hB, hown, hlocks, hnm⟩ := hC
  rw [hy0] at hown
  subst hws
  exact va_putF (ci := 12) (ty := (.array .int)) (C := RX12) (T := TX12) (N := 41) hx hb hB in_X12 tyX12 tyX12_ok nmX12 hown hK.1 hP hD hS q0 he rfl 30 (by decide) (hB _ m_1060) (fun _ h => h) rfl (hnm.trans hin) rfl (by decide +kernel) hn hfit hl hdg kk
theorem dX12_init_156 : decode cX12_init 156 = .ok (.aload_n 0, 1) := by decide +kernel
theorem dX12_init_157 : decode cX12_init 157 = .ok (.iconst 4, 1) := by decide +kernel
theorem dX12_init_158 : decode cX12_init 158 = .ok (.newarray .int, 2) := by decide +kernel
theorem dX12_init_160 : decode cX12_init 160 = .ok (.putfield 72, 3) := by decide +kernel
theorem pf_X12_72 (hC : CX p s m meth c y0 b0 mL0 rt0 args) (hy0 : y0.cls = RX12) (hin : y0.name = "<init>") (hK : KK G s) (hP : va_P G.1 vwCl ws H) (hD : va_D A ws) (hS : va_S A H0 H locs) (q0 : Nat) {fs : List Value} {v : Value} {ws' : va_W} (he : ws[q0]? = some (a, .inr (12, fs))) (hl : 31 < fs.length) (hws : ws.set q0 (a, .inr (12, fs.set 31 v)) = ws') (hn : narrow (.array .int) v = v) (hfit : fits (.array .int) v = true) (hdg : decode b0 pc = .ok (.putfield 72, 3)) (kk : ∀ (H1 : Heap) (locs1 : List Loc), va_P G.1 vwCl ws' H1 → va_D A ws' → va_S A H0 H1 locs1 → W p l e R s m args below meth c H1 locs1 cells slots Q (F0 m (pc + 3) ls rest)) : W p l e R s m args below meth c H locs cells slots Q (F0 m pc ls (v :: .ref a :: rest)) := by
  obtain ⟨hx, hb, hr, hml, hB, hown, hlocks, hnm⟩ := hC
  rw [hy0] at hown
  subst hws
  exact va_putF (ci := 12) (ty := (.array .int)) (C := RX12) (T := TX12) (N := 41) hx hb hB in_X12 tyX12 tyX12_ok nmX12 hown hK.1 hP hD hS q0 he rfl 31 (by decide) (hB _ m_1061) (fun _ h => h) rfl (hnm.trans hin) rfl (by decide +kernel) hn hfit hl hdg kk
theorem dX12_init_163 : decode cX12_init 163 = .ok (.aload_n 0, 1) := by decide +kernel
theorem dX12_init_164 : decode cX12_init 164 = .ok (.iconst 4, 1) := by decide +kernel
theorem dX12_init_165 : decode cX12_init 165 = .ok (.newarray .int, 2) := by decide +kernel
theorem dX12_init_167 : decode cX12_init 167 = .ok (.putfield 75, 3) := by decide +kernel
theorem pf_X12_75 (hC : CX p s m meth c y0 b0 mL0 rt0 args) (hy0 : y0.cls = RX12) (hin : y0.name = "<init>") (hK : KK G s) (hP : va_P G.1 vwCl ws H) (hD : va_D A ws) (hS : va_S A H0 H locs) (q0 : Nat) {fs : List Value} {v : Value} {ws' : va_W} (he : ws[q0]? = some (a, .inr (12, fs))) (hl : 32 < fs.length) (hws : ws.set q0 (a, .inr (12, fs.set 32 v)) = ws') (hn : narrow (.array .int) v = v) (hfit : fits (.array .int) v = true) (hdg : decode b0 pc = .ok (.putfield 75, 3)) (kk : ∀ (H1 : Heap) (locs1 : List Loc), va_P G.1 vwCl ws' H1 → va_D A ws' → va_S A H0 H1 locs1 → W p l e R s m args below meth c H1 locs1 cells slots Q (F0 m (pc + 3) ls rest)) : W p l e R s m args below meth c H locs cells slots Q (F0 m pc ls (v :: .ref a :: rest)) := by
  obtain ⟨hx, hb, hr, hml, hB, hown, hlocks, hnm⟩ := hC
  rw [hy0] at hown
  subst hws
  exact va_putF (ci := 12) (ty := (.array .int)) (C := RX12) (T := TX12) (N := 41) hx hb hB in_X12 tyX12 tyX12_ok nmX12 hown hK.1 hP hD hS q0 he rfl 32 (by decide) (hB _ m_1062) (fun _ h => h) rfl (hnm.trans hin) rfl (by decide +kernel) hn hfit hl hdg kk
theorem dX12_init_170 : decode cX12_init 170 = .ok (.aload_n 0, 1) := by decide +kernel
theorem dX12_init_171 : decode cX12_init 171 = .ok (.iconst 4, 1) := by decide +kernel
theorem dX12_init_172 : decode cX12_init 172 = .ok (.newarray .int, 2) := by decide +kernel
theorem dX12_init_174 : decode cX12_init 174 = .ok (.putfield 78, 3) := by decide +kernel
theorem pf_X12_78 (hC : CX p s m meth c y0 b0 mL0 rt0 args) (hy0 : y0.cls = RX12) (hin : y0.name = "<init>") (hK : KK G s) (hP : va_P G.1 vwCl ws H) (hD : va_D A ws) (hS : va_S A H0 H locs) (q0 : Nat) {fs : List Value} {v : Value} {ws' : va_W} (he : ws[q0]? = some (a, .inr (12, fs))) (hl : 33 < fs.length) (hws : ws.set q0 (a, .inr (12, fs.set 33 v)) = ws') (hn : narrow (.array .int) v = v) (hfit : fits (.array .int) v = true) (hdg : decode b0 pc = .ok (.putfield 78, 3)) (kk : ∀ (H1 : Heap) (locs1 : List Loc), va_P G.1 vwCl ws' H1 → va_D A ws' → va_S A H0 H1 locs1 → W p l e R s m args below meth c H1 locs1 cells slots Q (F0 m (pc + 3) ls rest)) : W p l e R s m args below meth c H locs cells slots Q (F0 m pc ls (v :: .ref a :: rest)) := by
  obtain ⟨hx, hb, hr, hml, hB, hown, hlocks, hnm⟩ := hC
  rw [hy0] at hown
  subst hws
  exact va_putF (ci := 12) (ty := (.array .int)) (C := RX12) (T := TX12) (N := 41) hx hb hB in_X12 tyX12 tyX12_ok nmX12 hown hK.1 hP hD hS q0 he rfl 33 (by decide) (hB _ m_1063) (fun _ h => h) rfl (hnm.trans hin) rfl (by decide +kernel) hn hfit hl hdg kk
theorem dX12_init_177 : decode cX12_init 177 = .ok (.aload_n 0, 1) := by decide +kernel
theorem dX12_init_178 : decode cX12_init 178 = .ok (.bipush 30, 2) := by decide +kernel
theorem dX12_init_180 : decode cX12_init 180 = .ok (.newarray .int, 2) := by decide +kernel
theorem dX12_init_182 : decode cX12_init 182 = .ok (.putfield 81, 3) := by decide +kernel
theorem pf_X12_81 (hC : CX p s m meth c y0 b0 mL0 rt0 args) (hy0 : y0.cls = RX12) (hin : y0.name = "<init>") (hK : KK G s) (hP : va_P G.1 vwCl ws H) (hD : va_D A ws) (hS : va_S A H0 H locs) (q0 : Nat) {fs : List Value} {v : Value} {ws' : va_W} (he : ws[q0]? = some (a, .inr (12, fs))) (hl : 34 < fs.length) (hws : ws.set q0 (a, .inr (12, fs.set 34 v)) = ws') (hn : narrow (.array .int) v = v) (hfit : fits (.array .int) v = true) (hdg : decode b0 pc = .ok (.putfield 81, 3)) (kk : ∀ (H1 : Heap) (locs1 : List Loc), va_P G.1 vwCl ws' H1 → va_D A ws' → va_S A H0 H1 locs1 → W p l e R s m args below meth c H1 locs1 cells slots Q (F0 m (pc + 3) ls rest)) : W p l e R s m args below meth c H locs cells slots Q (F0 m pc ls (v :: .ref a :: rest)) := by
  obtain ⟨hx, hb, hr, hml, hB, hown, hlocks, hnm⟩ := hC
  rw [hy0] at hown
  subst hws
  exact va_putF (ci := 12) (ty := (.array .int)) (C := RX12) (T := TX12) (N := 41) hx hb hB in_X12 tyX12 tyX12_ok nmX12 hown hK.1 hP hD hS q0 he rfl 34 (by decide) (hB _ m_1064) (fun _ h => h) rfl (hnm.trans hin) rfl (by decide +kernel) hn hfit hl hdg kk
theorem dX12_init_185 : decode cX12_init 185 = .ok (.aload_n 0, 1) := by decide +kernel
theorem dX12_init_186 : decode cX12_init 186 = .ok (.getfield 9, 3) := by decide +kernel
theorem dX12_init_189 : decode cX12_init 189 = .ok (.iconst 1, 1) := by decide +kernel
theorem dX12_init_190 : decode cX12_init 190 = .ok (.iconst (-1), 1) := by decide +kernel
theorem dX12_init_191 : decode cX12_init 191 = .ok (.iastore, 1) := by decide +kernel
theorem dX12_init_192 : decode cX12_init 192 = .ok (.aload_n 0, 1) := by decide +kernel
theorem dX12_init_193 : decode cX12_init 193 = .ok (.getfield 9, 3) := by decide +kernel
theorem dX12_init_196 : decode cX12_init 196 = .ok (.iconst 2, 1) := by decide +kernel
theorem dX12_init_197 : decode cX12_init 197 = .ok (.iconst 3, 1) := by decide +kernel
theorem dX12_init_198 : decode cX12_init 198 = .ok (.iastore, 1) := by decide +kernel
theorem dX12_init_199 : decode cX12_init 199 = .ok (.aload_n 0, 1) := by decide +kernel
theorem dX12_init_200 : decode cX12_init 200 = .ok (.getfield 9, 3) := by decide +kernel
theorem dX12_init_203 : decode cX12_init 203 = .ok (.iconst 3, 1) := by decide +kernel
theorem dX12_init_204 : decode cX12_init 204 = .ok (.bipush 24, 2) := by decide +kernel
theorem dX12_init_206 : decode cX12_init 206 = .ok (.iastore, 1) := by decide +kernel
theorem dX12_init_207 : decode cX12_init 207 = .ok (.iconst 0, 1) := by decide +kernel
theorem dX12_init_208 : decode cX12_init 208 = .ok (.istore_n 1, 1) := by decide +kernel
theorem dX12_init_209 : decode cX12_init 209 = .ok (.iload_n 1, 1) := by decide +kernel
theorem dX12_init_210 : decode cX12_init 210 = .ok (.iconst 4, 1) := by decide +kernel
theorem dX12_init_211 : decode cX12_init 211 = .ok (.if_icmp .ge 16, 3) := by decide +kernel
theorem dX12_init_214 : decode cX12_init 214 = .ok (.aload_n 0, 1) := by decide +kernel
theorem dX12_init_215 : decode cX12_init 215 = .ok (.getfield 63, 3) := by decide +kernel
theorem dX12_init_218 : decode cX12_init 218 = .ok (.iload_n 1, 1) := by decide +kernel
theorem dX12_init_219 : decode cX12_init 219 = .ok (.iconst (-1), 1) := by decide +kernel
theorem dX12_init_220 : decode cX12_init 220 = .ok (.iastore, 1) := by decide +kernel
theorem dX12_init_221 : decode cX12_init 221 = .ok (.iinc 1 1, 3) := by decide +kernel
theorem dX12_init_224 : decode cX12_init 224 = .ok (.goto (-15), 3) := by decide +kernel
theorem dX12_init_227 : decode cX12_init 227 = .ok (.return_, 1) := by decide +kernel
end WR
theorem dj_5__0_1_2_3_4 : ∀ i ∈ ([0, 1, 2, 3, 4] : List Nat), i ∉ ([5] : List Nat) := by decide
theorem dj_7__0_1_2_3_4_5_6 : ∀ i ∈ ([0, 1, 2, 3, 4, 5, 6] : List Nat), i ∉ ([7] : List Nat) := by decide
theorem sm_0_1_2_3_4_5_6_7_8 {a0 a1 a2 a3 a4 a5 a6 a7 a8 : Nat × va_E} {l : va_W} : ([0, 1, 2, 3, 4, 5, 6, 7, 8] : List Nat).map (fun i => (a0 :: a1 :: a2 :: a3 :: a4 :: a5 :: a6 :: a7 :: a8 :: l : va_W)[i]?) = ([a0, a1, a2, a3, a4, a5, a6, a7, a8] : va_W).map some := rfl
theorem nd_0_1_2_3_4_5_6_7_8 : va_nd [0, 1, 2, 3, 4, 5, 6, 7, 8] = true := by decide
theorem dj_9__0_1_2_3_4_5_6_7_8 : ∀ i ∈ ([0, 1, 2, 3, 4, 5, 6, 7, 8] : List Nat), i ∉ ([9] : List Nat) := by decide
theorem dj_11__0_1_2_3_4_5_6_7_8_9_10 : ∀ i ∈ ([0, 1, 2, 3, 4, 5, 6, 7, 8, 9, 10] : List Nat), i ∉ ([11] : List Nat) := by decide
theorem sm_13 {a0 a1 a2 a3 a4 a5 a6 a7 a8 a9 a10 a11 a12 a13 : Nat × va_E} {l : va_W} : ([13] : List Nat).map (fun i => (a0 :: a1 :: a2 :: a3 :: a4 :: a5 :: a6 :: a7 :: a8 :: a9 :: a10 :: a11 :: a12 :: a13 :: l : va_W)[i]?) = ([a13] : va_W).map some := rfl
theorem fm_13 {a0 a1 a2 a3 a4 a5 a6 a7 a8 a9 a10 a11 a12 a13 : Nat × va_E} {l : va_W} : ([13] : List Nat).filterMap (fun i => (a0 :: a1 :: a2 :: a3 :: a4 :: a5 :: a6 :: a7 :: a8 :: a9 :: a10 :: a11 :: a12 :: a13 :: l : va_W)[i]?) = ([a13] : va_W) := rfl
theorem nd_13 : va_nd [13] = true := by decide
theorem sm_0_1_2_3_4_5_6_7_8_9_10_11_12 {a0 a1 a2 a3 a4 a5 a6 a7 a8 a9 a10 a11 a12 : Nat × va_E} {l : va_W} : ([0, 1, 2, 3, 4, 5, 6, 7, 8, 9, 10, 11, 12] : List Nat).map (fun i => (a0 :: a1 :: a2 :: a3 :: a4 :: a5 :: a6 :: a7 :: a8 :: a9 :: a10 :: a11 :: a12 :: l : va_W)[i]?) = ([a0, a1, a2, a3, a4, a5, a6, a7, a8, a9, a10, a11, a12] : va_W).map some := rfl
theorem nd_0_1_2_3_4_5_6_7_8_9_10_11_12 : va_nd [0, 1, 2, 3, 4, 5, 6, 7, 8, 9, 10, 11, 12] = true := by decide
theorem dj_13__0_1_2_3_4_5_6_7_8_9_10_11_12 : ∀ i ∈ ([0, 1, 2, 3, 4, 5, 6, 7, 8, 9, 10, 11, 12] : List Nat), i ∉ ([13] : List Nat) := by decide
theorem sm_0_1_2_3_4_5_6_7_8_9_10_11_12_13_14 {a0 a1 a2 a3 a4 a5 a6 a7 a8 a9 a10 a11 a12 a13 a14 : Nat × va_E} {l : va_W} : ([0, 1, 2, 3, 4, 5, 6, 7, 8, 9, 10, 11, 12, 13, 14] : List Nat).map (fun i => (a0 :: a1 :: a2 :: a3 :: a4 :: a5 :: a6 :: a7 :: a8 :: a9 :: a10 :: a11 :: a12 :: a13 :: a14 :: l : va_W)[i]?) = ([a0, a1, a2, a3, a4, a5, a6, a7, a8, a9, a10, a11, a12, a13, a14] : va_W).map some := rfl
theorem nd_0_1_2_3_4_5_6_7_8_9_10_11_12_13_14 : va_nd [0, 1, 2, 3, 4, 5, 6, 7, 8, 9, 10, 11, 12, 13, 14] = true := by decide
theorem dj_15__0_1_2_3_4_5_6_7_8_9_10_11_12_13_14 : ∀ i ∈ ([0, 1, 2, 3, 4, 5, 6, 7, 8, 9, 10, 11, 12, 13, 14] : List Nat), i ∉ ([15] : List Nat) := by decide
theorem sm_17 {a0 a1 a2 a3 a4 a5 a6 a7 a8 a9 a10 a11 a12 a13 a14 a15 a16 a17 : Nat × va_E} {l : va_W} : ([17] : List Nat).map (fun i => (a0 :: a1 :: a2 :: a3 :: a4 :: a5 :: a6 :: a7 :: a8 :: a9 :: a10 :: a11 :: a12 :: a13 :: a14 :: a15 :: a16 :: a17 :: l : va_W)[i]?) = ([a17] : va_W).map some := rfl
theorem fm_17 {a0 a1 a2 a3 a4 a5 a6 a7 a8 a9 a10 a11 a12 a13 a14 a15 a16 a17 : Nat × va_E} {l : va_W} : ([17] : List Nat).filterMap (fun i => (a0 :: a1 :: a2 :: a3 :: a4 :: a5 :: a6 :: a7 :: a8 :: a9 :: a10 :: a11 :: a12 :: a13 :: a14 :: a15 :: a16 :: a17 :: l : va_W)[i]?) = ([a17] : va_W) := rfl
theorem nd_17 : va_nd [17] = true := by decide
theorem sm_0_1_2_3_4_5_6_7_8_9_10_11_12_13_14_15_16 {a0 a1 a2 a3 a4 a5 a6 a7 a8 a9 a10 a11 a12 a13 a14 a15 a16 : Nat × va_E} {l : va_W} : ([0, 1, 2, 3, 4, 5, 6, 7, 8, 9, 10, 11, 12, 13, 14, 15, 16] : List Nat).map (fun i => (a0 :: a1 :: a2 :: a3 :: a4 :: a5 :: a6 :: a7 :: a8 :: a9 :: a10 :: a11 :: a12 :: a13 :: a14 :: a15 :: a16 :: l : va_W)[i]?) = ([a0, a1, a2, a3, a4, a5, a6, a7, a8, a9, a10, a11, a12, a13, a14, a15, a16] : va_W).map some := rfl
theorem nd_0_1_2_3_4_5_6_7_8_9_10_11_12_13_14_15_16 : va_nd [0, 1, 2, 3, 4, 5, 6, 7, 8, 9, 10, 11, 12, 13, 14, 15, 16] = true := by decide
theorem dj_17__0_1_2_3_4_5_6_7_8_9_10_11_12_13_14_15_16 : ∀ i ∈ ([0, 1, 2, 3, 4, 5, 6, 7, 8, 9, 10, 11, 12, 13, 14, 15, 16] : List Nat), i ∉ ([17] : List Nat) := by decide
theorem sm_19 {a0 a1 a2 a3 a4 a5 a6 a7 a8 a9 a10 a11 a12 a13 a14 a15 a16 a17 a18 a19 : Nat × va_E} {l : va_W} : ([19] : List Nat).map (fun i => (a0 :: a1 :: a2 :: a3 :: a4 :: a5 :: a6 :: a7 :: a8 :: a9 :: a10 :: a11 :: a12 :: a13 :: a14 :: a15 :: a16 :: a17 :: a18 :: a19 :: l : va_W)[i]?) = ([a19] : va_W).map some := rfl
theorem fm_19 {a0 a1 a2 a3 a4 a5 a6 a7 a8 a9 a10 a11 a12 a13 a14 a15 a16 a17 a18 a19 : Nat × va_E} {l : va_W} : ([19] : List Nat).filterMap (fun i => (a0 :: a1 :: a2 :: a3 :: a4 :: a5 :: a6 :: a7 :: a8 :: a9 :: a10 :: a11 :: a12 :: a13 :: a14 :: a15 :: a16 :: a17 :: a18 :: a19 :: l : va_W)[i]?) = ([a19] : va_W) := rfl
theorem nd_19 : va_nd [19] = true := by decide
theorem sm_0_1_2_3_4_5_6_7_8_9_10_11_12_13_14_15_16_17_18 {a0 a1 a2 a3 a4 a5 a6 a7 a8 a9 a10 a11 a12 a13 a14 a15 a16 a17 a18 : Nat × va_E} {l : va_W} : ([0, 1, 2, 3, 4, 5, 6, 7, 8, 9, 10, 11, 12, 13, 14, 15, 16, 17, 18] : List Nat).map (fun i => (a0 :: a1 :: a2 :: a3 :: a4 :: a5 :: a6 :: a7 :: a8 :: a9 :: a10 :: a11 :: a12 :: a13 :: a14 :: a15 :: a16 :: a17 :: a18 :: l : va_W)[i]?) = ([a0, a1, a2, a3, a4, a5, a6, a7, a8, a9, a10, a11, a12, a13, a14, a15, a16, a17, a18] : va_W).map some := rfl
theorem nd_0_1_2_3_4_5_6_7_8_9_10_11_12_13_14_15_16_17_18 : va_nd [0, 1, 2, 3, 4, 5, 6, 7, 8, 9, 10, 11, 12, 13, 14, 15, 16, 17, 18] = true := by decide
theorem dj_19__0_1_2_3_4_5_6_7_8_9_10_11_12_13_14_15_16_17_18 : ∀ i ∈ ([0, 1, 2, 3, 4, 5, 6, 7, 8, 9, 10, 11, 12, 13, 14, 15, 16, 17, 18] : List Nat), i ∉ ([19] : List Nat) := by decide
theorem dj_8__0_1_2_3_4_5_6_7 : ∀ i ∈ ([0, 1, 2, 3, 4, 5, 6, 7] : List Nat), i ∉ ([8] : List Nat) := by decide
theorem dj_10__0_1_2_3_4_5_6_7_8_9 : ∀ i ∈ ([0, 1, 2, 3, 4, 5, 6, 7, 8, 9] : List Nat), i ∉ ([10] : List Nat) := by decide
theorem dj_12__0_1_2_3_4_5_6_7_8_9_10_11 : ∀ i ∈ ([0, 1, 2, 3, 4, 5, 6, 7, 8, 9, 10, 11] : List Nat), i ∉ ([12] : List Nat) := by decide
theorem sm_0_1_2_3_4_5_6_7_8_9_10_11_12_13 {a0 a1 a2 a3 a4 a5 a6 a7 a8 a9 a10 a11 a12 a13 : Nat × va_E} {l : va_W} : ([0, 1, 2, 3, 4, 5, 6, 7, 8, 9, 10, 11, 12, 13] : List Nat).map (fun i => (a0 :: a1 :: a2 :: a3 :: a4 :: a5 :: a6 :: a7 :: a8 :: a9 :: a10 :: a11 :: a12 :: a13 :: l : va_W)[i]?) = ([a0, a1, a2, a3, a4, a5, a6, a7, a8, a9, a10, a11, a12, a13] : va_W).map some := rfl
theorem nd_0_1_2_3_4_5_6_7_8_9_10_11_12_13 : va_nd [0, 1, 2, 3, 4, 5, 6, 7, 8, 9, 10, 11, 12, 13] = true := by decide
theorem dj_14__0_1_2_3_4_5_6_7_8_9_10_11_12_13 : ∀ i ∈ ([0, 1, 2, 3, 4, 5, 6, 7, 8, 9, 10, 11, 12, 13] : List Nat), i ∉ ([14] : List Nat) := by decide
theorem sm_0_1_2_3_4_5_6_7_8_9_10_11_12_13_14_15 {a0 a1 a2 a3 a4 a5 a6 a7 a8 a9 a10 a11 a12 a13 a14 a15 : Nat × va_E} {l : va_W} : ([0, 1, 2, 3, 4, 5, 6, 7, 8, 9, 10, 11, 12, 13, 14, 15] : List Nat).map (fun i => (a0 :: a1 :: a2 :: a3 :: a4 :: a5 :: a6 :: a7 :: a8 :: a9 :: a10 :: a11 :: a12 :: a13 :: a14 :: a15 :: l : va_W)[i]?) = ([a0, a1, a2, a3, a4, a5, a6, a7, a8, a9, a10, a11, a12, a13, a14, a15] : va_W).map some := rfl
theorem nd_0_1_2_3_4_5_6_7_8_9_10_11_12_13_14_15 : va_nd [0, 1, 2, 3, 4, 5, 6, 7, 8, 9, 10, 11, 12, 13, 14, 15] = true := by decide
theorem dj_16__0_1_2_3_4_5_6_7_8_9_10_11_12_13_14_15 : ∀ i ∈ ([0, 1, 2, 3, 4, 5, 6, 7, 8, 9, 10, 11, 12, 13, 14, 15] : List Nat), i ∉ ([16] : List Nat) := by decide
theorem sm_0_1_2_3_4_5_6_7_8_9_10_11_12_13_14_15_16_17 {a0 a1 a2 a3 a4 a5 a6 a7 a8 a9 a10 a11 a12 a13 a14 a15 a16 a17 : Nat × va_E} {l : va_W} : ([0, 1, 2, 3, 4, 5, 6, 7, 8, 9, 10, 11, 12, 13, 14, 15, 16, 17] : List Nat).map (fun i => (a0 :: a1 :: a2 :: a3 :: a4 :: a5 :: a6 :: a7 :: a8 :: a9 :: a10 :: a11 :: a12 :: a13 :: a14 :: a15 :: a16 :: a17 :: l : va_W)[i]?) = ([a0, a1, a2, a3, a4, a5, a6, a7, a8, a9, a10, a11, a12, a13, a14, a15, a16, a17] : va_W).map some := rfl
theorem nd_0_1_2_3_4_5_6_7_8_9_10_11_12_13_14_15_16_17 : va_nd [0, 1, 2, 3, 4, 5, 6, 7, 8, 9, 10, 11, 12, 13, 14, 15, 16, 17] = true := by decide
theorem dj_18__0_1_2_3_4_5_6_7_8_9_10_11_12_13_14_15_16_17 : ∀ i ∈ ([0, 1, 2, 3, 4, 5, 6, 7, 8, 9, 10, 11, 12, 13, 14, 15, 16, 17] : List Nat), i ∉ ([18] : List Nat) := by decide
theorem sm_20 {a0 a1 a2 a3 a4 a5 a6 a7 a8 a9 a10 a11 a12 a13 a14 a15 a16 a17 a18 a19 a20 : Nat × va_E} {l : va_W} : ([20] : List Nat).map (fun i => (a0 :: a1 :: a2 :: a3 :: a4 :: a5 :: a6 :: a7 :: a8 :: a9 :: a10 :: a11 :: a12 :: a13 :: a14 :: a15 :: a16 :: a17 :: a18 :: a19 :: a20 :: l : va_W)[i]?) = ([a20] : va_W).map some := rfl
theorem fm_20 {a0 a1 a2 a3 a4 a5 a6 a7 a8 a9 a10 a11 a12 a13 a14 a15 a16 a17 a18 a19 a20 : Nat × va_E} {l : va_W} : ([20] : List Nat).filterMap (fun i => (a0 :: a1 :: a2 :: a3 :: a4 :: a5 :: a6 :: a7 :: a8 :: a9 :: a10 :: a11 :: a12 :: a13 :: a14 :: a15 :: a16 :: a17 :: a18 :: a19 :: a20 :: l : va_W)[i]?) = ([a20] : va_W) := rfl
theorem nd_20 : va_nd [20] = true := by decide
theorem sm_0_1_2_3_4_5_6_7_8_9_10_11_12_13_14_15_16_17_18_19 {a0 a1 a2 a3 a4 a5 a6 a7 a8 a9 a10 a11 a12 a13 a14 a15 a16 a17 a18 a19 : Nat × va_E} {l : va_W} : ([0, 1, 2, 3, 4, 5, 6, 7, 8, 9, 10, 11, 12, 13, 14, 15, 16, 17, 18, 19] : List Nat).map (fun i => (a0 :: a1 :: a2 :: a3 :: a4 :: a5 :: a6 :: a7 :: a8 :: a9 :: a10 :: a11 :: a12 :: a13 :: a14 :: a15 :: a16 :: a17 :: a18 :: a19 :: l : va_W)[i]?) = ([a0, a1, a2, a3, a4, a5, a6, a7, a8, a9, a10, a11, a12, a13, a14, a15, a16, a17, a18, a19] : va_W).map some := rfl
theorem nd_0_1_2_3_4_5_6_7_8_9_10_11_12_13_14_15_16_17_18_19 : va_nd [0, 1, 2, 3, 4, 5, 6, 7, 8, 9, 10, 11, 12, 13, 14, 15, 16, 17, 18, 19] = true := by decide
theorem dj_20__0_1_2_3_4_5_6_7_8_9_10_11_12_13_14_15_16_17_18_19 : ∀ i ∈ ([0, 1, 2, 3, 4, 5, 6, 7, 8, 9, 10, 11, 12, 13, 14, 15, 16, 17, 18, 19] : List Nat), i ∉ ([20] : List Nat) := by decide
theorem sm_22 {a0 a1 a2 a3 a4 a5 a6 a7 a8 a9 a10 a11 a12 a13 a14 a15 a16 a17 a18 a19 a20 a21 a22 : Nat × va_E} {l : va_W} : ([22] : List Nat).map (fun i => (a0 :: a1 :: a2 :: a3 :: a4 :: a5 :: a6 :: a7 :: a8 :: a9 :: a10 :: a11 :: a12 :: a13 :: a14 :: a15 :: a16 :: a17 :: a18 :: a19 :: a20 :: a21 :: a22 :: l : va_W)[i]?) = ([a22] : va_W).map some := rfl
theorem fm_22 {a0 a1 a2 a3 a4 a5 a6 a7 a8 a9 a10 a11 a12 a13 a14 a15 a16 a17 a18 a19 a20 a21 a22 : Nat × va_E} {l : va_W} : ([22] : List Nat).filterMap (fun i => (a0 :: a1 :: a2 :: a3 :: a4 :: a5 :: a6 :: a7 :: a8 :: a9 :: a10 :: a11 :: a12 :: a13 :: a14 :: a15 :: a16 :: a17 :: a18 :: a19 :: a20 :: a21 :: a22 :: l : va_W)[i]?) = ([a22] : va_W) := rfl
theorem nd_22 : va_nd [22] = true := by decide
theorem sm_0_1_2_3_4_5_6_7_8_9_10_11_12_13_14_15_16_17_18_19_20_21 {a0 a1 a2 a3 a4 a5 a6 a7 a8 a9 a10 a11 a12 a13 a14 a15 a16 a17 a18 a19 a20 a21 : Nat × va_E} {l : va_W} : ([0, 1, 2, 3, 4, 5, 6, 7, 8, 9, 10, 11, 12, 13, 14, 15, 16, 17, 18, 19, 20, 21] : List Nat).map (fun i => (a0 :: a1 :: a2 :: a3 :: a4 :: a5 :: a6 :: a7 :: a8 :: a9 :: a10 :: a11 :: a12 :: a13 :: a14 :: a15 :: a16 :: a17 :: a18 :: a19 :: a20 :: a21 :: l : va_W)[i]?) = ([a0, a1, a2, a3, a4, a5, a6, a7, a8, a9, a10, a11, a12, a13, a14, a15, a16, a17, a18, a19, a20, a21] : va_W).map some := rfl
theorem nd_0_1_2_3_4_5_6_7_8_9_10_11_12_13_14_15_16_17_18_19_20_21 : va_nd [0, 1, 2, 3, 4, 5, 6, 7, 8, 9, 10, 11, 12, 13, 14, 15, 16, 17, 18, 19, 20, 21] = true := by decide
theorem dj_22__0_1_2_3_4_5_6_7_8_9_10_11_12_13_14_15_16_17_18_19_20_21 : ∀ i ∈ ([0, 1, 2, 3, 4, 5, 6, 7, 8, 9, 10, 11, 12, 13, 14, 15, 16, 17, 18, 19, 20, 21] : List Nat), i ∉ ([22] : List Nat) := by decide
theorem sm_0_1_2_3_4_5_6_7_8_9_10_11_12_13_14_15_16_17_18_19_20_21_22_23 {a0 a1 a2 a3 a4 a5 a6 a7 a8 a9 a10 a11 a12 a13 a14 a15 a16 a17 a18 a19 a20 a21 a22 a23 : Nat × va_E} {l : va_W} : ([0, 1, 2, 3, 4, 5, 6, 7, 8, 9, 10, 11, 12, 13, 14, 15, 16, 17, 18, 19, 20, 21, 22, 23] : List Nat).map (fun i => (a0 :: a1 :: a2 :: a3 :: a4 :: a5 :: a6 :: a7 :: a8 :: a9 :: a10 :: a11 :: a12 :: a13 :: a14 :: a15 :: a16 :: a17 :: a18 :: a19 :: a20 :: a21 :: a22 :: a23 :: l : va_W)[i]?) = ([a0, a1, a2, a3, a4, a5, a6, a7, a8, a9, a10, a11, a12, a13, a14, a15, a16, a17, a18, a19, a20, a21, a22, a23] : va_W).map some := rfl
theorem nd_0_1_2_3_4_5_6_7_8_9_10_11_12_13_14_15_16_17_18_19_20_21_22_23 : va_nd [0, 1, 2, 3, 4, 5, 6, 7, 8, 9, 10, 11, 12, 13, 14, 15, 16, 17, 18, 19, 20, 21, 22, 23] = true := by decide
theorem dj_24__0_1_2_3_4_5_6_7_8_9_10_11_12_13_14_15_16_17_18_19_20_21_22_23 : ∀ i ∈ ([0, 1, 2, 3, 4, 5, 6, 7, 8, 9, 10, 11, 12, 13, 14, 15, 16, 17, 18, 19, 20, 21, 22, 23] : List Nat), i ∉ ([24] : List Nat) := by decide
theorem dj_26__0_1_2_3_4_5_6_7_8_9_10_11_12_13_14_15_16_17_18_19_20_21_22_23_24_25 : ∀ i ∈ ([0, 1, 2, 3, 4, 5, 6, 7, 8, 9, 10, 11, 12, 13, 14, 15, 16, 17, 18, 19, 20, 21, 22, 23, 24, 25] : List Nat), i ∉ ([26] : List Nat) := by decide
theorem rm_5_3_1 {mc ms : Nat} : 3 + 1 ≤ (RM 5 mc ms).frames ∧ 8 + (1 + 11) + 40 * 3 ≤ (RM 5 mc ms).locals := ⟨by show 3 + 1 ≤ 5; decide, by show 8 + (1 + 11) + 40 * 3 ≤ 40 * 5; decide⟩
theorem dj_31__0_1_2_3_4_5_6_7_8_9_10_11_12_13_14_15_16_17_18_19_20_21_22_23_24_25_26_27_28_29_30 : ∀ i ∈ ([0, 1, 2, 3, 4, 5, 6, 7, 8, 9, 10, 11, 12, 13, 14, 15, 16, 17, 18, 19, 20, 21, 22, 23, 24, 25, 26, 27, 28, 29, 30] : List Nat), i ∉ ([31] : List Nat) := by decide
theorem sm_52 {a0 a1 a2 a3 a4 a5 a6 a7 a8 a9 a10 a11 a12 a13 a14 a15 a16 a17 a18 a19 a20 a21 a22 a23 a24 a25 a26 a27 a28 a29 a30 a31 a32 a33 a34 a35 a36 a37 a38 a39 a40 a41 a42 a43 a44 a45 a46 a47 a48 a49 a50 a51 a52 : Nat × va_E} {l : va_W} : ([52] : List Nat).map (fun i => (a0 :: a1 :: a2 :: a3 :: a4 :: a5 :: a6 :: a7 :: a8 :: a9 :: a10 :: a11 :: a12 :: a13 :: a14 :: a15 :: a16 :: a17 :: a18 :: a19 :: a20 :: a21 :: a22 :: a23 :: a24 :: a25 :: a26 :: a27 :: a28 :: a29 :: a30 :: a31 :: a32 :: a33 :: a34 :: a35 :: a36 :: a37 :: a38 :: a39 :: a40 :: a41 :: a42 :: a43 :: a44 :: a45 :: a46 :: a47 :: a48 :: a49 :: a50 :: a51 :: a52 :: l : va_W)[i]?) = ([a52] : va_W).map some := rfl
theorem fm_52 {a0 a1 a2 a3 a4 a5 a6 a7 a8 a9 a10 a11 a12 a13 a14 a15 a16 a17 a18 a19 a20 a21 a22 a23 a24 a25 a26 a27 a28 a29 a30 a31 a32 a33 a34 a35 a36 a37 a38 a39 a40 a41 a42 a43 a44 a45 a46 a47 a48 a49 a50 a51 a52 : Nat × va_E} {l : va_W} : ([52] : List Nat).filterMap (fun i => (a0 :: a1 :: a2 :: a3 :: a4 :: a5 :: a6 :: a7 :: a8 :: a9 :: a10 :: a11 :: a12 :: a13 :: a14 :: a15 :: a16 :: a17 :: a18 :: a19 :: a20 :: a21 :: a22 :: a23 :: a24 :: a25 :: a26 :: a27 :: a28 :: a29 :: a30 :: a31 :: a32 :: a33 :: a34 :: a35 :: a36 :: a37 :: a38 :: a39 :: a40 :: a41 :: a42 :: a43 :: a44 :: a45 :: a46 :: a47 :: a48 :: a49 :: a50 :: a51 :: a52 :: l : va_W)[i]?) = ([a52] : va_W) := rfl
theorem nd_52 : va_nd [52] = true := by decide
theorem sm_80 {a0 a1 a2 a3 a4 a5 a6 a7 a8 a9 a10 a11 a12 a13 a14 a15 a16 a17 a18 a19 a20 a21 a22 a23 a24 a25 a26 a27 a28 a29 a30 a31 a32 a33 a34 a35 a36 a37 a38 a39 a40 a41 a42 a43 a44 a45 a46 a47 a48 a49 a50 a51 a52 a53 a54 a55 a56 a57 a58 a59 a60 a61 a62 a63 a64 a65 a66 a67 a68 a69 a70 a71 a72 a73 a74 a75 a76 a77 a78 a79 a80 : Nat × va_E} {l : va_W} : ([80] : List Nat).map (fun i => (a0 :: a1 :: a2 :: a3 :: a4 :: a5 :: a6 :: a7 :: a8 :: a9 :: a10 :: a11 :: a12 :: a13 :: a14 :: a15 :: a16 :: a17 :: a18 :: a19 :: a20 :: a21 :: a22 :: a23 :: a24 :: a25 :: a26 :: a27 :: a28 :: a29 :: a30 :: a31 :: a32 :: a33 :: a34 :: a35 :: a36 :: a37 :: a38 :: a39 :: a40 :: a41 :: a42 :: a43 :: a44 :: a45 :: a46 :: a47 :: a48 :: a49 :: a50 :: a51 :: a52 :: a53 :: a54 :: a55 :: a56 :: a57 :: a58 :: a59 :: a60 :: a61 :: a62 :: a63 :: a64 :: a65 :: a66 :: a67 :: a68 :: a69 :: a70 :: a71 :: a72 :: a73 :: a74 :: a75 :: a76 :: a77 :: a78 :: a79 :: a80 :: l : va_W)[i]?) = ([a80] : va_W).map some := rfl
theorem fm_80 {a0 a1 a2 a3 a4 a5 a6 a7 a8 a9 a10 a11 a12 a13 a14 a15 a16 a17 a18 a19 a20 a21 a22 a23 a24 a25 a26 a27 a28 a29 a30 a31 a32 a33 a34 a35 a36 a37 a38 a39 a40 a41 a42 a43 a44 a45 a46 a47 a48 a49 a50 a51 a52 a53 a54 a55 a56 a57 a58 a59 a60 a61 a62 a63 a64 a65 a66 a67 a68 a69 a70 a71 a72 a73 a74 a75 a76 a77 a78 a79 a80 : Nat × va_E} {l : va_W} : ([80] : List Nat).filterMap (fun i => (a0 :: a1 :: a2 :: a3 :: a4 :: a5 :: a6 :: a7 :: a8 :: a9 :: a10 :: a11 :: a12 :: a13 :: a14 :: a15 :: a16 :: a17 :: a18 :: a19 :: a20 :: a21 :: a22 :: a23 :: a24 :: a25 :: a26 :: a27 :: a28 :: a29 :: a30 :: a31 :: a32 :: a33 :: a34 :: a35 :: a36 :: a37 :: a38 :: a39 :: a40 :: a41 :: a42 :: a43 :: a44 :: a45 :: a46 :: a47 :: a48 :: a49 :: a50 :: a51 :: a52 :: a53 :: a54 :: a55 :: a56 :: a57 :: a58 :: a59 :: a60 :: a61 :: a62 :: a63 :: a64 :: a65 :: a66 :: a67 :: a68 :: a69 :: a70 :: a71 :: a72 :: a73 :: a74 :: a75 :: a76 :: a77 :: a78 :: a79 :: a80 :: l : va_W)[i]?) = ([a80] : va_W) := rfl
theorem nd_80 : va_nd [80] = true := by decide
theorem sm_83 {a0 a1 a2 a3 a4 a5 a6 a7 a8 a9 a10 a11 a12 a13 a14 a15 a16 a17 a18 a19 a20 a21 a22 a23 a24 a25 a26 a27 a28 a29 a30 a31 a32 a33 a34 a35 a36 a37 a38 a39 a40 a41 a42 a43 a44 a45 a46 a47 a48 a49 a50 a51 a52 a53 a54 a55 a56 a57 a58 a59 a60 a61 a62 a63 a64 a65 a66 a67 a68 a69 a70 a71 a72 a73 a74 a75 a76 a77 a78 a79 a80 a81 a82 a83 : Nat × va_E} {l : va_W} : ([83] : List Nat).map (fun i => (a0 :: a1 :: a2 :: a3 :: a4 :: a5 :: a6 :: a7 :: a8 :: a9 :: a10 :: a11 :: a12 :: a13 :: a14 :: a15 :: a16 :: a17 :: a18 :: a19 :: a20 :: a21 :: a22 :: a23 :: a24 :: a25 :: a26 :: a27 :: a28 :: a29 :: a30 :: a31 :: a32 :: a33 :: a34 :: a35 :: a36 :: a37 :: a38 :: a39 :: a40 :: a41 :: a42 :: a43 :: a44 :: a45 :: a46 :: a47 :: a48 :: a49 :: a50 :: a51 :: a52 :: a53 :: a54 :: a55 :: a56 :: a57 :: a58 :: a59 :: a60 :: a61 :: a62 :: a63 :: a64 :: a65 :: a66 :: a67 :: a68 :: a69 :: a70 :: a71 :: a72 :: a73 :: a74 :: a75 :: a76 :: a77 :: a78 :: a79 :: a80 :: a81 :: a82 :: a83 :: l : va_W)[i]?) = ([a83] : va_W).map some := rfl
theorem fm_83 {a0 a1 a2 a3 a4 a5 a6 a7 a8 a9 a10 a11 a12 a13 a14 a15 a16 a17 a18 a19 a20 a21 a22 a23 a24 a25 a26 a27 a28 a29 a30 a31 a32 a33 a34 a35 a36 a37 a38 a39 a40 a41 a42 a43 a44 a45 a46 a47 a48 a49 a50 a51 a52 a53 a54 a55 a56 a57 a58 a59 a60 a61 a62 a63 a64 a65 a66 a67 a68 a69 a70 a71 a72 a73 a74 a75 a76 a77 a78 a79 a80 a81 a82 a83 : Nat × va_E} {l : va_W} : ([83] : List Nat).filterMap (fun i => (a0 :: a1 :: a2 :: a3 :: a4 :: a5 :: a6 :: a7 :: a8 :: a9 :: a10 :: a11 :: a12 :: a13 :: a14 :: a15 :: a16 :: a17 :: a18 :: a19 :: a20 :: a21 :: a22 :: a23 :: a24 :: a25 :: a26 :: a27 :: a28 :: a29 :: a30 :: a31 :: a32 :: a33 :: a34 :: a35 :: a36 :: a37 :: a38 :: a39 :: a40 :: a41 :: a42 :: a43 :: a44 :: a45 :: a46 :: a47 :: a48 :: a49 :: a50 :: a51 :: a52 :: a53 :: a54 :: a55 :: a56 :: a57 :: a58 :: a59 :: a60 :: a61 :: a62 :: a63 :: a64 :: a65 :: a66 :: a67 :: a68 :: a69 :: a70 :: a71 :: a72 :: a73 :: a74 :: a75 :: a76 :: a77 :: a78 :: a79 :: a80 :: a81 :: a82 :: a83 :: l : va_W)[i]?) = ([a83] : va_W) := rfl
theorem nd_83 : va_nd [83] = true := by decide
theorem sm_84 {a0 a1 a2 a3 a4 a5 a6 a7 a8 a9 a10 a11 a12 a13 a14 a15 a16 a17 a18 a19 a20 a21 a22 a23 a24 a25 a26 a27 a28 a29 a30 a31 a32 a33 a34 a35 a36 a37 a38 a39 a40 a41 a42 a43 a44 a45 a46 a47 a48 a49 a50 a51 a52 a53 a54 a55 a56 a57 a58 a59 a60 a61 a62 a63 a64 a65 a66 a67 a68 a69 a70 a71 a72 a73 a74 a75 a76 a77 a78 a79 a80 a81 a82 a83 a84 : Nat × va_E} {l : va_W} : ([84] : List Nat).map (fun i => (a0 :: a1 :: a2 :: a3 :: a4 :: a5 :: a6 :: a7 :: a8 :: a9 :: a10 :: a11 :: a12 :: a13 :: a14 :: a15 :: a16 :: a17 :: a18 :: a19 :: a20 :: a21 :: a22 :: a23 :: a24 :: a25 :: a26 :: a27 :: a28 :: a29 :: a30 :: a31 :: a32 :: a33 :: a34 :: a35 :: a36 :: a37 :: a38 :: a39 :: a40 :: a41 :: a42 :: a43 :: a44 :: a45 :: a46 :: a47 :: a48 :: a49 :: a50 :: a51 :: a52 :: a53 :: a54 :: a55 :: a56 :: a57 :: a58 :: a59 :: a60 :: a61 :: a62 :: a63 :: a64 :: a65 :: a66 :: a67 :: a68 :: a69 :: a70 :: a71 :: a72 :: a73 :: a74 :: a75 :: a76 :: a77 :: a78 :: a79 :: a80 :: a81 :: a82 :: a83 :: a84 :: l : va_W)[i]?) = ([a84] : va_W).map some := rfl
theorem fm_84 {a0 a1 a2 a3 a4 a5 a6 a7 a8 a9 a10 a11 a12 a13 a14 a15 a16 a17 a18 a19 a20 a21 a22 a23 a24 a25 a26 a27 a28 a29 a30 a31 a32 a33 a34 a35 a36 a37 a38 a39 a40 a41 a42 a43 a44 a45 a46 a47 a48 a49 a50 a51 a52 a53 a54 a55 a56 a57 a58 a59 a60 a61 a62 a63 a64 a65 a66 a67 a68 a69 a70 a71 a72 a73 a74 a75 a76 a77 a78 a79 a80 a81 a82 a83 a84 : Nat × va_E} {l : va_W} : ([84] : List Nat).filterMap (fun i => (a0 :: a1 :: a2 :: a3 :: a4 :: a5 :: a6 :: a7 :: a8 :: a9 :: a10 :: a11 :: a12 :: a13 :: a14 :: a15 :: a16 :: a17 :: a18 :: a19 :: a20 :: a21 :: a22 :: a23 :: a24 :: a25 :: a26 :: a27 :: a28 :: a29 :: a30 :: a31 :: a32 :: a33 :: a34 :: a35 :: a36 :: a37 :: a38 :: a39 :: a40 :: a41 :: a42 :: a43 :: a44 :: a45 :: a46 :: a47 :: a48 :: a49 :: a50 :: a51 :: a52 :: a53 :: a54 :: a55 :: a56 :: a57 :: a58 :: a59 :: a60 :: a61 :: a62 :: a63 :: a64 :: a65 :: a66 :: a67 :: a68 :: a69 :: a70 :: a71 :: a72 :: a73 :: a74 :: a75 :: a76 :: a77 :: a78 :: a79 :: a80 :: a81 :: a82 :: a83 :: a84 :: l : va_W)[i]?) = ([a84] : va_W) := rfl
theorem nd_84 : va_nd [84] = true := by decide
theorem sm_90 {a0 a1 a2 a3 a4 a5 a6 a7 a8 a9 a10 a11 a12 a13 a14 a15 a16 a17 a18 a19 a20 a21 a22 a23 a24 a25 a26 a27 a28 a29 a30 a31 a32 a33 a34 a35 a36 a37 a38 a39 a40 a41 a42 a43 a44 a45 a46 a47 a48 a49 a50 a51 a52 a53 a54 a55 a56 a57 a58 a59 a60 a61 a62 a63 a64 a65 a66 a67 a68 a69 a70 a71 a72 a73 a74 a75 a76 a77 a78 a79 a80 a81 a82 a83 a84 a85 a86 a87 a88 a89 a90 : Nat × va_E} {l : va_W} : ([90] : List Nat).map (fun i => (a0 :: a1 :: a2 :: a3 :: a4 :: a5 :: a6 :: a7 :: a8 :: a9 :: a10 :: a11 :: a12 :: a13 :: a14 :: a15 :: a16 :: a17 :: a18 :: a19 :: a20 :: a21 :: a22 :: a23 :: a24 :: a25 :: a26 :: a27 :: a28 :: a29 :: a30 :: a31 :: a32 :: a33 :: a34 :: a35 :: a36 :: a37 :: a38 :: a39 :: a40 :: a41 :: a42 :: a43 :: a44 :: a45 :: a46 :: a47 :: a48 :: a49 :: a50 :: a51 :: a52 :: a53 :: a54 :: a55 :: a56 :: a57 :: a58 :: a59 :: a60 :: a61 :: a62 :: a63 :: a64 :: a65 :: a66 :: a67 :: a68 :: a69 :: a70 :: a71 :: a72 :: a73 :: a74 :: a75 :: a76 :: a77 :: a78 :: a79 :: a80 :: a81 :: a82 :: a83 :: a84 :: a85 :: a86 :: a87 :: a88 :: a89 :: a90 :: l : va_W)[i]?) = ([a90] : va_W).map some := rfl
theorem fm_90 {a0 a1 a2 a3 a4 a5 a6 a7 a8 a9 a10 a11 a12 a13 a14 a15 a16 a17 a18 a19 a20 a21 a22 a23 a24 a25 a26 a27 a28 a29 a30 a31 a32 a33 a34 a35 a36 a37 a38 a39 a40 a41 a42 a43 a44 a45 a46 a47 a48 a49 a50 a51 a52 a53 a54 a55 a56 a57 a58 a59 a60 a61 a62 a63 a64 a65 a66 a67 a68 a69 a70 a71 a72 a73 a74 a75 a76 a77 a78 a79 a80 a81 a82 a83 a84 a85 a86 a87 a88 a89 a90 : Nat × va_E} {l : va_W} : ([90] : List Nat).filterMap (fun i => (a0 :: a1 :: a2 :: a3 :: a4 :: a5 :: a6 :: a7 :: a8 :: a9 :: a10 :: a11 :: a12 :: a13 :: a14 :: a15 :: a16 :: a17 :: a18 :: a19 :: a20 :: a21 :: a22 :: a23 :: a24 :: a25 :: a26 :: a27 :: a28 :: a29 :: a30 :: a31 :: a32 :: a33 :: a34 :: a35 :: a36 :: a37 :: a38 :: a39 :: a40 :: a41 :: a42 :: a43 :: a44 :: a45 :: a46 :: a47 :: a48 :: a49 :: a50 :: a51 :: a52 :: a53 :: a54 :: a55 :: a56 :: a57 :: a58 :: a59 :: a60 :: a61 :: a62 :: a63 :: a64 :: a65 :: a66 :: a67 :: a68 :: a69 :: a70 :: a71 :: a72 :: a73 :: a74 :: a75 :: a76 :: a77 :: a78 :: a79 :: a80 :: a81 :: a82 :: a83 :: a84 :: a85 :: a86 :: a87 :: a88 :: a89 :: a90 :: l : va_W)[i]?) = ([a90] : va_W) := rfl
theorem nd_90 : va_nd [90] = true := by decide
theorem sm_94 {a0 a1 a2 a3 a4 a5 a6 a7 a8 a9 a10 a11 a12 a13 a14 a15 a16 a17 a18 a19 a20 a21 a22 a23 a24 a25 a26 a27 a28 a29 a30 a31 a32 a33 a34 a35 a36 a37 a38 a39 a40 a41 a42 a43 a44 a45 a46 a47 a48 a49 a50 a51 a52 a53 a54 a55 a56 a57 a58 a59 a60 a61 a62 a63 a64 a65 a66 a67 a68 a69 a70 a71 a72 a73 a74 a75 a76 a77 a78 a79 a80 a81 a82 a83 a84 a85 a86 a87 a88 a89 a90 a91 a92 a93 a94 : Nat × va_E} {l : va_W} : ([94] : List Nat).map (fun i => (a0 :: a1 :: a2 :: a3 :: a4 :: a5 :: a6 :: a7 :: a8 :: a9 :: a10 :: a11 :: a12 :: a13 :: a14 :: a15 :: a16 :: a17 :: a18 :: a19 :: a20 :: a21 :: a22 :: a23 :: a24 :: a25 :: a26 :: a27 :: a28 :: a29 :: a30 :: a31 :: a32 :: a33 :: a34 :: a35 :: a36 :: a37 :: a38 :: a39 :: a40 :: a41 :: a42 :: a43 :: a44 :: a45 :: a46 :: a47 :: a48 :: a49 :: a50 :: a51 :: a52 :: a53 :: a54 :: a55 :: a56 :: a57 :: a58 :: a59 :: a60 :: a61 :: a62 :: a63 :: a64 :: a65 :: a66 :: a67 :: a68 :: a69 :: a70 :: a71 :: a72 :: a73 :: a74 :: a75 :: a76 :: a77 :: a78 :: a79 :: a80 :: a81 :: a82 :: a83 :: a84 :: a85 :: a86 :: a87 :: a88 :: a89 :: a90 :: a91 :: a92 :: a93 :: a94 :: l : va_W)[i]?) = ([a94] : va_W).map some := rfl
theorem fm_94 {a0 a1 a2 a3 a4 a5 a6 a7 a8 a9 a10 a11 a12 a13 a14 a15 a16 a17 a18 a19 a20 a21 a22 a23 a24 a25 a26 a27 a28 a29 a30 a31 a32 a33 a34 a35 a36 a37 a38 a39 a40 a41 a42 a43 a44 a45 a46 a47 a48 a49 a50 a51 a52 a53 a54 a55 a56 a57 a58 a59 a60 a61 a62 a63 a64 a65 a66 a67 a68 a69 a70 a71 a72 a73 a74 a75 a76 a77 a78 a79 a80 a81 a82 a83 a84 a85 a86 a87 a88 a89 a90 a91 a92 a93 a94 : Nat × va_E} {l : va_W} : ([94] : List Nat).filterMap (fun i => (a0 :: a1 :: a2 :: a3 :: a4 :: a5 :: a6 :: a7 :: a8 :: a9 :: a10 :: a11 :: a12 :: a13 :: a14 :: a15 :: a16 :: a17 :: a18 :: a19 :: a20 :: a21 :: a22 :: a23 :: a24 :: a25 :: a26 :: a27 :: a28 :: a29 :: a30 :: a31 :: a32 :: a33 :: a34 :: a35 :: a36 :: a37 :: a38 :: a39 :: a40 :: a41 :: a42 :: a43 :: a44 :: a45 :: a46 :: a47 :: a48 :: a49 :: a50 :: a51 :: a52 :: a53 :: a54 :: a55 :: a56 :: a57 :: a58 :: a59 :: a60 :: a61 :: a62 :: a63 :: a64 :: a65 :: a66 :: a67 :: a68 :: a69 :: a70 :: a71 :: a72 :: a73 :: a74 :: a75 :: a76 :: a77 :: a78 :: a79 :: a80 :: a81 :: a82 :: a83 :: a84 :: a85 :: a86 :: a87 :: a88 :: a89 :: a90 :: a91 :: a92 :: a93 :: a94 :: l : va_W)[i]?) = ([a94] : va_W) := rfl
theorem nd_94 : va_nd [94] = true := by decide
theorem sm_101 {a0 a1 a2 a3 a4 a5 a6 a7 a8 a9 a10 a11 a12 a13 a14 a15 a16 a17 a18 a19 a20 a21 a22 a23 a24 a25 a26 a27 a28 a29 a30 a31 a32 a33 a34 a35 a36 a37 a38 a39 a40 a41 a42 a43 a44 a45 a46 a47 a48 a49 a50 a51 a52 a53 a54 a55 a56 a57 a58 a59 a60 a61 a62 a63 a64 a65 a66 a67 a68 a69 a70 a71 a72 a73 a74 a75 a76 a77 a78 a79 a80 a81 a82 a83 a84 a85 a86 a87 a88 a89 a90 a91 a92 a93 a94 a95 a96 a97 a98 a99 a100 a101 : Nat × va_E} {l : va_W} : ([101] : List Nat).map (fun i => (a0 :: a1 :: a2 :: a3 :: a4 :: a5 :: a6 :: a7 :: a8 :: a9 :: a10 :: a11 :: a12 :: a13 :: a14 :: a15 :: a16 :: a17 :: a18 :: a19 :: a20 :: a21 :: a22 :: a23 :: a24 :: a25 :: a26 :: a27 :: a28 :: a29 :: a30 :: a31 :: a32 :: a33 :: a34 :: a35 :: a36 :: a37 :: a38 :: a39 :: a40 :: a41 :: a42 :: a43 :: a44 :: a45 :: a46 :: a47 :: a48 :: a49 :: a50 :: a51 :: a52 :: a53 :: a54 :: a55 :: a56 :: a57 :: a58 :: a59 :: a60 :: a61 :: a62 :: a63 :: a64 :: a65 :: a66 :: a67 :: a68 :: a69 :: a70 :: a71 :: a72 :: a73 :: a74 :: a75 :: a76 :: a77 :: a78 :: a79 :: a80 :: a81 :: a82 :: a83 :: a84 :: a85 :: a86 :: a87 :: a88 :: a89 :: a90 :: a91 :: a92 :: a93 :: a94 :: a95 :: a96 :: a97 :: a98 :: a99 :: a100 :: a101 :: l : va_W)[i]?) = ([a101] : va_W).map some := rfl
theorem fm_101 {a0 a1 a2 a3 a4 a5 a6 a7 a8 a9 a10 a11 a12 a13 a14 a15 a16 a17 a18 a19 a20 a21 a22 a23 a24 a25 a26 a27 a28 a29 a30 a31 a32 a33 a34 a35 a36 a37 a38 a39 a40 a41 a42 a43 a44 a45 a46 a47 a48 a49 a50 a51 a52 a53 a54 a55 a56 a57 a58 a59 a60 a61 a62 a63 a64 a65 a66 a67 a68 a69 a70 a71 a72 a73 a74 a75 a76 a77 a78 a79 a80 a81 a82 a83 a84 a85 a86 a87 a88 a89 a90 a91 a92 a93 a94 a95 a96 a97 a98 a99 a100 a101 : Nat × va_E} {l : va_W} : ([101] : List Nat).filterMap (fun i => (a0 :: a1 :: a2 :: a3 :: a4 :: a5 :: a6 :: a7 :: a8 :: a9 :: a10 :: a11 :: a12 :: a13 :: a14 :: a15 :: a16 :: a17 :: a18 :: a19 :: a20 :: a21 :: a22 :: a23 :: a24 :: a25 :: a26 :: a27 :: a28 :: a29 :: a30 :: a31 :: a32 :: a33 :: a34 :: a35 :: a36 :: a37 :: a38 :: a39 :: a40 :: a41 :: a42 :: a43 :: a44 :: a45 :: a46 :: a47 :: a48 :: a49 :: a50 :: a51 :: a52 :: a53 :: a54 :: a55 :: a56 :: a57 :: a58 :: a59 :: a60 :: a61 :: a62 :: a63 :: a64 :: a65 :: a66 :: a67 :: a68 :: a69 :: a70 :: a71 :: a72 :: a73 :: a74 :: a75 :: a76 :: a77 :: a78 :: a79 :: a80 :: a81 :: a82 :: a83 :: a84 :: a85 :: a86 :: a87 :: a88 :: a89 :: a90 :: a91 :: a92 :: a93 :: a94 :: a95 :: a96 :: a97 :: a98 :: a99 :: a100 :: a101 :: l : va_W)[i]?) = ([a101] : va_W) := rfl
theorem nd_101 : va_nd [101] = true := by decide
def K_c_T_init_7_2 (l : Launch) (G : GG) (h0 : Nat) : Prop := MV l G yX8_init cX8_init 3 2 1 14 [.ref h0, .int 7, .int 2] [(h0, .inr (8, [.int 0, .int 0, .null, .int 0]))] (fun u : Nat => True) (fun u : Nat => [(h0, oX8 7 2 u 0), (u, iA G 14 (fun _ => 0))])
set_option maxHeartbeats 4000000 in
set_option maxRecDepth 100000 in
theorem c_T_init_7_2 (l : Launch) (G : GG) (h0 : Nat) : K_c_T_init_7_2 l G h0 := by
  refine MV.start (by decide +kernel) (Nat.le_of_ble_eq_true rfl) ?_
  intro p e s m below meth c A ls hC hK hP hD hS hA hl
  refine absQ (fun Q0 hQ0 => ?_)
  have hl : lv_has ls 3 [(0, .ref h0), (1, .int 7), (2, .int 2)] := hl
  refine Kan8 hC (fun hx hb hr hml hB hown hlocks hnm => ?_)
  refine lv_aload_n hx hb dX8_init_0 rfl (lv_at0 hl) ?_
  refine W.objInit hx hb hown (hB _ m_140) (hB _ m_128) (hB _ m_129) rfl (by rw [hml]; exact hl.1) rfl dX8_init_1 (Nat.le_of_ble_eq_true rfl) (Nat.le_of_ble_eq_true rfl) ?_
  refine W.eq (g2 := F0 m 4 ls []) rfl ?_
  refine lv_aload_n hx hb dX8_init_4 rfl (lv_at0 hl) ?_
  refine lv_iload_n hx hb dX8_init_5 rfl (lv_at1 hl) ?_
  refine lv_iconst (v := 0) hx hb dX8_init_6 (by decide) ?_
  refine va_mmax hx hb (hml.trans hl.1.symm) hown (hB _ m_141) (hB _ m_142) (hB _ m_105) (hB _ m_143) (Nat.le_of_ble_eq_true rfl) (Nat.le_of_ble_eq_true rfl) (by first | exact Nat.le_of_ble_eq_true rfl | exact Nat.zero_le _)  (by first | exact Nat.le_of_ble_eq_true rfl | exact Nat.zero_le _) dX8_init_7 ?_
  refine eqi (x1 := 7) (by decide) ?_
  refine pf_X8_15 hC rfl rfl hK hP hD hS 0 (ws' := [(h0, .inr (8, [.int 7, .int 0, .null, .int 0]))]) rfl (Nat.le_of_ble_eq_true rfl) rfl rfl rfl dX8_init_10 (fun H locs hP hD hS => ?_)
  refine lv_aload_n hx hb dX8_init_13 rfl (lv_at0 hl) ?_
  refine lv_iload_n hx hb dX8_init_14 rfl (lv_at2 hl) ?_
  refine lv_iconst (v := 1) hx hb dX8_init_15 (by decide) ?_
  refine va_mmax hx hb (hml.trans hl.1.symm) hown (hB _ m_141) (hB _ m_142) (hB _ m_105) (hB _ m_143) (Nat.le_of_ble_eq_true rfl) (Nat.le_of_ble_eq_true rfl) (by first | exact Nat.le_of_ble_eq_true rfl | exact Nat.zero_le _)  (by first | exact Nat.le_of_ble_eq_true rfl | exact Nat.zero_le _) dX8_init_16 ?_
  refine eqi (x1 := 2) (by decide) ?_
  refine pf_X8_21 hC rfl rfl hK hP hD hS 0 (ws' := [(h0, .inr (8, [.int 7, .int 2, .null, .int 0]))]) rfl (Nat.le_of_ble_eq_true rfl) rfl rfl rfl dX8_init_19 (fun H locs hP hD hS => ?_)
  refine lv_aload_n hx hb dX8_init_22 rfl (lv_at0 hl) ?_
  refine lv_aload_n hx hb dX8_init_23 rfl (lv_at0 hl) ?_
  refine gf_X8_15 hC rfl hK hP 0 rfl rfl dX8_init_24 ?_
  refine lv_aload_n hx hb dX8_init_27 rfl (lv_at0 hl) ?_
  refine gf_X8_21 hC rfl hK hP 0 rfl rfl dX8_init_28 ?_
  refine lv_imul hx hb dX8_init_31 ?_
  refine eqi (x1 := 14) (by decide) ?_
  refine newI hC hK hP hD hS hA m_148 (by decide) (N := 14) (by decide +kernel) (Nat.le_of_ble_eq_true rfl) (by decide) (Nat.le_of_ble_eq_true rfl) dX8_init_32 (fun q8977 H hP hD hS => ?_)
  refine Kpdr (ws := [(h0, .inr (8, [.int 7, .int 2, .null, .int 0])), (q8977, iA G 14 (fun _ => 0))]) hP hD (fun hP hD => ?_)
  refine Wcast (c1 := 1) (s1 := 14) rfl rfl ?_
  refine pf_X8_24 hC rfl rfl hK hP hD hS 0 (ws' := [(h0, oX8 7 2 q8977 0), (q8977, iA G 14 (fun _ => 0))]) rfl (Nat.le_of_ble_eq_true rfl) rfl rfl rfl dX8_init_34 (fun H locs hP hD hS => ?_)
  refine lv_aload_n hx hb dX8_init_37 rfl (lv_at0 hl) ?_
  refine lv_iconst (v := 0) hx hb dX8_init_38 (by decide) ?_
  refine pf_X8_28 hC rfl hK hP hD hS 0 (ws' := [(h0, oX8 7 2 q8977 0), (q8977, iA G 14 (fun _ => 0))]) rfl (Nat.le_of_ble_eq_true rfl) rfl rfl rfl dX8_init_39 (fun H locs hP hD hS => ?_)
  exact toQ hQ0 (RV hC hP hD hS [0, 1] q8977 rfl rfl (by decide) (trivial) dX8_init_42)
def K_c_T_init_8_3 (l : Launch) (G : GG) (h0 : Nat) : Prop := MV l G yX8_init cX8_init 3 2 1 24 [.ref h0, .int 8, .int 3] [(h0, .inr (8, [.int 0, .int 0, .null, .int 0]))] (fun u : Nat => True) (fun u : Nat => [(h0, oX8 8 3 u 0), (u, iA G 24 (fun _ => 0))])
set_option maxHeartbeats 4000000 in
set_option maxRecDepth 100000 in
theorem c_T_init_8_3 (l : Launch) (G : GG) (h0 : Nat) : K_c_T_init_8_3 l G h0 := by
  refine MV.start (by decide +kernel) (Nat.le_of_ble_eq_true rfl) ?_
  intro p e s m below meth c A ls hC hK hP hD hS hA hl
  refine absQ (fun Q0 hQ0 => ?_)
  have hl : lv_has ls 3 [(0, .ref h0), (1, .int 8), (2, .int 3)] := hl
  refine Kan8 hC (fun hx hb hr hml hB hown hlocks hnm => ?_)
  refine lv_aload_n hx hb dX8_init_0 rfl (lv_at0 hl) ?_
  refine W.objInit hx hb hown (hB _ m_140) (hB _ m_128) (hB _ m_129) rfl (by rw [hml]; exact hl.1) rfl dX8_init_1 (Nat.le_of_ble_eq_true rfl) (Nat.le_of_ble_eq_true rfl) ?_
  refine W.eq (g2 := F0 m 4 ls []) rfl ?_
  refine lv_aload_n hx hb dX8_init_4 rfl (lv_at0 hl) ?_
  refine lv_iload_n hx hb dX8_init_5 rfl (lv_at1 hl) ?_
  refine lv_iconst (v := 0) hx hb dX8_init_6 (by decide) ?_
  refine va_mmax hx hb (hml.trans hl.1.symm) hown (hB _ m_141) (hB _ m_142) (hB _ m_105) (hB _ m_143) (Nat.le_of_ble_eq_true rfl) (Nat.le_of_ble_eq_true rfl) (by first | exact Nat.le_of_ble_eq_true rfl | exact Nat.zero_le _)  (by first | exact Nat.le_of_ble_eq_true rfl | exact Nat.zero_le _) dX8_init_7 ?_
  refine eqi (x1 := 8) (by decide) ?_
  refine pf_X8_15 hC rfl rfl hK hP hD hS 0 (ws' := [(h0, .inr (8, [.int 8, .int 0, .null, .int 0]))]) rfl (Nat.le_of_ble_eq_true rfl) rfl rfl rfl dX8_init_10 (fun H locs hP hD hS => ?_)
  refine lv_aload_n hx hb dX8_init_13 rfl (lv_at0 hl) ?_
  refine lv_iload_n hx hb dX8_init_14 rfl (lv_at2 hl) ?_
  refine lv_iconst (v := 1) hx hb dX8_init_15 (by decide) ?_
  refine va_mmax hx hb (hml.trans hl.1.symm) hown (hB _ m_141) (hB _ m_142) (hB _ m_105) (hB _ m_143) (Nat.le_of_ble_eq_true rfl) (Nat.le_of_ble_eq_true rfl) (by first | exact Nat.le_of_ble_eq_true rfl | exact Nat.zero_le _)  (by first | exact Nat.le_of_ble_eq_true rfl | exact Nat.zero_le _) dX8_init_16 ?_
  refine eqi (x1 := 3) (by decide) ?_
  refine pf_X8_21 hC rfl rfl hK hP hD hS 0 (ws' := [(h0, .inr (8, [.int 8, .int 3, .null, .int 0]))]) rfl (Nat.le_of_ble_eq_true rfl) rfl rfl rfl dX8_init_19 (fun H locs hP hD hS => ?_)
  refine lv_aload_n hx hb dX8_init_22 rfl (lv_at0 hl) ?_
  refine lv_aload_n hx hb dX8_init_23 rfl (lv_at0 hl) ?_
  refine gf_X8_15 hC rfl hK hP 0 rfl rfl dX8_init_24 ?_
  refine lv_aload_n hx hb dX8_init_27 rfl (lv_at0 hl) ?_
  refine gf_X8_21 hC rfl hK hP 0 rfl rfl dX8_init_28 ?_
  refine lv_imul hx hb dX8_init_31 ?_
  refine eqi (x1 := 24) (by decide) ?_
  refine newI hC hK hP hD hS hA m_148 (by decide) (N := 24) (by decide +kernel) (Nat.le_of_ble_eq_true rfl) (by decide) (Nat.le_of_ble_eq_true rfl) dX8_init_32 (fun q8978 H hP hD hS => ?_)
  refine Kpdr (ws := [(h0, .inr (8, [.int 8, .int 3, .null, .int 0])), (q8978, iA G 24 (fun _ => 0))]) hP hD (fun hP hD => ?_)
  refine Wcast (c1 := 1) (s1 := 24) rfl rfl ?_
  refine pf_X8_24 hC rfl rfl hK hP hD hS 0 (ws' := [(h0, oX8 8 3 q8978 0), (q8978, iA G 24 (fun _ => 0))]) rfl (Nat.le_of_ble_eq_true rfl) rfl rfl rfl dX8_init_34 (fun H locs hP hD hS => ?_)
  refine lv_aload_n hx hb dX8_init_37 rfl (lv_at0 hl) ?_
  refine lv_iconst (v := 0) hx hb dX8_init_38 (by decide) ?_
  refine pf_X8_28 hC rfl hK hP hD hS 0 (ws' := [(h0, oX8 8 3 q8978 0), (q8978, iA G 24 (fun _ => 0))]) rfl (Nat.le_of_ble_eq_true rfl) rfl rfl rfl dX8_init_39 (fun H locs hP hD hS => ?_)
  exact toQ hQ0 (RV hC hP hD hS [0, 1] q8978 rfl rfl (by decide) (trivial) dX8_init_42)
def K_c_T_init_9_7 (l : Launch) (G : GG) (h0 : Nat) : Prop := MV l G yX8_init cX8_init 3 2 1 63 [.ref h0, .int 9, .int 7] [(h0, .inr (8, [.int 0, .int 0, .null, .int 0]))] (fun u : Nat => True) (fun u : Nat => [(h0, oX8 9 7 u 0), (u, iA G 63 (fun _ => 0))])
set_option maxHeartbeats 4000000 in
set_option maxRecDepth 100000 in
theorem c_T_init_9_7 (l : Launch) (G : GG) (h0 : Nat) : K_c_T_init_9_7 l G h0 := by
  refine MV.start (by decide +kernel) (Nat.le_of_ble_eq_true rfl) ?_
  intro p e s m below meth c A ls hC hK hP hD hS hA hl
  refine absQ (fun Q0 hQ0 => ?_)
  have hl : lv_has ls 3 [(0, .ref h0), (1, .int 9), (2, .int 7)] := hl
  refine Kan8 hC (fun hx hb hr hml hB hown hlocks hnm => ?_)
  refine lv_aload_n hx hb dX8_init_0 rfl (lv_at0 hl) ?_
  refine W.objInit hx hb hown (hB _ m_140) (hB _ m_128) (hB _ m_129) rfl (by rw [hml]; exact hl.1) rfl dX8_init_1 (Nat.le_of_ble_eq_true rfl) (Nat.le_of_ble_eq_true rfl) ?_
  refine W.eq (g2 := F0 m 4 ls []) rfl ?_
  refine lv_aload_n hx hb dX8_init_4 rfl (lv_at0 hl) ?_
  refine lv_iload_n hx hb dX8_init_5 rfl (lv_at1 hl) ?_
  refine lv_iconst (v := 0) hx hb dX8_init_6 (by decide) ?_
  refine va_mmax hx hb (hml.trans hl.1.symm) hown (hB _ m_141) (hB _ m_142) (hB _ m_105) (hB _ m_143) (Nat.le_of_ble_eq_true rfl) (Nat.le_of_ble_eq_true rfl) (by first | exact Nat.le_of_ble_eq_true rfl | exact Nat.zero_le _)  (by first | exact Nat.le_of_ble_eq_true rfl | exact Nat.zero_le _) dX8_init_7 ?_
  refine eqi (x1 := 9) (by decide) ?_
  refine pf_X8_15 hC rfl rfl hK hP hD hS 0 (ws' := [(h0, .inr (8, [.int 9, .int 0, .null, .int 0]))]) rfl (Nat.le_of_ble_eq_true rfl) rfl rfl rfl dX8_init_10 (fun H locs hP hD hS => ?_)
  refine lv_aload_n hx hb dX8_init_13 rfl (lv_at0 hl) ?_
  refine lv_iload_n hx hb dX8_init_14 rfl (lv_at2 hl) ?_
  refine lv_iconst (v := 1) hx hb dX8_init_15 (by decide) ?_
  refine va_mmax hx hb (hml.trans hl.1.symm) hown (hB _ m_141) (hB _ m_142) (hB _ m_105) (hB _ m_143) (Nat.le_of_ble_eq_true rfl) (Nat.le_of_ble_eq_true rfl) (by first | exact Nat.le_of_ble_eq_true rfl | exact Nat.zero_le _)  (by first | exact Nat.le_of_ble_eq_true rfl | exact Nat.zero_le _) dX8_init_16 ?_
  refine eqi (x1 := 7) (by decide) ?_
  refine pf_X8_21 hC rfl rfl hK hP hD hS 0 (ws' := [(h0, .inr (8, [.int 9, .int 7, .null, .int 0]))]) rfl (Nat.le_of_ble_eq_true rfl) rfl rfl rfl dX8_init_19 (fun H locs hP hD hS => ?_)
  refine lv_aload_n hx hb dX8_init_22 rfl (lv_at0 hl) ?_
  refine lv_aload_n hx hb dX8_init_23 rfl (lv_at0 hl) ?_
  refine gf_X8_15 hC rfl hK hP 0 rfl rfl dX8_init_24 ?_
  refine lv_aload_n hx hb dX8_init_27 rfl (lv_at0 hl) ?_
  refine gf_X8_21 hC rfl hK hP 0 rfl rfl dX8_init_28 ?_
  refine lv_imul hx hb dX8_init_31 ?_
  refine eqi (x1 := 63) (by decide) ?_
  refine newI hC hK hP hD hS hA m_148 (by decide) (N := 63) (by decide +kernel) (Nat.le_of_ble_eq_true rfl) (by decide) (Nat.le_of_ble_eq_true rfl) dX8_init_32 (fun q8979 H hP hD hS => ?_)
  refine Kpdr (ws := [(h0, .inr (8, [.int 9, .int 7, .null, .int 0])), (q8979, iA G 63 (fun _ => 0))]) hP hD (fun hP hD => ?_)
  refine Wcast (c1 := 1) (s1 := 63) rfl rfl ?_
  refine pf_X8_24 hC rfl rfl hK hP hD hS 0 (ws' := [(h0, oX8 9 7 q8979 0), (q8979, iA G 63 (fun _ => 0))]) rfl (Nat.le_of_ble_eq_true rfl) rfl rfl rfl dX8_init_34 (fun H locs hP hD hS => ?_)
  refine lv_aload_n hx hb dX8_init_37 rfl (lv_at0 hl) ?_
  refine lv_iconst (v := 0) hx hb dX8_init_38 (by decide) ?_
  refine pf_X8_28 hC rfl hK hP hD hS 0 (ws' := [(h0, oX8 9 7 q8979 0), (q8979, iA G 63 (fun _ => 0))]) rfl (Nat.le_of_ble_eq_true rfl) rfl rfl rfl dX8_init_39 (fun H locs hP hD hS => ?_)
  exact toQ hQ0 (RV hC hP hD hS [0, 1] q8979 rfl rfl (by decide) (trivial) dX8_init_42)
def K_c_T_init_10_2 (l : Launch) (G : GG) (h0 : Nat) : Prop := MV l G yX8_init cX8_init 3 2 1 20 [.ref h0, .int 10, .int 2] [(h0, .inr (8, [.int 0, .int 0, .null, .int 0]))] (fun u : Nat => True) (fun u : Nat => [(h0, oX8 10 2 u 0), (u, iA G 20 (fun _ => 0))])
set_option maxHeartbeats 4000000 in
set_option maxRecDepth 100000 in
theorem c_T_init_10_2 (l : Launch) (G : GG) (h0 : Nat) : K_c_T_init_10_2 l G h0 := by
  refine MV.start (by decide +kernel) (Nat.le_of_ble_eq_true rfl) ?_
  intro p e s m below meth c A ls hC hK hP hD hS hA hl
  refine absQ (fun Q0 hQ0 => ?_)
  have hl : lv_has ls 3 [(0, .ref h0), (1, .int 10), (2, .int 2)] := hl
  refine Kan8 hC (fun hx hb hr hml hB hown hlocks hnm => ?_)
  refine lv_aload_n hx hb dX8_init_0 rfl (lv_at0 hl) ?_
  refine W.objInit hx hb hown (hB _ m_140) (hB _ m_128) (hB _ m_129) rfl (by rw [hml]; exact hl.1) rfl dX8_init_1 (Nat.le_of_ble_eq_true rfl) (Nat.le_of_ble_eq_true rfl) ?_
  refine W.eq (g2 := F0 m 4 ls []) rfl ?_
  refine lv_aload_n hx hb dX8_init_4 rfl (lv_at0 hl) ?_
  refine lv_iload_n hx hb dX8_init_5 rfl (lv_at1 hl) ?_
  refine lv_iconst (v := 0) hx hb dX8_init_6 (by decide) ?_
  refine va_mmax hx hb (hml.trans hl.1.symm) hown (hB _ m_141) (hB _ m_142) (hB _ m_105) (hB _ m_143) (Nat.le_of_ble_eq_true rfl) (Nat.le_of_ble_eq_true rfl) (by first | exact Nat.le_of_ble_eq_true rfl | exact Nat.zero_le _)  (by first | exact Nat.le_of_ble_eq_true rfl | exact Nat.zero_le _) dX8_init_7 ?_
  refine eqi (x1 := 10) (by decide) ?_
  refine pf_X8_15 hC rfl rfl hK hP hD hS 0 (ws' := [(h0, .inr (8, [.int 10, .int 0, .null, .int 0]))]) rfl (Nat.le_of_ble_eq_true rfl) rfl rfl rfl dX8_init_10 (fun H locs hP hD hS => ?_)
  refine lv_aload_n hx hb dX8_init_13 rfl (lv_at0 hl) ?_
  refine lv_iload_n hx hb dX8_init_14 rfl (lv_at2 hl) ?_
  refine lv_iconst (v := 1) hx hb dX8_init_15 (by decide) ?_
  refine va_mmax hx hb (hml.trans hl.1.symm) hown (hB _ m_141) (hB _ m_142) (hB _ m_105) (hB _ m_143) (Nat.le_of_ble_eq_true rfl) (Nat.le_of_ble_eq_true rfl) (by first | exact Nat.le_of_ble_eq_true rfl | exact Nat.zero_le _)  (by first | exact Nat.le_of_ble_eq_true rfl | exact Nat.zero_le _) dX8_init_16 ?_
  refine eqi (x1 := 2) (by decide) ?_
  refine pf_X8_21 hC rfl rfl hK hP hD hS 0 (ws' := [(h0, .inr (8, [.int 10, .int 2, .null, .int 0]))]) rfl (Nat.le_of_ble_eq_true rfl) rfl rfl rfl dX8_init_19 (fun H locs hP hD hS => ?_)
  refine lv_aload_n hx hb dX8_init_22 rfl (lv_at0 hl) ?_
  refine lv_aload_n hx hb dX8_init_23 rfl (lv_at0 hl) ?_
  refine gf_X8_15 hC rfl hK hP 0 rfl rfl dX8_init_24 ?_
  refine lv_aload_n hx hb dX8_init_27 rfl (lv_at0 hl) ?_
  refine gf_X8_21 hC rfl hK hP 0 rfl rfl dX8_init_28 ?_
  refine lv_imul hx hb dX8_init_31 ?_
  refine eqi (x1 := 20) (by decide) ?_
  refine newI hC hK hP hD hS hA m_148 (by decide) (N := 20) (by decide +kernel) (Nat.le_of_ble_eq_true rfl) (by decide) (Nat.le_of_ble_eq_true rfl) dX8_init_32 (fun q8980 H hP hD hS => ?_)
  refine Kpdr (ws := [(h0, .inr (8, [.int 10, .int 2, .null, .int 0])), (q8980, iA G 20 (fun _ => 0))]) hP hD (fun hP hD => ?_)
  refine Wcast (c1 := 1) (s1 := 20) rfl rfl ?_
  refine pf_X8_24 hC rfl rfl hK hP hD hS 0 (ws' := [(h0, oX8 10 2 q8980 0), (q8980, iA G 20 (fun _ => 0))]) rfl (Nat.le_of_ble_eq_true rfl) rfl rfl rfl dX8_init_34 (fun H locs hP hD hS => ?_)
  refine lv_aload_n hx hb dX8_init_37 rfl (lv_at0 hl) ?_
  refine lv_iconst (v := 0) hx hb dX8_init_38 (by decide) ?_
  refine pf_X8_28 hC rfl hK hP hD hS 0 (ws' := [(h0, oX8 10 2 q8980 0), (q8980, iA G 20 (fun _ => 0))]) rfl (Nat.le_of_ble_eq_true rfl) rfl rfl rfl dX8_init_39 (fun H locs hP hD hS => ?_)
  exact toQ hQ0 (RV hC hP hD hS [0, 1] q8980 rfl rfl (by decide) (trivial) dX8_init_42)
def K_c_T_init_12_4 (l : Launch) (G : GG) (h0 : Nat) : Prop := MV l G yX8_init cX8_init 3 2 1 48 [.ref h0, .int 12, .int 4] [(h0, .inr (8, [.int 0, .int 0, .null, .int 0]))] (fun u : Nat => True) (fun u : Nat => [(h0, oX8 12 4 u 0), (u, iA G 48 (fun _ => 0))])
set_option maxHeartbeats 4000000 in
set_option maxRecDepth 100000 in
theorem c_T_init_12_4 (l : Launch) (G : GG) (h0 : Nat) : K_c_T_init_12_4 l G h0 := by
  refine MV.start (by decide +kernel) (Nat.le_of_ble_eq_true rfl) ?_
  intro p e s m below meth c A ls hC hK hP hD hS hA hl
  refine absQ (fun Q0 hQ0 => ?_)
  have hl : lv_has ls 3 [(0, .ref h0), (1, .int 12), (2, .int 4)] := hl
  refine Kan8 hC (fun hx hb hr hml hB hown hlocks hnm => ?_)
  refine lv_aload_n hx hb dX8_init_0 rfl (lv_at0 hl) ?_
  refine W.objInit hx hb hown (hB _ m_140) (hB _ m_128) (hB _ m_129) rfl (by rw [hml]; exact hl.1) rfl dX8_init_1 (Nat.le_of_ble_eq_true rfl) (Nat.le_of_ble_eq_true rfl) ?_
  refine W.eq (g2 := F0 m 4 ls []) rfl ?_
  refine lv_aload_n hx hb dX8_init_4 rfl (lv_at0 hl) ?_
  refine lv_iload_n hx hb dX8_init_5 rfl (lv_at1 hl) ?_
  refine lv_iconst (v := 0) hx hb dX8_init_6 (by decide) ?_
  refine va_mmax hx hb (hml.trans hl.1.symm) hown (hB _ m_141) (hB _ m_142) (hB _ m_105) (hB _ m_143) (Nat.le_of_ble_eq_true rfl) (Nat.le_of_ble_eq_true rfl) (by first | exact Nat.le_of_ble_eq_true rfl | exact Nat.zero_le _)  (by first | exact Nat.le_of_ble_eq_true rfl | exact Nat.zero_le _) dX8_init_7 ?_
  refine eqi (x1 := 12) (by decide) ?_
  refine pf_X8_15 hC rfl rfl hK hP hD hS 0 (ws' := [(h0, .inr (8, [.int 12, .int 0, .null, .int 0]))]) rfl (Nat.le_of_ble_eq_true rfl) rfl rfl rfl dX8_init_10 (fun H locs hP hD hS => ?_)
  refine lv_aload_n hx hb dX8_init_13 rfl (lv_at0 hl) ?_
  refine lv_iload_n hx hb dX8_init_14 rfl (lv_at2 hl) ?_
  refine lv_iconst (v := 1) hx hb dX8_init_15 (by decide) ?_
  refine va_mmax hx hb (hml.trans hl.1.symm) hown (hB _ m_141) (hB _ m_142) (hB _ m_105) (hB _ m_143) (Nat.le_of_ble_eq_true rfl) (Nat.le_of_ble_eq_true rfl) (by first | exact Nat.le_of_ble_eq_true rfl | exact Nat.zero_le _)  (by first | exact Nat.le_of_ble_eq_true rfl | exact Nat.zero_le _) dX8_init_16 ?_
  refine eqi (x1 := 4) (by decide) ?_
  refine pf_X8_21 hC rfl rfl hK hP hD hS 0 (ws' := [(h0, .inr (8, [.int 12, .int 4, .null, .int 0]))]) rfl (Nat.le_of_ble_eq_true rfl) rfl rfl rfl dX8_init_19 (fun H locs hP hD hS => ?_)
  refine lv_aload_n hx hb dX8_init_22 rfl (lv_at0 hl) ?_
  refine lv_aload_n hx hb dX8_init_23 rfl (lv_at0 hl) ?_
  refine gf_X8_15 hC rfl hK hP 0 rfl rfl dX8_init_24 ?_
  refine lv_aload_n hx hb dX8_init_27 rfl (lv_at0 hl) ?_
  refine gf_X8_21 hC rfl hK hP 0 rfl rfl dX8_init_28 ?_
  refine lv_imul hx hb dX8_init_31 ?_
  refine eqi (x1 := 48) (by decide) ?_
  refine newI hC hK hP hD hS hA m_148 (by decide) (N := 48) (by decide +kernel) (Nat.le_of_ble_eq_true rfl) (by decide) (Nat.le_of_ble_eq_true rfl) dX8_init_32 (fun q8981 H hP hD hS => ?_)
  refine Kpdr (ws := [(h0, .inr (8, [.int 12, .int 4, .null, .int 0])), (q8981, iA G 48 (fun _ => 0))]) hP hD (fun hP hD => ?_)
  refine Wcast (c1 := 1) (s1 := 48) rfl rfl ?_
  refine pf_X8_24 hC rfl rfl hK hP hD hS 0 (ws' := [(h0, oX8 12 4 q8981 0), (q8981, iA G 48 (fun _ => 0))]) rfl (Nat.le_of_ble_eq_true rfl) rfl rfl rfl dX8_init_34 (fun H locs hP hD hS => ?_)
  refine lv_aload_n hx hb dX8_init_37 rfl (lv_at0 hl) ?_
  refine lv_iconst (v := 0) hx hb dX8_init_38 (by decide) ?_
  refine pf_X8_28 hC rfl hK hP hD hS 0 (ws' := [(h0, oX8 12 4 q8981 0), (q8981, iA G 48 (fun _ => 0))]) rfl (Nat.le_of_ble_eq_true rfl) rfl rfl rfl dX8_init_39 (fun H locs hP hD hS => ?_)
  exact toQ hQ0 (RV hC hP hD hS [0, 1] q8981 rfl rfl (by decide) (trivial) dX8_init_42)
def K_c_T_init_12_6 (l : Launch) (G : GG) (h0 : Nat) : Prop := MV l G yX8_init cX8_init 3 2 1 72 [.ref h0, .int 12, .int 6] [(h0, .inr (8, [.int 0, .int 0, .null, .int 0]))] (fun u : Nat => True) (fun u : Nat => [(h0, oX8 12 6 u 0), (u, iA G 72 (fun _ => 0))])
set_option maxHeartbeats 4000000 in
set_option maxRecDepth 100000 in
theorem c_T_init_12_6 (l : Launch) (G : GG) (h0 : Nat) : K_c_T_init_12_6 l G h0 := by
  refine MV.start (by decide +kernel) (Nat.le_of_ble_eq_true rfl) ?_
  intro p e s m below meth c A ls hC hK hP hD hS hA hl
  refine absQ (fun Q0 hQ0 => ?_)
  have hl : lv_has ls 3 [(0, .ref h0), (1, .int 12), (2, .int 6)] := hl
  refine Kan8 hC (fun hx hb hr hml hB hown hlocks hnm => ?_)
  refine lv_aload_n hx hb dX8_init_0 rfl (lv_at0 hl) ?_
  refine W.objInit hx hb hown (hB _ m_140) (hB _ m_128) (hB _ m_129) rfl (by rw [hml]; exact hl.1) rfl dX8_init_1 (Nat.le_of_ble_eq_true rfl) (Nat.le_of_ble_eq_true rfl) ?_
  refine W.eq (g2 := F0 m 4 ls []) rfl ?_
  refine lv_aload_n hx hb dX8_init_4 rfl (lv_at0 hl) ?_
  refine lv_iload_n hx hb dX8_init_5 rfl (lv_at1 hl) ?_
  refine lv_iconst (v := 0) hx hb dX8_init_6 (by decide) ?_
  refine va_mmax hx hb (hml.trans hl.1.symm) hown (hB _ m_141) (hB _ m_142) (hB _ m_105) (hB _ m_143) (Nat.le_of_ble_eq_true rfl) (Nat.le_of_ble_eq_true rfl) (by first | exact Nat.le_of_ble_eq_true rfl | exact Nat.zero_le _)  (by first | exact Nat.le_of_ble_eq_true rfl | exact Nat.zero_le _) dX8_init_7 ?_
  refine eqi (x1 := 12) (by decide) ?_
  refine pf_X8_15 hC rfl rfl hK hP hD hS 0 (ws' := [(h0, .inr (8, [.int 12, .int 0, .null, .int 0]))]) rfl (Nat.le_of_ble_eq_true rfl) rfl rfl rfl dX8_init_10 (fun H locs hP hD hS => ?_)
  refine lv_aload_n hx hb dX8_init_13 rfl (lv_at0 hl) ?_
  refine lv_iload_n hx hb dX8_init_14 rfl (lv_at2 hl) ?_
  refine lv_iconst (v := 1) hx hb dX8_init_15 (by decide) ?_
  refine va_mmax hx hb (hml.trans hl.1.symm) hown (hB _ m_141) (hB _ m_142) (hB _ m_105) (hB _ m_143) (Nat.le_of_ble_eq_true rfl) (Nat.le_of_ble_eq_true rfl) (by first | exact Nat.le_of_ble_eq_true rfl | exact Nat.zero_le _)  (by first | exact Nat.le_of_ble_eq_true rfl | exact Nat.zero_le _) dX8_init_16 ?_
  refine eqi (x1 := 6) (by decide) ?_
  refine pf_X8_21 hC rfl rfl hK hP hD hS 0 (ws' := [(h0, .inr (8, [.int 12, .int 6, .null, .int 0]))]) rfl (Nat.le_of_ble_eq_true rfl) rfl rfl rfl dX8_init_19 (fun H locs hP hD hS => ?_)
  refine lv_aload_n hx hb dX8_init_22 rfl (lv_at0 hl) ?_
  refine lv_aload_n hx hb dX8_init_23 rfl (lv_at0 hl) ?_
  refine gf_X8_15 hC rfl hK hP 0 rfl rfl dX8_init_24 ?_
  refine lv_aload_n hx hb dX8_init_27 rfl (lv_at0 hl) ?_
  refine gf_X8_21 hC rfl hK hP 0 rfl rfl dX8_init_28 ?_
  refine lv_imul hx hb dX8_init_31 ?_
  refine eqi (x1 := 72) (by decide) ?_
  refine newI hC hK hP hD hS hA m_148 (by decide) (N := 72) (by decide +kernel) (Nat.le_of_ble_eq_true rfl) (by decide) (Nat.le_of_ble_eq_true rfl) dX8_init_32 (fun q8982 H hP hD hS => ?_)
  refine Kpdr (ws := [(h0, .inr (8, [.int 12, .int 6, .null, .int 0])), (q8982, iA G 72 (fun _ => 0))]) hP hD (fun hP hD => ?_)
  refine Wcast (c1 := 1) (s1 := 72) rfl rfl ?_
  refine pf_X8_24 hC rfl rfl hK hP hD hS 0 (ws' := [(h0, oX8 12 6 q8982 0), (q8982, iA G 72 (fun _ => 0))]) rfl (Nat.le_of_ble_eq_true rfl) rfl rfl rfl dX8_init_34 (fun H locs hP hD hS => ?_)
  refine lv_aload_n hx hb dX8_init_37 rfl (lv_at0 hl) ?_
  refine lv_iconst (v := 0) hx hb dX8_init_38 (by decide) ?_
  refine pf_X8_28 hC rfl hK hP hD hS 0 (ws' := [(h0, oX8 12 6 q8982 0), (q8982, iA G 72 (fun _ => 0))]) rfl (Nat.le_of_ble_eq_true rfl) rfl rfl rfl dX8_init_39 (fun H locs hP hD hS => ?_)
  exact toQ hQ0 (RV hC hP hD hS [0, 1] q8982 rfl rfl (by decide) (trivial) dX8_init_42)
def K_c_T_init_16_3 (l : Launch) (G : GG) (h0 : Nat) : Prop := MV l G yX8_init cX8_init 3 2 1 48 [.ref h0, .int 16, .int 3] [(h0, .inr (8, [.int 0, .int 0, .null, .int 0]))] (fun u : Nat => True) (fun u : Nat => [(h0, oX8 16 3 u 0), (u, iA G 48 (fun _ => 0))])
set_option maxHeartbeats 4000000 in
set_option maxRecDepth 100000 in
theorem c_T_init_16_3 (l : Launch) (G : GG) (h0 : Nat) : K_c_T_init_16_3 l G h0 := by
  refine MV.start (by decide +kernel) (Nat.le_of_ble_eq_true rfl) ?_
  intro p e s m below meth c A ls hC hK hP hD hS hA hl
  refine absQ (fun Q0 hQ0 => ?_)
  have hl : lv_has ls 3 [(0, .ref h0), (1, .int 16), (2, .int 3)] := hl
  refine Kan8 hC (fun hx hb hr hml hB hown hlocks hnm => ?_)
  refine lv_aload_n hx hb dX8_init_0 rfl (lv_at0 hl) ?_
  refine W.objInit hx hb hown (hB _ m_140) (hB _ m_128) (hB _ m_129) rfl (by rw [hml]; exact hl.1) rfl dX8_init_1 (Nat.le_of_ble_eq_true rfl) (Nat.le_of_ble_eq_true rfl) ?_
  refine W.eq (g2 := F0 m 4 ls []) rfl ?_
  refine lv_aload_n hx hb dX8_init_4 rfl (lv_at0 hl) ?_
  refine lv_iload_n hx hb dX8_init_5 rfl (lv_at1 hl) ?_
  refine lv_iconst (v := 0) hx hb dX8_init_6 (by decide) ?_
  refine va_mmax hx hb (hml.trans hl.1.symm) hown (hB _ m_141) (hB _ m_142) (hB _ m_105) (hB _ m_143) (Nat.le_of_ble_eq_true rfl) (Nat.le_of_ble_eq_true rfl) (by first | exact Nat.le_of_ble_eq_true rfl | exact Nat.zero_le _)  (by first | exact Nat.le_of_ble_eq_true rfl | exact Nat.zero_le _) dX8_init_7 ?_
  refine eqi (x1 := 16) (by decide) ?_
  refine pf_X8_15 hC rfl rfl hK hP hD hS 0 (ws' := [(h0, .inr (8, [.int 16, .int 0, .null, .int 0]))]) rfl (Nat.le_of_ble_eq_true rfl) rfl rfl rfl dX8_init_10 (fun H locs hP hD hS => ?_)
  refine lv_aload_n hx hb dX8_init_13 rfl (lv_at0 hl) ?_
  refine lv_iload_n hx hb dX8_init_14 rfl (lv_at2 hl) ?_
  refine lv_iconst (v := 1) hx hb dX8_init_15 (by decide) ?_
  refine va_mmax hx hb (hml.trans hl.1.symm) hown (hB _ m_141) (hB _ m_142) (hB _ m_105) (hB _ m_143) (Nat.le_of_ble_eq_true rfl) (Nat.le_of_ble_eq_true rfl) (by first | exact Nat.le_of_ble_eq_true rfl | exact Nat.zero_le _)  (by first | exact Nat.le_of_ble_eq_true rfl | exact Nat.zero_le _) dX8_init_16 ?_
  refine eqi (x1 := 3) (by decide) ?_
  refine pf_X8_21 hC rfl rfl hK hP hD hS 0 (ws' := [(h0, .inr (8, [.int 16, .int 3, .null, .int 0]))]) rfl (Nat.le_of_ble_eq_true rfl) rfl rfl rfl dX8_init_19 (fun H locs hP hD hS => ?_)
  refine lv_aload_n hx hb dX8_init_22 rfl (lv_at0 hl) ?_
  refine lv_aload_n hx hb dX8_init_23 rfl (lv_at0 hl) ?_
  refine gf_X8_15 hC rfl hK hP 0 rfl rfl dX8_init_24 ?_
  refine lv_aload_n hx hb dX8_init_27 rfl (lv_at0 hl) ?_
  refine gf_X8_21 hC rfl hK hP 0 rfl rfl dX8_init_28 ?_
  refine lv_imul hx hb dX8_init_31 ?_
  refine eqi (x1 := 48) (by decide) ?_
  refine newI hC hK hP hD hS hA m_148 (by decide) (N := 48) (by decide +kernel) (Nat.le_of_ble_eq_true rfl) (by decide) (Nat.le_of_ble_eq_true rfl) dX8_init_32 (fun q8983 H hP hD hS => ?_)
  refine Kpdr (ws := [(h0, .inr (8, [.int 16, .int 3, .null, .int 0])), (q8983, iA G 48 (fun _ => 0))]) hP hD (fun hP hD => ?_)
  refine Wcast (c1 := 1) (s1 := 48) rfl rfl ?_
  refine pf_X8_24 hC rfl rfl hK hP hD hS 0 (ws' := [(h0, oX8 16 3 q8983 0), (q8983, iA G 48 (fun _ => 0))]) rfl (Nat.le_of_ble_eq_true rfl) rfl rfl rfl dX8_init_34 (fun H locs hP hD hS => ?_)
  refine lv_aload_n hx hb dX8_init_37 rfl (lv_at0 hl) ?_
  refine lv_iconst (v := 0) hx hb dX8_init_38 (by decide) ?_
  refine pf_X8_28 hC rfl hK hP hD hS 0 (ws' := [(h0, oX8 16 3 q8983 0), (q8983, iA G 48 (fun _ => 0))]) rfl (Nat.le_of_ble_eq_true rfl) rfl rfl rfl dX8_init_39 (fun H locs hP hD hS => ?_)
  exact toQ hQ0 (RV hC hP hD hS [0, 1] q8983 rfl rfl (by decide) (trivial) dX8_init_42)
def K_c_T_init_16_8 (l : Launch) (G : GG) (h0 : Nat) : Prop := MV l G yX8_init cX8_init 3 2 1 128 [.ref h0, .int 16, .int 8] [(h0, .inr (8, [.int 0, .int 0, .null, .int 0]))] (fun u : Nat => True) (fun u : Nat => [(h0, oX8 16 8 u 0), (u, iA G 128 (fun _ => 0))])
set_option maxHeartbeats 4000000 in
set_option maxRecDepth 100000 in
theorem c_T_init_16_8 (l : Launch) (G : GG) (h0 : Nat) : K_c_T_init_16_8 l G h0 := by
  refine MV.start (by decide +kernel) (Nat.le_of_ble_eq_true rfl) ?_
  intro p e s m below meth c A ls hC hK hP hD hS hA hl
  refine absQ (fun Q0 hQ0 => ?_)
  have hl : lv_has ls 3 [(0, .ref h0), (1, .int 16), (2, .int 8)] := hl
  refine Kan8 hC (fun hx hb hr hml hB hown hlocks hnm => ?_)
  refine lv_aload_n hx hb dX8_init_0 rfl (lv_at0 hl) ?_
  refine W.objInit hx hb hown (hB _ m_140) (hB _ m_128) (hB _ m_129) rfl (by rw [hml]; exact hl.1) rfl dX8_init_1 (Nat.le_of_ble_eq_true rfl) (Nat.le_of_ble_eq_true rfl) ?_
  refine W.eq (g2 := F0 m 4 ls []) rfl ?_
  refine lv_aload_n hx hb dX8_init_4 rfl (lv_at0 hl) ?_
  refine lv_iload_n hx hb dX8_init_5 rfl (lv_at1 hl) ?_
  refine lv_iconst (v := 0) hx hb dX8_init_6 (by decide) ?_
  refine va_mmax hx hb (hml.trans hl.1.symm) hown (hB _ m_141) (hB _ m_142) (hB _ m_105) (hB _ m_143) (Nat.le_of_ble_eq_true rfl) (Nat.le_of_ble_eq_true rfl) (by first | exact Nat.le_of_ble_eq_true rfl | exact Nat.zero_le _)  (by first | exact Nat.le_of_ble_eq_true rfl | exact Nat.zero_le _) dX8_init_7 ?_
  refine eqi (x1 := 16) (by decide) ?_
  refine pf_X8_15 hC rfl rfl hK hP hD hS 0 (ws' := [(h0, .inr (8, [.int 16, .int 0, .null, .int 0]))]) rfl (Nat.le_of_ble_eq_true rfl) rfl rfl rfl dX8_init_10 (fun H locs hP hD hS => ?_)
  refine lv_aload_n hx hb dX8_init_13 rfl (lv_at0 hl) ?_
  refine lv_iload_n hx hb dX8_init_14 rfl (lv_at2 hl) ?_
  refine lv_iconst (v := 1) hx hb dX8_init_15 (by decide) ?_
  refine va_mmax hx hb (hml.trans hl.1.symm) hown (hB _ m_141) (hB _ m_142) (hB _ m_105) (hB _ m_143) (Nat.le_of_ble_eq_true rfl) (Nat.le_of_ble_eq_true rfl) (by first | exact Nat.le_of_ble_eq_true rfl | exact Nat.zero_le _)  (by first | exact Nat.le_of_ble_eq_true rfl | exact Nat.zero_le _) dX8_init_16 ?_
  refine eqi (x1 := 8) (by decide) ?_
  refine pf_X8_21 hC rfl rfl hK hP hD hS 0 (ws' := [(h0, .inr (8, [.int 16, .int 8, .null, .int 0]))]) rfl (Nat.le_of_ble_eq_true rfl) rfl rfl rfl dX8_init_19 (fun H locs hP hD hS => ?_)
  refine lv_aload_n hx hb dX8_init_22 rfl (lv_at0 hl) ?_
  refine lv_aload_n hx hb dX8_init_23 rfl (lv_at0 hl) ?_
  refine gf_X8_15 hC rfl hK hP 0 rfl rfl dX8_init_24 ?_
  refine lv_aload_n hx hb dX8_init_27 rfl (lv_at0 hl) ?_
  refine gf_X8_21 hC rfl hK hP 0 rfl rfl dX8_init_28 ?_
  refine lv_imul hx hb dX8_init_31 ?_
  refine eqi (x1 := 128) (by decide) ?_
  refine newI hC hK hP hD hS hA m_148 (by decide) (N := 128) (by decide +kernel) (Nat.le_of_ble_eq_true rfl) (by decide) (Nat.le_of_ble_eq_true rfl) dX8_init_32 (fun q8984 H hP hD hS => ?_)
  refine Kpdr (ws := [(h0, .inr (8, [.int 16, .int 8, .null, .int 0])), (q8984, iA G 128 (fun _ => 0))]) hP hD (fun hP hD => ?_)
  refine Wcast (c1 := 1) (s1 := 128) rfl rfl ?_
  refine pf_X8_24 hC rfl rfl hK hP hD hS 0 (ws' := [(h0, oX8 16 8 q8984 0), (q8984, iA G 128 (fun _ => 0))]) rfl (Nat.le_of_ble_eq_true rfl) rfl rfl rfl dX8_init_34 (fun H locs hP hD hS => ?_)
  refine lv_aload_n hx hb dX8_init_37 rfl (lv_at0 hl) ?_
  refine lv_iconst (v := 0) hx hb dX8_init_38 (by decide) ?_
  refine pf_X8_28 hC rfl hK hP hD hS 0 (ws' := [(h0, oX8 16 8 q8984 0), (q8984, iA G 128 (fun _ => 0))]) rfl (Nat.le_of_ble_eq_true rfl) rfl rfl rfl dX8_init_39 (fun H locs hP hD hS => ?_)
  exact toQ hQ0 (RV hC hP hD hS [0, 1] q8984 rfl rfl (by decide) (trivial) dX8_init_42)
def K_c_T_init_24_3 (l : Launch) (G : GG) (h0 : Nat) : Prop := MV l G yX8_init cX8_init 3 2 1 72 [.ref h0, .int 24, .int 3] [(h0, .inr (8, [.int 0, .int 0, .null, .int 0]))] (fun u : Nat => True) (fun u : Nat => [(h0, oX8 24 3 u 0), (u, iA G 72 (fun _ => 0))])
set_option maxHeartbeats 4000000 in
set_option maxRecDepth 100000 in
theorem c_T_init_24_3 (l : Launch) (G : GG) (h0 : Nat) : K_c_T_init_24_3 l G h0 := by
  refine MV.start (by decide +kernel) (Nat.le_of_ble_eq_true rfl) ?_
  intro p e s m below meth c A ls hC hK hP hD hS hA hl
  refine absQ (fun Q0 hQ0 => ?_)
  have hl : lv_has ls 3 [(0, .ref h0), (1, .int 24), (2, .int 3)] := hl
  refine Kan8 hC (fun hx hb hr hml hB hown hlocks hnm => ?_)
  refine lv_aload_n hx hb dX8_init_0 rfl (lv_at0 hl) ?_
  refine W.objInit hx hb hown (hB _ m_140) (hB _ m_128) (hB _ m_129) rfl (by rw [hml]; exact hl.1) rfl dX8_init_1 (Nat.le_of_ble_eq_true rfl) (Nat.le_of_ble_eq_true rfl) ?_
  refine W.eq (g2 := F0 m 4 ls []) rfl ?_
  refine lv_aload_n hx hb dX8_init_4 rfl (lv_at0 hl) ?_
  refine lv_iload_n hx hb dX8_init_5 rfl (lv_at1 hl) ?_
  refine lv_iconst (v := 0) hx hb dX8_init_6 (by decide) ?_
  refine va_mmax hx hb (hml.trans hl.1.symm) hown (hB _ m_141) (hB _ m_142) (hB _ m_105) (hB _ m_143) (Nat.le_of_ble_eq_true rfl) (Nat.le_of_ble_eq_true rfl) (by first | exact Nat.le_of_ble_eq_true rfl | exact Nat.zero_le _)  (by first | exact Nat.le_of_ble_eq_true rfl | exact Nat.zero_le _) dX8_init_7 ?_
  refine eqi (x1 := 24) (by decide) ?_
  refine pf_X8_15 hC rfl rfl hK hP hD hS 0 (ws' := [(h0, .inr (8, [.int 24, .int 0, .null, .int 0]))]) rfl (Nat.le_of_ble_eq_true rfl) rfl rfl rfl dX8_init_10 (fun H locs hP hD hS => ?_)
  refine lv_aload_n hx hb dX8_init_13 rfl (lv_at0 hl) ?_
  refine lv_iload_n hx hb dX8_init_14 rfl (lv_at2 hl) ?_
  refine lv_iconst (v := 1) hx hb dX8_init_15 (by decide) ?_
  refine va_mmax hx hb (hml.trans hl.1.symm) hown (hB _ m_141) (hB _ m_142) (hB _ m_105) (hB _ m_143) (Nat.le_of_ble_eq_true rfl) (Nat.le_of_ble_eq_true rfl) (by first | exact Nat.le_of_ble_eq_true rfl | exact Nat.zero_le _)  (by first | exact Nat.le_of_ble_eq_true rfl | exact Nat.zero_le _) dX8_init_16 ?_
  refine eqi (x1 := 3) (by decide) ?_
  refine pf_X8_21 hC rfl rfl hK hP hD hS 0 (ws' := [(h0, .inr (8, [.int 24, .int 3, .null, .int 0]))]) rfl (Nat.le_of_ble_eq_true rfl) rfl rfl rfl dX8_init_19 (fun H locs hP hD hS => ?_)
  refine lv_aload_n hx hb dX8_init_22 rfl (lv_at0 hl) ?_
  refine lv_aload_n hx hb dX8_init_23 rfl (lv_at0 hl) ?_
  refine gf_X8_15 hC rfl hK hP 0 rfl rfl dX8_init_24 ?_
  refine lv_aload_n hx hb dX8_init_27 rfl (lv_at0 hl) ?_
  refine gf_X8_21 hC rfl hK hP 0 rfl rfl dX8_init_28 ?_
  refine lv_imul hx hb dX8_init_31 ?_
  refine eqi (x1 := 72) (by decide) ?_
  refine newI hC hK hP hD hS hA m_148 (by decide) (N := 72) (by decide +kernel) (Nat.le_of_ble_eq_true rfl) (by decide) (Nat.le_of_ble_eq_true rfl) dX8_init_32 (fun q8985 H hP hD hS => ?_)
  refine Kpdr (ws := [(h0, .inr (8, [.int 24, .int 3, .null, .int 0])), (q8985, iA G 72 (fun _ => 0))]) hP hD (fun hP hD => ?_)
  refine Wcast (c1 := 1) (s1 := 72) rfl rfl ?_
  refine pf_X8_24 hC rfl rfl hK hP hD hS 0 (ws' := [(h0, oX8 24 3 q8985 0), (q8985, iA G 72 (fun _ => 0))]) rfl (Nat.le_of_ble_eq_true rfl) rfl rfl rfl dX8_init_34 (fun H locs hP hD hS => ?_)
  refine lv_aload_n hx hb dX8_init_37 rfl (lv_at0 hl) ?_
  refine lv_iconst (v := 0) hx hb dX8_init_38 (by decide) ?_
  refine pf_X8_28 hC rfl hK hP hD hS 0 (ws' := [(h0, oX8 24 3 q8985 0), (q8985, iA G 72 (fun _ => 0))]) rfl (Nat.le_of_ble_eq_true rfl) rfl rfl rfl dX8_init_39 (fun H locs hP hD hS => ?_)
  exact toQ hQ0 (RV hC hP hD hS [0, 1] q8985 rfl rfl (by decide) (trivial) dX8_init_42)
def K_c_T_init_72_7 (l : Launch) (G : GG) (h0 : Nat) : Prop := MV l G yX8_init cX8_init 3 2 1 504 [.ref h0, .int 72, .int 7] [(h0, .inr (8, [.int 0, .int 0, .null, .int 0]))] (fun u : Nat => True) (fun u : Nat => [(h0, oX8 72 7 u 0), (u, iA G 504 (fun _ => 0))])
set_option maxHeartbeats 4000000 in
set_option maxRecDepth 100000 in
theorem c_T_init_72_7 (l : Launch) (G : GG) (h0 : Nat) : K_c_T_init_72_7 l G h0 := by
  refine MV.start (by decide +kernel) (Nat.le_of_ble_eq_true rfl) ?_
  intro p e s m below meth c A ls hC hK hP hD hS hA hl
  refine absQ (fun Q0 hQ0 => ?_)
  have hl : lv_has ls 3 [(0, .ref h0), (1, .int 72), (2, .int 7)] := hl
  refine Kan8 hC (fun hx hb hr hml hB hown hlocks hnm => ?_)
  refine lv_aload_n hx hb dX8_init_0 rfl (lv_at0 hl) ?_
  refine W.objInit hx hb hown (hB _ m_140) (hB _ m_128) (hB _ m_129) rfl (by rw [hml]; exact hl.1) rfl dX8_init_1 (Nat.le_of_ble_eq_true rfl) (Nat.le_of_ble_eq_true rfl) ?_
  refine W.eq (g2 := F0 m 4 ls []) rfl ?_
  refine lv_aload_n hx hb dX8_init_4 rfl (lv_at0 hl) ?_
  refine lv_iload_n hx hb dX8_init_5 rfl (lv_at1 hl) ?_
  refine lv_iconst (v := 0) hx hb dX8_init_6 (by decide) ?_
  refine va_mmax hx hb (hml.trans hl.1.symm) hown (hB _ m_141) (hB _ m_142) (hB _ m_105) (hB _ m_143) (Nat.le_of_ble_eq_true rfl) (Nat.le_of_ble_eq_true rfl) (by first | exact Nat.le_of_ble_eq_true rfl | exact Nat.zero_le _)  (by first | exact Nat.le_of_ble_eq_true rfl | exact Nat.zero_le _) dX8_init_7 ?_
  refine eqi (x1 := 72) (by decide) ?_
  refine pf_X8_15 hC rfl rfl hK hP hD hS 0 (ws' := [(h0, .inr (8, [.int 72, .int 0, .null, .int 0]))]) rfl (Nat.le_of_ble_eq_true rfl) rfl rfl rfl dX8_init_10 (fun H locs hP hD hS => ?_)
  refine lv_aload_n hx hb dX8_init_13 rfl (lv_at0 hl) ?_
  refine lv_iload_n hx hb dX8_init_14 rfl (lv_at2 hl) ?_
  refine lv_iconst (v := 1) hx hb dX8_init_15 (by decide) ?_
  refine va_mmax hx hb (hml.trans hl.1.symm) hown (hB _ m_141) (hB _ m_142) (hB _ m_105) (hB _ m_143) (Nat.le_of_ble_eq_true rfl) (Nat.le_of_ble_eq_true rfl) (by first | exact Nat.le_of_ble_eq_true rfl | exact Nat.zero_le _)  (by first | exact Nat.le_of_ble_eq_true rfl | exact Nat.zero_le _) dX8_init_16 ?_
  refine eqi (x1 := 7) (by decide) ?_
  refine pf_X8_21 hC rfl rfl hK hP hD hS 0 (ws' := [(h0, .inr (8, [.int 72, .int 7, .null, .int 0]))]) rfl (Nat.le_of_ble_eq_true rfl) rfl rfl rfl dX8_init_19 (fun H locs hP hD hS => ?_)
  refine lv_aload_n hx hb dX8_init_22 rfl (lv_at0 hl) ?_
  refine lv_aload_n hx hb dX8_init_23 rfl (lv_at0 hl) ?_
  refine gf_X8_15 hC rfl hK hP 0 rfl rfl dX8_init_24 ?_
  refine lv_aload_n hx hb dX8_init_27 rfl (lv_at0 hl) ?_
  refine gf_X8_21 hC rfl hK hP 0 rfl rfl dX8_init_28 ?_
  refine lv_imul hx hb dX8_init_31 ?_
  refine eqi (x1 := 504) (by decide) ?_
  refine newI hC hK hP hD hS hA m_148 (by decide) (N := 504) (by decide +kernel) (Nat.le_of_ble_eq_true rfl) (by decide) (Nat.le_of_ble_eq_true rfl) dX8_init_32 (fun q8986 H hP hD hS => ?_)
  refine Kpdr (ws := [(h0, .inr (8, [.int 72, .int 7, .null, .int 0])), (q8986, iA G 504 (fun _ => 0))]) hP hD (fun hP hD => ?_)
  refine Wcast (c1 := 1) (s1 := 504) rfl rfl ?_
  refine pf_X8_24 hC rfl rfl hK hP hD hS 0 (ws' := [(h0, oX8 72 7 q8986 0), (q8986, iA G 504 (fun _ => 0))]) rfl (Nat.le_of_ble_eq_true rfl) rfl rfl rfl dX8_init_34 (fun H locs hP hD hS => ?_)
  refine lv_aload_n hx hb dX8_init_37 rfl (lv_at0 hl) ?_
  refine lv_iconst (v := 0) hx hb dX8_init_38 (by decide) ?_
  refine pf_X8_28 hC rfl hK hP hD hS 0 (ws' := [(h0, oX8 72 7 q8986 0), (q8986, iA G 504 (fun _ => 0))]) rfl (Nat.le_of_ble_eq_true rfl) rfl rfl rfl dX8_init_39 (fun H locs hP hD hS => ?_)
  exact toQ hQ0 (RV hC hP hD hS [0, 1] q8986 rfl rfl (by decide) (trivial) dX8_init_42)
def K_c_T_init_120_1 (l : Launch) (G : GG) (h0 : Nat) : Prop := MV l G yX8_init cX8_init 3 2 1 120 [.ref h0, .int 120, .int 1] [(h0, .inr (8, [.int 0, .int 0, .null, .int 0]))] (fun u : Nat => True) (fun u : Nat => [(h0, oX8 120 1 u 0), (u, iA G 120 (fun _ => 0))])
set_option maxHeartbeats 4000000 in
set_option maxRecDepth 100000 in
theorem c_T_init_120_1 (l : Launch) (G : GG) (h0 : Nat) : K_c_T_init_120_1 l G h0 := by
  refine MV.start (by decide +kernel) (Nat.le_of_ble_eq_true rfl) ?_
  intro p e s m below meth c A ls hC hK hP hD hS hA hl
  refine absQ (fun Q0 hQ0 => ?_)
  have hl : lv_has ls 3 [(0, .ref h0), (1, .int 120), (2, .int 1)] := hl
  refine Kan8 hC (fun hx hb hr hml hB hown hlocks hnm => ?_)
  refine lv_aload_n hx hb dX8_init_0 rfl (lv_at0 hl) ?_
  refine W.objInit hx hb hown (hB _ m_140) (hB _ m_128) (hB _ m_129) rfl (by rw [hml]; exact hl.1) rfl dX8_init_1 (Nat.le_of_ble_eq_true rfl) (Nat.le_of_ble_eq_true rfl) ?_
  refine W.eq (g2 := F0 m 4 ls []) rfl ?_
  refine lv_aload_n hx hb dX8_init_4 rfl (lv_at0 hl) ?_
  refine lv_iload_n hx hb dX8_init_5 rfl (lv_at1 hl) ?_
  refine lv_iconst (v := 0) hx hb dX8_init_6 (by decide) ?_
  refine va_mmax hx hb (hml.trans hl.1.symm) hown (hB _ m_141) (hB _ m_142) (hB _ m_105) (hB _ m_143) (Nat.le_of_ble_eq_true rfl) (Nat.le_of_ble_eq_true rfl) (by first | exact Nat.le_of_ble_eq_true rfl | exact Nat.zero_le _)  (by first | exact Nat.le_of_ble_eq_true rfl | exact Nat.zero_le _) dX8_init_7 ?_
  refine eqi (x1 := 120) (by decide) ?_
  refine pf_X8_15 hC rfl rfl hK hP hD hS 0 (ws' := [(h0, .inr (8, [.int 120, .int 0, .null, .int 0]))]) rfl (Nat.le_of_ble_eq_true rfl) rfl rfl rfl dX8_init_10 (fun H locs hP hD hS => ?_)
  refine lv_aload_n hx hb dX8_init_13 rfl (lv_at0 hl) ?_
  refine lv_iload_n hx hb dX8_init_14 rfl (lv_at2 hl) ?_
  refine lv_iconst (v := 1) hx hb dX8_init_15 (by decide) ?_
  refine va_mmax hx hb (hml.trans hl.1.symm) hown (hB _ m_141) (hB _ m_142) (hB _ m_105) (hB _ m_143) (Nat.le_of_ble_eq_true rfl) (Nat.le_of_ble_eq_true rfl) (by first | exact Nat.le_of_ble_eq_true rfl | exact Nat.zero_le _)  (by first | exact Nat.le_of_ble_eq_true rfl | exact Nat.zero_le _) dX8_init_16 ?_
  refine eqi (x1 := 1) (by decide) ?_
  refine pf_X8_21 hC rfl rfl hK hP hD hS 0 (ws' := [(h0, .inr (8, [.int 120, .int 1, .null, .int 0]))]) rfl (Nat.le_of_ble_eq_true rfl) rfl rfl rfl dX8_init_19 (fun H locs hP hD hS => ?_)
  refine lv_aload_n hx hb dX8_init_22 rfl (lv_at0 hl) ?_
  refine lv_aload_n hx hb dX8_init_23 rfl (lv_at0 hl) ?_
  refine gf_X8_15 hC rfl hK hP 0 rfl rfl dX8_init_24 ?_
  refine lv_aload_n hx hb dX8_init_27 rfl (lv_at0 hl) ?_
  refine gf_X8_21 hC rfl hK hP 0 rfl rfl dX8_init_28 ?_
  refine lv_imul hx hb dX8_init_31 ?_
  refine eqi (x1 := 120) (by decide) ?_
  refine newI hC hK hP hD hS hA m_148 (by decide) (N := 120) (by decide +kernel) (Nat.le_of_ble_eq_true rfl) (by decide) (Nat.le_of_ble_eq_true rfl) dX8_init_32 (fun q8987 H hP hD hS => ?_)
  refine Kpdr (ws := [(h0, .inr (8, [.int 120, .int 1, .null, .int 0])), (q8987, iA G 120 (fun _ => 0))]) hP hD (fun hP hD => ?_)
  refine Wcast (c1 := 1) (s1 := 120) rfl rfl ?_
  refine pf_X8_24 hC rfl rfl hK hP hD hS 0 (ws' := [(h0, oX8 120 1 q8987 0), (q8987, iA G 120 (fun _ => 0))]) rfl (Nat.le_of_ble_eq_true rfl) rfl rfl rfl dX8_init_34 (fun H locs hP hD hS => ?_)
  refine lv_aload_n hx hb dX8_init_37 rfl (lv_at0 hl) ?_
  refine lv_iconst (v := 0) hx hb dX8_init_38 (by decide) ?_
  refine pf_X8_28 hC rfl hK hP hD hS 0 (ws' := [(h0, oX8 120 1 q8987 0), (q8987, iA G 120 (fun _ => 0))]) rfl (Nat.le_of_ble_eq_true rfl) rfl rfl rfl dX8_init_39 (fun H locs hP hD hS => ?_)
  exact toQ hQ0 (RV hC hP hD hS [0, 1] q8987 rfl rfl (by decide) (trivial) dX8_init_42)
def K_c_T_init_960_1 (l : Launch) (G : GG) (h0 : Nat) : Prop := MV l G yX8_init cX8_init 3 2 1 960 [.ref h0, .int 960, .int 1] [(h0, .inr (8, [.int 0, .int 0, .null, .int 0]))] (fun u : Nat => True) (fun u : Nat => [(h0, oX8 960 1 u 0), (u, iA G 960 (fun _ => 0))])
set_option maxHeartbeats 4000000 in
set_option maxRecDepth 100000 in
theorem c_T_init_960_1 (l : Launch) (G : GG) (h0 : Nat) : K_c_T_init_960_1 l G h0 := by
  refine MV.start (by decide +kernel) (Nat.le_of_ble_eq_true rfl) ?_
  intro p e s m below meth c A ls hC hK hP hD hS hA hl
  refine absQ (fun Q0 hQ0 => ?_)
  have hl : lv_has ls 3 [(0, .ref h0), (1, .int 960), (2, .int 1)] := hl
  refine Kan8 hC (fun hx hb hr hml hB hown hlocks hnm => ?_)
  refine lv_aload_n hx hb dX8_init_0 rfl (lv_at0 hl) ?_
  refine W.objInit hx hb hown (hB _ m_140) (hB _ m_128) (hB _ m_129) rfl (by rw [hml]; exact hl.1) rfl dX8_init_1 (Nat.le_of_ble_eq_true rfl) (Nat.le_of_ble_eq_true rfl) ?_
  refine W.eq (g2 := F0 m 4 ls []) rfl ?_
  refine lv_aload_n hx hb dX8_init_4 rfl (lv_at0 hl) ?_
  refine lv_iload_n hx hb dX8_init_5 rfl (lv_at1 hl) ?_
  refine lv_iconst (v := 0) hx hb dX8_init_6 (by decide) ?_
  refine va_mmax hx hb (hml.trans hl.1.symm) hown (hB _ m_141) (hB _ m_142) (hB _ m_105) (hB _ m_143) (Nat.le_of_ble_eq_true rfl) (Nat.le_of_ble_eq_true rfl) (by first | exact Nat.le_of_ble_eq_true rfl | exact Nat.zero_le _)  (by first | exact Nat.le_of_ble_eq_true rfl | exact Nat.zero_le _) dX8_init_7 ?_
  refine eqi (x1 := 960) (by decide) ?_
  refine pf_X8_15 hC rfl rfl hK hP hD hS 0 (ws' := [(h0, .inr (8, [.int 960, .int 0, .null, .int 0]))]) rfl (Nat.le_of_ble_eq_true rfl) rfl rfl rfl dX8_init_10 (fun H locs hP hD hS => ?_)
  refine lv_aload_n hx hb dX8_init_13 rfl (lv_at0 hl) ?_
  refine lv_iload_n hx hb dX8_init_14 rfl (lv_at2 hl) ?_
  refine lv_iconst (v := 1) hx hb dX8_init_15 (by decide) ?_
  refine va_mmax hx hb (hml.trans hl.1.symm) hown (hB _ m_141) (hB _ m_142) (hB _ m_105) (hB _ m_143) (Nat.le_of_ble_eq_true rfl) (Nat.le_of_ble_eq_true rfl) (by first | exact Nat.le_of_ble_eq_true rfl | exact Nat.zero_le _)  (by first | exact Nat.le_of_ble_eq_true rfl | exact Nat.zero_le _) dX8_init_16 ?_
  refine eqi (x1 := 1) (by decide) ?_
  refine pf_X8_21 hC rfl rfl hK hP hD hS 0 (ws' := [(h0, .inr (8, [.int 960, .int 1, .null, .int 0]))]) rfl (Nat.le_of_ble_eq_true rfl) rfl rfl rfl dX8_init_19 (fun H locs hP hD hS => ?_)
  refine lv_aload_n hx hb dX8_init_22 rfl (lv_at0 hl) ?_
  refine lv_aload_n hx hb dX8_init_23 rfl (lv_at0 hl) ?_
  refine gf_X8_15 hC rfl hK hP 0 rfl rfl dX8_init_24 ?_
  refine lv_aload_n hx hb dX8_init_27 rfl (lv_at0 hl) ?_
  refine gf_X8_21 hC rfl hK hP 0 rfl rfl dX8_init_28 ?_
  refine lv_imul hx hb dX8_init_31 ?_
  refine eqi (x1 := 960) (by decide) ?_
  refine newI hC hK hP hD hS hA m_148 (by decide) (N := 960) (by decide +kernel) (Nat.le_of_ble_eq_true rfl) (by decide) (Nat.le_of_ble_eq_true rfl) dX8_init_32 (fun q8988 H hP hD hS => ?_)
  refine Kpdr (ws := [(h0, .inr (8, [.int 960, .int 1, .null, .int 0])), (q8988, iA G 960 (fun _ => 0))]) hP hD (fun hP hD => ?_)
  refine Wcast (c1 := 1) (s1 := 960) rfl rfl ?_
  refine pf_X8_24 hC rfl rfl hK hP hD hS 0 (ws' := [(h0, oX8 960 1 q8988 0), (q8988, iA G 960 (fun _ => 0))]) rfl (Nat.le_of_ble_eq_true rfl) rfl rfl rfl dX8_init_34 (fun H locs hP hD hS => ?_)
  refine lv_aload_n hx hb dX8_init_37 rfl (lv_at0 hl) ?_
  refine lv_iconst (v := 0) hx hb dX8_init_38 (by decide) ?_
  refine pf_X8_28 hC rfl hK hP hD hS 0 (ws' := [(h0, oX8 960 1 q8988 0), (q8988, iA G 960 (fun _ => 0))]) rfl (Nat.le_of_ble_eq_true rfl) rfl rfl rfl dX8_init_39 (fun H locs hP hD hS => ?_)
  exact toQ hQ0 (RV hC hP hD hS [0, 1] q8988 rfl rfl (by decide) (trivial) dX8_init_42)
def K_c_B_init (l : Launch) (G : GG) (h0 : Nat) : Prop := MV l G yX0_init cX0_init 1 3 20 1930 [.ref h0] [(h0, .inr (0, [.null, .null, .null, .null, .null, .null, .null, .null, .null, .null, .int 0, .int 0, .int 0, .int 0]))] (fun u : (Nat → Nat) => True) (fun u : (Nat → Nat) => [(h0, oX0 (u 0) (u 2) (u 4) (u 6) (u 8) (u 10) (u 12) (u 14) (u 16) (u 18) 0 (-1) 3 24), ((u 0), oX8 10 2 (u 1) 0), ((u 1), iA G 20 (fun _ => 0)), ((u 2), oX8 12 6 (u 3) 0), ((u 3), iA G 72 (fun _ => 0)), ((u 4), oX8 24 3 (u 5) 0), ((u 5), iA G 72 (fun _ => 0)), ((u 6), oX8 8 3 (u 7) 0), ((u 7), iA G 24 (fun _ => 0)), ((u 8), oX8 72 7 (u 9) 0), ((u 9), iA G 504 (fun _ => 0)), ((u 10), oX8 960 1 (u 11) 0), ((u 11), iA G 960 (fun _ => 0)), ((u 12), oX8 16 8 (u 13) 0), ((u 13), iA G 128 (fun _ => 0)), ((u 14), oX8 12 4 (u 15) 0), ((u 15), iA G 48 (fun _ => 0)), ((u 16), oX8 16 3 (u 17) 0), ((u 17), iA G 48 (fun _ => 0)), ((u 18), oX8 7 2 (u 19) 0), ((u 19), iA G 14 (fun _ => 0))])
set_option maxHeartbeats 4000000 in
set_option maxRecDepth 100000 in
theorem c_B_init (l : Launch) (G : GG) (h0 : Nat) : K_c_B_init l G h0 := by
  refine MV.start (by decide +kernel) (Nat.le_of_ble_eq_true rfl) ?_
  intro p e s m below meth c A ls hC hK hP hD hS hA hl
  refine absQ (fun Q0 hQ0 => ?_)
  have hl : lv_has ls 1 [(0, .ref h0)] := hl
  refine Kan8 hC (fun hx hb hr hml hB hown hlocks hnm => ?_)
  refine lv_aload_n hx hb dX0_init_0 rfl (lv_at0 hl) ?_
  refine W.objInit hx hb hown (hB _ m_134) (hB _ m_128) (hB _ m_129) rfl (by rw [hml]; exact hl.1) rfl dX0_init_1 (Nat.le_of_ble_eq_true rfl) (Nat.le_of_ble_eq_true rfl) ?_
  refine W.eq (g2 := F0 m 4 ls []) rfl ?_
  refine lv_aload_n hx hb dX0_init_4 rfl (lv_at0 hl) ?_
  refine nw_X0_9 hC rfl hK hP hD hS hA (Nat.le_of_ble_eq_true rfl) (Nat.le_of_ble_eq_true rfl) dX0_init_5 (fun q8989 H hP hD hS => ?_)
  refine Kpdr (ws := [(h0, .inr (0, [.null, .null, .null, .null, .null, .null, .null, .null, .null, .null, .int 0, .int 0, .int 0, .int 0])), (q8989, .inr (8, [.int 0, .int 0, .null, .int 0]))]) hP hD (fun hP hD => ?_)
  refine Wcast (c1 := 1) (s1 := 4) rfl rfl ?_
  refine lv_dup hx hb dX0_init_8 rfl ?_
  refine lv_bipush (v := 10) hx hb dX0_init_9 (by decide) ?_
  refine lv_iconst (v := 2) hx hb dX0_init_11 (by decide) ?_
  refine vI (wr := [(h0, .inr (0, [.null, .null, .null, .null, .null, .null, .null, .null, .null, .null, .int 0, .int 0, .int 0, .int 0]))]) hC hK hl hP hD hS hA (c_T_init_10_2 l G q8989) si_X0_11 [1] [0] sm_1 fm_1 nd_1 sm_0 nd_0 dj_1__0 rfl rfl (Nat.le_of_ble_eq_true rfl) rm_3_2_3 ⟨by first | exact Nat.le_of_ble_eq_true rfl | omega, by first | exact Nat.le_of_ble_eq_true rfl | omega⟩ dX0_init_12 (fun ca8992 H locs hr8990 hP hD hS => ?_)
  try dsimp only at hr8990
  refine Kpdr (ws := [(h0, .inr (0, [.null, .null, .null, .null, .null, .null, .null, .null, .null, .null, .int 0, .int 0, .int 0, .int 0])), (q8989, oX8 10 2 ca8992 0), (ca8992, iA G 20 (fun _ => 0))]) hP hD (fun hP hD => ?_)
  refine Wcast (c1 := 2) (s1 := 24) rfl rfl ?_
  refine pf_X0_14 hC rfl rfl hK hP hD hS 0 (ws' := [(h0, .inr (0, [.ref q8989, .null, .null, .null, .null, .null, .null, .null, .null, .null, .int 0, .int 0, .int 0, .int 0])), (q8989, oX8 10 2 ca8992 0), (ca8992, iA G 20 (fun _ => 0))]) rfl (Nat.le_of_ble_eq_true rfl) rfl rfl rfl dX0_init_15 (fun H locs hP hD hS => ?_)
  refine lv_aload_n hx hb dX0_init_18 rfl (lv_at0 hl) ?_
  refine nw_X0_9 hC rfl hK hP hD hS hA (Nat.le_of_ble_eq_true rfl) (Nat.le_of_ble_eq_true rfl) dX0_init_19 (fun q8993 H hP hD hS => ?_)
  refine Kpdr (ws := [(h0, .inr (0, [.ref q8989, .null, .null, .null, .null, .null, .null, .null, .null, .null, .int 0, .int 0, .int 0, .int 0])), (q8989, oX8 10 2 ca8992 0), (ca8992, iA G 20 (fun _ => 0)), (q8993, .inr (8, [.int 0, .int 0, .null, .int 0]))]) hP hD (fun hP hD => ?_)
  refine Wcast (c1 := 3) (s1 := 28) rfl rfl ?_
  refine lv_dup hx hb dX0_init_22 rfl ?_
  refine lv_bipush (v := 12) hx hb dX0_init_23 (by decide) ?_
  refine lv_bipush (v := 6) hx hb dX0_init_25 (by decide) ?_
  refine vI (wr := [(h0, .inr (0, [.ref q8989, .null, .null, .null, .null, .null, .null, .null, .null, .null, .int 0, .int 0, .int 0, .int 0])), (q8989, oX8 10 2 ca8992 0), (ca8992, iA G 20 (fun _ => 0))]) hC hK hl hP hD hS hA (c_T_init_12_6 l G q8993) si_X0_11 [3] [0, 1, 2] sm_3 fm_3 nd_3 sm_0_1_2 nd_0_1_2 dj_3__0_1_2 rfl rfl (Nat.le_of_ble_eq_true rfl) rm_3_2_3 ⟨by first | exact Nat.le_of_ble_eq_true rfl | omega, by first | exact Nat.le_of_ble_eq_true rfl | omega⟩ dX0_init_27 (fun ca8996 H locs hr8994 hP hD hS => ?_)
  try dsimp only at hr8994
  refine Kpdr (ws := [(h0, .inr (0, [.ref q8989, .null, .null, .null, .null, .null, .null, .null, .null, .null, .int 0, .int 0, .int 0, .int 0])), (q8989, oX8 10 2 ca8992 0), (ca8992, iA G 20 (fun _ => 0)), (q8993, oX8 12 6 ca8996 0), (ca8996, iA G 72 (fun _ => 0))]) hP hD (fun hP hD => ?_)
  refine Wcast (c1 := 4) (s1 := 100) rfl rfl ?_
  refine pf_X0_20 hC rfl rfl hK hP hD hS 0 (ws' := [(h0, .inr (0, [.ref q8989, .ref q8993, .null, .null, .null, .null, .null, .null, .null, .null, .int 0, .int 0, .int 0, .int 0])), (q8989, oX8 10 2 ca8992 0), (ca8992, iA G 20 (fun _ => 0)), (q8993, oX8 12 6 ca8996 0), (ca8996, iA G 72 (fun _ => 0))]) rfl (Nat.le_of_ble_eq_true rfl) rfl rfl rfl dX0_init_30 (fun H locs hP hD hS => ?_)
  refine lv_aload_n hx hb dX0_init_33 rfl (lv_at0 hl) ?_
  refine nw_X0_9 hC rfl hK hP hD hS hA (Nat.le_of_ble_eq_true rfl) (Nat.le_of_ble_eq_true rfl) dX0_init_34 (fun q8997 H hP hD hS => ?_)
  refine Kpdr (ws := [(h0, .inr (0, [.ref q8989, .ref q8993, .null, .null, .null, .null, .null, .null, .null, .null, .int 0, .int 0, .int 0, .int 0])), (q8989, oX8 10 2 ca8992 0), (ca8992, iA G 20 (fun _ => 0)), (q8993, oX8 12 6 ca8996 0), (ca8996, iA G 72 (fun _ => 0)), (q8997, .inr (8, [.int 0, .int 0, .null, .int 0]))]) hP hD (fun hP hD => ?_)
  refine Wcast (c1 := 5) (s1 := 104) rfl rfl ?_
  refine lv_dup hx hb dX0_init_37 rfl ?_
  refine lv_bipush (v := 24) hx hb dX0_init_38 (by decide) ?_
  refine lv_iconst (v := 3) hx hb dX0_init_40 (by decide) ?_
  refine vI (wr := [(h0, .inr (0, [.ref q8989, .ref q8993, .null, .null, .null, .null, .null, .null, .null, .null, .int 0, .int 0, .int 0, .int 0])), (q8989, oX8 10 2 ca8992 0), (ca8992, iA G 20 (fun _ => 0)), (q8993, oX8 12 6 ca8996 0), (ca8996, iA G 72 (fun _ => 0))]) hC hK hl hP hD hS hA (c_T_init_24_3 l G q8997) si_X0_11 [5] [0, 1, 2, 3, 4] sm_5 fm_5 nd_5 sm_0_1_2_3_4 nd_0_1_2_3_4 dj_5__0_1_2_3_4 rfl rfl (Nat.le_of_ble_eq_true rfl) rm_3_2_3 ⟨by first | exact Nat.le_of_ble_eq_true rfl | omega, by first | exact Nat.le_of_ble_eq_true rfl | omega⟩ dX0_init_41 (fun ca9000 H locs hr8998 hP hD hS => ?_)
  try dsimp only at hr8998
  refine Kpdr (ws := [(h0, .inr (0, [.ref q8989, .ref q8993, .null, .null, .null, .null, .null, .null, .null, .null, .int 0, .int 0, .int 0, .int 0])), (q8989, oX8 10 2 ca8992 0), (ca8992, iA G 20 (fun _ => 0)), (q8993, oX8 12 6 ca8996 0), (ca8996, iA G 72 (fun _ => 0)), (q8997, oX8 24 3 ca9000 0), (ca9000, iA G 72 (fun _ => 0))]) hP hD (fun hP hD => ?_)
  refine Wcast (c1 := 6) (s1 := 176) rfl rfl ?_
  refine pf_X0_23 hC rfl rfl hK hP hD hS 0 (ws' := [(h0, .inr (0, [.ref q8989, .ref q8993, .ref q8997, .null, .null, .null, .null, .null, .null, .null, .int 0, .int 0, .int 0, .int 0])), (q8989, oX8 10 2 ca8992 0), (ca8992, iA G 20 (fun _ => 0)), (q8993, oX8 12 6 ca8996 0), (ca8996, iA G 72 (fun _ => 0)), (q8997, oX8 24 3 ca9000 0), (ca9000, iA G 72 (fun _ => 0))]) rfl (Nat.le_of_ble_eq_true rfl) rfl rfl rfl dX0_init_44 (fun H locs hP hD hS => ?_)
  refine lv_aload_n hx hb dX0_init_47 rfl (lv_at0 hl) ?_
  refine nw_X0_9 hC rfl hK hP hD hS hA (Nat.le_of_ble_eq_true rfl) (Nat.le_of_ble_eq_true rfl) dX0_init_48 (fun q9001 H hP hD hS => ?_)
  refine Kpdr (ws := [(h0, .inr (0, [.ref q8989, .ref q8993, .ref q8997, .null, .null, .null, .null, .null, .null, .null, .int 0, .int 0, .int 0, .int 0])), (q8989, oX8 10 2 ca8992 0), (ca8992, iA G 20 (fun _ => 0)), (q8993, oX8 12 6 ca8996 0), (ca8996, iA G 72 (fun _ => 0)), (q8997, oX8 24 3 ca9000 0), (ca9000, iA G 72 (fun _ => 0)), (q9001, .inr (8, [.int 0, .int 0, .null, .int 0]))]) hP hD (fun hP hD => ?_)
  refine Wcast (c1 := 7) (s1 := 180) rfl rfl ?_
  refine lv_dup hx hb dX0_init_51 rfl ?_
  refine lv_bipush (v := 8) hx hb dX0_init_52 (by decide) ?_
  refine lv_iconst (v := 3) hx hb dX0_init_54 (by decide) ?_
  refine vI (wr := [(h0, .inr (0, [.ref q8989, .ref q8993, .ref q8997, .null, .null, .null, .null, .null, .null, .null, .int 0, .int 0, .int 0, .int 0])), (q8989, oX8 10 2 ca8992 0), (ca8992, iA G 20 (fun _ => 0)), (q8993, oX8 12 6 ca8996 0), (ca8996, iA G 72 (fun _ => 0)), (q8997, oX8 24 3 ca9000 0), (ca9000, iA G 72 (fun _ => 0))]) hC hK hl hP hD hS hA (c_T_init_8_3 l G q9001) si_X0_11 [7] [0, 1, 2, 3, 4, 5, 6] sm_7 fm_7 nd_7 sm_0_1_2_3_4_5_6 nd_0_1_2_3_4_5_6 dj_7__0_1_2_3_4_5_6 rfl rfl (Nat.le_of_ble_eq_true rfl) rm_3_2_3 ⟨by first | exact Nat.le_of_ble_eq_true rfl | omega, by first | exact Nat.le_of_ble_eq_true rfl | omega⟩ dX0_init_55 (fun ca9004 H locs hr9002 hP hD hS => ?_)
  try dsimp only at hr9002
  refine Kpdr (ws := [(h0, .inr (0, [.ref q8989, .ref q8993, .ref q8997, .null, .null, .null, .null, .null, .null, .null, .int 0, .int 0, .int 0, .int 0])), (q8989, oX8 10 2 ca8992 0), (ca8992, iA G 20 (fun _ => 0)), (q8993, oX8 12 6 ca8996 0), (ca8996, iA G 72 (fun _ => 0)), (q8997, oX8 24 3 ca9000 0), (ca9000, iA G 72 (fun _ => 0)), (q9001, oX8 8 3 ca9004 0), (ca9004, iA G 24 (fun _ => 0))]) hP hD (fun hP hD => ?_)
  refine Wcast (c1 := 8) (s1 := 204) rfl rfl ?_
  refine pf_X0_26 hC rfl rfl hK hP hD hS 0 (ws' := [(h0, .inr (0, [.ref q8989, .ref q8993, .ref q8997, .ref q9001, .null, .null, .null, .null, .null, .null, .int 0, .int 0, .int 0, .int 0])), (q8989, oX8 10 2 ca8992 0), (ca8992, iA G 20 (fun _ => 0)), (q8993, oX8 12 6 ca8996 0), (ca8996, iA G 72 (fun _ => 0)), (q8997, oX8 24 3 ca9000 0), (ca9000, iA G 72 (fun _ => 0)), (q9001, oX8 8 3 ca9004 0), (ca9004, iA G 24 (fun _ => 0))]) rfl (Nat.le_of_ble_eq_true rfl) rfl rfl rfl dX0_init_58 (fun H locs hP hD hS => ?_)
  refine lv_aload_n hx hb dX0_init_61 rfl (lv_at0 hl) ?_
  refine nw_X0_9 hC rfl hK hP hD hS hA (Nat.le_of_ble_eq_true rfl) (Nat.le_of_ble_eq_true rfl) dX0_init_62 (fun q9005 H hP hD hS => ?_)
  refine Kpdr (ws := [(h0, .inr (0, [.ref q8989, .ref q8993, .ref q8997, .ref q9001, .null, .null, .null, .null, .null, .null, .int 0, .int 0, .int 0, .int 0])), (q8989, oX8 10 2 ca8992 0), (ca8992, iA G 20 (fun _ => 0)), (q8993, oX8 12 6 ca8996 0), (ca8996, iA G 72 (fun _ => 0)), (q8997, oX8 24 3 ca9000 0), (ca9000, iA G 72 (fun _ => 0)), (q9001, oX8 8 3 ca9004 0), (ca9004, iA G 24 (fun _ => 0)), (q9005, .inr (8, [.int 0, .int 0, .null, .int 0]))]) hP hD (fun hP hD => ?_)
  refine Wcast (c1 := 9) (s1 := 208) rfl rfl ?_
  refine lv_dup hx hb dX0_init_65 rfl ?_
  refine lv_bipush (v := 72) hx hb dX0_init_66 (by decide) ?_
  refine lv_bipush (v := 7) hx hb dX0_init_68 (by decide) ?_
  refine vI (wr := [(h0, .inr (0, [.ref q8989, .ref q8993, .ref q8997, .ref q9001, .null, .null, .null, .null, .null, .null, .int 0, .int 0, .int 0, .int 0])), (q8989, oX8 10 2 ca8992 0), (ca8992, iA G 20 (fun _ => 0)), (q8993, oX8 12 6 ca8996 0), (ca8996, iA G 72 (fun _ => 0)), (q8997, oX8 24 3 ca9000 0), (ca9000, iA G 72 (fun _ => 0)), (q9001, oX8 8 3 ca9004 0), (ca9004, iA G 24 (fun _ => 0))]) hC hK hl hP hD hS hA (c_T_init_72_7 l G q9005) si_X0_11 [9] [0, 1, 2, 3, 4, 5, 6, 7, 8] sm_9 fm_9 nd_9 sm_0_1_2_3_4_5_6_7_8 nd_0_1_2_3_4_5_6_7_8 dj_9__0_1_2_3_4_5_6_7_8 rfl rfl (Nat.le_of_ble_eq_true rfl) rm_3_2_3 ⟨by first | exact Nat.le_of_ble_eq_true rfl | omega, by first | exact Nat.le_of_ble_eq_true rfl | omega⟩ dX0_init_70 (fun ca9008 H locs hr9006 hP hD hS => ?_)
  try dsimp only at hr9006
  refine Kpdr (ws := [(h0, .inr (0, [.ref q8989, .ref q8993, .ref q8997, .ref q9001, .null, .null, .null, .null, .null, .null, .int 0, .int 0, .int 0, .int 0])), (q8989, oX8 10 2 ca8992 0), (ca8992, iA G 20 (fun _ => 0)), (q8993, oX8 12 6 ca8996 0), (ca8996, iA G 72 (fun _ => 0)), (q8997, oX8 24 3 ca9000 0), (ca9000, iA G 72 (fun _ => 0)), (q9001, oX8 8 3 ca9004 0), (ca9004, iA G 24 (fun _ => 0)), (q9005, oX8 72 7 ca9008 0), (ca9008, iA G 504 (fun _ => 0))]) hP hD (fun hP hD => ?_)
  refine Wcast (c1 := 10) (s1 := 712) rfl rfl ?_
  refine pf_X0_29 hC rfl rfl hK hP hD hS 0 (ws' := [(h0, .inr (0, [.ref q8989, .ref q8993, .ref q8997, .ref q9001, .ref q9005, .null, .null, .null, .null, .null, .int 0, .int 0, .int 0, .int 0])), (q8989, oX8 10 2 ca8992 0), (ca8992, iA G 20 (fun _ => 0)), (q8993, oX8 12 6 ca8996 0), (ca8996, iA G 72 (fun _ => 0)), (q8997, oX8 24 3 ca9000 0), (ca9000, iA G 72 (fun _ => 0)), (q9001, oX8 8 3 ca9004 0), (ca9004, iA G 24 (fun _ => 0)), (q9005, oX8 72 7 ca9008 0), (ca9008, iA G 504 (fun _ => 0))]) rfl (Nat.le_of_ble_eq_true rfl) rfl rfl rfl dX0_init_73 (fun H locs hP hD hS => ?_)
  refine lv_aload_n hx hb dX0_init_76 rfl (lv_at0 hl) ?_
  refine nw_X0_9 hC rfl hK hP hD hS hA (Nat.le_of_ble_eq_true rfl) (Nat.le_of_ble_eq_true rfl) dX0_init_77 (fun q9009 H hP hD hS => ?_)
  refine Kpdr (ws := [(h0, .inr (0, [.ref q8989, .ref q8993, .ref q8997, .ref q9001, .ref q9005, .null, .null, .null, .null, .null, .int 0, .int 0, .int 0, .int 0])), (q8989, oX8 10 2 ca8992 0), (ca8992, iA G 20 (fun _ => 0)), (q8993, oX8 12 6 ca8996 0), (ca8996, iA G 72 (fun _ => 0)), (q8997, oX8 24 3 ca9000 0), (ca9000, iA G 72 (fun _ => 0)), (q9001, oX8 8 3 ca9004 0), (ca9004, iA G 24 (fun _ => 0)), (q9005, oX8 72 7 ca9008 0), (ca9008, iA G 504 (fun _ => 0)), (q9009, .inr (8, [.int 0, .int 0, .null, .int 0]))]) hP hD (fun hP hD => ?_)
  refine Wcast (c1 := 11) (s1 := 716) rfl rfl ?_
  refine lv_dup hx hb dX0_init_80 rfl ?_
  refine lv_sipush (v := 960) hx hb dX0_init_81 (by decide) ?_
  refine lv_iconst (v := 1) hx hb dX0_init_84 (by decide) ?_
  refine vI (wr := [(h0, .inr (0, [.ref q8989, .ref q8993, .ref q8997, .ref q9001, .ref q9005, .null, .null, .null, .null, .null, .int 0, .int 0, .int 0, .int 0])), (q8989, oX8 10 2 ca8992 0), (ca8992, iA G 20 (fun _ => 0)), (q8993, oX8 12 6 ca8996 0), (ca8996, iA G 72 (fun _ => 0)), (q8997, oX8 24 3 ca9000 0), (ca9000, iA G 72 (fun _ => 0)), (q9001, oX8 8 3 ca9004 0), (ca9004, iA G 24 (fun _ => 0)), (q9005, oX8 72 7 ca9008 0), (ca9008, iA G 504 (fun _ => 0))]) hC hK hl hP hD hS hA (c_T_init_960_1 l G q9009) si_X0_11 [11] [0, 1, 2, 3, 4, 5, 6, 7, 8, 9, 10] sm_11 fm_11 nd_11 sm_0_1_2_3_4_5_6_7_8_9_10 nd_0_1_2_3_4_5_6_7_8_9_10 dj_11__0_1_2_3_4_5_6_7_8_9_10 rfl rfl (Nat.le_of_ble_eq_true rfl) rm_3_2_3 ⟨by first | exact Nat.le_of_ble_eq_true rfl | omega, by first | exact Nat.le_of_ble_eq_true rfl | omega⟩ dX0_init_85 (fun ca9012 H locs hr9010 hP hD hS => ?_)
  try dsimp only at hr9010
  refine Kpdr (ws := [(h0, .inr (0, [.ref q8989, .ref q8993, .ref q8997, .ref q9001, .ref q9005, .null, .null, .null, .null, .null, .int 0, .int 0, .int 0, .int 0])), (q8989, oX8 10 2 ca8992 0), (ca8992, iA G 20 (fun _ => 0)), (q8993, oX8 12 6 ca8996 0), (ca8996, iA G 72 (fun _ => 0)), (q8997, oX8 24 3 ca9000 0), (ca9000, iA G 72 (fun _ => 0)), (q9001, oX8 8 3 ca9004 0), (ca9004, iA G 24 (fun _ => 0)), (q9005, oX8 72 7 ca9008 0), (ca9008, iA G 504 (fun _ => 0)), (q9009, oX8 960 1 ca9012 0), (ca9012, iA G 960 (fun _ => 0))]) hP hD (fun hP hD => ?_)
  refine Wcast (c1 := 12) (s1 := 1676) rfl rfl ?_
  refine pf_X0_32 hC rfl rfl hK hP hD hS 0 (ws' := [(h0, .inr (0, [.ref q8989, .ref q8993, .ref q8997, .ref q9001, .ref q9005, .ref q9009, .null, .null, .null, .null, .int 0, .int 0, .int 0, .int 0])), (q8989, oX8 10 2 ca8992 0), (ca8992, iA G 20 (fun _ => 0)), (q8993, oX8 12 6 ca8996 0), (ca8996, iA G 72 (fun _ => 0)), (q8997, oX8 24 3 ca9000 0), (ca9000, iA G 72 (fun _ => 0)), (q9001, oX8 8 3 ca9004 0), (ca9004, iA G 24 (fun _ => 0)), (q9005, oX8 72 7 ca9008 0), (ca9008, iA G 504 (fun _ => 0)), (q9009, oX8 960 1 ca9012 0), (ca9012, iA G 960 (fun _ => 0))]) rfl (Nat.le_of_ble_eq_true rfl) rfl rfl rfl dX0_init_88 (fun H locs hP hD hS => ?_)
  refine lv_aload_n hx hb dX0_init_91 rfl (lv_at0 hl) ?_
  refine nw_X0_9 hC rfl hK hP hD hS hA (Nat.le_of_ble_eq_true rfl) (Nat.le_of_ble_eq_true rfl) dX0_init_92 (fun q9013 H hP hD hS => ?_)
  refine Kpdr (ws := [(h0, .inr (0, [.ref q8989, .ref q8993, .ref q8997, .ref q9001, .ref q9005, .ref q9009, .null, .null, .null, .null, .int 0, .int 0, .int 0, .int 0])), (q8989, oX8 10 2 ca8992 0), (ca8992, iA G 20 (fun _ => 0)), (q8993, oX8 12 6 ca8996 0), (ca8996, iA G 72 (fun _ => 0)), (q8997, oX8 24 3 ca9000 0), (ca9000, iA G 72 (fun _ => 0)), (q9001, oX8 8 3 ca9004 0), (ca9004, iA G 24 (fun _ => 0)), (q9005, oX8 72 7 ca9008 0), (ca9008, iA G 504 (fun _ => 0)), (q9009, oX8 960 1 ca9012 0), (ca9012, iA G 960 (fun _ => 0)), (q9013, .inr (8, [.int 0, .int 0, .null, .int 0]))]) hP hD (fun hP hD => ?_)
  refine Wcast (c1 := 13) (s1 := 1680) rfl rfl ?_
  refine lv_dup hx hb dX0_init_95 rfl ?_
  refine lv_bipush (v := 16) hx hb dX0_init_96 (by decide) ?_
  refine lv_bipush (v := 8) hx hb dX0_init_98 (by decide) ?_
  refine vI (wr := [(h0, .inr (0, [.ref q8989, .ref q8993, .ref q8997, .ref q9001, .ref q9005, .ref q9009, .null, .null, .null, .null, .int 0, .int 0, .int 0, .int 0])), (q8989, oX8 10 2 ca8992 0), (ca8992, iA G 20 (fun _ => 0)), (q8993, oX8 12 6 ca8996 0), (ca8996, iA G 72 (fun _ => 0)), (q8997, oX8 24 3 ca9000 0), (ca9000, iA G 72 (fun _ => 0)), (q9001, oX8 8 3 ca9004 0), (ca9004, iA G 24 (fun _ => 0)), (q9005, oX8 72 7 ca9008 0), (ca9008, iA G 504 (fun _ => 0)), (q9009, oX8 960 1 ca9012 0), (ca9012, iA G 960 (fun _ => 0))]) hC hK hl hP hD hS hA (c_T_init_16_8 l G q9013) si_X0_11 [13] [0, 1, 2, 3, 4, 5, 6, 7, 8, 9, 10, 11, 12] sm_13 fm_13 nd_13 sm_0_1_2_3_4_5_6_7_8_9_10_11_12 nd_0_1_2_3_4_5_6_7_8_9_10_11_12 dj_13__0_1_2_3_4_5_6_7_8_9_10_11_12 rfl rfl (Nat.le_of_ble_eq_true rfl) rm_3_2_3 ⟨by first | exact Nat.le_of_ble_eq_true rfl | omega, by first | exact Nat.le_of_ble_eq_true rfl | omega⟩ dX0_init_100 (fun ca9016 H locs hr9014 hP hD hS => ?_)
  try dsimp only at hr9014
  refine Kpdr (ws := [(h0, .inr (0, [.ref q8989, .ref q8993, .ref q8997, .ref q9001, .ref q9005, .ref q9009, .null, .null, .null, .null, .int 0, .int 0, .int 0, .int 0])), (q8989, oX8 10 2 ca8992 0), (ca8992, iA G 20 (fun _ => 0)), (q8993, oX8 12 6 ca8996 0), (ca8996, iA G 72 (fun _ => 0)), (q8997, oX8 24 3 ca9000 0), (ca9000, iA G 72 (fun _ => 0)), (q9001, oX8 8 3 ca9004 0), (ca9004, iA G 24 (fun _ => 0)), (q9005, oX8 72 7 ca9008 0), (ca9008, iA G 504 (fun _ => 0)), (q9009, oX8 960 1 ca9012 0), (ca9012, iA G 960 (fun _ => 0)), (q9013, oX8 16 8 ca9016 0), (ca9016, iA G 128 (fun _ => 0))]) hP hD (fun hP hD => ?_)
  refine Wcast (c1 := 14) (s1 := 1808) rfl rfl ?_
  refine pf_X0_35 hC rfl rfl hK hP hD hS 0 (ws' := [(h0, .inr (0, [.ref q8989, .ref q8993, .ref q8997, .ref q9001, .ref q9005, .ref q9009, .ref q9013, .null, .null, .null, .int 0, .int 0, .int 0, .int 0])), (q8989, oX8 10 2 ca8992 0), (ca8992, iA G 20 (fun _ => 0)), (q8993, oX8 12 6 ca8996 0), (ca8996, iA G 72 (fun _ => 0)), (q8997, oX8 24 3 ca9000 0), (ca9000, iA G 72 (fun _ => 0)), (q9001, oX8 8 3 ca9004 0), (ca9004, iA G 24 (fun _ => 0)), (q9005, oX8 72 7 ca9008 0), (ca9008, iA G 504 (fun _ => 0)), (q9009, oX8 960 1 ca9012 0), (ca9012, iA G 960 (fun _ => 0)), (q9013, oX8 16 8 ca9016 0), (ca9016, iA G 128 (fun _ => 0))]) rfl (Nat.le_of_ble_eq_true rfl) rfl rfl rfl dX0_init_103 (fun H locs hP hD hS => ?_)
  refine lv_aload_n hx hb dX0_init_106 rfl (lv_at0 hl) ?_
  refine nw_X0_9 hC rfl hK hP hD hS hA (Nat.le_of_ble_eq_true rfl) (Nat.le_of_ble_eq_true rfl) dX0_init_107 (fun q9017 H hP hD hS => ?_)
  refine Kpdr (ws := [(h0, .inr (0, [.ref q8989, .ref q8993, .ref q8997, .ref q9001, .ref q9005, .ref q9009, .ref q9013, .null, .null, .null, .int 0, .int 0, .int 0, .int 0])), (q8989, oX8 10 2 ca8992 0), (ca8992, iA G 20 (fun _ => 0)), (q8993, oX8 12 6 ca8996 0), (ca8996, iA G 72 (fun _ => 0)), (q8997, oX8 24 3 ca9000 0), (ca9000, iA G 72 (fun _ => 0)), (q9001, oX8 8 3 ca9004 0), (ca9004, iA G 24 (fun _ => 0)), (q9005, oX8 72 7 ca9008 0), (ca9008, iA G 504 (fun _ => 0)), (q9009, oX8 960 1 ca9012 0), (ca9012, iA G 960 (fun _ => 0)), (q9013, oX8 16 8 ca9016 0), (ca9016, iA G 128 (fun _ => 0)), (q9017, .inr (8, [.int 0, .int 0, .null, .int 0]))]) hP hD (fun hP hD => ?_)
  refine Wcast (c1 := 15) (s1 := 1812) rfl rfl ?_
  refine lv_dup hx hb dX0_init_110 rfl ?_
  refine lv_bipush (v := 12) hx hb dX0_init_111 (by decide) ?_
  refine lv_iconst (v := 4) hx hb dX0_init_113 (by decide) ?_
  refine vI (wr := [(h0, .inr (0, [.ref q8989, .ref q8993, .ref q8997, .ref q9001, .ref q9005, .ref q9009, .ref q9013, .null, .null, .null, .int 0, .int 0, .int 0, .int 0])), (q8989, oX8 10 2 ca8992 0), (ca8992, iA G 20 (fun _ => 0)), (q8993, oX8 12 6 ca8996 0), (ca8996, iA G 72 (fun _ => 0)), (q8997, oX8 24 3 ca9000 0), (ca9000, iA G 72 (fun _ => 0)), (q9001, oX8 8 3 ca9004 0), (ca9004, iA G 24 (fun _ => 0)), (q9005, oX8 72 7 ca9008 0), (ca9008, iA G 504 (fun _ => 0)), (q9009, oX8 960 1 ca9012 0), (ca9012, iA G 960 (fun _ => 0)), (q9013, oX8 16 8 ca9016 0), (ca9016, iA G 128 (fun _ => 0))]) hC hK hl hP hD hS hA (c_T_init_12_4 l G q9017) si_X0_11 [15] [0, 1, 2, 3, 4, 5, 6, 7, 8, 9, 10, 11, 12, 13, 14] sm_15 fm_15 nd_15 sm_0_1_2_3_4_5_6_7_8_9_10_11_12_13_14 nd_0_1_2_3_4_5_6_7_8_9_10_11_12_13_14 dj_15__0_1_2_3_4_5_6_7_8_9_10_11_12_13_14 rfl rfl (Nat.le_of_ble_eq_true rfl) rm_3_2_3 ⟨by first | exact Nat.le_of_ble_eq_true rfl | omega, by first | exact Nat.le_of_ble_eq_true rfl | omega⟩ dX0_init_114 (fun ca9020 H locs hr9018 hP hD hS => ?_)
  try dsimp only at hr9018
  refine Kpdr (ws := [(h0, .inr (0, [.ref q8989, .ref q8993, .ref q8997, .ref q9001, .ref q9005, .ref q9009, .ref q9013, .null, .null, .null, .int 0, .int 0, .int 0, .int 0])), (q8989, oX8 10 2 ca8992 0), (ca8992, iA G 20 (fun _ => 0)), (q8993, oX8 12 6 ca8996 0), (ca8996, iA G 72 (fun _ => 0)), (q8997, oX8 24 3 ca9000 0), (ca9000, iA G 72 (fun _ => 0)), (q9001, oX8 8 3 ca9004 0), (ca9004, iA G 24 (fun _ => 0)), (q9005, oX8 72 7 ca9008 0), (ca9008, iA G 504 (fun _ => 0)), (q9009, oX8 960 1 ca9012 0), (ca9012, iA G 960 (fun _ => 0)), (q9013, oX8 16 8 ca9016 0), (ca9016, iA G 128 (fun _ => 0)), (q9017, oX8 12 4 ca9020 0), (ca9020, iA G 48 (fun _ => 0))]) hP hD (fun hP hD => ?_)
  refine Wcast (c1 := 16) (s1 := 1860) rfl rfl ?_
  refine pf_X0_38 hC rfl rfl hK hP hD hS 0 (ws' := [(h0, .inr (0, [.ref q8989, .ref q8993, .ref q8997, .ref q9001, .ref q9005, .ref q9009, .ref q9013, .ref q9017, .null, .null, .int 0, .int 0, .int 0, .int 0])), (q8989, oX8 10 2 ca8992 0), (ca8992, iA G 20 (fun _ => 0)), (q8993, oX8 12 6 ca8996 0), (ca8996, iA G 72 (fun _ => 0)), (q8997, oX8 24 3 ca9000 0), (ca9000, iA G 72 (fun _ => 0)), (q9001, oX8 8 3 ca9004 0), (ca9004, iA G 24 (fun _ => 0)), (q9005, oX8 72 7 ca9008 0), (ca9008, iA G 504 (fun _ => 0)), (q9009, oX8 960 1 ca9012 0), (ca9012, iA G 960 (fun _ => 0)), (q9013, oX8 16 8 ca9016 0), (ca9016, iA G 128 (fun _ => 0)), (q9017, oX8 12 4 ca9020 0), (ca9020, iA G 48 (fun _ => 0))]) rfl (Nat.le_of_ble_eq_true rfl) rfl rfl rfl dX0_init_117 (fun H locs hP hD hS => ?_)
  refine lv_aload_n hx hb dX0_init_120 rfl (lv_at0 hl) ?_
  refine nw_X0_9 hC rfl hK hP hD hS hA (Nat.le_of_ble_eq_true rfl) (Nat.le_of_ble_eq_true rfl) dX0_init_121 (fun q9021 H hP hD hS => ?_)
  refine Kpdr (ws := [(h0, .inr (0, [.ref q8989, .ref q8993, .ref q8997, .ref q9001, .ref q9005, .ref q9009, .ref q9013, .ref q9017, .null, .null, .int 0, .int 0, .int 0, .int 0])), (q8989, oX8 10 2 ca8992 0), (ca8992, iA G 20 (fun _ => 0)), (q8993, oX8 12 6 ca8996 0), (ca8996, iA G 72 (fun _ => 0)), (q8997, oX8 24 3 ca9000 0), (ca9000, iA G 72 (fun _ => 0)), (q9001, oX8 8 3 ca9004 0), (ca9004, iA G 24 (fun _ => 0)), (q9005, oX8 72 7 ca9008 0), (ca9008, iA G 504 (fun _ => 0)), (q9009, oX8 960 1 ca9012 0), (ca9012, iA G 960 (fun _ => 0)), (q9013, oX8 16 8 ca9016 0), (ca9016, iA G 128 (fun _ => 0)), (q9017, oX8 12 4 ca9020 0), (ca9020, iA G 48 (fun _ => 0)), (q9021, .inr (8, [.int 0, .int 0, .null, .int 0]))]) hP hD (fun hP hD => ?_)
  refine Wcast (c1 := 17) (s1 := 1864) rfl rfl ?_
  refine lv_dup hx hb dX0_init_124 rfl ?_
  refine lv_bipush (v := 16) hx hb dX0_init_125 (by decide) ?_
  refine lv_iconst (v := 3) hx hb dX0_init_127 (by decide) ?_
  refine vI (wr := [(h0, .inr (0, [.ref q8989, .ref q8993, .ref q8997, .ref q9001, .ref q9005, .ref q9009, .ref q9013, .ref q9017, .null, .null, .int 0, .int 0, .int 0, .int 0])), (q8989, oX8 10 2 ca8992 0), (ca8992, iA G 20 (fun _ => 0)), (q8993, oX8 12 6 ca8996 0), (ca8996, iA G 72 (fun _ => 0)), (q8997, oX8 24 3 ca9000 0), (ca9000, iA G 72 (fun _ => 0)), (q9001, oX8 8 3 ca9004 0), (ca9004, iA G 24 (fun _ => 0)), (q9005, oX8 72 7 ca9008 0), (ca9008, iA G 504 (fun _ => 0)), (q9009, oX8 960 1 ca9012 0), (ca9012, iA G 960 (fun _ => 0)), (q9013, oX8 16 8 ca9016 0), (ca9016, iA G 128 (fun _ => 0)), (q9017, oX8 12 4 ca9020 0), (ca9020, iA G 48 (fun _ => 0))]) hC hK hl hP hD hS hA (c_T_init_16_3 l G q9021) si_X0_11 [17] [0, 1, 2, 3, 4, 5, 6, 7, 8, 9, 10, 11, 12, 13, 14, 15, 16] sm_17 fm_17 nd_17 sm_0_1_2_3_4_5_6_7_8_9_10_11_12_13_14_15_16 nd_0_1_2_3_4_5_6_7_8_9_10_11_12_13_14_15_16 dj_17__0_1_2_3_4_5_6_7_8_9_10_11_12_13_14_15_16 rfl rfl (Nat.le_of_ble_eq_true rfl) rm_3_2_3 ⟨by first | exact Nat.le_of_ble_eq_true rfl | omega, by first | exact Nat.le_of_ble_eq_true rfl | omega⟩ dX0_init_128 (fun ca9024 H locs hr9022 hP hD hS => ?_)
  try dsimp only at hr9022
  refine Kpdr (ws := [(h0, .inr (0, [.ref q8989, .ref q8993, .ref q8997, .ref q9001, .ref q9005, .ref q9009, .ref q9013, .ref q9017, .null, .null, .int 0, .int 0, .int 0, .int 0])), (q8989, oX8 10 2 ca8992 0), (ca8992, iA G 20 (fun _ => 0)), (q8993, oX8 12 6 ca8996 0), (ca8996, iA G 72 (fun _ => 0)), (q8997, oX8 24 3 ca9000 0), (ca9000, iA G 72 (fun _ => 0)), (q9001, oX8 8 3 ca9004 0), (ca9004, iA G 24 (fun _ => 0)), (q9005, oX8 72 7 ca9008 0), (ca9008, iA G 504 (fun _ => 0)), (q9009, oX8 960 1 ca9012 0), (ca9012, iA G 960 (fun _ => 0)), (q9013, oX8 16 8 ca9016 0), (ca9016, iA G 128 (fun _ => 0)), (q9017, oX8 12 4 ca9020 0), (ca9020, iA G 48 (fun _ => 0)), (q9021, oX8 16 3 ca9024 0), (ca9024, iA G 48 (fun _ => 0))]) hP hD (fun hP hD => ?_)
  refine Wcast (c1 := 18) (s1 := 1912) rfl rfl ?_
  refine pf_X0_41 hC rfl rfl hK hP hD hS 0 (ws' := [(h0, .inr (0, [.ref q8989, .ref q8993, .ref q8997, .ref q9001, .ref q9005, .ref q9009, .ref q9013, .ref q9017, .ref q9021, .null, .int 0, .int 0, .int 0, .int 0])), (q8989, oX8 10 2 ca8992 0), (ca8992, iA G 20 (fun _ => 0)), (q8993, oX8 12 6 ca8996 0), (ca8996, iA G 72 (fun _ => 0)), (q8997, oX8 24 3 ca9000 0), (ca9000, iA G 72 (fun _ => 0)), (q9001, oX8 8 3 ca9004 0), (ca9004, iA G 24 (fun _ => 0)), (q9005, oX8 72 7 ca9008 0), (ca9008, iA G 504 (fun _ => 0)), (q9009, oX8 960 1 ca9012 0), (ca9012, iA G 960 (fun _ => 0)), (q9013, oX8 16 8 ca9016 0), (ca9016, iA G 128 (fun _ => 0)), (q9017, oX8 12 4 ca9020 0), (ca9020, iA G 48 (fun _ => 0)), (q9021, oX8 16 3 ca9024 0), (ca9024, iA G 48 (fun _ => 0))]) rfl (Nat.le_of_ble_eq_true rfl) rfl rfl rfl dX0_init_131 (fun H locs hP hD hS => ?_)
  refine lv_aload_n hx hb dX0_init_134 rfl (lv_at0 hl) ?_
  refine nw_X0_9 hC rfl hK hP hD hS hA (Nat.le_of_ble_eq_true rfl) (Nat.le_of_ble_eq_true rfl) dX0_init_135 (fun q9025 H hP hD hS => ?_)
  refine Kpdr (ws := [(h0, .inr (0, [.ref q8989, .ref q8993, .ref q8997, .ref q9001, .ref q9005, .ref q9009, .ref q9013, .ref q9017, .ref q9021, .null, .int 0, .int 0, .int 0, .int 0])), (q8989, oX8 10 2 ca8992 0), (ca8992, iA G 20 (fun _ => 0)), (q8993, oX8 12 6 ca8996 0), (ca8996, iA G 72 (fun _ => 0)), (q8997, oX8 24 3 ca9000 0), (ca9000, iA G 72 (fun _ => 0)), (q9001, oX8 8 3 ca9004 0), (ca9004, iA G 24 (fun _ => 0)), (q9005, oX8 72 7 ca9008 0), (ca9008, iA G 504 (fun _ => 0)), (q9009, oX8 960 1 ca9012 0), (ca9012, iA G 960 (fun _ => 0)), (q9013, oX8 16 8 ca9016 0), (ca9016, iA G 128 (fun _ => 0)), (q9017, oX8 12 4 ca9020 0), (ca9020, iA G 48 (fun _ => 0)), (q9021, oX8 16 3 ca9024 0), (ca9024, iA G 48 (fun _ => 0)), (q9025, .inr (8, [.int 0, .int 0, .null, .int 0]))]) hP hD (fun hP hD => ?_)
  refine Wcast (c1 := 19) (s1 := 1916) rfl rfl ?_
  refine lv_dup hx hb dX0_init_138 rfl ?_
  refine lv_bipush (v := 7) hx hb dX0_init_139 (by decide) ?_
  refine lv_iconst (v := 2) hx hb dX0_init_141 (by decide) ?_
  refine vI (wr := [(h0, .inr (0, [.ref q8989, .ref q8993, .ref q8997, .ref q9001, .ref q9005, .ref q9009, .ref q9013, .ref q9017, .ref q9021, .null, .int 0, .int 0, .int 0, .int 0])), (q8989, oX8 10 2 ca8992 0), (ca8992, iA G 20 (fun _ => 0)), (q8993, oX8 12 6 ca8996 0), (ca8996, iA G 72 (fun _ => 0)), (q8997, oX8 24 3 ca9000 0), (ca9000, iA G 72 (fun _ => 0)), (q9001, oX8 8 3 ca9004 0), (ca9004, iA G 24 (fun _ => 0)), (q9005, oX8 72 7 ca9008 0), (ca9008, iA G 504 (fun _ => 0)), (q9009, oX8 960 1 ca9012 0), (ca9012, iA G 960 (fun _ => 0)), (q9013, oX8 16 8 ca9016 0), (ca9016, iA G 128 (fun _ => 0)), (q9017, oX8 12 4 ca9020 0), (ca9020, iA G 48 (fun _ => 0)), (q9021, oX8 16 3 ca9024 0), (ca9024, iA G 48 (fun _ => 0))]) hC hK hl hP hD hS hA (c_T_init_7_2 l G q9025) si_X0_11 [19] [0, 1, 2, 3, 4, 5, 6, 7, 8, 9, 10, 11, 12, 13, 14, 15, 16, 17, 18] sm_19 fm_19 nd_19 sm_0_1_2_3_4_5_6_7_8_9_10_11_12_13_14_15_16_17_18 nd_0_1_2_3_4_5_6_7_8_9_10_11_12_13_14_15_16_17_18 dj_19__0_1_2_3_4_5_6_7_8_9_10_11_12_13_14_15_16_17_18 rfl rfl (Nat.le_of_ble_eq_true rfl) rm_3_2_3 ⟨by first | exact Nat.le_of_ble_eq_true rfl | omega, by first | exact Nat.le_of_ble_eq_true rfl | omega⟩ dX0_init_142 (fun ca9028 H locs hr9026 hP hD hS => ?_)
  try dsimp only at hr9026
  refine Kpdr (ws := [(h0, .inr (0, [.ref q8989, .ref q8993, .ref q8997, .ref q9001, .ref q9005, .ref q9009, .ref q9013, .ref q9017, .ref q9021, .null, .int 0, .int 0, .int 0, .int 0])), (q8989, oX8 10 2 ca8992 0), (ca8992, iA G 20 (fun _ => 0)), (q8993, oX8 12 6 ca8996 0), (ca8996, iA G 72 (fun _ => 0)), (q8997, oX8 24 3 ca9000 0), (ca9000, iA G 72 (fun _ => 0)), (q9001, oX8 8 3 ca9004 0), (ca9004, iA G 24 (fun _ => 0)), (q9005, oX8 72 7 ca9008 0), (ca9008, iA G 504 (fun _ => 0)), (q9009, oX8 960 1 ca9012 0), (ca9012, iA G 960 (fun _ => 0)), (q9013, oX8 16 8 ca9016 0), (ca9016, iA G 128 (fun _ => 0)), (q9017, oX8 12 4 ca9020 0), (ca9020, iA G 48 (fun _ => 0)), (q9021, oX8 16 3 ca9024 0), (ca9024, iA G 48 (fun _ => 0)), (q9025, oX8 7 2 ca9028 0), (ca9028, iA G 14 (fun _ => 0))]) hP hD (fun hP hD => ?_)
  refine Wcast (c1 := 20) (s1 := 1930) rfl rfl ?_
  refine pf_X0_44 hC rfl rfl hK hP hD hS 0 (ws' := [(h0, oX0 q8989 q8993 q8997 q9001 q9005 q9009 q9013 q9017 q9021 q9025 0 0 0 0), (q8989, oX8 10 2 ca8992 0), (ca8992, iA G 20 (fun _ => 0)), (q8993, oX8 12 6 ca8996 0), (ca8996, iA G 72 (fun _ => 0)), (q8997, oX8 24 3 ca9000 0), (ca9000, iA G 72 (fun _ => 0)), (q9001, oX8 8 3 ca9004 0), (ca9004, iA G 24 (fun _ => 0)), (q9005, oX8 72 7 ca9008 0), (ca9008, iA G 504 (fun _ => 0)), (q9009, oX8 960 1 ca9012 0), (ca9012, iA G 960 (fun _ => 0)), (q9013, oX8 16 8 ca9016 0), (ca9016, iA G 128 (fun _ => 0)), (q9017, oX8 12 4 ca9020 0), (ca9020, iA G 48 (fun _ => 0)), (q9021, oX8 16 3 ca9024 0), (ca9024, iA G 48 (fun _ => 0)), (q9025, oX8 7 2 ca9028 0), (ca9028, iA G 14 (fun _ => 0))]) rfl (Nat.le_of_ble_eq_true rfl) rfl rfl rfl dX0_init_145 (fun H locs hP hD hS => ?_)
  refine lv_aload_n hx hb dX0_init_148 rfl (lv_at0 hl) ?_
  refine lv_iconst (v := 0) hx hb dX0_init_149 (by decide) ?_
  refine pf_X0_47 hC rfl hK hP hD hS 0 (ws' := [(h0, oX0 q8989 q8993 q8997 q9001 q9005 q9009 q9013 q9017 q9021 q9025 0 0 0 0), (q8989, oX8 10 2 ca8992 0), (ca8992, iA G 20 (fun _ => 0)), (q8993, oX8 12 6 ca8996 0), (ca8996, iA G 72 (fun _ => 0)), (q8997, oX8 24 3 ca9000 0), (ca9000, iA G 72 (fun _ => 0)), (q9001, oX8 8 3 ca9004 0), (ca9004, iA G 24 (fun _ => 0)), (q9005, oX8 72 7 ca9008 0), (ca9008, iA G 504 (fun _ => 0)), (q9009, oX8 960 1 ca9012 0), (ca9012, iA G 960 (fun _ => 0)), (q9013, oX8 16 8 ca9016 0), (ca9016, iA G 128 (fun _ => 0)), (q9017, oX8 12 4 ca9020 0), (ca9020, iA G 48 (fun _ => 0)), (q9021, oX8 16 3 ca9024 0), (ca9024, iA G 48 (fun _ => 0)), (q9025, oX8 7 2 ca9028 0), (ca9028, iA G 14 (fun _ => 0))]) rfl (Nat.le_of_ble_eq_true rfl) rfl rfl rfl dX0_init_150 (fun H locs hP hD hS => ?_)
  refine lv_aload_n hx hb dX0_init_153 rfl (lv_at0 hl) ?_
  refine lv_iconst (v := (-1)) hx hb dX0_init_154 (by decide) ?_
  refine pf_X0_51 hC rfl hK hP hD hS 0 (ws' := [(h0, oX0 q8989 q8993 q8997 q9001 q9005 q9009 q9013 q9017 q9021 q9025 0 (-1) 0 0), (q8989, oX8 10 2 ca8992 0), (ca8992, iA G 20 (fun _ => 0)), (q8993, oX8 12 6 ca8996 0), (ca8996, iA G 72 (fun _ => 0)), (q8997, oX8 24 3 ca9000 0), (ca9000, iA G 72 (fun _ => 0)), (q9001, oX8 8 3 ca9004 0), (ca9004, iA G 24 (fun _ => 0)), (q9005, oX8 72 7 ca9008 0), (ca9008, iA G 504 (fun _ => 0)), (q9009, oX8 960 1 ca9012 0), (ca9012, iA G 960 (fun _ => 0)), (q9013, oX8 16 8 ca9016 0), (ca9016, iA G 128 (fun _ => 0)), (q9017, oX8 12 4 ca9020 0), (ca9020, iA G 48 (fun _ => 0)), (q9021, oX8 16 3 ca9024 0), (ca9024, iA G 48 (fun _ => 0)), (q9025, oX8 7 2 ca9028 0), (ca9028, iA G 14 (fun _ => 0))]) rfl (Nat.le_of_ble_eq_true rfl) rfl rfl rfl dX0_init_155 (fun H locs hP hD hS => ?_)
  refine lv_aload_n hx hb dX0_init_158 rfl (lv_at0 hl) ?_
  refine lv_iconst (v := 3) hx hb dX0_init_159 (by decide) ?_
  refine pf_X0_54 hC rfl hK hP hD hS 0 (ws' := [(h0, oX0 q8989 q8993 q8997 q9001 q9005 q9009 q9013 q9017 q9021 q9025 0 (-1) 3 0), (q8989, oX8 10 2 ca8992 0), (ca8992, iA G 20 (fun _ => 0)), (q8993, oX8 12 6 ca8996 0), (ca8996, iA G 72 (fun _ => 0)), (q8997, oX8 24 3 ca9000 0), (ca9000, iA G 72 (fun _ => 0)), (q9001, oX8 8 3 ca9004 0), (ca9004, iA G 24 (fun _ => 0)), (q9005, oX8 72 7 ca9008 0), (ca9008, iA G 504 (fun _ => 0)), (q9009, oX8 960 1 ca9012 0), (ca9012, iA G 960 (fun _ => 0)), (q9013, oX8 16 8 ca9016 0), (ca9016, iA G 128 (fun _ => 0)), (q9017, oX8 12 4 ca9020 0), (ca9020, iA G 48 (fun _ => 0)), (q9021, oX8 16 3 ca9024 0), (ca9024, iA G 48 (fun _ => 0)), (q9025, oX8 7 2 ca9028 0), (ca9028, iA G 14 (fun _ => 0))]) rfl (Nat.le_of_ble_eq_true rfl) rfl rfl rfl dX0_init_160 (fun H locs hP hD hS => ?_)
  refine lv_aload_n hx hb dX0_init_163 rfl (lv_at0 hl) ?_
  refine lv_bipush (v := 24) hx hb dX0_init_164 (by decide) ?_
  refine pf_X0_57 hC rfl hK hP hD hS 0 (ws' := [(h0, oX0 q8989 q8993 q8997 q9001 q9005 q9009 q9013 q9017 q9021 q9025 0 (-1) 3 24), (q8989, oX8 10 2 ca8992 0), (ca8992, iA G 20 (fun _ => 0)), (q8993, oX8 12 6 ca8996 0), (ca8996, iA G 72 (fun _ => 0)), (q8997, oX8 24 3 ca9000 0), (ca9000, iA G 72 (fun _ => 0)), (q9001, oX8 8 3 ca9004 0), (ca9004, iA G 24 (fun _ => 0)), (q9005, oX8 72 7 ca9008 0), (ca9008, iA G 504 (fun _ => 0)), (q9009, oX8 960 1 ca9012 0), (ca9012, iA G 960 (fun _ => 0)), (q9013, oX8 16 8 ca9016 0), (ca9016, iA G 128 (fun _ => 0)), (q9017, oX8 12 4 ca9020 0), (ca9020, iA G 48 (fun _ => 0)), (q9021, oX8 16 3 ca9024 0), (ca9024, iA G 48 (fun _ => 0)), (q9025, oX8 7 2 ca9028 0), (ca9028, iA G 14 (fun _ => 0))]) rfl (Nat.le_of_ble_eq_true rfl) rfl rfl rfl dX0_init_166 (fun H locs hP hD hS => ?_)
  exact toQ hQ0 (RV hC hP hD hS [0, 1, 2, 3, 4, 5, 6, 7, 8, 9, 10, 11, 12, 13, 14, 15, 16, 17, 18, 19, 20] (fun k9 => ([q8989, ca8992, q8993, ca8996, q8997, ca9000, q9001, ca9004, q9005, ca9008, q9009, ca9012, q9013, ca9016, q9017, ca9020, q9021, ca9024, q9025, ca9028] : List Nat).getD k9 0) rfl rfl (by decide) (trivial) dX0_init_169)
def K_c_Cl_init (l : Launch) (G : GG) (h0 : Nat) : Prop := MV l G yX1_init cX1_init 1 2 1 36 [.ref h0] [(h0, .inr (1, [.null]))] (fun u : Nat => True) (fun u : Nat => [(h0, oX1 u), (u, iA G 36 (fun _ => 0))])
set_option maxHeartbeats 4000000 in
set_option maxRecDepth 100000 in
theorem c_Cl_init (l : Launch) (G : GG) (h0 : Nat) : K_c_Cl_init l G h0 := by
  refine MV.start (by decide +kernel) (Nat.le_of_ble_eq_true rfl) ?_
  intro p e s m below meth c A ls hC hK hP hD hS hA hl
  refine absQ (fun Q0 hQ0 => ?_)
  have hl : lv_has ls 1 [(0, .ref h0)] := hl
  refine Kan8 hC (fun hx hb hr hml hB hown hlocks hnm => ?_)
  refine lv_aload_n hx hb dX1_init_0 rfl (lv_at0 hl) ?_
  refine W.objInit hx hb hown (hB _ m_173) (hB _ m_128) (hB _ m_129) rfl (by rw [hml]; exact hl.1) rfl dX1_init_1 (Nat.le_of_ble_eq_true rfl) (Nat.le_of_ble_eq_true rfl) ?_
  refine W.eq (g2 := F0 m 4 ls []) rfl ?_
  refine lv_aload_n hx hb dX1_init_4 rfl (lv_at0 hl) ?_
  refine lv_bipush (v := 36) hx hb dX1_init_5 (by decide) ?_
  refine newI hC hK hP hD hS hA m_148 (by decide) (N := 36) (by decide +kernel) (Nat.le_of_ble_eq_true rfl) (by decide) (Nat.le_of_ble_eq_true rfl) dX1_init_7 (fun q9029 H hP hD hS => ?_)
  refine Kpdr (ws := [(h0, .inr (1, [.null])), (q9029, iA G 36 (fun _ => 0))]) hP hD (fun hP hD => ?_)
  refine Wcast (c1 := 1) (s1 := 36) rfl rfl ?_
  refine pf_X1_9 hC rfl rfl hK hP hD hS 0 (ws' := [(h0, oX1 q9029), (q9029, iA G 36 (fun _ => 0))]) rfl (Nat.le_of_ble_eq_true rfl) rfl rfl rfl dX1_init_9 (fun H locs hP hD hS => ?_)
  exact toQ hQ0 (RV hC hP hD hS [0, 1] q9029 rfl rfl (by decide) (trivial) dX1_init_12)
def K_c_S_init (l : Launch) (G : GG) (h0 : Nat) (bk : Nat) : Prop := MV l G yX7_init cX7_init 2 3 8 109 [.ref h0, .ref bk] [(h0, .inr (7, [.null, .null, .null, .null, .null, .null, .null, .null, .int 0]))] (fun u : (Nat → Nat) => True) (fun u : (Nat → Nat) => [(h0, oX7 bk (u 0) (u 2) (u 3) (u 4) (u 5) (u 6) (u 7) 0), ((u 0), oX1 (u 1)), ((u 1), iA G 36 (fun _ => 0)), ((u 2), iA G 12 (fun _ => 0)), ((u 3), iA G 12 (fun _ => 0)), ((u 4), iA G 12 (fun _ => 0)), ((u 5), iA G 12 (fun _ => 0)), ((u 6), iA G 12 (fun _ => 0)), ((u 7), iA G 12 (fun _ => 0))])
set_option maxHeartbeats 4000000 in
set_option maxRecDepth 100000 in
theorem c_S_init (l : Launch) (G : GG) (h0 : Nat) (bk : Nat) : K_c_S_init l G h0 bk := by
  refine MV.start (by decide +kernel) (Nat.le_of_ble_eq_true rfl) ?_
  intro p e s m below meth c A ls hC hK hP hD hS hA hl
  refine absQ (fun Q0 hQ0 => ?_)
  have hl : lv_has ls 2 [(0, .ref h0), (1, .ref bk)] := hl
  refine Kan8 hC (fun hx hb hr hml hB hown hlocks hnm => ?_)
  refine lv_aload_n hx hb dX7_init_0 rfl (lv_at0 hl) ?_
  refine W.objInit hx hb hown (hB _ m_168) (hB _ m_128) (hB _ m_129) rfl (by rw [hml]; exact hl.1) rfl dX7_init_1 (Nat.le_of_ble_eq_true rfl) (Nat.le_of_ble_eq_true rfl) ?_
  refine W.eq (g2 := F0 m 4 ls []) rfl ?_
  refine lv_aload_n hx hb dX7_init_4 rfl (lv_at0 hl) ?_
  refine nw_X7_9 hC rfl hK hP hD hS hA (Nat.le_of_ble_eq_true rfl) (Nat.le_of_ble_eq_true rfl) dX7_init_5 (fun q9030 H hP hD hS => ?_)
  refine Kpdr (ws := [(h0, .inr (7, [.null, .null, .null, .null, .null, .null, .null, .null, .int 0])), (q9030, .inr (1, [.null]))]) hP hD (fun hP hD => ?_)
  refine Wcast (c1 := 1) (s1 := 1) rfl rfl ?_
  refine lv_dup hx hb dX7_init_8 rfl ?_
  refine vIN (wr := [(h0, .inr (7, [.null, .null, .null, .null, .null, .null, .null, .null, .int 0]))]) hC hK hl hP hD hS hA (c_Cl_init l G q9030) si_X7_11 [1] [0] sm_1 fm_1 nd_1 sm_0 nd_0 dj_1__0 rfl rfl (Nat.le_of_ble_eq_true rfl) rm_3_2_1 ⟨by first | exact Nat.le_of_ble_eq_true rfl | omega, by first | exact Nat.le_of_ble_eq_true rfl | omega⟩ dX7_init_9 (fun ca9033 H locs hr9031 hP hD hS => ?_)
  try dsimp only at hr9031
  refine Kpdr (ws := [(h0, .inr (7, [.null, .null, .null, .null, .null, .null, .null, .null, .int 0])), (q9030, oX1 ca9033), (ca9033, iA G 36 (fun _ => 0))]) hP hD (fun hP hD => ?_)
  refine Wcast (c1 := 2) (s1 := 37) rfl rfl ?_
  refine pf_X7_12 hC rfl rfl hK hP hD hS 0 (ws' := [(h0, .inr (7, [.null, .ref q9030, .null, .null, .null, .null, .null, .null, .int 0])), (q9030, oX1 ca9033), (ca9033, iA G 36 (fun _ => 0))]) rfl (Nat.le_of_ble_eq_true rfl) rfl rfl rfl dX7_init_12 (fun H locs hP hD hS => ?_)
  refine lv_aload_n hx hb dX7_init_15 rfl (lv_at0 hl) ?_
  refine lv_bipush (v := 12) hx hb dX7_init_16 (by decide) ?_
  refine newI hC hK hP hD hS hA m_148 (by decide) (N := 12) (by decide +kernel) (Nat.le_of_ble_eq_true rfl) (by decide) (Nat.le_of_ble_eq_true rfl) dX7_init_18 (fun q9034 H hP hD hS => ?_)
  refine Kpdr (ws := [(h0, .inr (7, [.null, .ref q9030, .null, .null, .null, .null, .null, .null, .int 0])), (q9030, oX1 ca9033), (ca9033, iA G 36 (fun _ => 0)), (q9034, iA G 12 (fun _ => 0))]) hP hD (fun hP hD => ?_)
  refine Wcast (c1 := 3) (s1 := 49) rfl rfl ?_
  refine pf_X7_18 hC rfl rfl hK hP hD hS 0 (ws' := [(h0, .inr (7, [.null, .ref q9030, .ref q9034, .null, .null, .null, .null, .null, .int 0])), (q9030, oX1 ca9033), (ca9033, iA G 36 (fun _ => 0)), (q9034, iA G 12 (fun _ => 0))]) rfl (Nat.le_of_ble_eq_true rfl) rfl rfl rfl dX7_init_20 (fun H locs hP hD hS => ?_)
  refine lv_aload_n hx hb dX7_init_23 rfl (lv_at0 hl) ?_
  refine lv_bipush (v := 12) hx hb dX7_init_24 (by decide) ?_
  refine newI hC hK hP hD hS hA m_148 (by decide) (N := 12) (by decide +kernel) (Nat.le_of_ble_eq_true rfl) (by decide) (Nat.le_of_ble_eq_true rfl) dX7_init_26 (fun q9035 H hP hD hS => ?_)
  refine Kpdr (ws := [(h0, .inr (7, [.null, .ref q9030, .ref q9034, .null, .null, .null, .null, .null, .int 0])), (q9030, oX1 ca9033), (ca9033, iA G 36 (fun _ => 0)), (q9034, iA G 12 (fun _ => 0)), (q9035, iA G 12 (fun _ => 0))]) hP hD (fun hP hD => ?_)
  refine Wcast (c1 := 4) (s1 := 61) rfl rfl ?_
  refine pf_X7_22 hC rfl rfl hK hP hD hS 0 (ws' := [(h0, .inr (7, [.null, .ref q9030, .ref q9034, .ref q9035, .null, .null, .null, .null, .int 0])), (q9030, oX1 ca9033), (ca9033, iA G 36 (fun _ => 0)), (q9034, iA G 12 (fun _ => 0)), (q9035, iA G 12 (fun _ => 0))]) rfl (Nat.le_of_ble_eq_true rfl) rfl rfl rfl dX7_init_28 (fun H locs hP hD hS => ?_)
  refine lv_aload_n hx hb dX7_init_31 rfl (lv_at0 hl) ?_
  refine lv_bipush (v := 12) hx hb dX7_init_32 (by decide) ?_
  refine newI hC hK hP hD hS hA m_148 (by decide) (N := 12) (by decide +kernel) (Nat.le_of_ble_eq_true rfl) (by decide) (Nat.le_of_ble_eq_true rfl) dX7_init_34 (fun q9036 H hP hD hS => ?_)
  refine Kpdr (ws := [(h0, .inr (7, [.null, .ref q9030, .ref q9034, .ref q9035, .null, .null, .null, .null, .int 0])), (q9030, oX1 ca9033), (ca9033, iA G 36 (fun _ => 0)), (q9034, iA G 12 (fun _ => 0)), (q9035, iA G 12 (fun _ => 0)), (q9036, iA G 12 (fun _ => 0))]) hP hD (fun hP hD => ?_)
  refine Wcast (c1 := 5) (s1 := 73) rfl rfl ?_
  refine pf_X7_25 hC rfl rfl hK hP hD hS 0 (ws' := [(h0, .inr (7, [.null, .ref q9030, .ref q9034, .ref q9035, .ref q9036, .null, .null, .null, .int 0])), (q9030, oX1 ca9033), (ca9033, iA G 36 (fun _ => 0)), (q9034, iA G 12 (fun _ => 0)), (q9035, iA G 12 (fun _ => 0)), (q9036, iA G 12 (fun _ => 0))]) rfl (Nat.le_of_ble_eq_true rfl) rfl rfl rfl dX7_init_36 (fun H locs hP hD hS => ?_)
  refine lv_aload_n hx hb dX7_init_39 rfl (lv_at0 hl) ?_
  refine lv_bipush (v := 12) hx hb dX7_init_40 (by decide) ?_
  refine newI hC hK hP hD hS hA m_148 (by decide) (N := 12) (by decide +kernel) (Nat.le_of_ble_eq_true rfl) (by decide) (Nat.le_of_ble_eq_true rfl) dX7_init_42 (fun q9037 H hP hD hS => ?_)
  refine Kpdr (ws := [(h0, .inr (7, [.null, .ref q9030, .ref q9034, .ref q9035, .ref q9036, .null, .null, .null, .int 0])), (q9030, oX1 ca9033), (ca9033, iA G 36 (fun _ => 0)), (q9034, iA G 12 (fun _ => 0)), (q9035, iA G 12 (fun _ => 0)), (q9036, iA G 12 (fun _ => 0)), (q9037, iA G 12 (fun _ => 0))]) hP hD (fun hP hD => ?_)
  refine Wcast (c1 := 6) (s1 := 85) rfl rfl ?_
  refine pf_X7_28 hC rfl rfl hK hP hD hS 0 (ws' := [(h0, .inr (7, [.null, .ref q9030, .ref q9034, .ref q9035, .ref q9036, .ref q9037, .null, .null, .int 0])), (q9030, oX1 ca9033), (ca9033, iA G 36 (fun _ => 0)), (q9034, iA G 12 (fun _ => 0)), (q9035, iA G 12 (fun _ => 0)), (q9036, iA G 12 (fun _ => 0)), (q9037, iA G 12 (fun _ => 0))]) rfl (Nat.le_of_ble_eq_true rfl) rfl rfl rfl dX7_init_44 (fun H locs hP hD hS => ?_)
  refine lv_aload_n hx hb dX7_init_47 rfl (lv_at0 hl) ?_
  refine lv_bipush (v := 12) hx hb dX7_init_48 (by decide) ?_
  refine newI hC hK hP hD hS hA m_148 (by decide) (N := 12) (by decide +kernel) (Nat.le_of_ble_eq_true rfl) (by decide) (Nat.le_of_ble_eq_true rfl) dX7_init_50 (fun q9038 H hP hD hS => ?_)
  refine Kpdr (ws := [(h0, .inr (7, [.null, .ref q9030, .ref q9034, .ref q9035, .ref q9036, .ref q9037, .null, .null, .int 0])), (q9030, oX1 ca9033), (ca9033, iA G 36 (fun _ => 0)), (q9034, iA G 12 (fun _ => 0)), (q9035, iA G 12 (fun _ => 0)), (q9036, iA G 12 (fun _ => 0)), (q9037, iA G 12 (fun _ => 0)), (q9038, iA G 12 (fun _ => 0))]) hP hD (fun hP hD => ?_)
  refine Wcast (c1 := 7) (s1 := 97) rfl rfl ?_
  refine pf_X7_31 hC rfl rfl hK hP hD hS 0 (ws' := [(h0, .inr (7, [.null, .ref q9030, .ref q9034, .ref q9035, .ref q9036, .ref q9037, .ref q9038, .null, .int 0])), (q9030, oX1 ca9033), (ca9033, iA G 36 (fun _ => 0)), (q9034, iA G 12 (fun _ => 0)), (q9035, iA G 12 (fun _ => 0)), (q9036, iA G 12 (fun _ => 0)), (q9037, iA G 12 (fun _ => 0)), (q9038, iA G 12 (fun _ => 0))]) rfl (Nat.le_of_ble_eq_true rfl) rfl rfl rfl dX7_init_52 (fun H locs hP hD hS => ?_)
  refine lv_aload_n hx hb dX7_init_55 rfl (lv_at0 hl) ?_
  refine lv_bipush (v := 12) hx hb dX7_init_56 (by decide) ?_
  refine newI hC hK hP hD hS hA m_148 (by decide) (N := 12) (by decide +kernel) (Nat.le_of_ble_eq_true rfl) (by decide) (Nat.le_of_ble_eq_true rfl) dX7_init_58 (fun q9039 H hP hD hS => ?_)
  refine Kpdr (ws := [(h0, .inr (7, [.null, .ref q9030, .ref q9034, .ref q9035, .ref q9036, .ref q9037, .ref q9038, .null, .int 0])), (q9030, oX1 ca9033), (ca9033, iA G 36 (fun _ => 0)), (q9034, iA G 12 (fun _ => 0)), (q9035, iA G 12 (fun _ => 0)), (q9036, iA G 12 (fun _ => 0)), (q9037, iA G 12 (fun _ => 0)), (q9038, iA G 12 (fun _ => 0)), (q9039, iA G 12 (fun _ => 0))]) hP hD (fun hP hD => ?_)
  refine Wcast (c1 := 8) (s1 := 109) rfl rfl ?_
  refine pf_X7_34 hC rfl rfl hK hP hD hS 0 (ws' := [(h0, .inr (7, [.null, .ref q9030, .ref q9034, .ref q9035, .ref q9036, .ref q9037, .ref q9038, .ref q9039, .int 0])), (q9030, oX1 ca9033), (ca9033, iA G 36 (fun _ => 0)), (q9034, iA G 12 (fun _ => 0)), (q9035, iA G 12 (fun _ => 0)), (q9036, iA G 12 (fun _ => 0)), (q9037, iA G 12 (fun _ => 0)), (q9038, iA G 12 (fun _ => 0)), (q9039, iA G 12 (fun _ => 0))]) rfl (Nat.le_of_ble_eq_true rfl) rfl rfl rfl dX7_init_60 (fun H locs hP hD hS => ?_)
  refine lv_aload_n hx hb dX7_init_63 rfl (lv_at0 hl) ?_
  refine lv_aload_n hx hb dX7_init_64 rfl (lv_at1 hl) ?_
  refine pf_X7_37 hC rfl rfl hK hP hD hS 0 (ws' := [(h0, oX7 bk q9030 q9034 q9035 q9036 q9037 q9038 q9039 0), (q9030, oX1 ca9033), (ca9033, iA G 36 (fun _ => 0)), (q9034, iA G 12 (fun _ => 0)), (q9035, iA G 12 (fun _ => 0)), (q9036, iA G 12 (fun _ => 0)), (q9037, iA G 12 (fun _ => 0)), (q9038, iA G 12 (fun _ => 0)), (q9039, iA G 12 (fun _ => 0))]) rfl (Nat.le_of_ble_eq_true rfl) rfl rfl rfl dX7_init_65 (fun H locs hP hD hS => ?_)
  refine lv_aload_n hx hb dX7_init_68 rfl (lv_at0 hl) ?_
  refine lv_iconst (v := 0) hx hb dX7_init_69 (by decide) ?_
  refine pf_X7_41 hC rfl hK hP hD hS 0 (ws' := [(h0, oX7 bk q9030 q9034 q9035 q9036 q9037 q9038 q9039 0), (q9030, oX1 ca9033), (ca9033, iA G 36 (fun _ => 0)), (q9034, iA G 12 (fun _ => 0)), (q9035, iA G 12 (fun _ => 0)), (q9036, iA G 12 (fun _ => 0)), (q9037, iA G 12 (fun _ => 0)), (q9038, iA G 12 (fun _ => 0)), (q9039, iA G 12 (fun _ => 0))]) rfl (Nat.le_of_ble_eq_true rfl) rfl (by decide +kernel) (by decide +kernel) dX7_init_70 (fun H locs hP hD hS => ?_)
  exact toQ hQ0 (RV hC hP hD hS [0, 1, 2, 3, 4, 5, 6, 7, 8] (fun k9 => ([q9030, ca9033, q9034, q9035, q9036, q9037, q9038, q9039] : List Nat).getD k9 0) rfl rfl (by decide) (trivial) dX7_init_73)
def K_c_D_init (l : Launch) (G : GG) (h0 : Nat) (bk : Nat) : Prop := MV l G yX3_init cX3_init 3 3 27 494 [.ref h0, .ref bk] [(h0, .inr (3, [.null, .null, .int 0, .int 0, .int 0]))] (fun u : (Nat → Nat) × (Nat → Option Nat) => u.2 0 = some (u.1 1) ∧ u.2 1 = some (u.1 3) ∧ u.2 2 = some (u.1 5) ∧ u.2 3 = some (u.1 7) ∧ u.2 4 = some (u.1 9) ∧ u.2 5 = some (u.1 11) ∧ u.2 6 = some (u.1 13) ∧ u.2 7 = some (u.1 15) ∧ u.2 8 = some (u.1 17) ∧ u.2 9 = some (u.1 19) ∧ u.2 10 = some (u.1 21) ∧ u.2 11 = some (u.1 23) ∧ u.2 12 = some (u.1 25)) (fun u : (Nat → Nat) × (Nat → Option Nat) => [(h0, oX3 bk (u.1 0) 0 0 0), ((u.1 0), cA G 13 u.2), ((u.1 1), oX1 (u.1 2)), ((u.1 2), iA G 36 (fun _ => 0)), ((u.1 3), oX1 (u.1 4)), ((u.1 4), iA G 36 (fun _ => 0)), ((u.1 5), oX1 (u.1 6)), ((u.1 6), iA G 36 (fun _ => 0)), ((u.1 7), oX1 (u.1 8)), ((u.1 8), iA G 36 (fun _ => 0)), ((u.1 9), oX1 (u.1 10)), ((u.1 10), iA G 36 (fun _ => 0)), ((u.1 11), oX1 (u.1 12)), ((u.1 12), iA G 36 (fun _ => 0)), ((u.1 13), oX1 (u.1 14)), ((u.1 14), iA G 36 (fun _ => 0)), ((u.1 15), oX1 (u.1 16)), ((u.1 16), iA G 36 (fun _ => 0)), ((u.1 17), oX1 (u.1 18)), ((u.1 18), iA G 36 (fun _ => 0)), ((u.1 19), oX1 (u.1 20)), ((u.1 20), iA G 36 (fun _ => 0)), ((u.1 21), oX1 (u.1 22)), ((u.1 22), iA G 36 (fun _ => 0)), ((u.1 23), oX1 (u.1 24)), ((u.1 24), iA G 36 (fun _ => 0)), ((u.1 25), oX1 (u.1 26)), ((u.1 26), iA G 36 (fun _ => 0))])
set_option maxHeartbeats 4000000 in
set_option maxRecDepth 100000 in
theorem c_D_init (l : Launch) (G : GG) (h0 : Nat) (bk : Nat) : K_c_D_init l G h0 bk := by
  refine MV.start (by decide +kernel) (Nat.le_of_ble_eq_true rfl) ?_
  intro p e s m below meth c A ls hC hK hP hD hS hA hl
  refine absQ (fun Q0 hQ0 => ?_)
  have hl : lv_has ls 3 [(0, .ref h0), (1, .ref bk)] := hl
  refine Kan8 hC (fun hx hb hr hml hB hown hlocks hnm => ?_)
  refine lv_aload_n hx hb dX3_init_0 rfl (lv_at0 hl) ?_
  refine W.objInit hx hb hown (hB _ m_189) (hB _ m_128) (hB _ m_129) rfl (by rw [hml]; exact hl.1) rfl dX3_init_1 (Nat.le_of_ble_eq_true rfl) (Nat.le_of_ble_eq_true rfl) ?_
  refine W.eq (g2 := F0 m 4 ls []) rfl ?_
  refine lv_aload_n hx hb dX3_init_4 rfl (lv_at0 hl) ?_
  refine lv_bipush (v := 13) hx hb dX3_init_5 (by decide) ?_
  refine newQ (E := RX1) 1 rfl hC hK hP hD hS hA m_190 hK.2.2.1 (by decide) (N := 13) (by decide +kernel) (by decide) (Nat.le_of_ble_eq_true rfl) (Nat.le_of_ble_eq_true rfl) dX3_init_7 (fun q9040 H hP hD hS => ?_)
  refine Kpdr (ws := [(h0, .inr (3, [.null, .null, .int 0, .int 0, .int 0])), (q9040, cA G 13 (fun _ => none))]) hP hD (fun hP hD => ?_)
  refine Wcast (c1 := 1) (s1 := 13) rfl rfl ?_
  refine pf_X3_11 hC rfl rfl hK hP hD hS 0 (ws' := [(h0, .inr (3, [.null, .ref q9040, .int 0, .int 0, .int 0])), (q9040, cA G 13 (fun _ => none))]) rfl (Nat.le_of_ble_eq_true rfl) rfl rfl rfl dX3_init_10 (fun H locs hP hD hS => ?_)
  refine lv_aload_n hx hb dX3_init_13 rfl (lv_at0 hl) ?_
  refine lv_aload_n hx hb dX3_init_14 rfl (lv_at1 hl) ?_
  refine pf_X3_17 hC rfl rfl hK hP hD hS 0 (ws' := [(h0, oX3 bk q9040 0 0 0), (q9040, cA G 13 (fun _ => none))]) rfl (Nat.le_of_ble_eq_true rfl) rfl rfl rfl dX3_init_15 (fun H locs hP hD hS => ?_)
  refine lv_iconst (v := 0) hx hb dX3_init_18 (by decide) ?_
  refine lv_istore_n (lv' := [(2, .int 0), (0, .ref h0), (1, .ref bk)]) hx hb dX3_init_19 rfl hl (by decide) rfl (fun ls hl => ?_)
  refine lv_iload_n hx hb dX3_init_20 rfl (lv_at0 hl) ?_
  refine lv_aload_n hx hb dX3_init_21 rfl (lv_at1 hl) ?_
  refine gf_X3_11 hC rfl hK hP 0 rfl rfl dX3_init_22 ?_
  refine va_alen (v := 13) hx hb hK.1 hP 1 1 rfl rfl (show Int32.ofNat 13 = 13 by decide) dX3_init_25 ?_
  refine lv_icmp_ge (tgt := 48) hx hb dX3_init_26 (by decide) (fun c9 => absurd c9 (by decide)) (fun _ => ?_)
  refine lv_aload_n hx hb dX3_init_29 rfl (lv_at1 hl) ?_
  refine gf_X3_11 hC rfl hK hP 0 rfl rfl dX3_init_30 ?_
  refine lv_iload_n hx hb dX3_init_33 rfl (lv_at0 hl) ?_
  refine nw_X3_9 hC rfl hK hP hD hS hA (Nat.le_of_ble_eq_true rfl) (Nat.le_of_ble_eq_true rfl) dX3_init_34 (fun q9041 H hP hD hS => ?_)
  refine Kpdr (ws := [(h0, oX3 bk q9040 0 0 0), (q9040, cA G 13 (fun _ => none)), (q9041, .inr (1, [.null]))]) hP hD (fun hP hD => ?_)
  refine Wcast (c1 := 2) (s1 := 14) rfl rfl ?_
  refine lv_dup hx hb dX3_init_37 rfl ?_
  refine vIN (wr := [(h0, oX3 bk q9040 0 0 0), (q9040, cA G 13 (fun _ => none))]) hC hK hl hP hD hS hA (c_Cl_init l G q9041) si_X3_21 [2] [0, 1] sm_2 fm_2 nd_2 sm_0_1 nd_0_1 dj_2__0_1 rfl rfl (Nat.le_of_ble_eq_true rfl) rm_3_2_1 ⟨by first | exact Nat.le_of_ble_eq_true rfl | omega, by first | exact Nat.le_of_ble_eq_true rfl | omega⟩ dX3_init_38 (fun ca9044 H locs hr9042 hP hD hS => ?_)
  try dsimp only at hr9042
  refine Kpdr (ws := [(h0, oX3 bk q9040 0 0 0), (q9040, cA G 13 (fun _ => none)), (q9041, oX1 ca9044), (ca9044, iA G 36 (fun _ => 0))]) hP hD (fun hP hD => ?_)
  refine Wcast (c1 := 3) (s1 := 50) rfl rfl ?_
  refine va_astq (r := (RX1, TX1, 1)) hx hb hK.1 hP hD hS 1 1 2 1 rfl rfl rfl rfl (vin (by decide +kernel)) dX3_init_41 (fun H locs hP hD hS => ?_)
  refine Kpdr (ws := [(h0, oX3 bk q9040 0 0 0), (q9040, cA G 13 (va_up (fun _ => none) 0 (some q9041))), (q9041, oX1 ca9044), (ca9044, iA G 36 (fun _ => 0))]) hP hD (fun hP hD => ?_)
  refine lv_iinc (v := 1) (lv' := [(2, .int 1), (0, .ref h0), (1, .ref bk)]) hx hb dX3_init_42 hl (k := 0) rfl (by decide) (by decide) rfl (fun ls hl => ?_)
  refine lv_goto (tgt := 20) hx hb dX3_init_45 (by decide) ?_
  refine lv_iload_n hx hb dX3_init_20 rfl (lv_at0 hl) ?_
  refine lv_aload_n hx hb dX3_init_21 rfl (lv_at1 hl) ?_
  refine gf_X3_11 hC rfl hK hP 0 rfl rfl dX3_init_22 ?_
  refine va_alen (v := 13) hx hb hK.1 hP 1 1 rfl rfl (show Int32.ofNat 13 = 13 by decide) dX3_init_25 ?_
  refine lv_icmp_ge (tgt := 48) hx hb dX3_init_26 (by decide) (fun c9 => absurd c9 (by decide)) (fun _ => ?_)
  refine lv_aload_n hx hb dX3_init_29 rfl (lv_at1 hl) ?_
  refine gf_X3_11 hC rfl hK hP 0 rfl rfl dX3_init_30 ?_
  refine lv_iload_n hx hb dX3_init_33 rfl (lv_at0 hl) ?_
  refine nw_X3_9 hC rfl hK hP hD hS hA (Nat.le_of_ble_eq_true rfl) (Nat.le_of_ble_eq_true rfl) dX3_init_34 (fun q9045 H hP hD hS => ?_)
  refine Kpdr (ws := [(h0, oX3 bk q9040 0 0 0), (q9040, cA G 13 (va_up (fun _ => none) 0 (some q9041))), (q9041, oX1 ca9044), (ca9044, iA G 36 (fun _ => 0)), (q9045, .inr (1, [.null]))]) hP hD (fun hP hD => ?_)
  refine Wcast (c1 := 4) (s1 := 51) rfl rfl ?_
  refine lv_dup hx hb dX3_init_37 rfl ?_
  refine vIN (wr := [(h0, oX3 bk q9040 0 0 0), (q9040, cA G 13 (va_up (fun _ => none) 0 (some q9041))), (q9041, oX1 ca9044), (ca9044, iA G 36 (fun _ => 0))]) hC hK hl hP hD hS hA (c_Cl_init l G q9045) si_X3_21 [4] [0, 1, 2, 3] sm_4 fm_4 nd_4 sm_0_1_2_3 nd_0_1_2_3 dj_4__0_1_2_3 rfl rfl (Nat.le_of_ble_eq_true rfl) rm_3_2_1 ⟨by first | exact Nat.le_of_ble_eq_true rfl | omega, by first | exact Nat.le_of_ble_eq_true rfl | omega⟩ dX3_init_38 (fun ca9048 H locs hr9046 hP hD hS => ?_)
  try dsimp only at hr9046
  refine Kpdr (ws := [(h0, oX3 bk q9040 0 0 0), (q9040, cA G 13 (va_up (fun _ => none) 0 (some q9041))), (q9041, oX1 ca9044), (ca9044, iA G 36 (fun _ => 0)), (q9045, oX1 ca9048), (ca9048, iA G 36 (fun _ => 0))]) hP hD (fun hP hD => ?_)
  refine Wcast (c1 := 5) (s1 := 87) rfl rfl ?_
  refine va_astq (r := (RX1, TX1, 1)) hx hb hK.1 hP hD hS 1 1 4 1 rfl rfl rfl rfl (vin (by decide +kernel)) dX3_init_41 (fun H locs hP hD hS => ?_)
  refine Kpdr (ws := [(h0, oX3 bk q9040 0 0 0), (q9040, cA G 13 (va_up (va_up (fun _ => none) 0 (some q9041)) 1 (some q9045))), (q9041, oX1 ca9044), (ca9044, iA G 36 (fun _ => 0)), (q9045, oX1 ca9048), (ca9048, iA G 36 (fun _ => 0))]) hP hD (fun hP hD => ?_)
  refine lv_iinc (v := 2) (lv' := [(2, .int 2), (0, .ref h0), (1, .ref bk)]) hx hb dX3_init_42 hl (k := 0) rfl (by decide) (by decide) rfl (fun ls hl => ?_)
  refine lv_goto (tgt := 20) hx hb dX3_init_45 (by decide) ?_
  refine lv_iload_n hx hb dX3_init_20 rfl (lv_at0 hl) ?_
  refine lv_aload_n hx hb dX3_init_21 rfl (lv_at1 hl) ?_
  refine gf_X3_11 hC rfl hK hP 0 rfl rfl dX3_init_22 ?_
  refine va_alen (v := 13) hx hb hK.1 hP 1 1 rfl rfl (show Int32.ofNat 13 = 13 by decide) dX3_init_25 ?_
  refine lv_icmp_ge (tgt := 48) hx hb dX3_init_26 (by decide) (fun c9 => absurd c9 (by decide)) (fun _ => ?_)
  refine lv_aload_n hx hb dX3_init_29 rfl (lv_at1 hl) ?_
  refine gf_X3_11 hC rfl hK hP 0 rfl rfl dX3_init_30 ?_
  refine lv_iload_n hx hb dX3_init_33 rfl (lv_at0 hl) ?_
  refine nw_X3_9 hC rfl hK hP hD hS hA (Nat.le_of_ble_eq_true rfl) (Nat.le_of_ble_eq_true rfl) dX3_init_34 (fun q9049 H hP hD hS => ?_)
  refine Kpdr (ws := [(h0, oX3 bk q9040 0 0 0), (q9040, cA G 13 (va_up (va_up (fun _ => none) 0 (some q9041)) 1 (some q9045))), (q9041, oX1 ca9044), (ca9044, iA G 36 (fun _ => 0)), (q9045, oX1 ca9048), (ca9048, iA G 36 (fun _ => 0)), (q9049, .inr (1, [.null]))]) hP hD (fun hP hD => ?_)
  refine Wcast (c1 := 6) (s1 := 88) rfl rfl ?_
  refine lv_dup hx hb dX3_init_37 rfl ?_
  refine vIN (wr := [(h0, oX3 bk q9040 0 0 0), (q9040, cA G 13 (va_up (va_up (fun _ => none) 0 (some q9041)) 1 (some q9045))), (q9041, oX1 ca9044), (ca9044, iA G 36 (fun _ => 0)), (q9045, oX1 ca9048), (ca9048, iA G 36 (fun _ => 0))]) hC hK hl hP hD hS hA (c_Cl_init l G q9049) si_X3_21 [6] [0, 1, 2, 3, 4, 5] sm_6 fm_6 nd_6 sm_0_1_2_3_4_5 nd_0_1_2_3_4_5 dj_6__0_1_2_3_4_5 rfl rfl (Nat.le_of_ble_eq_true rfl) rm_3_2_1 ⟨by first | exact Nat.le_of_ble_eq_true rfl | omega, by first | exact Nat.le_of_ble_eq_true rfl | omega⟩ dX3_init_38 (fun ca9052 H locs hr9050 hP hD hS => ?_)
  try dsimp only at hr9050
  refine Kpdr (ws := [(h0, oX3 bk q9040 0 0 0), (q9040, cA G 13 (va_up (va_up (fun _ => none) 0 (some q9041)) 1 (some q9045))), (q9041, oX1 ca9044), (ca9044, iA G 36 (fun _ => 0)), (q9045, oX1 ca9048), (ca9048, iA G 36 (fun _ => 0)), (q9049, oX1 ca9052), (ca9052, iA G 36 (fun _ => 0))]) hP hD (fun hP hD => ?_)
  refine Wcast (c1 := 7) (s1 := 124) rfl rfl ?_
  refine va_astq (r := (RX1, TX1, 1)) hx hb hK.1 hP hD hS 1 1 6 1 rfl rfl rfl rfl (vin (by decide +kernel)) dX3_init_41 (fun H locs hP hD hS => ?_)
  refine Kpdr (ws := [(h0, oX3 bk q9040 0 0 0), (q9040, cA G 13 (va_up (va_up (va_up (fun _ => none) 0 (some q9041)) 1 (some q9045)) 2 (some q9049))), (q9041, oX1 ca9044), (ca9044, iA G 36 (fun _ => 0)), (q9045, oX1 ca9048), (ca9048, iA G 36 (fun _ => 0)), (q9049, oX1 ca9052), (ca9052, iA G 36 (fun _ => 0))]) hP hD (fun hP hD => ?_)
  refine lv_iinc (v := 3) (lv' := [(2, .int 3), (0, .ref h0), (1, .ref bk)]) hx hb dX3_init_42 hl (k := 0) rfl (by decide) (by decide) rfl (fun ls hl => ?_)
  refine lv_goto (tgt := 20) hx hb dX3_init_45 (by decide) ?_
  refine lv_iload_n hx hb dX3_init_20 rfl (lv_at0 hl) ?_
  refine lv_aload_n hx hb dX3_init_21 rfl (lv_at1 hl) ?_
  refine gf_X3_11 hC rfl hK hP 0 rfl rfl dX3_init_22 ?_
  refine va_alen (v := 13) hx hb hK.1 hP 1 1 rfl rfl (show Int32.ofNat 13 = 13 by decide) dX3_init_25 ?_
  refine lv_icmp_ge (tgt := 48) hx hb dX3_init_26 (by decide) (fun c9 => absurd c9 (by decide)) (fun _ => ?_)
  refine lv_aload_n hx hb dX3_init_29 rfl (lv_at1 hl) ?_
  refine gf_X3_11 hC rfl hK hP 0 rfl rfl dX3_init_30 ?_
  refine lv_iload_n hx hb dX3_init_33 rfl (lv_at0 hl) ?_
  refine nw_X3_9 hC rfl hK hP hD hS hA (Nat.le_of_ble_eq_true rfl) (Nat.le_of_ble_eq_true rfl) dX3_init_34 (fun q9053 H hP hD hS => ?_)
  refine Kpdr (ws := [(h0, oX3 bk q9040 0 0 0), (q9040, cA G 13 (va_up (va_up (va_up (fun _ => none) 0 (some q9041)) 1 (some q9045)) 2 (some q9049))), (q9041, oX1 ca9044), (ca9044, iA G 36 (fun _ => 0)), (q9045, oX1 ca9048), (ca9048, iA G 36 (fun _ => 0)), (q9049, oX1 ca9052), (ca9052, iA G 36 (fun _ => 0)), (q9053, .inr (1, [.null]))]) hP hD (fun hP hD => ?_)
  refine Wcast (c1 := 8) (s1 := 125) rfl rfl ?_
  refine lv_dup hx hb dX3_init_37 rfl ?_
  refine vIN (wr := [(h0, oX3 bk q9040 0 0 0), (q9040, cA G 13 (va_up (va_up (va_up (fun _ => none) 0 (some q9041)) 1 (some q9045)) 2 (some q9049))), (q9041, oX1 ca9044), (ca9044, iA G 36 (fun _ => 0)), (q9045, oX1 ca9048), (ca9048, iA G 36 (fun _ => 0)), (q9049, oX1 ca9052), (ca9052, iA G 36 (fun _ => 0))]) hC hK hl hP hD hS hA (c_Cl_init l G q9053) si_X3_21 [8] [0, 1, 2, 3, 4, 5, 6, 7] sm_8 fm_8 nd_8 sm_0_1_2_3_4_5_6_7 nd_0_1_2_3_4_5_6_7 dj_8__0_1_2_3_4_5_6_7 rfl rfl (Nat.le_of_ble_eq_true rfl) rm_3_2_1 ⟨by first | exact Nat.le_of_ble_eq_true rfl | omega, by first | exact Nat.le_of_ble_eq_true rfl | omega⟩ dX3_init_38 (fun ca9056 H locs hr9054 hP hD hS => ?_)
  try dsimp only at hr9054
  refine Kpdr (ws := [(h0, oX3 bk q9040 0 0 0), (q9040, cA G 13 (va_up (va_up (va_up (fun _ => none) 0 (some q9041)) 1 (some q9045)) 2 (some q9049))), (q9041, oX1 ca9044), (ca9044, iA G 36 (fun _ => 0)), (q9045, oX1 ca9048), (ca9048, iA G 36 (fun _ => 0)), (q9049, oX1 ca9052), (ca9052, iA G 36 (fun _ => 0)), (q9053, oX1 ca9056), (ca9056, iA G 36 (fun _ => 0))]) hP hD (fun hP hD => ?_)
  refine Wcast (c1 := 9) (s1 := 161) rfl rfl ?_
  refine va_astq (r := (RX1, TX1, 1)) hx hb hK.1 hP hD hS 1 1 8 1 rfl rfl rfl rfl (vin (by decide +kernel)) dX3_init_41 (fun H locs hP hD hS => ?_)
  refine Kpdr (ws := [(h0, oX3 bk q9040 0 0 0), (q9040, cA G 13 (va_up (va_up (va_up (va_up (fun _ => none) 0 (some q9041)) 1 (some q9045)) 2 (some q9049)) 3 (some q9053))), (q9041, oX1 ca9044), (ca9044, iA G 36 (fun _ => 0)), (q9045, oX1 ca9048), (ca9048, iA G 36 (fun _ => 0)), (q9049, oX1 ca9052), (ca9052, iA G 36 (fun _ => 0)), (q9053, oX1 ca9056), (ca9056, iA G 36 (fun _ => 0))]) hP hD (fun hP hD => ?_)
  refine lv_iinc (v := 4) (lv' := [(2, .int 4), (0, .ref h0), (1, .ref bk)]) hx hb dX3_init_42 hl (k := 0) rfl (by decide) (by decide) rfl (fun ls hl => ?_)
  refine lv_goto (tgt := 20) hx hb dX3_init_45 (by decide) ?_
  refine lv_iload_n hx hb dX3_init_20 rfl (lv_at0 hl) ?_
  refine lv_aload_n hx hb dX3_init_21 rfl (lv_at1 hl) ?_
  refine gf_X3_11 hC rfl hK hP 0 rfl rfl dX3_init_22 ?_
  refine va_alen (v := 13) hx hb hK.1 hP 1 1 rfl rfl (show Int32.ofNat 13 = 13 by decide) dX3_init_25 ?_
  refine lv_icmp_ge (tgt := 48) hx hb dX3_init_26 (by decide) (fun c9 => absurd c9 (by decide)) (fun _ => ?_)
  refine lv_aload_n hx hb dX3_init_29 rfl (lv_at1 hl) ?_
  refine gf_X3_11 hC rfl hK hP 0 rfl rfl dX3_init_30 ?_
  refine lv_iload_n hx hb dX3_init_33 rfl (lv_at0 hl) ?_
  refine nw_X3_9 hC rfl hK hP hD hS hA (Nat.le_of_ble_eq_true rfl) (Nat.le_of_ble_eq_true rfl) dX3_init_34 (fun q9057 H hP hD hS => ?_)
  refine Kpdr (ws := [(h0, oX3 bk q9040 0 0 0), (q9040, cA G 13 (va_up (va_up (va_up (va_up (fun _ => none) 0 (some q9041)) 1 (some q9045)) 2 (some q9049)) 3 (some q9053))), (q9041, oX1 ca9044), (ca9044, iA G 36 (fun _ => 0)), (q9045, oX1 ca9048), (ca9048, iA G 36 (fun _ => 0)), (q9049, oX1 ca9052), (ca9052, iA G 36 (fun _ => 0)), (q9053, oX1 ca9056), (ca9056, iA G 36 (fun _ => 0)), (q9057, .inr (1, [.null]))]) hP hD (fun hP hD => ?_)
  refine Wcast (c1 := 10) (s1 := 162) rfl rfl ?_
  refine lv_dup hx hb dX3_init_37 rfl ?_
  refine vIN (wr := [(h0, oX3 bk q9040 0 0 0), (q9040, cA G 13 (va_up (va_up (va_up (va_up (fun _ => none) 0 (some q9041)) 1 (some q9045)) 2 (some q9049)) 3 (some q9053))), (q9041, oX1 ca9044), (ca9044, iA G 36 (fun _ => 0)), (q9045, oX1 ca9048), (ca9048, iA G 36 (fun _ => 0)), (q9049, oX1 ca9052), (ca9052, iA G 36 (fun _ => 0)), (q9053, oX1 ca9056), (ca9056, iA G 36 (fun _ => 0))]) hC hK hl hP hD hS hA (c_Cl_init l G q9057) si_X3_21 [10] [0, 1, 2, 3, 4, 5, 6, 7, 8, 9] sm_10 fm_10 nd_10 sm_0_1_2_3_4_5_6_7_8_9 nd_0_1_2_3_4_5_6_7_8_9 dj_10__0_1_2_3_4_5_6_7_8_9 rfl rfl (Nat.le_of_ble_eq_true rfl) rm_3_2_1 ⟨by first | exact Nat.le_of_ble_eq_true rfl | omega, by first | exact Nat.le_of_ble_eq_true rfl | omega⟩ dX3_init_38 (fun ca9060 H locs hr9058 hP hD hS => ?_)
  try dsimp only at hr9058
  refine Kpdr (ws := [(h0, oX3 bk q9040 0 0 0), (q9040, cA G 13 (va_up (va_up (va_up (va_up (fun _ => none) 0 (some q9041)) 1 (some q9045)) 2 (some q9049)) 3 (some q9053))), (q9041, oX1 ca9044), (ca9044, iA G 36 (fun _ => 0)), (q9045, oX1 ca9048), (ca9048, iA G 36 (fun _ => 0)), (q9049, oX1 ca9052), (ca9052, iA G 36 (fun _ => 0)), (q9053, oX1 ca9056), (ca9056, iA G 36 (fun _ => 0)), (q9057, oX1 ca9060), (ca9060, iA G 36 (fun _ => 0))]) hP hD (fun hP hD => ?_)
  refine Wcast (c1 := 11) (s1 := 198) rfl rfl ?_
  refine va_astq (r := (RX1, TX1, 1)) hx hb hK.1 hP hD hS 1 1 10 1 rfl rfl rfl rfl (vin (by decide +kernel)) dX3_init_41 (fun H locs hP hD hS => ?_)
  refine Kpdr (ws := [(h0, oX3 bk q9040 0 0 0), (q9040, cA G 13 (va_up (va_up (va_up (va_up (va_up (fun _ => none) 0 (some q9041)) 1 (some q9045)) 2 (some q9049)) 3 (some q9053)) 4 (some q9057))), (q9041, oX1 ca9044), (ca9044, iA G 36 (fun _ => 0)), (q9045, oX1 ca9048), (ca9048, iA G 36 (fun _ => 0)), (q9049, oX1 ca9052), (ca9052, iA G 36 (fun _ => 0)), (q9053, oX1 ca9056), (ca9056, iA G 36 (fun _ => 0)), (q9057, oX1 ca9060), (ca9060, iA G 36 (fun _ => 0))]) hP hD (fun hP hD => ?_)
  refine lv_iinc (v := 5) (lv' := [(2, .int 5), (0, .ref h0), (1, .ref bk)]) hx hb dX3_init_42 hl (k := 0) rfl (by decide) (by decide) rfl (fun ls hl => ?_)
  refine lv_goto (tgt := 20) hx hb dX3_init_45 (by decide) ?_
  refine lv_iload_n hx hb dX3_init_20 rfl (lv_at0 hl) ?_
  refine lv_aload_n hx hb dX3_init_21 rfl (lv_at1 hl) ?_
  refine gf_X3_11 hC rfl hK hP 0 rfl rfl dX3_init_22 ?_
  refine va_alen (v := 13) hx hb hK.1 hP 1 1 rfl rfl (show Int32.ofNat 13 = 13 by decide) dX3_init_25 ?_
  refine lv_icmp_ge (tgt := 48) hx hb dX3_init_26 (by decide) (fun c9 => absurd c9 (by decide)) (fun _ => ?_)
  refine lv_aload_n hx hb dX3_init_29 rfl (lv_at1 hl) ?_
  refine gf_X3_11 hC rfl hK hP 0 rfl rfl dX3_init_30 ?_
  refine lv_iload_n hx hb dX3_init_33 rfl (lv_at0 hl) ?_
  refine nw_X3_9 hC rfl hK hP hD hS hA (Nat.le_of_ble_eq_true rfl) (Nat.le_of_ble_eq_true rfl) dX3_init_34 (fun q9061 H hP hD hS => ?_)
  refine Kpdr (ws := [(h0, oX3 bk q9040 0 0 0), (q9040, cA G 13 (va_up (va_up (va_up (va_up (va_up (fun _ => none) 0 (some q9041)) 1 (some q9045)) 2 (some q9049)) 3 (some q9053)) 4 (some q9057))), (q9041, oX1 ca9044), (ca9044, iA G 36 (fun _ => 0)), (q9045, oX1 ca9048), (ca9048, iA G 36 (fun _ => 0)), (q9049, oX1 ca9052), (ca9052, iA G 36 (fun _ => 0)), (q9053, oX1 ca9056), (ca9056, iA G 36 (fun _ => 0)), (q9057, oX1 ca9060), (ca9060, iA G 36 (fun _ => 0)), (q9061, .inr (1, [.null]))]) hP hD (fun hP hD => ?_)
  refine Wcast (c1 := 12) (s1 := 199) rfl rfl ?_
  refine lv_dup hx hb dX3_init_37 rfl ?_
  refine vIN (wr := [(h0, oX3 bk q9040 0 0 0), (q9040, cA G 13 (va_up (va_up (va_up (va_up (va_up (fun _ => none) 0 (some q9041)) 1 (some q9045)) 2 (some q9049)) 3 (some q9053)) 4 (some q9057))), (q9041, oX1 ca9044), (ca9044, iA G 36 (fun _ => 0)), (q9045, oX1 ca9048), (ca9048, iA G 36 (fun _ => 0)), (q9049, oX1 ca9052), (ca9052, iA G 36 (fun _ => 0)), (q9053, oX1 ca9056), (ca9056, iA G 36 (fun _ => 0)), (q9057, oX1 ca9060), (ca9060, iA G 36 (fun _ => 0))]) hC hK hl hP hD hS hA (c_Cl_init l G q9061) si_X3_21 [12] [0, 1, 2, 3, 4, 5, 6, 7, 8, 9, 10, 11] sm_12 fm_12 nd_12 sm_0_1_2_3_4_5_6_7_8_9_10_11 nd_0_1_2_3_4_5_6_7_8_9_10_11 dj_12__0_1_2_3_4_5_6_7_8_9_10_11 rfl rfl (Nat.le_of_ble_eq_true rfl) rm_3_2_1 ⟨by first | exact Nat.le_of_ble_eq_true rfl | omega, by first | exact Nat.le_of_ble_eq_true rfl | omega⟩ dX3_init_38 (fun ca9064 H locs hr9062 hP hD hS => ?_)
  try dsimp only at hr9062
  refine Kpdr (ws := [(h0, oX3 bk q9040 0 0 0), (q9040, cA G 13 (va_up (va_up (va_up (va_up (va_up (fun _ => none) 0 (some q9041)) 1 (some q9045)) 2 (some q9049)) 3 (some q9053)) 4 (some q9057))), (q9041, oX1 ca9044), (ca9044, iA G 36 (fun _ => 0)), (q9045, oX1 ca9048), (ca9048, iA G 36 (fun _ => 0)), (q9049, oX1 ca9052), (ca9052, iA G 36 (fun _ => 0)), (q9053, oX1 ca9056), (ca9056, iA G 36 (fun _ => 0)), (q9057, oX1 ca9060), (ca9060, iA G 36 (fun _ => 0)), (q9061, oX1 ca9064), (ca9064, iA G 36 (fun _ => 0))]) hP hD (fun hP hD => ?_)
  refine Wcast (c1 := 13) (s1 := 235) rfl rfl ?_
  refine va_astq (r := (RX1, TX1, 1)) hx hb hK.1 hP hD hS 1 1 12 1 rfl rfl rfl rfl (vin (by decide +kernel)) dX3_init_41 (fun H locs hP hD hS => ?_)
  refine Kpdr (ws := [(h0, oX3 bk q9040 0 0 0), (q9040, cA G 13 (va_up (va_up (va_up (va_up (va_up (va_up (fun _ => none) 0 (some q9041)) 1 (some q9045)) 2 (some q9049)) 3 (some q9053)) 4 (some q9057)) 5 (some q9061))), (q9041, oX1 ca9044), (ca9044, iA G 36 (fun _ => 0)), (q9045, oX1 ca9048), (ca9048, iA G 36 (fun _ => 0)), (q9049, oX1 ca9052), (ca9052, iA G 36 (fun _ => 0)), (q9053, oX1 ca9056), (ca9056, iA G 36 (fun _ => 0)), (q9057, oX1 ca9060), (ca9060, iA G 36 (fun _ => 0)), (q9061, oX1 ca9064), (ca9064, iA G 36 (fun _ => 0))]) hP hD (fun hP hD => ?_)
  refine lv_iinc (v := 6) (lv' := [(2, .int 6), (0, .ref h0), (1, .ref bk)]) hx hb dX3_init_42 hl (k := 0) rfl (by decide) (by decide) rfl (fun ls hl => ?_)
  refine lv_goto (tgt := 20) hx hb dX3_init_45 (by decide) ?_
  refine lv_iload_n hx hb dX3_init_20 rfl (lv_at0 hl) ?_
  refine lv_aload_n hx hb dX3_init_21 rfl (lv_at1 hl) ?_
  refine gf_X3_11 hC rfl hK hP 0 rfl rfl dX3_init_22 ?_
  refine va_alen (v := 13) hx hb hK.1 hP 1 1 rfl rfl (show Int32.ofNat 13 = 13 by decide) dX3_init_25 ?_
  refine lv_icmp_ge (tgt := 48) hx hb dX3_init_26 (by decide) (fun c9 => absurd c9 (by decide)) (fun _ => ?_)
  refine lv_aload_n hx hb dX3_init_29 rfl (lv_at1 hl) ?_
  refine gf_X3_11 hC rfl hK hP 0 rfl rfl dX3_init_30 ?_
  refine lv_iload_n hx hb dX3_init_33 rfl (lv_at0 hl) ?_
  refine nw_X3_9 hC rfl hK hP hD hS hA (Nat.le_of_ble_eq_true rfl) (Nat.le_of_ble_eq_true rfl) dX3_init_34 (fun q9065 H hP hD hS => ?_)
  refine Kpdr (ws := [(h0, oX3 bk q9040 0 0 0), (q9040, cA G 13 (va_up (va_up (va_up (va_up (va_up (va_up (fun _ => none) 0 (some q9041)) 1 (some q9045)) 2 (some q9049)) 3 (some q9053)) 4 (some q9057)) 5 (some q9061))), (q9041, oX1 ca9044), (ca9044, iA G 36 (fun _ => 0)), (q9045, oX1 ca9048), (ca9048, iA G 36 (fun _ => 0)), (q9049, oX1 ca9052), (ca9052, iA G 36 (fun _ => 0)), (q9053, oX1 ca9056), (ca9056, iA G 36 (fun _ => 0)), (q9057, oX1 ca9060), (ca9060, iA G 36 (fun _ => 0)), (q9061, oX1 ca9064), (ca9064, iA G 36 (fun _ => 0)), (q9065, .inr (1, [.null]))]) hP hD (fun hP hD => ?_)
  refine Wcast (c1 := 14) (s1 := 236) rfl rfl ?_
  refine lv_dup hx hb dX3_init_37 rfl ?_
  refine vIN (wr := [(h0, oX3 bk q9040 0 0 0), (q9040, cA G 13 (va_up (va_up (va_up (va_up (va_up (va_up (fun _ => none) 0 (some q9041)) 1 (some q9045)) 2 (some q9049)) 3 (some q9053)) 4 (some q9057)) 5 (some q9061))), (q9041, oX1 ca9044), (ca9044, iA G 36 (fun _ => 0)), (q9045, oX1 ca9048), (ca9048, iA G 36 (fun _ => 0)), (q9049, oX1 ca9052), (ca9052, iA G 36 (fun _ => 0)), (q9053, oX1 ca9056), (ca9056, iA G 36 (fun _ => 0)), (q9057, oX1 ca9060), (ca9060, iA G 36 (fun _ => 0)), (q9061, oX1 ca9064), (ca9064, iA G 36 (fun _ => 0))]) hC hK hl hP hD hS hA (c_Cl_init l G q9065) si_X3_21 [14] [0, 1, 2, 3, 4, 5, 6, 7, 8, 9, 10, 11, 12, 13] sm_14 fm_14 nd_14 sm_0_1_2_3_4_5_6_7_8_9_10_11_12_13 nd_0_1_2_3_4_5_6_7_8_9_10_11_12_13 dj_14__0_1_2_3_4_5_6_7_8_9_10_11_12_13 rfl rfl (Nat.le_of_ble_eq_true rfl) rm_3_2_1 ⟨by first | exact Nat.le_of_ble_eq_true rfl | omega, by first | exact Nat.le_of_ble_eq_true rfl | omega⟩ dX3_init_38 (fun ca9068 H locs hr9066 hP hD hS => ?_)
  try dsimp only at hr9066
  refine Kpdr (ws := [(h0, oX3 bk q9040 0 0 0), (q9040, cA G 13 (va_up (va_up (va_up (va_up (va_up (va_up (fun _ => none) 0 (some q9041)) 1 (some q9045)) 2 (some q9049)) 3 (some q9053)) 4 (some q9057)) 5 (some q9061))), (q9041, oX1 ca9044), (ca9044, iA G 36 (fun _ => 0)), (q9045, oX1 ca9048), (ca9048, iA G 36 (fun _ => 0)), (q9049, oX1 ca9052), (ca9052, iA G 36 (fun _ => 0)), (q9053, oX1 ca9056), (ca9056, iA G 36 (fun _ => 0)), (q9057, oX1 ca9060), (ca9060, iA G 36 (fun _ => 0)), (q9061, oX1 ca9064), (ca9064, iA G 36 (fun _ => 0)), (q9065, oX1 ca9068), (ca9068, iA G 36 (fun _ => 0))]) hP hD (fun hP hD => ?_)
  refine Wcast (c1 := 15) (s1 := 272) rfl rfl ?_
  refine va_astq (r := (RX1, TX1, 1)) hx hb hK.1 hP hD hS 1 1 14 1 rfl rfl rfl rfl (vin (by decide +kernel)) dX3_init_41 (fun H locs hP hD hS => ?_)
  refine Kpdr (ws := [(h0, oX3 bk q9040 0 0 0), (q9040, cA G 13 (va_up (va_up (va_up (va_up (va_up (va_up (va_up (fun _ => none) 0 (some q9041)) 1 (some q9045)) 2 (some q9049)) 3 (some q9053)) 4 (some q9057)) 5 (some q9061)) 6 (some q9065))), (q9041, oX1 ca9044), (ca9044, iA G 36 (fun _ => 0)), (q9045, oX1 ca9048), (ca9048, iA G 36 (fun _ => 0)), (q9049, oX1 ca9052), (ca9052, iA G 36 (fun _ => 0)), (q9053, oX1 ca9056), (ca9056, iA G 36 (fun _ => 0)), (q9057, oX1 ca9060), (ca9060, iA G 36 (fun _ => 0)), (q9061, oX1 ca9064), (ca9064, iA G 36 (fun _ => 0)), (q9065, oX1 ca9068), (ca9068, iA G 36 (fun _ => 0))]) hP hD (fun hP hD => ?_)
  refine lv_iinc (v := 7) (lv' := [(2, .int 7), (0, .ref h0), (1, .ref bk)]) hx hb dX3_init_42 hl (k := 0) rfl (by decide) (by decide) rfl (fun ls hl => ?_)
  refine lv_goto (tgt := 20) hx hb dX3_init_45 (by decide) ?_
  refine lv_iload_n hx hb dX3_init_20 rfl (lv_at0 hl) ?_
  refine lv_aload_n hx hb dX3_init_21 rfl (lv_at1 hl) ?_
  refine gf_X3_11 hC rfl hK hP 0 rfl rfl dX3_init_22 ?_
  refine va_alen (v := 13) hx hb hK.1 hP 1 1 rfl rfl (show Int32.ofNat 13 = 13 by decide) dX3_init_25 ?_
  refine lv_icmp_ge (tgt := 48) hx hb dX3_init_26 (by decide) (fun c9 => absurd c9 (by decide)) (fun _ => ?_)
  refine lv_aload_n hx hb dX3_init_29 rfl (lv_at1 hl) ?_
  refine gf_X3_11 hC rfl hK hP 0 rfl rfl dX3_init_30 ?_
  refine lv_iload_n hx hb dX3_init_33 rfl (lv_at0 hl) ?_
  refine nw_X3_9 hC rfl hK hP hD hS hA (Nat.le_of_ble_eq_true rfl) (Nat.le_of_ble_eq_true rfl) dX3_init_34 (fun q9069 H hP hD hS => ?_)
  refine Kpdr (ws := [(h0, oX3 bk q9040 0 0 0), (q9040, cA G 13 (va_up (va_up (va_up (va_up (va_up (va_up (va_up (fun _ => none) 0 (some q9041)) 1 (some q9045)) 2 (some q9049)) 3 (some q9053)) 4 (some q9057)) 5 (some q9061)) 6 (some q9065))), (q9041, oX1 ca9044), (ca9044, iA G 36 (fun _ => 0)), (q9045, oX1 ca9048), (ca9048, iA G 36 (fun _ => 0)), (q9049, oX1 ca9052), (ca9052, iA G 36 (fun _ => 0)), (q9053, oX1 ca9056), (ca9056, iA G 36 (fun _ => 0)), (q9057, oX1 ca9060), (ca9060, iA G 36 (fun _ => 0)), (q9061, oX1 ca9064), (ca9064, iA G 36 (fun _ => 0)), (q9065, oX1 ca9068), (ca9068, iA G 36 (fun _ => 0)), (q9069, .inr (1, [.null]))]) hP hD (fun hP hD => ?_)
  refine Wcast (c1 := 16) (s1 := 273) rfl rfl ?_
  refine lv_dup hx hb dX3_init_37 rfl ?_
  refine vIN (wr := [(h0, oX3 bk q9040 0 0 0), (q9040, cA G 13 (va_up (va_up (va_up (va_up (va_up (va_up (va_up (fun _ => none) 0 (some q9041)) 1 (some q9045)) 2 (some q9049)) 3 (some q9053)) 4 (some q9057)) 5 (some q9061)) 6 (some q9065))), (q9041, oX1 ca9044), (ca9044, iA G 36 (fun _ => 0)), (q9045, oX1 ca9048), (ca9048, iA G 36 (fun _ => 0)), (q9049, oX1 ca9052), (ca9052, iA G 36 (fun _ => 0)), (q9053, oX1 ca9056), (ca9056, iA G 36 (fun _ => 0)), (q9057, oX1 ca9060), (ca9060, iA G 36 (fun _ => 0)), (q9061, oX1 ca9064), (ca9064, iA G 36 (fun _ => 0)), (q9065, oX1 ca9068), (ca9068, iA G 36 (fun _ => 0))]) hC hK hl hP hD hS hA (c_Cl_init l G q9069) si_X3_21 [16] [0, 1, 2, 3, 4, 5, 6, 7, 8, 9, 10, 11, 12, 13, 14, 15] sm_16 fm_16 nd_16 sm_0_1_2_3_4_5_6_7_8_9_10_11_12_13_14_15 nd_0_1_2_3_4_5_6_7_8_9_10_11_12_13_14_15 dj_16__0_1_2_3_4_5_6_7_8_9_10_11_12_13_14_15 rfl rfl (Nat.le_of_ble_eq_true rfl) rm_3_2_1 ⟨by first | exact Nat.le_of_ble_eq_true rfl | omega, by first | exact Nat.le_of_ble_eq_true rfl | omega⟩ dX3_init_38 (fun ca9072 H locs hr9070 hP hD hS => ?_)
  try dsimp only at hr9070
  refine Kpdr (ws := [(h0, oX3 bk q9040 0 0 0), (q9040, cA G 13 (va_up (va_up (va_up (va_up (va_up (va_up (va_up (fun _ => none) 0 (some q9041)) 1 (some q9045)) 2 (some q9049)) 3 (some q9053)) 4 (some q9057)) 5 (some q9061)) 6 (some q9065))), (q9041, oX1 ca9044), (ca9044, iA G 36 (fun _ => 0)), (q9045, oX1 ca9048), (ca9048, iA G 36 (fun _ => 0)), (q9049, oX1 ca9052), (ca9052, iA G 36 (fun _ => 0)), (q9053, oX1 ca9056), (ca9056, iA G 36 (fun _ => 0)), (q9057, oX1 ca9060), (ca9060, iA G 36 (fun _ => 0)), (q9061, oX1 ca9064), (ca9064, iA G 36 (fun _ => 0)), (q9065, oX1 ca9068), (ca9068, iA G 36 (fun _ => 0)), (q9069, oX1 ca9072), (ca9072, iA G 36 (fun _ => 0))]) hP hD (fun hP hD => ?_)
  refine Wcast (c1 := 17) (s1 := 309) rfl rfl ?_
  refine va_astq (r := (RX1, TX1, 1)) hx hb hK.1 hP hD hS 1 1 16 1 rfl rfl rfl rfl (vin (by decide +kernel)) dX3_init_41 (fun H locs hP hD hS => ?_)
  refine Kpdr (ws := [(h0, oX3 bk q9040 0 0 0), (q9040, cA G 13 (va_up (va_up (va_up (va_up (va_up (va_up (va_up (va_up (fun _ => none) 0 (some q9041)) 1 (some q9045)) 2 (some q9049)) 3 (some q9053)) 4 (some q9057)) 5 (some q9061)) 6 (some q9065)) 7 (some q9069))), (q9041, oX1 ca9044), (ca9044, iA G 36 (fun _ => 0)), (q9045, oX1 ca9048), (ca9048, iA G 36 (fun _ => 0)), (q9049, oX1 ca9052), (ca9052, iA G 36 (fun _ => 0)), (q9053, oX1 ca9056), (ca9056, iA G 36 (fun _ => 0)), (q9057, oX1 ca9060), (ca9060, iA G 36 (fun _ => 0)), (q9061, oX1 ca9064), (ca9064, iA G 36 (fun _ => 0)), (q9065, oX1 ca9068), (ca9068, iA G 36 (fun _ => 0)), (q9069, oX1 ca9072), (ca9072, iA G 36 (fun _ => 0))]) hP hD (fun hP hD => ?_)
  refine lv_iinc (v := 8) (lv' := [(2, .int 8), (0, .ref h0), (1, .ref bk)]) hx hb dX3_init_42 hl (k := 0) rfl (by decide) (by decide) rfl (fun ls hl => ?_)
  refine lv_goto (tgt := 20) hx hb dX3_init_45 (by decide) ?_
  refine lv_iload_n hx hb dX3_init_20 rfl (lv_at0 hl) ?_
  refine lv_aload_n hx hb dX3_init_21 rfl (lv_at1 hl) ?_
  refine gf_X3_11 hC rfl hK hP 0 rfl rfl dX3_init_22 ?_
  refine va_alen (v := 13) hx hb hK.1 hP 1 1 rfl rfl (show Int32.ofNat 13 = 13 by decide) dX3_init_25 ?_
  refine lv_icmp_ge (tgt := 48) hx hb dX3_init_26 (by decide) (fun c9 => absurd c9 (by decide)) (fun _ => ?_)
  refine lv_aload_n hx hb dX3_init_29 rfl (lv_at1 hl) ?_
  refine gf_X3_11 hC rfl hK hP 0 rfl rfl dX3_init_30 ?_
  refine lv_iload_n hx hb dX3_init_33 rfl (lv_at0 hl) ?_
  refine nw_X3_9 hC rfl hK hP hD hS hA (Nat.le_of_ble_eq_true rfl) (Nat.le_of_ble_eq_true rfl) dX3_init_34 (fun q9073 H hP hD hS => ?_)
  refine Kpdr (ws := [(h0, oX3 bk q9040 0 0 0), (q9040, cA G 13 (va_up (va_up (va_up (va_up (va_up (va_up (va_up (va_up (fun _ => none) 0 (some q9041)) 1 (some q9045)) 2 (some q9049)) 3 (some q9053)) 4 (some q9057)) 5 (some q9061)) 6 (some q9065)) 7 (some q9069))), (q9041, oX1 ca9044), (ca9044, iA G 36 (fun _ => 0)), (q9045, oX1 ca9048), (ca9048, iA G 36 (fun _ => 0)), (q9049, oX1 ca9052), (ca9052, iA G 36 (fun _ => 0)), (q9053, oX1 ca9056), (ca9056, iA G 36 (fun _ => 0)), (q9057, oX1 ca9060), (ca9060, iA G 36 (fun _ => 0)), (q9061, oX1 ca9064), (ca9064, iA G 36 (fun _ => 0)), (q9065, oX1 ca9068), (ca9068, iA G 36 (fun _ => 0)), (q9069, oX1 ca9072), (ca9072, iA G 36 (fun _ => 0)), (q9073, .inr (1, [.null]))]) hP hD (fun hP hD => ?_)
  refine Wcast (c1 := 18) (s1 := 310) rfl rfl ?_
  refine lv_dup hx hb dX3_init_37 rfl ?_
  refine vIN (wr := [(h0, oX3 bk q9040 0 0 0), (q9040, cA G 13 (va_up (va_up (va_up (va_up (va_up (va_up (va_up (va_up (fun _ => none) 0 (some q9041)) 1 (some q9045)) 2 (some q9049)) 3 (some q9053)) 4 (some q9057)) 5 (some q9061)) 6 (some q9065)) 7 (some q9069))), (q9041, oX1 ca9044), (ca9044, iA G 36 (fun _ => 0)), (q9045, oX1 ca9048), (ca9048, iA G 36 (fun _ => 0)), (q9049, oX1 ca9052), (ca9052, iA G 36 (fun _ => 0)), (q9053, oX1 ca9056), (ca9056, iA G 36 (fun _ => 0)), (q9057, oX1 ca9060), (ca9060, iA G 36 (fun _ => 0)), (q9061, oX1 ca9064), (ca9064, iA G 36 (fun _ => 0)), (q9065, oX1 ca9068), (ca9068, iA G 36 (fun _ => 0)), (q9069, oX1 ca9072), (ca9072, iA G 36 (fun _ => 0))]) hC hK hl hP hD hS hA (c_Cl_init l G q9073) si_X3_21 [18] [0, 1, 2, 3, 4, 5, 6, 7, 8, 9, 10, 11, 12, 13, 14, 15, 16, 17] sm_18 fm_18 nd_18 sm_0_1_2_3_4_5_6_7_8_9_10_11_12_13_14_15_16_17 nd_0_1_2_3_4_5_6_7_8_9_10_11_12_13_14_15_16_17 dj_18__0_1_2_3_4_5_6_7_8_9_10_11_12_13_14_15_16_17 rfl rfl (Nat.le_of_ble_eq_true rfl) rm_3_2_1 ⟨by first | exact Nat.le_of_ble_eq_true rfl | omega, by first | exact Nat.le_of_ble_eq_true rfl | omega⟩ dX3_init_38 (fun ca9076 H locs hr9074 hP hD hS => ?_)
  try dsimp only at hr9074
  refine Kpdr (ws := [(h0, oX3 bk q9040 0 0 0), (q9040, cA G 13 (va_up (va_up (va_up (va_up (va_up (va_up (va_up (va_up (fun _ => none) 0 (some q9041)) 1 (some q9045)) 2 (some q9049)) 3 (some q9053)) 4 (some q9057)) 5 (some q9061)) 6 (some q9065)) 7 (some q9069))), (q9041, oX1 ca9044), (ca9044, iA G 36 (fun _ => 0)), (q9045, oX1 ca9048), (ca9048, iA G 36 (fun _ => 0)), (q9049, oX1 ca9052), (ca9052, iA G 36 (fun _ => 0)), (q9053, oX1 ca9056), (ca9056, iA G 36 (fun _ => 0)), (q9057, oX1 ca9060), (ca9060, iA G 36 (fun _ => 0)), (q9061, oX1 ca9064), (ca9064, iA G 36 (fun _ => 0)), (q9065, oX1 ca9068), (ca9068, iA G 36 (fun _ => 0)), (q9069, oX1 ca9072), (ca9072, iA G 36 (fun _ => 0)), (q9073, oX1 ca9076), (ca9076, iA G 36 (fun _ => 0))]) hP hD (fun hP hD => ?_)
  refine Wcast (c1 := 19) (s1 := 346) rfl rfl ?_
  refine va_astq (r := (RX1, TX1, 1)) hx hb hK.1 hP hD hS 1 1 18 1 rfl rfl rfl rfl (vin (by decide +kernel)) dX3_init_41 (fun H locs hP hD hS => ?_)
  refine Kpdr (ws := [(h0, oX3 bk q9040 0 0 0), (q9040, cA G 13 (va_up (va_up (va_up (va_up (va_up (va_up (va_up (va_up (va_up (fun _ => none) 0 (some q9041)) 1 (some q9045)) 2 (some q9049)) 3 (some q9053)) 4 (some q9057)) 5 (some q9061)) 6 (some q9065)) 7 (some q9069)) 8 (some q9073))), (q9041, oX1 ca9044), (ca9044, iA G 36 (fun _ => 0)), (q9045, oX1 ca9048), (ca9048, iA G 36 (fun _ => 0)), (q9049, oX1 ca9052), (ca9052, iA G 36 (fun _ => 0)), (q9053, oX1 ca9056), (ca9056, iA G 36 (fun _ => 0)), (q9057, oX1 ca9060), (ca9060, iA G 36 (fun _ => 0)), (q9061, oX1 ca9064), (ca9064, iA G 36 (fun _ => 0)), (q9065, oX1 ca9068), (ca9068, iA G 36 (fun _ => 0)), (q9069, oX1 ca9072), (ca9072, iA G 36 (fun _ => 0)), (q9073, oX1 ca9076), (ca9076, iA G 36 (fun _ => 0))]) hP hD (fun hP hD => ?_)
  refine lv_iinc (v := 9) (lv' := [(2, .int 9), (0, .ref h0), (1, .ref bk)]) hx hb dX3_init_42 hl (k := 0) rfl (by decide) (by decide) rfl (fun ls hl => ?_)
  refine lv_goto (tgt := 20) hx hb dX3_init_45 (by decide) ?_
  refine lv_iload_n hx hb dX3_init_20 rfl (lv_at0 hl) ?_
  refine lv_aload_n hx hb dX3_init_21 rfl (lv_at1 hl) ?_
  refine gf_X3_11 hC rfl hK hP 0 rfl rfl dX3_init_22 ?_
  refine va_alen (v := 13) hx hb hK.1 hP 1 1 rfl rfl (show Int32.ofNat 13 = 13 by decide) dX3_init_25 ?_
  refine lv_icmp_ge (tgt := 48) hx hb dX3_init_26 (by decide) (fun c9 => absurd c9 (by decide)) (fun _ => ?_)
  refine lv_aload_n hx hb dX3_init_29 rfl (lv_at1 hl) ?_
  refine gf_X3_11 hC rfl hK hP 0 rfl rfl dX3_init_30 ?_
  refine lv_iload_n hx hb dX3_init_33 rfl (lv_at0 hl) ?_
  refine nw_X3_9 hC rfl hK hP hD hS hA (Nat.le_of_ble_eq_true rfl) (Nat.le_of_ble_eq_true rfl) dX3_init_34 (fun q9077 H hP hD hS => ?_)
  refine Kpdr (ws := [(h0, oX3 bk q9040 0 0 0), (q9040, cA G 13 (va_up (va_up (va_up (va_up (va_up (va_up (va_up (va_up (va_up (fun _ => none) 0 (some q9041)) 1 (some q9045)) 2 (some q9049)) 3 (some q9053)) 4 (some q9057)) 5 (some q9061)) 6 (some q9065)) 7 (some q9069)) 8 (some q9073))), (q9041, oX1 ca9044), (ca9044, iA G 36 (fun _ => 0)), (q9045, oX1 ca9048), (ca9048, iA G 36 (fun _ => 0)), (q9049, oX1 ca9052), (ca9052, iA G 36 (fun _ => 0)), (q9053, oX1 ca9056), (ca9056, iA G 36 (fun _ => 0)), (q9057, oX1 ca9060), (ca9060, iA G 36 (fun _ => 0)), (q9061, oX1 ca9064), (ca9064, iA G 36 (fun _ => 0)), (q9065, oX1 ca9068), (ca9068, iA G 36 (fun _ => 0)), (q9069, oX1 ca9072), (ca9072, iA G 36 (fun _ => 0)), (q9073, oX1 ca9076), (ca9076, iA G 36 (fun _ => 0)), (q9077, .inr (1, [.null]))]) hP hD (fun hP hD => ?_)
  refine Wcast (c1 := 20) (s1 := 347) rfl rfl ?_
  refine lv_dup hx hb dX3_init_37 rfl ?_
  refine vIN (wr := [(h0, oX3 bk q9040 0 0 0), (q9040, cA G 13 (va_up (va_up (va_up (va_up (va_up (va_up (va_up (va_up (va_up (fun _ => none) 0 (some q9041)) 1 (some q9045)) 2 (some q9049)) 3 (some q9053)) 4 (some q9057)) 5 (some q9061)) 6 (some q9065)) 7 (some q9069)) 8 (some q9073))), (q9041, oX1 ca9044), (ca9044, iA G 36 (fun _ => 0)), (q9045, oX1 ca9048), (ca9048, iA G 36 (fun _ => 0)), (q9049, oX1 ca9052), (ca9052, iA G 36 (fun _ => 0)), (q9053, oX1 ca9056), (ca9056, iA G 36 (fun _ => 0)), (q9057, oX1 ca9060), (ca9060, iA G 36 (fun _ => 0)), (q9061, oX1 ca9064), (ca9064, iA G 36 (fun _ => 0)), (q9065, oX1 ca9068), (ca9068, iA G 36 (fun _ => 0)), (q9069, oX1 ca9072), (ca9072, iA G 36 (fun _ => 0)), (q9073, oX1 ca9076), (ca9076, iA G 36 (fun _ => 0))]) hC hK hl hP hD hS hA (c_Cl_init l G q9077) si_X3_21 [20] [0, 1, 2, 3, 4, 5, 6, 7, 8, 9, 10, 11, 12, 13, 14, 15, 16, 17, 18, 19] sm_20 fm_20 nd_20 sm_0_1_2_3_4_5_6_7_8_9_10_11_12_13_14_15_16_17_18_19 nd_0_1_2_3_4_5_6_7_8_9_10_11_12_13_14_15_16_17_18_19 dj_20__0_1_2_3_4_5_6_7_8_9_10_11_12_13_14_15_16_17_18_19 rfl rfl (Nat.le_of_ble_eq_true rfl) rm_3_2_1 ⟨by first | exact Nat.le_of_ble_eq_true rfl | omega, by first | exact Nat.le_of_ble_eq_true rfl | omega⟩ dX3_init_38 (fun ca9080 H locs hr9078 hP hD hS => ?_)
  try dsimp only at hr9078
  refine Kpdr (ws := [(h0, oX3 bk q9040 0 0 0), (q9040, cA G 13 (va_up (va_up (va_up (va_up (va_up (va_up (va_up (va_up (va_up (fun _ => none) 0 (some q9041)) 1 (some q9045)) 2 (some q9049)) 3 (some q9053)) 4 (some q9057)) 5 (some q9061)) 6 (some q9065)) 7 (some q9069)) 8 (some q9073))), (q9041, oX1 ca9044), (ca9044, iA G 36 (fun _ => 0)), (q9045, oX1 ca9048), (ca9048, iA G 36 (fun _ => 0)), (q9049, oX1 ca9052), (ca9052, iA G 36 (fun _ => 0)), (q9053, oX1 ca9056), (ca9056, iA G 36 (fun _ => 0)), (q9057, oX1 ca9060), (ca9060, iA G 36 (fun _ => 0)), (q9061, oX1 ca9064), (ca9064, iA G 36 (fun _ => 0)), (q9065, oX1 ca9068), (ca9068, iA G 36 (fun _ => 0)), (q9069, oX1 ca9072), (ca9072, iA G 36 (fun _ => 0)), (q9073, oX1 ca9076), (ca9076, iA G 36 (fun _ => 0)), (q9077, oX1 ca9080), (ca9080, iA G 36 (fun _ => 0))]) hP hD (fun hP hD => ?_)
  refine Wcast (c1 := 21) (s1 := 383) rfl rfl ?_
  refine va_astq (r := (RX1, TX1, 1)) hx hb hK.1 hP hD hS 1 1 20 1 rfl rfl rfl rfl (vin (by decide +kernel)) dX3_init_41 (fun H locs hP hD hS => ?_)
  refine Kpdr (ws := [(h0, oX3 bk q9040 0 0 0), (q9040, cA G 13 (va_up (va_up (va_up (va_up (va_up (va_up (va_up (va_up (va_up (va_up (fun _ => none) 0 (some q9041)) 1 (some q9045)) 2 (some q9049)) 3 (some q9053)) 4 (some q9057)) 5 (some q9061)) 6 (some q9065)) 7 (some q9069)) 8 (some q9073)) 9 (some q9077))), (q9041, oX1 ca9044), (ca9044, iA G 36 (fun _ => 0)), (q9045, oX1 ca9048), (ca9048, iA G 36 (fun _ => 0)), (q9049, oX1 ca9052), (ca9052, iA G 36 (fun _ => 0)), (q9053, oX1 ca9056), (ca9056, iA G 36 (fun _ => 0)), (q9057, oX1 ca9060), (ca9060, iA G 36 (fun _ => 0)), (q9061, oX1 ca9064), (ca9064, iA G 36 (fun _ => 0)), (q9065, oX1 ca9068), (ca9068, iA G 36 (fun _ => 0)), (q9069, oX1 ca9072), (ca9072, iA G 36 (fun _ => 0)), (q9073, oX1 ca9076), (ca9076, iA G 36 (fun _ => 0)), (q9077, oX1 ca9080), (ca9080, iA G 36 (fun _ => 0))]) hP hD (fun hP hD => ?_)
  refine lv_iinc (v := 10) (lv' := [(2, .int 10), (0, .ref h0), (1, .ref bk)]) hx hb dX3_init_42 hl (k := 0) rfl (by decide) (by decide) rfl (fun ls hl => ?_)
  refine lv_goto (tgt := 20) hx hb dX3_init_45 (by decide) ?_
  refine lv_iload_n hx hb dX3_init_20 rfl (lv_at0 hl) ?_
  refine lv_aload_n hx hb dX3_init_21 rfl (lv_at1 hl) ?_
  refine gf_X3_11 hC rfl hK hP 0 rfl rfl dX3_init_22 ?_
  refine va_alen (v := 13) hx hb hK.1 hP 1 1 rfl rfl (show Int32.ofNat 13 = 13 by decide) dX3_init_25 ?_
  refine lv_icmp_ge (tgt := 48) hx hb dX3_init_26 (by decide) (fun c9 => absurd c9 (by decide)) (fun _ => ?_)
  refine lv_aload_n hx hb dX3_init_29 rfl (lv_at1 hl) ?_
  refine gf_X3_11 hC rfl hK hP 0 rfl rfl dX3_init_30 ?_
  refine lv_iload_n hx hb dX3_init_33 rfl (lv_at0 hl) ?_
  refine nw_X3_9 hC rfl hK hP hD hS hA (Nat.le_of_ble_eq_true rfl) (Nat.le_of_ble_eq_true rfl) dX3_init_34 (fun q9081 H hP hD hS => ?_)
  refine Kpdr (ws := [(h0, oX3 bk q9040 0 0 0), (q9040, cA G 13 (va_up (va_up (va_up (va_up (va_up (va_up (va_up (va_up (va_up (va_up (fun _ => none) 0 (some q9041)) 1 (some q9045)) 2 (some q9049)) 3 (some q9053)) 4 (some q9057)) 5 (some q9061)) 6 (some q9065)) 7 (some q9069)) 8 (some q9073)) 9 (some q9077))), (q9041, oX1 ca9044), (ca9044, iA G 36 (fun _ => 0)), (q9045, oX1 ca9048), (ca9048, iA G 36 (fun _ => 0)), (q9049, oX1 ca9052), (ca9052, iA G 36 (fun _ => 0)), (q9053, oX1 ca9056), (ca9056, iA G 36 (fun _ => 0)), (q9057, oX1 ca9060), (ca9060, iA G 36 (fun _ => 0)), (q9061, oX1 ca9064), (ca9064, iA G 36 (fun _ => 0)), (q9065, oX1 ca9068), (ca9068, iA G 36 (fun _ => 0)), (q9069, oX1 ca9072), (ca9072, iA G 36 (fun _ => 0)), (q9073, oX1 ca9076), (ca9076, iA G 36 (fun _ => 0)), (q9077, oX1 ca9080), (ca9080, iA G 36 (fun _ => 0)), (q9081, .inr (1, [.null]))]) hP hD (fun hP hD => ?_)
  refine Wcast (c1 := 22) (s1 := 384) rfl rfl ?_
  refine lv_dup hx hb dX3_init_37 rfl ?_
  refine vIN (wr := [(h0, oX3 bk q9040 0 0 0), (q9040, cA G 13 (va_up (va_up (va_up (va_up (va_up (va_up (va_up (va_up (va_up (va_up (fun _ => none) 0 (some q9041)) 1 (some q9045)) 2 (some q9049)) 3 (some q9053)) 4 (some q9057)) 5 (some q9061)) 6 (some q9065)) 7 (some q9069)) 8 (some q9073)) 9 (some q9077))), (q9041, oX1 ca9044), (ca9044, iA G 36 (fun _ => 0)), (q9045, oX1 ca9048), (ca9048, iA G 36 (fun _ => 0)), (q9049, oX1 ca9052), (ca9052, iA G 36 (fun _ => 0)), (q9053, oX1 ca9056), (ca9056, iA G 36 (fun _ => 0)), (q9057, oX1 ca9060), (ca9060, iA G 36 (fun _ => 0)), (q9061, oX1 ca9064), (ca9064, iA G 36 (fun _ => 0)), (q9065, oX1 ca9068), (ca9068, iA G 36 (fun _ => 0)), (q9069, oX1 ca9072), (ca9072, iA G 36 (fun _ => 0)), (q9073, oX1 ca9076), (ca9076, iA G 36 (fun _ => 0)), (q9077, oX1 ca9080), (ca9080, iA G 36 (fun _ => 0))]) hC hK hl hP hD hS hA (c_Cl_init l G q9081) si_X3_21 [22] [0, 1, 2, 3, 4, 5, 6, 7, 8, 9, 10, 11, 12, 13, 14, 15, 16, 17, 18, 19, 20, 21] sm_22 fm_22 nd_22 sm_0_1_2_3_4_5_6_7_8_9_10_11_12_13_14_15_16_17_18_19_20_21 nd_0_1_2_3_4_5_6_7_8_9_10_11_12_13_14_15_16_17_18_19_20_21 dj_22__0_1_2_3_4_5_6_7_8_9_10_11_12_13_14_15_16_17_18_19_20_21 rfl rfl (Nat.le_of_ble_eq_true rfl) rm_3_2_1 ⟨by first | exact Nat.le_of_ble_eq_true rfl | omega, by first | exact Nat.le_of_ble_eq_true rfl | omega⟩ dX3_init_38 (fun ca9084 H locs hr9082 hP hD hS => ?_)
  try dsimp only at hr9082
  refine Kpdr (ws := [(h0, oX3 bk q9040 0 0 0), (q9040, cA G 13 (va_up (va_up (va_up (va_up (va_up (va_up (va_up (va_up (va_up (va_up (fun _ => none) 0 (some q9041)) 1 (some q9045)) 2 (some q9049)) 3 (some q9053)) 4 (some q9057)) 5 (some q9061)) 6 (some q9065)) 7 (some q9069)) 8 (some q9073)) 9 (some q9077))), (q9041, oX1 ca9044), (ca9044, iA G 36 (fun _ => 0)), (q9045, oX1 ca9048), (ca9048, iA G 36 (fun _ => 0)), (q9049, oX1 ca9052), (ca9052, iA G 36 (fun _ => 0)), (q9053, oX1 ca9056), (ca9056, iA G 36 (fun _ => 0)), (q9057, oX1 ca9060), (ca9060, iA G 36 (fun _ => 0)), (q9061, oX1 ca9064), (ca9064, iA G 36 (fun _ => 0)), (q9065, oX1 ca9068), (ca9068, iA G 36 (fun _ => 0)), (q9069, oX1 ca9072), (ca9072, iA G 36 (fun _ => 0)), (q9073, oX1 ca9076), (ca9076, iA G 36 (fun _ => 0)), (q9077, oX1 ca9080), (ca9080, iA G 36 (fun _ => 0)), (q9081, oX1 ca9084), (ca9084, iA G 36 (fun _ => 0))]) hP hD (fun hP hD => ?_)
  refine Wcast (c1 := 23) (s1 := 420) rfl rfl ?_
  refine va_astq (r := (RX1, TX1, 1)) hx hb hK.1 hP hD hS 1 1 22 1 rfl rfl rfl rfl (vin (by decide +kernel)) dX3_init_41 (fun H locs hP hD hS => ?_)
  refine Kpdr (ws := [(h0, oX3 bk q9040 0 0 0), (q9040, cA G 13 (va_up (va_up (va_up (va_up (va_up (va_up (va_up (va_up (va_up (va_up (va_up (fun _ => none) 0 (some q9041)) 1 (some q9045)) 2 (some q9049)) 3 (some q9053)) 4 (some q9057)) 5 (some q9061)) 6 (some q9065)) 7 (some q9069)) 8 (some q9073)) 9 (some q9077)) 10 (some q9081))), (q9041, oX1 ca9044), (ca9044, iA G 36 (fun _ => 0)), (q9045, oX1 ca9048), (ca9048, iA G 36 (fun _ => 0)), (q9049, oX1 ca9052), (ca9052, iA G 36 (fun _ => 0)), (q9053, oX1 ca9056), (ca9056, iA G 36 (fun _ => 0)), (q9057, oX1 ca9060), (ca9060, iA G 36 (fun _ => 0)), (q9061, oX1 ca9064), (ca9064, iA G 36 (fun _ => 0)), (q9065, oX1 ca9068), (ca9068, iA G 36 (fun _ => 0)), (q9069, oX1 ca9072), (ca9072, iA G 36 (fun _ => 0)), (q9073, oX1 ca9076), (ca9076, iA G 36 (fun _ => 0)), (q9077, oX1 ca9080), (ca9080, iA G 36 (fun _ => 0)), (q9081, oX1 ca9084), (ca9084, iA G 36 (fun _ => 0))]) hP hD (fun hP hD => ?_)
  refine lv_iinc (v := 11) (lv' := [(2, .int 11), (0, .ref h0), (1, .ref bk)]) hx hb dX3_init_42 hl (k := 0) rfl (by decide) (by decide) rfl (fun ls hl => ?_)
  refine lv_goto (tgt := 20) hx hb dX3_init_45 (by decide) ?_
  refine lv_iload_n hx hb dX3_init_20 rfl (lv_at0 hl) ?_
  refine lv_aload_n hx hb dX3_init_21 rfl (lv_at1 hl) ?_
  refine gf_X3_11 hC rfl hK hP 0 rfl rfl dX3_init_22 ?_
  refine va_alen (v := 13) hx hb hK.1 hP 1 1 rfl rfl (show Int32.ofNat 13 = 13 by decide) dX3_init_25 ?_
  refine lv_icmp_ge (tgt := 48) hx hb dX3_init_26 (by decide) (fun c9 => absurd c9 (by decide)) (fun _ => ?_)
  refine lv_aload_n hx hb dX3_init_29 rfl (lv_at1 hl) ?_
  refine gf_X3_11 hC rfl hK hP 0 rfl rfl dX3_init_30 ?_
  refine lv_iload_n hx hb dX3_init_33 rfl (lv_at0 hl) ?_
  refine nw_X3_9 hC rfl hK hP hD hS hA (Nat.le_of_ble_eq_true rfl) (Nat.le_of_ble_eq_true rfl) dX3_init_34 (fun q9085 H hP hD hS => ?_)
  refine Kpdr (ws := [(h0, oX3 bk q9040 0 0 0), (q9040, cA G 13 (va_up (va_up (va_up (va_up (va_up (va_up (va_up (va_up (va_up (va_up (va_up (fun _ => none) 0 (some q9041)) 1 (some q9045)) 2 (some q9049)) 3 (some q9053)) 4 (some q9057)) 5 (some q9061)) 6 (some q9065)) 7 (some q9069)) 8 (some q9073)) 9 (some q9077)) 10 (some q9081))), (q9041, oX1 ca9044), (ca9044, iA G 36 (fun _ => 0)), (q9045, oX1 ca9048), (ca9048, iA G 36 (fun _ => 0)), (q9049, oX1 ca9052), (ca9052, iA G 36 (fun _ => 0)), (q9053, oX1 ca9056), (ca9056, iA G 36 (fun _ => 0)), (q9057, oX1 ca9060), (ca9060, iA G 36 (fun _ => 0)), (q9061, oX1 ca9064), (ca9064, iA G 36 (fun _ => 0)), (q9065, oX1 ca9068), (ca9068, iA G 36 (fun _ => 0)), (q9069, oX1 ca9072), (ca9072, iA G 36 (fun _ => 0)), (q9073, oX1 ca9076), (ca9076, iA G 36 (fun _ => 0)), (q9077, oX1 ca9080), (ca9080, iA G 36 (fun _ => 0)), (q9081, oX1 ca9084), (ca9084, iA G 36 (fun _ => 0)), (q9085, .inr (1, [.null]))]) hP hD (fun hP hD => ?_)
  refine Wcast (c1 := 24) (s1 := 421) rfl rfl ?_
  refine lv_dup hx hb dX3_init_37 rfl ?_
  refine vIN (wr := [(h0, oX3 bk q9040 0 0 0), (q9040, cA G 13 (va_up (va_up (va_up (va_up (va_up (va_up (va_up (va_up (va_up (va_up (va_up (fun _ => none) 0 (some q9041)) 1 (some q9045)) 2 (some q9049)) 3 (some q9053)) 4 (some q9057)) 5 (some q9061)) 6 (some q9065)) 7 (some q9069)) 8 (some q9073)) 9 (some q9077)) 10 (some q9081))), (q9041, oX1 ca9044), (ca9044, iA G 36 (fun _ => 0)), (q9045, oX1 ca9048), (ca9048, iA G 36 (fun _ => 0)), (q9049, oX1 ca9052), (ca9052, iA G 36 (fun _ => 0)), (q9053, oX1 ca9056), (ca9056, iA G 36 (fun _ => 0)), (q9057, oX1 ca9060), (ca9060, iA G 36 (fun _ => 0)), (q9061, oX1 ca9064), (ca9064, iA G 36 (fun _ => 0)), (q9065, oX1 ca9068), (ca9068, iA G 36 (fun _ => 0)), (q9069, oX1 ca9072), (ca9072, iA G 36 (fun _ => 0)), (q9073, oX1 ca9076), (ca9076, iA G 36 (fun _ => 0)), (q9077, oX1 ca9080), (ca9080, iA G 36 (fun _ => 0)), (q9081, oX1 ca9084), (ca9084, iA G 36 (fun _ => 0))]) hC hK hl hP hD hS hA (c_Cl_init l G q9085) si_X3_21 [24] [0, 1, 2, 3, 4, 5, 6, 7, 8, 9, 10, 11, 12, 13, 14, 15, 16, 17, 18, 19, 20, 21, 22, 23] sm_24 fm_24 nd_24 sm_0_1_2_3_4_5_6_7_8_9_10_11_12_13_14_15_16_17_18_19_20_21_22_23 nd_0_1_2_3_4_5_6_7_8_9_10_11_12_13_14_15_16_17_18_19_20_21_22_23 dj_24__0_1_2_3_4_5_6_7_8_9_10_11_12_13_14_15_16_17_18_19_20_21_22_23 rfl rfl (Nat.le_of_ble_eq_true rfl) rm_3_2_1 ⟨by first | exact Nat.le_of_ble_eq_true rfl | omega, by first | exact Nat.le_of_ble_eq_true rfl | omega⟩ dX3_init_38 (fun ca9088 H locs hr9086 hP hD hS => ?_)
  try dsimp only at hr9086
  refine Kpdr (ws := [(h0, oX3 bk q9040 0 0 0), (q9040, cA G 13 (va_up (va_up (va_up (va_up (va_up (va_up (va_up (va_up (va_up (va_up (va_up (fun _ => none) 0 (some q9041)) 1 (some q9045)) 2 (some q9049)) 3 (some q9053)) 4 (some q9057)) 5 (some q9061)) 6 (some q9065)) 7 (some q9069)) 8 (some q9073)) 9 (some q9077)) 10 (some q9081))), (q9041, oX1 ca9044), (ca9044, iA G 36 (fun _ => 0)), (q9045, oX1 ca9048), (ca9048, iA G 36 (fun _ => 0)), (q9049, oX1 ca9052), (ca9052, iA G 36 (fun _ => 0)), (q9053, oX1 ca9056), (ca9056, iA G 36 (fun _ => 0)), (q9057, oX1 ca9060), (ca9060, iA G 36 (fun _ => 0)), (q9061, oX1 ca9064), (ca9064, iA G 36 (fun _ => 0)), (q9065, oX1 ca9068), (ca9068, iA G 36 (fun _ => 0)), (q9069, oX1 ca9072), (ca9072, iA G 36 (fun _ => 0)), (q9073, oX1 ca9076), (ca9076, iA G 36 (fun _ => 0)), (q9077, oX1 ca9080), (ca9080, iA G 36 (fun _ => 0)), (q9081, oX1 ca9084), (ca9084, iA G 36 (fun _ => 0)), (q9085, oX1 ca9088), (ca9088, iA G 36 (fun _ => 0))]) hP hD (fun hP hD => ?_)
  refine Wcast (c1 := 25) (s1 := 457) rfl rfl ?_
  refine va_astq (r := (RX1, TX1, 1)) hx hb hK.1 hP hD hS 1 1 24 1 rfl rfl rfl rfl (vin (by decide +kernel)) dX3_init_41 (fun H locs hP hD hS => ?_)
  refine Kpdr (ws := [(h0, oX3 bk q9040 0 0 0), (q9040, cA G 13 (va_up (va_up (va_up (va_up (va_up (va_up (va_up (va_up (va_up (va_up (va_up (va_up (fun _ => none) 0 (some q9041)) 1 (some q9045)) 2 (some q9049)) 3 (some q9053)) 4 (some q9057)) 5 (some q9061)) 6 (some q9065)) 7 (some q9069)) 8 (some q9073)) 9 (some q9077)) 10 (some q9081)) 11 (some q9085))), (q9041, oX1 ca9044), (ca9044, iA G 36 (fun _ => 0)), (q9045, oX1 ca9048), (ca9048, iA G 36 (fun _ => 0)), (q9049, oX1 ca9052), (ca9052, iA G 36 (fun _ => 0)), (q9053, oX1 ca9056), (ca9056, iA G 36 (fun _ => 0)), (q9057, oX1 ca9060), (ca9060, iA G 36 (fun _ => 0)), (q9061, oX1 ca9064), (ca9064, iA G 36 (fun _ => 0)), (q9065, oX1 ca9068), (ca9068, iA G 36 (fun _ => 0)), (q9069, oX1 ca9072), (ca9072, iA G 36 (fun _ => 0)), (q9073, oX1 ca9076), (ca9076, iA G 36 (fun _ => 0)), (q9077, oX1 ca9080), (ca9080, iA G 36 (fun _ => 0)), (q9081, oX1 ca9084), (ca9084, iA G 36 (fun _ => 0)), (q9085, oX1 ca9088), (ca9088, iA G 36 (fun _ => 0))]) hP hD (fun hP hD => ?_)
  refine lv_iinc (v := 12) (lv' := [(2, .int 12), (0, .ref h0), (1, .ref bk)]) hx hb dX3_init_42 hl (k := 0) rfl (by decide) (by decide) rfl (fun ls hl => ?_)
  refine lv_goto (tgt := 20) hx hb dX3_init_45 (by decide) ?_
  refine lv_iload_n hx hb dX3_init_20 rfl (lv_at0 hl) ?_
  refine lv_aload_n hx hb dX3_init_21 rfl (lv_at1 hl) ?_
  refine gf_X3_11 hC rfl hK hP 0 rfl rfl dX3_init_22 ?_
  refine va_alen (v := 13) hx hb hK.1 hP 1 1 rfl rfl (show Int32.ofNat 13 = 13 by decide) dX3_init_25 ?_
  refine lv_icmp_ge (tgt := 48) hx hb dX3_init_26 (by decide) (fun c9 => absurd c9 (by decide)) (fun _ => ?_)
  refine lv_aload_n hx hb dX3_init_29 rfl (lv_at1 hl) ?_
  refine gf_X3_11 hC rfl hK hP 0 rfl rfl dX3_init_30 ?_
  refine lv_iload_n hx hb dX3_init_33 rfl (lv_at0 hl) ?_
  refine nw_X3_9 hC rfl hK hP hD hS hA (Nat.le_of_ble_eq_true rfl) (Nat.le_of_ble_eq_true rfl) dX3_init_34 (fun q9089 H hP hD hS => ?_)
  refine Kpdr (ws := [(h0, oX3 bk q9040 0 0 0), (q9040, cA G 13 (va_up (va_up (va_up (va_up (va_up (va_up (va_up (va_up (va_up (va_up (va_up (va_up (fun _ => none) 0 (some q9041)) 1 (some q9045)) 2 (some q9049)) 3 (some q9053)) 4 (some q9057)) 5 (some q9061)) 6 (some q9065)) 7 (some q9069)) 8 (some q9073)) 9 (some q9077)) 10 (some q9081)) 11 (some q9085))), (q9041, oX1 ca9044), (ca9044, iA G 36 (fun _ => 0)), (q9045, oX1 ca9048), (ca9048, iA G 36 (fun _ => 0)), (q9049, oX1 ca9052), (ca9052, iA G 36 (fun _ => 0)), (q9053, oX1 ca9056), (ca9056, iA G 36 (fun _ => 0)), (q9057, oX1 ca9060), (ca9060, iA G 36 (fun _ => 0)), (q9061, oX1 ca9064), (ca9064, iA G 36 (fun _ => 0)), (q9065, oX1 ca9068), (ca9068, iA G 36 (fun _ => 0)), (q9069, oX1 ca9072), (ca9072, iA G 36 (fun _ => 0)), (q9073, oX1 ca9076), (ca9076, iA G 36 (fun _ => 0)), (q9077, oX1 ca9080), (ca9080, iA G 36 (fun _ => 0)), (q9081, oX1 ca9084), (ca9084, iA G 36 (fun _ => 0)), (q9085, oX1 ca9088), (ca9088, iA G 36 (fun _ => 0)), (q9089, .inr (1, [.null]))]) hP hD (fun hP hD => ?_)
  refine Wcast (c1 := 26) (s1 := 458) rfl rfl ?_
  refine lv_dup hx hb dX3_init_37 rfl ?_
  refine vIN (wr := [(h0, oX3 bk q9040 0 0 0), (q9040, cA G 13 (va_up (va_up (va_up (va_up (va_up (va_up (va_up (va_up (va_up (va_up (va_up (va_up (fun _ => none) 0 (some q9041)) 1 (some q9045)) 2 (some q9049)) 3 (some q9053)) 4 (some q9057)) 5 (some q9061)) 6 (some q9065)) 7 (some q9069)) 8 (some q9073)) 9 (some q9077)) 10 (some q9081)) 11 (some q9085))), (q9041, oX1 ca9044), (ca9044, iA G 36 (fun _ => 0)), (q9045, oX1 ca9048), (ca9048, iA G 36 (fun _ => 0)), (q9049, oX1 ca9052), (ca9052, iA G 36 (fun _ => 0)), (q9053, oX1 ca9056), (ca9056, iA G 36 (fun _ => 0)), (q9057, oX1 ca9060), (ca9060, iA G 36 (fun _ => 0)), (q9061, oX1 ca9064), (ca9064, iA G 36 (fun _ => 0)), (q9065, oX1 ca9068), (ca9068, iA G 36 (fun _ => 0)), (q9069, oX1 ca9072), (ca9072, iA G 36 (fun _ => 0)), (q9073, oX1 ca9076), (ca9076, iA G 36 (fun _ => 0)), (q9077, oX1 ca9080), (ca9080, iA G 36 (fun _ => 0)), (q9081, oX1 ca9084), (ca9084, iA G 36 (fun _ => 0)), (q9085, oX1 ca9088), (ca9088, iA G 36 (fun _ => 0))]) hC hK hl hP hD hS hA (c_Cl_init l G q9089) si_X3_21 [26] [0, 1, 2, 3, 4, 5, 6, 7, 8, 9, 10, 11, 12, 13, 14, 15, 16, 17, 18, 19, 20, 21, 22, 23, 24, 25] sm_26 fm_26 nd_26 sm_0_1_2_3_4_5_6_7_8_9_10_11_12_13_14_15_16_17_18_19_20_21_22_23_24_25 nd_0_1_2_3_4_5_6_7_8_9_10_11_12_13_14_15_16_17_18_19_20_21_22_23_24_25 dj_26__0_1_2_3_4_5_6_7_8_9_10_11_12_13_14_15_16_17_18_19_20_21_22_23_24_25 rfl rfl (Nat.le_of_ble_eq_true rfl) rm_3_2_1 ⟨by first | exact Nat.le_of_ble_eq_true rfl | omega, by first | exact Nat.le_of_ble_eq_true rfl | omega⟩ dX3_init_38 (fun ca9092 H locs hr9090 hP hD hS => ?_)
  try dsimp only at hr9090
  refine Kpdr (ws := [(h0, oX3 bk q9040 0 0 0), (q9040, cA G 13 (va_up (va_up (va_up (va_up (va_up (va_up (va_up (va_up (va_up (va_up (va_up (va_up (fun _ => none) 0 (some q9041)) 1 (some q9045)) 2 (some q9049)) 3 (some q9053)) 4 (some q9057)) 5 (some q9061)) 6 (some q9065)) 7 (some q9069)) 8 (some q9073)) 9 (some q9077)) 10 (some q9081)) 11 (some q9085))), (q9041, oX1 ca9044), (ca9044, iA G 36 (fun _ => 0)), (q9045, oX1 ca9048), (ca9048, iA G 36 (fun _ => 0)), (q9049, oX1 ca9052), (ca9052, iA G 36 (fun _ => 0)), (q9053, oX1 ca9056), (ca9056, iA G 36 (fun _ => 0)), (q9057, oX1 ca9060), (ca9060, iA G 36 (fun _ => 0)), (q9061, oX1 ca9064), (ca9064, iA G 36 (fun _ => 0)), (q9065, oX1 ca9068), (ca9068, iA G 36 (fun _ => 0)), (q9069, oX1 ca9072), (ca9072, iA G 36 (fun _ => 0)), (q9073, oX1 ca9076), (ca9076, iA G 36 (fun _ => 0)), (q9077, oX1 ca9080), (ca9080, iA G 36 (fun _ => 0)), (q9081, oX1 ca9084), (ca9084, iA G 36 (fun _ => 0)), (q9085, oX1 ca9088), (ca9088, iA G 36 (fun _ => 0)), (q9089, oX1 ca9092), (ca9092, iA G 36 (fun _ => 0))]) hP hD (fun hP hD => ?_)
  refine Wcast (c1 := 27) (s1 := 494) rfl rfl ?_
  refine va_astq (r := (RX1, TX1, 1)) hx hb hK.1 hP hD hS 1 1 26 1 rfl rfl rfl rfl (vin (by decide +kernel)) dX3_init_41 (fun H locs hP hD hS => ?_)
  refine Kpdr (ws := [(h0, oX3 bk q9040 0 0 0), (q9040, cA G 13 (va_up (va_up (va_up (va_up (va_up (va_up (va_up (va_up (va_up (va_up (va_up (va_up (va_up (fun _ => none) 0 (some q9041)) 1 (some q9045)) 2 (some q9049)) 3 (some q9053)) 4 (some q9057)) 5 (some q9061)) 6 (some q9065)) 7 (some q9069)) 8 (some q9073)) 9 (some q9077)) 10 (some q9081)) 11 (some q9085)) 12 (some q9089))), (q9041, oX1 ca9044), (ca9044, iA G 36 (fun _ => 0)), (q9045, oX1 ca9048), (ca9048, iA G 36 (fun _ => 0)), (q9049, oX1 ca9052), (ca9052, iA G 36 (fun _ => 0)), (q9053, oX1 ca9056), (ca9056, iA G 36 (fun _ => 0)), (q9057, oX1 ca9060), (ca9060, iA G 36 (fun _ => 0)), (q9061, oX1 ca9064), (ca9064, iA G 36 (fun _ => 0)), (q9065, oX1 ca9068), (ca9068, iA G 36 (fun _ => 0)), (q9069, oX1 ca9072), (ca9072, iA G 36 (fun _ => 0)), (q9073, oX1 ca9076), (ca9076, iA G 36 (fun _ => 0)), (q9077, oX1 ca9080), (ca9080, iA G 36 (fun _ => 0)), (q9081, oX1 ca9084), (ca9084, iA G 36 (fun _ => 0)), (q9085, oX1 ca9088), (ca9088, iA G 36 (fun _ => 0)), (q9089, oX1 ca9092), (ca9092, iA G 36 (fun _ => 0))]) hP hD (fun hP hD => ?_)
  refine lv_iinc (v := 13) (lv' := [(2, .int 13), (0, .ref h0), (1, .ref bk)]) hx hb dX3_init_42 hl (k := 0) rfl (by decide) (by decide) rfl (fun ls hl => ?_)
  refine lv_goto (tgt := 20) hx hb dX3_init_45 (by decide) ?_
  refine lv_iload_n hx hb dX3_init_20 rfl (lv_at0 hl) ?_
  refine lv_aload_n hx hb dX3_init_21 rfl (lv_at1 hl) ?_
  refine gf_X3_11 hC rfl hK hP 0 rfl rfl dX3_init_22 ?_
  refine va_alen (v := 13) hx hb hK.1 hP 1 1 rfl rfl (show Int32.ofNat 13 = 13 by decide) dX3_init_25 ?_
  refine lv_icmp_ge (tgt := 48) hx hb dX3_init_26 (by decide) (fun _ => ?_) (fun c9 => absurd (by decide) c9)
  refine lv_aload_n hx hb dX3_init_48 rfl (lv_at1 hl) ?_
  refine lv_iconst (v := 0) hx hb dX3_init_49 (by decide) ?_
  refine pf_X3_22 hC rfl hK hP hD hS 0 (ws' := [(h0, oX3 bk q9040 0 0 0), (q9040, cA G 13 (va_up (va_up (va_up (va_up (va_up (va_up (va_up (va_up (va_up (va_up (va_up (va_up (va_up (fun _ => none) 0 (some q9041)) 1 (some q9045)) 2 (some q9049)) 3 (some q9053)) 4 (some q9057)) 5 (some q9061)) 6 (some q9065)) 7 (some q9069)) 8 (some q9073)) 9 (some q9077)) 10 (some q9081)) 11 (some q9085)) 12 (some q9089))), (q9041, oX1 ca9044), (ca9044, iA G 36 (fun _ => 0)), (q9045, oX1 ca9048), (ca9048, iA G 36 (fun _ => 0)), (q9049, oX1 ca9052), (ca9052, iA G 36 (fun _ => 0)), (q9053, oX1 ca9056), (ca9056, iA G 36 (fun _ => 0)), (q9057, oX1 ca9060), (ca9060, iA G 36 (fun _ => 0)), (q9061, oX1 ca9064), (ca9064, iA G 36 (fun _ => 0)), (q9065, oX1 ca9068), (ca9068, iA G 36 (fun _ => 0)), (q9069, oX1 ca9072), (ca9072, iA G 36 (fun _ => 0)), (q9073, oX1 ca9076), (ca9076, iA G 36 (fun _ => 0)), (q9077, oX1 ca9080), (ca9080, iA G 36 (fun _ => 0)), (q9081, oX1 ca9084), (ca9084, iA G 36 (fun _ => 0)), (q9085, oX1 ca9088), (ca9088, iA G 36 (fun _ => 0)), (q9089, oX1 ca9092), (ca9092, iA G 36 (fun _ => 0))]) rfl (Nat.le_of_ble_eq_true rfl) rfl rfl rfl dX3_init_50 (fun H locs hP hD hS => ?_)
  refine lv_aload_n hx hb dX3_init_53 rfl (lv_at1 hl) ?_
  refine lv_iconst (v := 0) hx hb dX3_init_54 (by decide) ?_
  refine pf_X3_26 hC rfl hK hP hD hS 0 (ws' := [(h0, oX3 bk q9040 0 0 0), (q9040, cA G 13 (va_up (va_up (va_up (va_up (va_up (va_up (va_up (va_up (va_up (va_up (va_up (va_up (va_up (fun _ => none) 0 (some q9041)) 1 (some q9045)) 2 (some q9049)) 3 (some q9053)) 4 (some q9057)) 5 (some q9061)) 6 (some q9065)) 7 (some q9069)) 8 (some q9073)) 9 (some q9077)) 10 (some q9081)) 11 (some q9085)) 12 (some q9089))), (q9041, oX1 ca9044), (ca9044, iA G 36 (fun _ => 0)), (q9045, oX1 ca9048), (ca9048, iA G 36 (fun _ => 0)), (q9049, oX1 ca9052), (ca9052, iA G 36 (fun _ => 0)), (q9053, oX1 ca9056), (ca9056, iA G 36 (fun _ => 0)), (q9057, oX1 ca9060), (ca9060, iA G 36 (fun _ => 0)), (q9061, oX1 ca9064), (ca9064, iA G 36 (fun _ => 0)), (q9065, oX1 ca9068), (ca9068, iA G 36 (fun _ => 0)), (q9069, oX1 ca9072), (ca9072, iA G 36 (fun _ => 0)), (q9073, oX1 ca9076), (ca9076, iA G 36 (fun _ => 0)), (q9077, oX1 ca9080), (ca9080, iA G 36 (fun _ => 0)), (q9081, oX1 ca9084), (ca9084, iA G 36 (fun _ => 0)), (q9085, oX1 ca9088), (ca9088, iA G 36 (fun _ => 0)), (q9089, oX1 ca9092), (ca9092, iA G 36 (fun _ => 0))]) rfl (Nat.le_of_ble_eq_true rfl) rfl rfl rfl dX3_init_55 (fun H locs hP hD hS => ?_)
  refine lv_aload_n hx hb dX3_init_58 rfl (lv_at1 hl) ?_
  refine lv_iconst (v := 0) hx hb dX3_init_59 (by decide) ?_
  refine pf_X3_29 hC rfl hK hP hD hS 0 (ws' := [(h0, oX3 bk q9040 0 0 0), (q9040, cA G 13 (va_up (va_up (va_up (va_up (va_up (va_up (va_up (va_up (va_up (va_up (va_up (va_up (va_up (fun _ => none) 0 (some q9041)) 1 (some q9045)) 2 (some q9049)) 3 (some q9053)) 4 (some q9057)) 5 (some q9061)) 6 (some q9065)) 7 (some q9069)) 8 (some q9073)) 9 (some q9077)) 10 (some q9081)) 11 (some q9085)) 12 (some q9089))), (q9041, oX1 ca9044), (ca9044, iA G 36 (fun _ => 0)), (q9045, oX1 ca9048), (ca9048, iA G 36 (fun _ => 0)), (q9049, oX1 ca9052), (ca9052, iA G 36 (fun _ => 0)), (q9053, oX1 ca9056), (ca9056, iA G 36 (fun _ => 0)), (q9057, oX1 ca9060), (ca9060, iA G 36 (fun _ => 0)), (q9061, oX1 ca9064), (ca9064, iA G 36 (fun _ => 0)), (q9065, oX1 ca9068), (ca9068, iA G 36 (fun _ => 0)), (q9069, oX1 ca9072), (ca9072, iA G 36 (fun _ => 0)), (q9073, oX1 ca9076), (ca9076, iA G 36 (fun _ => 0)), (q9077, oX1 ca9080), (ca9080, iA G 36 (fun _ => 0)), (q9081, oX1 ca9084), (ca9084, iA G 36 (fun _ => 0)), (q9085, oX1 ca9088), (ca9088, iA G 36 (fun _ => 0)), (q9089, oX1 ca9092), (ca9092, iA G 36 (fun _ => 0))]) rfl (Nat.le_of_ble_eq_true rfl) rfl rfl rfl dX3_init_60 (fun H locs hP hD hS => ?_)
  exact toQ hQ0 (RV hC hP hD hS [0, 1, 2, 3, 4, 5, 6, 7, 8, 9, 10, 11, 12, 13, 14, 15, 16, 17, 18, 19, 20, 21, 22, 23, 24, 25, 26, 27] ((fun k9 => ([q9040, q9041, ca9044, q9045, ca9048, q9049, ca9052, q9053, ca9056, q9057, ca9060, q9061, ca9064, q9065, ca9068, q9069, ca9072, q9073, ca9076, q9077, ca9080, q9081, ca9084, q9085, ca9088, q9089, ca9092] : List Nat).getD k9 0), va_up (va_up (va_up (va_up (va_up (va_up (va_up (va_up (va_up (va_up (va_up (va_up (va_up (fun _ => none) 0 (some q9041)) 1 (some q9045)) 2 (some q9049)) 3 (some q9053)) 4 (some q9057)) 5 (some q9061)) 6 (some q9065)) 7 (some q9069)) 8 (some q9073)) 9 (some q9077)) 10 (some q9081)) 11 (some q9085)) 12 (some q9089)) rfl rfl (by decide) (⟨rfl, rfl, rfl, rfl, rfl, rfl, rfl, rfl, rfl, rfl, rfl, rfl, rfl⟩) dX3_init_63)
def K_c_R_init (l : Launch) (G : GG) (h0 : Nat) (bk : Nat) (sg : Nat) : Prop := MV l G yX6_init cX6_init 3 2 2 13 [.ref h0, .ref bk, .ref sg] [(h0, .inr (6, [.null, .null, .null, .null, .int 0, .int 0, .int 0]))] (fun u : Nat × Nat => True) (fun u : Nat × Nat => [(h0, oX6 bk sg u.1 u.2 0 0 0), (u.1, iA G 5 (fun _ => 0)), (u.2, iA G 8 (fun _ => 0))])
set_option maxHeartbeats 4000000 in
set_option maxRecDepth 100000 in
theorem c_R_init (l : Launch) (G : GG) (h0 : Nat) (bk : Nat) (sg : Nat) : K_c_R_init l G h0 bk sg := by
  refine MV.start (by decide +kernel) (Nat.le_of_ble_eq_true rfl) ?_
  intro p e s m below meth c A ls hC hK hP hD hS hA hl
  refine absQ (fun Q0 hQ0 => ?_)
  have hl : lv_has ls 3 [(0, .ref h0), (1, .ref bk), (2, .ref sg)] := hl
  refine Kan8 hC (fun hx hb hr hml hB hown hlocks hnm => ?_)
  refine lv_aload_n hx hb dX6_init_0 rfl (lv_at0 hl) ?_
  refine W.objInit hx hb hown (hB _ m_201) (hB _ m_128) (hB _ m_129) rfl (by rw [hml]; exact hl.1) rfl dX6_init_1 (Nat.le_of_ble_eq_true rfl) (Nat.le_of_ble_eq_true rfl) ?_
  refine W.eq (g2 := F0 m 4 ls []) rfl ?_
  refine lv_aload_n hx hb dX6_init_4 rfl (lv_at0 hl) ?_
  refine lv_iconst (v := 5) hx hb dX6_init_5 (by decide) ?_
  refine newI hC hK hP hD hS hA m_148 (by decide) (N := 5) (by decide +kernel) (Nat.le_of_ble_eq_true rfl) (by decide) (Nat.le_of_ble_eq_true rfl) dX6_init_6 (fun q9093 H hP hD hS => ?_)
  refine Kpdr (ws := [(h0, .inr (6, [.null, .null, .null, .null, .int 0, .int 0, .int 0])), (q9093, iA G 5 (fun _ => 0))]) hP hD (fun hP hD => ?_)
  refine Wcast (c1 := 1) (s1 := 5) rfl rfl ?_
  refine pf_X6_9 hC rfl rfl hK hP hD hS 0 (ws' := [(h0, .inr (6, [.null, .null, .ref q9093, .null, .int 0, .int 0, .int 0])), (q9093, iA G 5 (fun _ => 0))]) rfl (Nat.le_of_ble_eq_true rfl) rfl rfl rfl dX6_init_8 (fun H locs hP hD hS => ?_)
  refine lv_aload_n hx hb dX6_init_11 rfl (lv_at0 hl) ?_
  refine lv_bipush (v := 8) hx hb dX6_init_12 (by decide) ?_
  refine newI hC hK hP hD hS hA m_148 (by decide) (N := 8) (by decide +kernel) (Nat.le_of_ble_eq_true rfl) (by decide) (Nat.le_of_ble_eq_true rfl) dX6_init_14 (fun q9094 H hP hD hS => ?_)
  refine Kpdr (ws := [(h0, .inr (6, [.null, .null, .ref q9093, .null, .int 0, .int 0, .int 0])), (q9093, iA G 5 (fun _ => 0)), (q9094, iA G 8 (fun _ => 0))]) hP hD (fun hP hD => ?_)
  refine Wcast (c1 := 2) (s1 := 13) rfl rfl ?_
  refine pf_X6_15 hC rfl rfl hK hP hD hS 0 (ws' := [(h0, .inr (6, [.null, .null, .ref q9093, .ref q9094, .int 0, .int 0, .int 0])), (q9093, iA G 5 (fun _ => 0)), (q9094, iA G 8 (fun _ => 0))]) rfl (Nat.le_of_ble_eq_true rfl) rfl rfl rfl dX6_init_16 (fun H locs hP hD hS => ?_)
  refine lv_aload_n hx hb dX6_init_19 rfl (lv_at0 hl) ?_
  refine lv_aload_n hx hb dX6_init_20 rfl (lv_at1 hl) ?_
  refine pf_X6_18 hC rfl rfl hK hP hD hS 0 (ws' := [(h0, .inr (6, [.ref bk, .null, .ref q9093, .ref q9094, .int 0, .int 0, .int 0])), (q9093, iA G 5 (fun _ => 0)), (q9094, iA G 8 (fun _ => 0))]) rfl (Nat.le_of_ble_eq_true rfl) rfl rfl rfl dX6_init_21 (fun H locs hP hD hS => ?_)
  refine lv_aload_n hx hb dX6_init_24 rfl (lv_at0 hl) ?_
  refine lv_aload_n hx hb dX6_init_25 rfl (lv_at2 hl) ?_
  refine pf_X6_22 hC rfl rfl hK hP hD hS 0 (ws' := [(h0, oX6 bk sg q9093 q9094 0 0 0), (q9093, iA G 5 (fun _ => 0)), (q9094, iA G 8 (fun _ => 0))]) rfl (Nat.le_of_ble_eq_true rfl) rfl rfl rfl dX6_init_26 (fun H locs hP hD hS => ?_)
  refine lv_aload_n hx hb dX6_init_29 rfl (lv_at0 hl) ?_
  refine lv_iconst (v := 0) hx hb dX6_init_30 (by decide) ?_
  refine pf_X6_26 hC rfl hK hP hD hS 0 (ws' := [(h0, oX6 bk sg q9093 q9094 0 0 0), (q9093, iA G 5 (fun _ => 0)), (q9094, iA G 8 (fun _ => 0))]) rfl (Nat.le_of_ble_eq_true rfl) rfl rfl rfl dX6_init_31 (fun H locs hP hD hS => ?_)
  refine lv_aload_n hx hb dX6_init_34 rfl (lv_at0 hl) ?_
  refine lv_iconst (v := 0) hx hb dX6_init_35 (by decide) ?_
  refine pf_X6_30 hC rfl hK hP hD hS 0 (ws' := [(h0, oX6 bk sg q9093 q9094 0 0 0), (q9093, iA G 5 (fun _ => 0)), (q9094, iA G 8 (fun _ => 0))]) rfl (Nat.le_of_ble_eq_true rfl) rfl rfl rfl dX6_init_36 (fun H locs hP hD hS => ?_)
  refine lv_aload_n hx hb dX6_init_39 rfl (lv_at0 hl) ?_
  refine lv_iconst (v := 0) hx hb dX6_init_40 (by decide) ?_
  refine pf_X6_33 hC rfl hK hP hD hS 0 (ws' := [(h0, oX6 bk sg q9093 q9094 0 0 0), (q9093, iA G 5 (fun _ => 0)), (q9094, iA G 8 (fun _ => 0))]) rfl (Nat.le_of_ble_eq_true rfl) rfl rfl rfl dX6_init_41 (fun H locs hP hD hS => ?_)
  exact toQ hQ0 (RV hC hP hD hS [0, 1, 2] (q9093, q9094) rfl rfl (by decide) (trivial) dX6_init_44)
def K_c_Ta_init (l : Launch) (G : GG) (h0 : Nat) (bk : Nat) (sg : Nat) : Prop := MV l G yX9_init cX9_init 3 2 0 0 [.ref h0, .ref bk, .ref sg] [(h0, .inr (9, [.null, .null, .int 0, .int 0, .int 0, .int 0]))] (fun u : Unit => True) (fun u : Unit => [(h0, oX9 bk sg 0 0 0 0)])
set_option maxHeartbeats 4000000 in
set_option maxRecDepth 100000 in
theorem c_Ta_init (l : Launch) (G : GG) (h0 : Nat) (bk : Nat) (sg : Nat) : K_c_Ta_init l G h0 bk sg := by
  refine MV.start (by decide +kernel) (Nat.le_of_ble_eq_true rfl) ?_
  intro p e s m below meth c A ls hC hK hP hD hS hA hl
  refine absQ (fun Q0 hQ0 => ?_)
  have hl : lv_has ls 3 [(0, .ref h0), (1, .ref bk), (2, .ref sg)] := hl
  refine Kan8 hC (fun hx hb hr hml hB hown hlocks hnm => ?_)
  refine lv_aload_n hx hb dX9_init_0 rfl (lv_at0 hl) ?_
  refine W.objInit hx hb hown (hB _ m_214) (hB _ m_128) (hB _ m_129) rfl (by rw [hml]; exact hl.1) rfl dX9_init_1 (Nat.le_of_ble_eq_true rfl) (Nat.le_of_ble_eq_true rfl) ?_
  refine W.eq (g2 := F0 m 4 ls []) rfl ?_
  refine lv_aload_n hx hb dX9_init_4 rfl (lv_at0 hl) ?_
  refine lv_aload_n hx hb dX9_init_5 rfl (lv_at1 hl) ?_
  refine pf_X9_9 hC rfl rfl hK hP hD hS 0 (ws' := [(h0, .inr (9, [.ref bk, .null, .int 0, .int 0, .int 0, .int 0]))]) rfl (Nat.le_of_ble_eq_true rfl) rfl rfl rfl dX9_init_6 (fun H locs hP hD hS => ?_)
  refine lv_aload_n hx hb dX9_init_9 rfl (lv_at0 hl) ?_
  refine lv_aload_n hx hb dX9_init_10 rfl (lv_at2 hl) ?_
  refine pf_X9_15 hC rfl rfl hK hP hD hS 0 (ws' := [(h0, oX9 bk sg 0 0 0 0)]) rfl (Nat.le_of_ble_eq_true rfl) rfl rfl rfl dX9_init_11 (fun H locs hP hD hS => ?_)
  refine lv_aload_n hx hb dX9_init_14 rfl (lv_at0 hl) ?_
  refine lv_iconst (v := 0) hx hb dX9_init_15 (by decide) ?_
  refine pf_X9_19 hC rfl hK hP hD hS 0 (ws' := [(h0, oX9 bk sg 0 0 0 0)]) rfl (Nat.le_of_ble_eq_true rfl) rfl rfl rfl dX9_init_16 (fun H locs hP hD hS => ?_)
  refine lv_aload_n hx hb dX9_init_19 rfl (lv_at0 hl) ?_
  refine lv_iconst (v := 0) hx hb dX9_init_20 (by decide) ?_
  refine pf_X9_23 hC rfl hK hP hD hS 0 (ws' := [(h0, oX9 bk sg 0 0 0 0)]) rfl (Nat.le_of_ble_eq_true rfl) rfl rfl rfl dX9_init_21 (fun H locs hP hD hS => ?_)
  refine lv_aload_n hx hb dX9_init_24 rfl (lv_at0 hl) ?_
  refine lv_iconst (v := 0) hx hb dX9_init_25 (by decide) ?_
  refine pf_X9_26 hC rfl hK hP hD hS 0 (ws' := [(h0, oX9 bk sg 0 0 0 0)]) rfl (Nat.le_of_ble_eq_true rfl) rfl rfl rfl dX9_init_26 (fun H locs hP hD hS => ?_)
  refine lv_aload_n hx hb dX9_init_29 rfl (lv_at0 hl) ?_
  refine lv_iconst (v := 0) hx hb dX9_init_30 (by decide) ?_
  refine pf_X9_29 hC rfl hK hP hD hS 0 (ws' := [(h0, oX9 bk sg 0 0 0 0)]) rfl (Nat.le_of_ble_eq_true rfl) rfl rfl rfl dX9_init_31 (fun H locs hP hD hS => ?_)
  exact toQ hQ0 (RV hC hP hD hS [0] () rfl rfl (by decide) (trivial) dX9_init_34)
def K_c_Tp_init (l : Launch) (G : GG) (h0 : Nat) : Prop := MV l G yX10_init cX10_init 1 3 5 431 [.ref h0] [(h0, .inr (10, [.null, .int 0, .null, .null, .int 0, .int 0, .int 0, .int 0]))] (fun u : (Nat → Nat) => True) (fun u : (Nat → Nat) => [(h0, oX10 (u 0) 0 (u 1) (u 3) (-1) 0 0 (-1)), ((u 0), iA G 240 (fun _ => 0)), ((u 1), oX8 9 7 (u 2) 0), ((u 2), iA G 63 (fun _ => 0)), ((u 3), oX8 120 1 (u 4) 0), ((u 4), iA G 120 (fun _ => 0))])
set_option maxHeartbeats 4000000 in
set_option maxRecDepth 100000 in
theorem c_Tp_init (l : Launch) (G : GG) (h0 : Nat) : K_c_Tp_init l G h0 := by
  refine MV.start (by decide +kernel) (Nat.le_of_ble_eq_true rfl) ?_
  intro p e s m below meth c A ls hC hK hP hD hS hA hl
  refine absQ (fun Q0 hQ0 => ?_)
  have hl : lv_has ls 1 [(0, .ref h0)] := hl
  refine Kan8 hC (fun hx hb hr hml hB hown hlocks hnm => ?_)
  refine lv_aload_n hx hb dX10_init_0 rfl (lv_at0 hl) ?_
  refine W.objInit hx hb hown (hB _ m_226) (hB _ m_128) (hB _ m_129) rfl (by rw [hml]; exact hl.1) rfl dX10_init_1 (Nat.le_of_ble_eq_true rfl) (Nat.le_of_ble_eq_true rfl) ?_
  refine W.eq (g2 := F0 m 4 ls []) rfl ?_
  refine lv_aload_n hx hb dX10_init_4 rfl (lv_at0 hl) ?_
  refine lv_sipush (v := 240) hx hb dX10_init_5 (by decide) ?_
  refine newI hC hK hP hD hS hA m_148 (by decide) (N := 240) (by decide +kernel) (Nat.le_of_ble_eq_true rfl) (by decide) (Nat.le_of_ble_eq_true rfl) dX10_init_8 (fun q9095 H hP hD hS => ?_)
  refine Kpdr (ws := [(h0, .inr (10, [.null, .int 0, .null, .null, .int 0, .int 0, .int 0, .int 0])), (q9095, iA G 240 (fun _ => 0))]) hP hD (fun hP hD => ?_)
  refine Wcast (c1 := 1) (s1 := 240) rfl rfl ?_
  refine pf_X10_9 hC rfl rfl hK hP hD hS 0 (ws' := [(h0, .inr (10, [.ref q9095, .int 0, .null, .null, .int 0, .int 0, .int 0, .int 0])), (q9095, iA G 240 (fun _ => 0))]) rfl (Nat.le_of_ble_eq_true rfl) rfl rfl rfl dX10_init_10 (fun H locs hP hD hS => ?_)
  refine lv_aload_n hx hb dX10_init_13 rfl (lv_at0 hl) ?_
  refine nw_X10_15 hC rfl hK hP hD hS hA (Nat.le_of_ble_eq_true rfl) (Nat.le_of_ble_eq_true rfl) dX10_init_14 (fun q9096 H hP hD hS => ?_)
  refine Kpdr (ws := [(h0, .inr (10, [.ref q9095, .int 0, .null, .null, .int 0, .int 0, .int 0, .int 0])), (q9095, iA G 240 (fun _ => 0)), (q9096, .inr (8, [.int 0, .int 0, .null, .int 0]))]) hP hD (fun hP hD => ?_)
  refine Wcast (c1 := 2) (s1 := 244) rfl rfl ?_
  refine lv_dup hx hb dX10_init_17 rfl ?_
  refine lv_bipush (v := 9) hx hb dX10_init_18 (by decide) ?_
  refine lv_bipush (v := 7) hx hb dX10_init_20 (by decide) ?_
  refine vI (wr := [(h0, .inr (10, [.ref q9095, .int 0, .null, .null, .int 0, .int 0, .int 0, .int 0])), (q9095, iA G 240 (fun _ => 0))]) hC hK hl hP hD hS hA (c_T_init_9_7 l G q9096) si_X10_17 [2] [0, 1] sm_2 fm_2 nd_2 sm_0_1 nd_0_1 dj_2__0_1 rfl rfl (Nat.le_of_ble_eq_true rfl) rm_3_2_3 ⟨by first | exact Nat.le_of_ble_eq_true rfl | omega, by first | exact Nat.le_of_ble_eq_true rfl | omega⟩ dX10_init_22 (fun ca9099 H locs hr9097 hP hD hS => ?_)
  try dsimp only at hr9097
  refine Kpdr (ws := [(h0, .inr (10, [.ref q9095, .int 0, .null, .null, .int 0, .int 0, .int 0, .int 0])), (q9095, iA G 240 (fun _ => 0)), (q9096, oX8 9 7 ca9099 0), (ca9099, iA G 63 (fun _ => 0))]) hP hD (fun hP hD => ?_)
  refine Wcast (c1 := 3) (s1 := 307) rfl rfl ?_
  refine pf_X10_20 hC rfl rfl hK hP hD hS 0 (ws' := [(h0, .inr (10, [.ref q9095, .int 0, .ref q9096, .null, .int 0, .int 0, .int 0, .int 0])), (q9095, iA G 240 (fun _ => 0)), (q9096, oX8 9 7 ca9099 0), (ca9099, iA G 63 (fun _ => 0))]) rfl (Nat.le_of_ble_eq_true rfl) rfl rfl rfl dX10_init_25 (fun H locs hP hD hS => ?_)
  refine lv_aload_n hx hb dX10_init_28 rfl (lv_at0 hl) ?_
  refine nw_X10_15 hC rfl hK hP hD hS hA (Nat.le_of_ble_eq_true rfl) (Nat.le_of_ble_eq_true rfl) dX10_init_29 (fun q9100 H hP hD hS => ?_)
  refine Kpdr (ws := [(h0, .inr (10, [.ref q9095, .int 0, .ref q9096, .null, .int 0, .int 0, .int 0, .int 0])), (q9095, iA G 240 (fun _ => 0)), (q9096, oX8 9 7 ca9099 0), (ca9099, iA G 63 (fun _ => 0)), (q9100, .inr (8, [.int 0, .int 0, .null, .int 0]))]) hP hD (fun hP hD => ?_)
  refine Wcast (c1 := 4) (s1 := 311) rfl rfl ?_
  refine lv_dup hx hb dX10_init_32 rfl ?_
  refine lv_bipush (v := 120) hx hb dX10_init_33 (by decide) ?_
  refine lv_iconst (v := 1) hx hb dX10_init_35 (by decide) ?_
  refine vI (wr := [(h0, .inr (10, [.ref q9095, .int 0, .ref q9096, .null, .int 0, .int 0, .int 0, .int 0])), (q9095, iA G 240 (fun _ => 0)), (q9096, oX8 9 7 ca9099 0), (ca9099, iA G 63 (fun _ => 0))]) hC hK hl hP hD hS hA (c_T_init_120_1 l G q9100) si_X10_17 [4] [0, 1, 2, 3] sm_4 fm_4 nd_4 sm_0_1_2_3 nd_0_1_2_3 dj_4__0_1_2_3 rfl rfl (Nat.le_of_ble_eq_true rfl) rm_3_2_3 ⟨by first | exact Nat.le_of_ble_eq_true rfl | omega, by first | exact Nat.le_of_ble_eq_true rfl | omega⟩ dX10_init_36 (fun ca9103 H locs hr9101 hP hD hS => ?_)
  try dsimp only at hr9101
  refine Kpdr (ws := [(h0, .inr (10, [.ref q9095, .int 0, .ref q9096, .null, .int 0, .int 0, .int 0, .int 0])), (q9095, iA G 240 (fun _ => 0)), (q9096, oX8 9 7 ca9099 0), (ca9099, iA G 63 (fun _ => 0)), (q9100, oX8 120 1 ca9103 0), (ca9103, iA G 120 (fun _ => 0))]) hP hD (fun hP hD => ?_)
  refine Wcast (c1 := 5) (s1 := 431) rfl rfl ?_
  refine pf_X10_24 hC rfl rfl hK hP hD hS 0 (ws' := [(h0, oX10 q9095 0 q9096 q9100 0 0 0 0), (q9095, iA G 240 (fun _ => 0)), (q9096, oX8 9 7 ca9099 0), (ca9099, iA G 63 (fun _ => 0)), (q9100, oX8 120 1 ca9103 0), (ca9103, iA G 120 (fun _ => 0))]) rfl (Nat.le_of_ble_eq_true rfl) rfl rfl rfl dX10_init_39 (fun H locs hP hD hS => ?_)
  refine lv_aload_n hx hb dX10_init_42 rfl (lv_at0 hl) ?_
  refine lv_iconst (v := 0) hx hb dX10_init_43 (by decide) ?_
  refine pf_X10_27 hC rfl hK hP hD hS 0 (ws' := [(h0, oX10 q9095 0 q9096 q9100 0 0 0 0), (q9095, iA G 240 (fun _ => 0)), (q9096, oX8 9 7 ca9099 0), (ca9099, iA G 63 (fun _ => 0)), (q9100, oX8 120 1 ca9103 0), (ca9103, iA G 120 (fun _ => 0))]) rfl (Nat.le_of_ble_eq_true rfl) rfl rfl rfl dX10_init_44 (fun H locs hP hD hS => ?_)
  refine lv_aload_n hx hb dX10_init_47 rfl (lv_at0 hl) ?_
  refine lv_iconst (v := (-1)) hx hb dX10_init_48 (by decide) ?_
  refine pf_X10_31 hC rfl hK hP hD hS 0 (ws' := [(h0, oX10 q9095 0 q9096 q9100 (-1) 0 0 0), (q9095, iA G 240 (fun _ => 0)), (q9096, oX8 9 7 ca9099 0), (ca9099, iA G 63 (fun _ => 0)), (q9100, oX8 120 1 ca9103 0), (ca9103, iA G 120 (fun _ => 0))]) rfl (Nat.le_of_ble_eq_true rfl) rfl rfl rfl dX10_init_49 (fun H locs hP hD hS => ?_)
  refine lv_aload_n hx hb dX10_init_52 rfl (lv_at0 hl) ?_
  refine lv_iconst (v := 0) hx hb dX10_init_53 (by decide) ?_
  refine pf_X10_34 hC rfl hK hP hD hS 0 (ws' := [(h0, oX10 q9095 0 q9096 q9100 (-1) 0 0 0), (q9095, iA G 240 (fun _ => 0)), (q9096, oX8 9 7 ca9099 0), (ca9099, iA G 63 (fun _ => 0)), (q9100, oX8 120 1 ca9103 0), (ca9103, iA G 120 (fun _ => 0))]) rfl (Nat.le_of_ble_eq_true rfl) rfl rfl rfl dX10_init_54 (fun H locs hP hD hS => ?_)
  refine lv_aload_n hx hb dX10_init_57 rfl (lv_at0 hl) ?_
  refine lv_iconst (v := 0) hx hb dX10_init_58 (by decide) ?_
  refine pf_X10_37 hC rfl hK hP hD hS 0 (ws' := [(h0, oX10 q9095 0 q9096 q9100 (-1) 0 0 0), (q9095, iA G 240 (fun _ => 0)), (q9096, oX8 9 7 ca9099 0), (ca9099, iA G 63 (fun _ => 0)), (q9100, oX8 120 1 ca9103 0), (ca9103, iA G 120 (fun _ => 0))]) rfl (Nat.le_of_ble_eq_true rfl) rfl rfl rfl dX10_init_59 (fun H locs hP hD hS => ?_)
  refine lv_aload_n hx hb dX10_init_62 rfl (lv_at0 hl) ?_
  refine lv_iconst (v := (-1)) hx hb dX10_init_63 (by decide) ?_
  refine pf_X10_40 hC rfl hK hP hD hS 0 (ws' := [(h0, oX10 q9095 0 q9096 q9100 (-1) 0 0 (-1)), (q9095, iA G 240 (fun _ => 0)), (q9096, oX8 9 7 ca9099 0), (ca9099, iA G 63 (fun _ => 0)), (q9100, oX8 120 1 ca9103 0), (ca9103, iA G 120 (fun _ => 0))]) rfl (Nat.le_of_ble_eq_true rfl) rfl rfl rfl dX10_init_64 (fun H locs hP hD hS => ?_)
  exact toQ hQ0 (RV hC hP hD hS [0, 1, 2, 3, 4, 5] (fun k9 => ([q9095, q9096, ca9099, q9100, ca9103] : List Nat).getD k9 0) rfl rfl (by decide) (trivial) dX10_init_67)
def K_c_Ro_init (l : Launch) (G : GG) (h0 : Nat) (bk : Nat) : Prop := MV l G yX5_init cX5_init 2 3 3 146 [.ref h0, .ref bk] [(h0, .inr (5, [.null, .null, .null, .int 0, .int 0, .int 0]))] (fun u : Nat × Nat × Nat => True) (fun u : Nat × Nat × Nat => [(h0, oX5 bk u.1 u.2.2 0 0 0), (u.1, oX8 7 2 u.2.1 0), (u.2.1, iA G 14 (fun _ => 0)), (u.2.2, iA G 128 (fun _ => 0))])
set_option maxHeartbeats 4000000 in
set_option maxRecDepth 100000 in
theorem c_Ro_init (l : Launch) (G : GG) (h0 : Nat) (bk : Nat) : K_c_Ro_init l G h0 bk := by
  refine MV.start (by decide +kernel) (Nat.le_of_ble_eq_true rfl) ?_
  intro p e s m below meth c A ls hC hK hP hD hS hA hl
  refine absQ (fun Q0 hQ0 => ?_)
  have hl : lv_has ls 2 [(0, .ref h0), (1, .ref bk)] := hl
  refine Kan8 hC (fun hx hb hr hml hB hown hlocks hnm => ?_)
  refine lv_aload_n hx hb dX5_init_0 rfl (lv_at0 hl) ?_
  refine W.objInit hx hb hown (hB _ m_242) (hB _ m_128) (hB _ m_129) rfl (by rw [hml]; exact hl.1) rfl dX5_init_1 (Nat.le_of_ble_eq_true rfl) (Nat.le_of_ble_eq_true rfl) ?_
  refine W.eq (g2 := F0 m 4 ls []) rfl ?_
  refine lv_aload_n hx hb dX5_init_4 rfl (lv_at0 hl) ?_
  refine nw_X5_9 hC rfl hK hP hD hS hA (Nat.le_of_ble_eq_true rfl) (Nat.le_of_ble_eq_true rfl) dX5_init_5 (fun q9104 H hP hD hS => ?_)
  refine Kpdr (ws := [(h0, .inr (5, [.null, .null, .null, .int 0, .int 0, .int 0])), (q9104, .inr (8, [.int 0, .int 0, .null, .int 0]))]) hP hD (fun hP hD => ?_)
  refine Wcast (c1 := 1) (s1 := 4) rfl rfl ?_
  refine lv_dup hx hb dX5_init_8 rfl ?_
  refine lv_bipush (v := 7) hx hb dX5_init_9 (by decide) ?_
  refine lv_iconst (v := 2) hx hb dX5_init_11 (by decide) ?_
  refine vI (wr := [(h0, .inr (5, [.null, .null, .null, .int 0, .int 0, .int 0]))]) hC hK hl hP hD hS hA (c_T_init_7_2 l G q9104) si_X5_11 [1] [0] sm_1 fm_1 nd_1 sm_0 nd_0 dj_1__0 rfl rfl (Nat.le_of_ble_eq_true rfl) rm_3_2_3 ⟨by first | exact Nat.le_of_ble_eq_true rfl | omega, by first | exact Nat.le_of_ble_eq_true rfl | omega⟩ dX5_init_12 (fun ca9107 H locs hr9105 hP hD hS => ?_)
  try dsimp only at hr9105
  refine Kpdr (ws := [(h0, .inr (5, [.null, .null, .null, .int 0, .int 0, .int 0])), (q9104, oX8 7 2 ca9107 0), (ca9107, iA G 14 (fun _ => 0))]) hP hD (fun hP hD => ?_)
  refine Wcast (c1 := 2) (s1 := 18) rfl rfl ?_
  refine pf_X5_14 hC rfl rfl hK hP hD hS 0 (ws' := [(h0, .inr (5, [.null, .ref q9104, .null, .int 0, .int 0, .int 0])), (q9104, oX8 7 2 ca9107 0), (ca9107, iA G 14 (fun _ => 0))]) rfl (Nat.le_of_ble_eq_true rfl) rfl rfl rfl dX5_init_15 (fun H locs hP hD hS => ?_)
  refine lv_aload_n hx hb dX5_init_18 rfl (lv_at0 hl) ?_
  refine lv_sipush (v := 128) hx hb dX5_init_19 (by decide) ?_
  refine newI hC hK hP hD hS hA m_148 (by decide) (N := 128) (by decide +kernel) (Nat.le_of_ble_eq_true rfl) (by decide) (Nat.le_of_ble_eq_true rfl) dX5_init_22 (fun q9108 H hP hD hS => ?_)
  refine Kpdr (ws := [(h0, .inr (5, [.null, .ref q9104, .null, .int 0, .int 0, .int 0])), (q9104, oX8 7 2 ca9107 0), (ca9107, iA G 14 (fun _ => 0)), (q9108, iA G 128 (fun _ => 0))]) hP hD (fun hP hD => ?_)
  refine Wcast (c1 := 3) (s1 := 146) rfl rfl ?_
  refine pf_X5_20 hC rfl rfl hK hP hD hS 0 (ws' := [(h0, .inr (5, [.null, .ref q9104, .ref q9108, .int 0, .int 0, .int 0])), (q9104, oX8 7 2 ca9107 0), (ca9107, iA G 14 (fun _ => 0)), (q9108, iA G 128 (fun _ => 0))]) rfl (Nat.le_of_ble_eq_true rfl) rfl rfl rfl dX5_init_24 (fun H locs hP hD hS => ?_)
  refine lv_aload_n hx hb dX5_init_27 rfl (lv_at0 hl) ?_
  refine lv_aload_n hx hb dX5_init_28 rfl (lv_at1 hl) ?_
  refine pf_X5_24 hC rfl rfl hK hP hD hS 0 (ws' := [(h0, oX5 bk q9104 q9108 0 0 0), (q9104, oX8 7 2 ca9107 0), (ca9107, iA G 14 (fun _ => 0)), (q9108, iA G 128 (fun _ => 0))]) rfl (Nat.le_of_ble_eq_true rfl) rfl rfl rfl dX5_init_29 (fun H locs hP hD hS => ?_)
  refine lv_aload_n hx hb dX5_init_32 rfl (lv_at0 hl) ?_
  refine lv_iconst (v := 0) hx hb dX5_init_33 (by decide) ?_
  refine pf_X5_28 hC rfl hK hP hD hS 0 (ws' := [(h0, oX5 bk q9104 q9108 0 0 0), (q9104, oX8 7 2 ca9107 0), (ca9107, iA G 14 (fun _ => 0)), (q9108, iA G 128 (fun _ => 0))]) rfl (Nat.le_of_ble_eq_true rfl) rfl rfl rfl dX5_init_34 (fun H locs hP hD hS => ?_)
  refine lv_aload_n hx hb dX5_init_37 rfl (lv_at0 hl) ?_
  refine lv_iconst (v := 0) hx hb dX5_init_38 (by decide) ?_
  refine pf_X5_32 hC rfl hK hP hD hS 0 (ws' := [(h0, oX5 bk q9104 q9108 0 0 0), (q9104, oX8 7 2 ca9107 0), (ca9107, iA G 14 (fun _ => 0)), (q9108, iA G 128 (fun _ => 0))]) rfl (Nat.le_of_ble_eq_true rfl) rfl rfl rfl dX5_init_39 (fun H locs hP hD hS => ?_)
  refine lv_aload_n hx hb dX5_init_42 rfl (lv_at0 hl) ?_
  refine lv_iconst (v := 0) hx hb dX5_init_43 (by decide) ?_
  refine pf_X5_35 hC rfl hK hP hD hS 0 (ws' := [(h0, oX5 bk q9104 q9108 0 0 0), (q9104, oX8 7 2 ca9107 0), (ca9107, iA G 14 (fun _ => 0)), (q9108, iA G 128 (fun _ => 0))]) rfl (Nat.le_of_ble_eq_true rfl) rfl (by decide +kernel) (by decide +kernel) dX5_init_44 (fun H locs hP hD hS => ?_)
  exact toQ hQ0 (RV hC hP hD hS [0, 1, 2, 3] (q9104, ca9107, q9108) rfl rfl (by decide) (trivial) dX5_init_47)
def K_c_H_init (l : Launch) (G : GG) (h0 : Nat) : Prop := MV l G yX4_init cX4_init 2 2 6 180 [.ref h0] [(h0, .inr (4, [.null, .null, .null, .null, .null, .null]))] (fun u : (Nat → Nat) => True) (fun u : (Nat → Nat) => [(h0, oX4 (u 0) (u 1) (u 2) (u 3) (u 4) (u 5)), ((u 0), iA G 4 (upd (upd (upd (upd (fun _ => 0) 0 (-1)) 1 (-1)) 2 (-1)) 3 (-1))), ((u 1), iA G 4 (fun _ => 0)), ((u 2), iA G 160 (fun _ => 0)), ((u 3), iA G 4 (upd (upd (upd (upd (fun _ => 0) 0 4) 1 4) 2 4) 3 4)), ((u 4), iA G 4 (fun _ => 0)), ((u 5), iA G 4 (fun _ => 0))])
set_option maxHeartbeats 4000000 in
set_option maxRecDepth 100000 in
theorem c_H_init (l : Launch) (G : GG) (h0 : Nat) : K_c_H_init l G h0 := by
  refine MV.start (by decide +kernel) (Nat.le_of_ble_eq_true rfl) ?_
  intro p e s m below meth c A ls hC hK hP hD hS hA hl
  refine absQ (fun Q0 hQ0 => ?_)
  have hl : lv_has ls 2 [(0, .ref h0)] := hl
  refine Kan8 hC (fun hx hb hr hml hB hown hlocks hnm => ?_)
  refine lv_aload_n hx hb dX4_init_0 rfl (lv_at0 hl) ?_
  refine W.objInit hx hb hown (hB _ m_256) (hB _ m_128) (hB _ m_129) rfl (by rw [hml]; exact hl.1) rfl dX4_init_1 (Nat.le_of_ble_eq_true rfl) (Nat.le_of_ble_eq_true rfl) ?_
  refine W.eq (g2 := F0 m 4 ls []) rfl ?_
  refine lv_aload_n hx hb dX4_init_4 rfl (lv_at0 hl) ?_
  refine lv_iconst (v := 4) hx hb dX4_init_5 (by decide) ?_
  refine newI hC hK hP hD hS hA m_148 (by decide) (N := 4) (by decide +kernel) (Nat.le_of_ble_eq_true rfl) (by decide) (Nat.le_of_ble_eq_true rfl) dX4_init_6 (fun q9109 H hP hD hS => ?_)
  refine Kpdr (ws := [(h0, .inr (4, [.null, .null, .null, .null, .null, .null])), (q9109, iA G 4 (fun _ => 0))]) hP hD (fun hP hD => ?_)
  refine Wcast (c1 := 1) (s1 := 4) rfl rfl ?_
  refine pf_X4_11 hC rfl rfl hK hP hD hS 0 (ws' := [(h0, .inr (4, [.ref q9109, .null, .null, .null, .null, .null])), (q9109, iA G 4 (fun _ => 0))]) rfl (Nat.le_of_ble_eq_true rfl) rfl rfl rfl dX4_init_8 (fun H locs hP hD hS => ?_)
  refine lv_aload_n hx hb dX4_init_11 rfl (lv_at0 hl) ?_
  refine lv_iconst (v := 4) hx hb dX4_init_12 (by decide) ?_
  refine newI hC hK hP hD hS hA m_148 (by decide) (N := 4) (by decide +kernel) (Nat.le_of_ble_eq_true rfl) (by decide) (Nat.le_of_ble_eq_true rfl) dX4_init_13 (fun q9110 H hP hD hS => ?_)
  refine Kpdr (ws := [(h0, .inr (4, [.ref q9109, .null, .null, .null, .null, .null])), (q9109, iA G 4 (fun _ => 0)), (q9110, iA G 4 (fun _ => 0))]) hP hD (fun hP hD => ?_)
  refine Wcast (c1 := 2) (s1 := 8) rfl rfl ?_
  refine pf_X4_15 hC rfl rfl hK hP hD hS 0 (ws' := [(h0, .inr (4, [.ref q9109, .ref q9110, .null, .null, .null, .null])), (q9109, iA G 4 (fun _ => 0)), (q9110, iA G 4 (fun _ => 0))]) rfl (Nat.le_of_ble_eq_true rfl) rfl rfl rfl dX4_init_15 (fun H locs hP hD hS => ?_)
  refine lv_aload_n hx hb dX4_init_18 rfl (lv_at0 hl) ?_
  refine lv_sipush (v := 160) hx hb dX4_init_19 (by decide) ?_
  refine newI hC hK hP hD hS hA m_148 (by decide) (N := 160) (by decide +kernel) (Nat.le_of_ble_eq_true rfl) (by decide) (Nat.le_of_ble_eq_true rfl) dX4_init_22 (fun q9111 H hP hD hS => ?_)
  refine Kpdr (ws := [(h0, .inr (4, [.ref q9109, .ref q9110, .null, .null, .null, .null])), (q9109, iA G 4 (fun _ => 0)), (q9110, iA G 4 (fun _ => 0)), (q9111, iA G 160 (fun _ => 0))]) hP hD (fun hP hD => ?_)
  refine Wcast (c1 := 3) (s1 := 168) rfl rfl ?_
  refine pf_X4_18 hC rfl rfl hK hP hD hS 0 (ws' := [(h0, .inr (4, [.ref q9109, .ref q9110, .ref q9111, .null, .null, .null])), (q9109, iA G 4 (fun _ => 0)), (q9110, iA G 4 (fun _ => 0)), (q9111, iA G 160 (fun _ => 0))]) rfl (Nat.le_of_ble_eq_true rfl) rfl rfl rfl dX4_init_24 (fun H locs hP hD hS => ?_)
  refine lv_aload_n hx hb dX4_init_27 rfl (lv_at0 hl) ?_
  refine lv_iconst (v := 4) hx hb dX4_init_28 (by decide) ?_
  refine newI hC hK hP hD hS hA m_148 (by decide) (N := 4) (by decide +kernel) (Nat.le_of_ble_eq_true rfl) (by decide) (Nat.le_of_ble_eq_true rfl) dX4_init_29 (fun q9112 H hP hD hS => ?_)
  refine Kpdr (ws := [(h0, .inr (4, [.ref q9109, .ref q9110, .ref q9111, .null, .null, .null])), (q9109, iA G 4 (fun _ => 0)), (q9110, iA G 4 (fun _ => 0)), (q9111, iA G 160 (fun _ => 0)), (q9112, iA G 4 (fun _ => 0))]) hP hD (fun hP hD => ?_)
  refine Wcast (c1 := 4) (s1 := 172) rfl rfl ?_
  refine pf_X4_21 hC rfl rfl hK hP hD hS 0 (ws' := [(h0, .inr (4, [.ref q9109, .ref q9110, .ref q9111, .ref q9112, .null, .null])), (q9109, iA G 4 (fun _ => 0)), (q9110, iA G 4 (fun _ => 0)), (q9111, iA G 160 (fun _ => 0)), (q9112, iA G 4 (fun _ => 0))]) rfl (Nat.le_of_ble_eq_true rfl) rfl rfl rfl dX4_init_31 (fun H locs hP hD hS => ?_)
  refine lv_aload_n hx hb dX4_init_34 rfl (lv_at0 hl) ?_
  refine lv_iconst (v := 4) hx hb dX4_init_35 (by decide) ?_
  refine newI hC hK hP hD hS hA m_148 (by decide) (N := 4) (by decide +kernel) (Nat.le_of_ble_eq_true rfl) (by decide) (Nat.le_of_ble_eq_true rfl) dX4_init_36 (fun q9113 H hP hD hS => ?_)
  refine Kpdr (ws := [(h0, .inr (4, [.ref q9109, .ref q9110, .ref q9111, .ref q9112, .null, .null])), (q9109, iA G 4 (fun _ => 0)), (q9110, iA G 4 (fun _ => 0)), (q9111, iA G 160 (fun _ => 0)), (q9112, iA G 4 (fun _ => 0)), (q9113, iA G 4 (fun _ => 0))]) hP hD (fun hP hD => ?_)
  refine Wcast (c1 := 5) (s1 := 176) rfl rfl ?_
  refine pf_X4_24 hC rfl rfl hK hP hD hS 0 (ws' := [(h0, .inr (4, [.ref q9109, .ref q9110, .ref q9111, .ref q9112, .ref q9113, .null])), (q9109, iA G 4 (fun _ => 0)), (q9110, iA G 4 (fun _ => 0)), (q9111, iA G 160 (fun _ => 0)), (q9112, iA G 4 (fun _ => 0)), (q9113, iA G 4 (fun _ => 0))]) rfl (Nat.le_of_ble_eq_true rfl) rfl rfl rfl dX4_init_38 (fun H locs hP hD hS => ?_)
  refine lv_aload_n hx hb dX4_init_41 rfl (lv_at0 hl) ?_
  refine lv_iconst (v := 4) hx hb dX4_init_42 (by decide) ?_
  refine newI hC hK hP hD hS hA m_148 (by decide) (N := 4) (by decide +kernel) (Nat.le_of_ble_eq_true rfl) (by decide) (Nat.le_of_ble_eq_true rfl) dX4_init_43 (fun q9114 H hP hD hS => ?_)
  refine Kpdr (ws := [(h0, .inr (4, [.ref q9109, .ref q9110, .ref q9111, .ref q9112, .ref q9113, .null])), (q9109, iA G 4 (fun _ => 0)), (q9110, iA G 4 (fun _ => 0)), (q9111, iA G 160 (fun _ => 0)), (q9112, iA G 4 (fun _ => 0)), (q9113, iA G 4 (fun _ => 0)), (q9114, iA G 4 (fun _ => 0))]) hP hD (fun hP hD => ?_)
  refine Wcast (c1 := 6) (s1 := 180) rfl rfl ?_
  refine pf_X4_27 hC rfl rfl hK hP hD hS 0 (ws' := [(h0, oX4 q9109 q9110 q9111 q9112 q9113 q9114), (q9109, iA G 4 (fun _ => 0)), (q9110, iA G 4 (fun _ => 0)), (q9111, iA G 160 (fun _ => 0)), (q9112, iA G 4 (fun _ => 0)), (q9113, iA G 4 (fun _ => 0)), (q9114, iA G 4 (fun _ => 0))]) rfl (Nat.le_of_ble_eq_true rfl) rfl rfl rfl dX4_init_45 (fun H locs hP hD hS => ?_)
  refine lv_iconst (v := 0) hx hb dX4_init_48 (by decide) ?_
  refine lv_istore_n (lv' := [(1, .int 0), (0, .ref h0)]) hx hb dX4_init_49 rfl hl (by decide) rfl (fun ls hl => ?_)
  refine lv_iload_n hx hb dX4_init_50 rfl (lv_at0 hl) ?_
  refine lv_iconst (v := 4) hx hb dX4_init_51 (by decide) ?_
  refine lv_icmp_ge (tgt := 68) hx hb dX4_init_52 (by decide) (fun c9 => absurd c9 (by decide)) (fun _ => ?_)
  refine lv_aload_n hx hb dX4_init_55 rfl (lv_at1 hl) ?_
  refine gf_X4_11 hC rfl hK hP 0 rfl rfl dX4_init_56 ?_
  refine lv_iload_n hx hb dX4_init_59 rfl (lv_at0 hl) ?_
  refine lv_iconst (v := (-1)) hx hb dX4_init_60 (by decide) ?_
  refine ast hC hK hP hD hS 1 (ws' := [(h0, oX4 q9109 q9110 q9111 q9112 q9113 q9114), (q9109, iA G 4 (upd (fun _ => 0) 0 (-1))), (q9110, iA G 4 (fun _ => 0)), (q9111, iA G 160 (fun _ => 0)), (q9112, iA G 4 (fun _ => 0)), (q9113, iA G 4 (fun _ => 0)), (q9114, iA G 4 (fun _ => 0))]) rfl (vin (by decide +kernel)) (k := 0) (by decide +kernel) (rfl) dX4_init_61 (fun H locs hP hD hS => ?_)
  refine lv_iinc (v := 1) (lv' := [(1, .int 1), (0, .ref h0)]) hx hb dX4_init_62 hl (k := 0) rfl (by decide) (by decide) rfl (fun ls hl => ?_)
  refine lv_goto (tgt := 50) hx hb dX4_init_65 (by decide) ?_
  refine lv_iload_n hx hb dX4_init_50 rfl (lv_at0 hl) ?_
  refine lv_iconst (v := 4) hx hb dX4_init_51 (by decide) ?_
  refine lv_icmp_ge (tgt := 68) hx hb dX4_init_52 (by decide) (fun c9 => absurd c9 (by decide)) (fun _ => ?_)
  refine lv_aload_n hx hb dX4_init_55 rfl (lv_at1 hl) ?_
  refine gf_X4_11 hC rfl hK hP 0 rfl rfl dX4_init_56 ?_
  refine lv_iload_n hx hb dX4_init_59 rfl (lv_at0 hl) ?_
  refine lv_iconst (v := (-1)) hx hb dX4_init_60 (by decide) ?_
  refine ast hC hK hP hD hS 1 (ws' := [(h0, oX4 q9109 q9110 q9111 q9112 q9113 q9114), (q9109, iA G 4 (upd (upd (fun _ => 0) 0 (-1)) 1 (-1))), (q9110, iA G 4 (fun _ => 0)), (q9111, iA G 160 (fun _ => 0)), (q9112, iA G 4 (fun _ => 0)), (q9113, iA G 4 (fun _ => 0)), (q9114, iA G 4 (fun _ => 0))]) rfl (vin (by decide +kernel)) (k := 1) (by decide +kernel) (rfl) dX4_init_61 (fun H locs hP hD hS => ?_)
  refine lv_iinc (v := 2) (lv' := [(1, .int 2), (0, .ref h0)]) hx hb dX4_init_62 hl (k := 0) rfl (by decide) (by decide) rfl (fun ls hl => ?_)
  refine lv_goto (tgt := 50) hx hb dX4_init_65 (by decide) ?_
  refine lv_iload_n hx hb dX4_init_50 rfl (lv_at0 hl) ?_
  refine lv_iconst (v := 4) hx hb dX4_init_51 (by decide) ?_
  refine lv_icmp_ge (tgt := 68) hx hb dX4_init_52 (by decide) (fun c9 => absurd c9 (by decide)) (fun _ => ?_)
  refine lv_aload_n hx hb dX4_init_55 rfl (lv_at1 hl) ?_
  refine gf_X4_11 hC rfl hK hP 0 rfl rfl dX4_init_56 ?_
  refine lv_iload_n hx hb dX4_init_59 rfl (lv_at0 hl) ?_
  refine lv_iconst (v := (-1)) hx hb dX4_init_60 (by decide) ?_
  refine ast hC hK hP hD hS 1 (ws' := [(h0, oX4 q9109 q9110 q9111 q9112 q9113 q9114), (q9109, iA G 4 (upd (upd (upd (fun _ => 0) 0 (-1)) 1 (-1)) 2 (-1))), (q9110, iA G 4 (fun _ => 0)), (q9111, iA G 160 (fun _ => 0)), (q9112, iA G 4 (fun _ => 0)), (q9113, iA G 4 (fun _ => 0)), (q9114, iA G 4 (fun _ => 0))]) rfl (vin (by decide +kernel)) (k := 2) (by decide +kernel) (rfl) dX4_init_61 (fun H locs hP hD hS => ?_)
  refine lv_iinc (v := 3) (lv' := [(1, .int 3), (0, .ref h0)]) hx hb dX4_init_62 hl (k := 0) rfl (by decide) (by decide) rfl (fun ls hl => ?_)
  refine lv_goto (tgt := 50) hx hb dX4_init_65 (by decide) ?_
  refine lv_iload_n hx hb dX4_init_50 rfl (lv_at0 hl) ?_
  refine lv_iconst (v := 4) hx hb dX4_init_51 (by decide) ?_
  refine lv_icmp_ge (tgt := 68) hx hb dX4_init_52 (by decide) (fun c9 => absurd c9 (by decide)) (fun _ => ?_)
  refine lv_aload_n hx hb dX4_init_55 rfl (lv_at1 hl) ?_
  refine gf_X4_11 hC rfl hK hP 0 rfl rfl dX4_init_56 ?_
  refine lv_iload_n hx hb dX4_init_59 rfl (lv_at0 hl) ?_
  refine lv_iconst (v := (-1)) hx hb dX4_init_60 (by decide) ?_
  refine ast hC hK hP hD hS 1 (ws' := [(h0, oX4 q9109 q9110 q9111 q9112 q9113 q9114), (q9109, iA G 4 (upd (upd (upd (upd (fun _ => 0) 0 (-1)) 1 (-1)) 2 (-1)) 3 (-1))), (q9110, iA G 4 (fun _ => 0)), (q9111, iA G 160 (fun _ => 0)), (q9112, iA G 4 (fun _ => 0)), (q9113, iA G 4 (fun _ => 0)), (q9114, iA G 4 (fun _ => 0))]) rfl (vin (by decide +kernel)) (k := 3) (by decide +kernel) (rfl) dX4_init_61 (fun H locs hP hD hS => ?_)
  refine lv_iinc (v := 4) (lv' := [(1, .int 4), (0, .ref h0)]) hx hb dX4_init_62 hl (k := 0) rfl (by decide) (by decide) rfl (fun ls hl => ?_)
  refine lv_goto (tgt := 50) hx hb dX4_init_65 (by decide) ?_
  refine lv_iload_n hx hb dX4_init_50 rfl (lv_at0 hl) ?_
  refine lv_iconst (v := 4) hx hb dX4_init_51 (by decide) ?_
  refine lv_icmp_ge (tgt := 68) hx hb dX4_init_52 (by decide) (fun _ => ?_) (fun c9 => absurd (by decide) c9)
  refine lv_iconst (v := 0) hx hb dX4_init_68 (by decide) ?_
  refine lv_istore_n (lv' := [(1, .int 0), (0, .ref h0)]) hx hb dX4_init_69 rfl hl (by decide) rfl (fun ls hl => ?_)
  refine lv_iload_n hx hb dX4_init_70 rfl (lv_at0 hl) ?_
  refine lv_iconst (v := 4) hx hb dX4_init_71 (by decide) ?_
  refine lv_icmp_ge (tgt := 88) hx hb dX4_init_72 (by decide) (fun c9 => absurd c9 (by decide)) (fun _ => ?_)
  refine lv_aload_n hx hb dX4_init_75 rfl (lv_at1 hl) ?_
  refine gf_X4_21 hC rfl hK hP 0 rfl rfl dX4_init_76 ?_
  refine lv_iload_n hx hb dX4_init_79 rfl (lv_at0 hl) ?_
  refine lv_iconst (v := 4) hx hb dX4_init_80 (by decide) ?_
  refine ast hC hK hP hD hS 4 (ws' := [(h0, oX4 q9109 q9110 q9111 q9112 q9113 q9114), (q9109, iA G 4 (upd (upd (upd (upd (fun _ => 0) 0 (-1)) 1 (-1)) 2 (-1)) 3 (-1))), (q9110, iA G 4 (fun _ => 0)), (q9111, iA G 160 (fun _ => 0)), (q9112, iA G 4 (upd (fun _ => 0) 0 4)), (q9113, iA G 4 (fun _ => 0)), (q9114, iA G 4 (fun _ => 0))]) rfl (vin (by decide +kernel)) (k := 0) (by decide +kernel) (rfl) dX4_init_81 (fun H locs hP hD hS => ?_)
  refine lv_iinc (v := 1) (lv' := [(1, .int 1), (0, .ref h0)]) hx hb dX4_init_82 hl (k := 0) rfl (by decide) (by decide) rfl (fun ls hl => ?_)
  refine lv_goto (tgt := 70) hx hb dX4_init_85 (by decide) ?_
  refine lv_iload_n hx hb dX4_init_70 rfl (lv_at0 hl) ?_
  refine lv_iconst (v := 4) hx hb dX4_init_71 (by decide) ?_
  refine lv_icmp_ge (tgt := 88) hx hb dX4_init_72 (by decide) (fun c9 => absurd c9 (by decide)) (fun _ => ?_)
  refine lv_aload_n hx hb dX4_init_75 rfl (lv_at1 hl) ?_
  refine gf_X4_21 hC rfl hK hP 0 rfl rfl dX4_init_76 ?_
  refine lv_iload_n hx hb dX4_init_79 rfl (lv_at0 hl) ?_
  refine lv_iconst (v := 4) hx hb dX4_init_80 (by decide) ?_
  refine ast hC hK hP hD hS 4 (ws' := [(h0, oX4 q9109 q9110 q9111 q9112 q9113 q9114), (q9109, iA G 4 (upd (upd (upd (upd (fun _ => 0) 0 (-1)) 1 (-1)) 2 (-1)) 3 (-1))), (q9110, iA G 4 (fun _ => 0)), (q9111, iA G 160 (fun _ => 0)), (q9112, iA G 4 (upd (upd (fun _ => 0) 0 4) 1 4)), (q9113, iA G 4 (fun _ => 0)), (q9114, iA G 4 (fun _ => 0))]) rfl (vin (by decide +kernel)) (k := 1) (by decide +kernel) (rfl) dX4_init_81 (fun H locs hP hD hS => ?_)
  refine lv_iinc (v := 2) (lv' := [(1, .int 2), (0, .ref h0)]) hx hb dX4_init_82 hl (k := 0) rfl (by decide) (by decide) rfl (fun ls hl => ?_)
  refine lv_goto (tgt := 70) hx hb dX4_init_85 (by decide) ?_
  refine lv_iload_n hx hb dX4_init_70 rfl (lv_at0 hl) ?_
  refine lv_iconst (v := 4) hx hb dX4_init_71 (by decide) ?_
  refine lv_icmp_ge (tgt := 88) hx hb dX4_init_72 (by decide) (fun c9 => absurd c9 (by decide)) (fun _ => ?_)
  refine lv_aload_n hx hb dX4_init_75 rfl (lv_at1 hl) ?_
  refine gf_X4_21 hC rfl hK hP 0 rfl rfl dX4_init_76 ?_
  refine lv_iload_n hx hb dX4_init_79 rfl (lv_at0 hl) ?_
  refine lv_iconst (v := 4) hx hb dX4_init_80 (by decide) ?_
  refine ast hC hK hP hD hS 4 (ws' := [(h0, oX4 q9109 q9110 q9111 q9112 q9113 q9114), (q9109, iA G 4 (upd (upd (upd (upd (fun _ => 0) 0 (-1)) 1 (-1)) 2 (-1)) 3 (-1))), (q9110, iA G 4 (fun _ => 0)), (q9111, iA G 160 (fun _ => 0)), (q9112, iA G 4 (upd (upd (upd (fun _ => 0) 0 4) 1 4) 2 4)), (q9113, iA G 4 (fun _ => 0)), (q9114, iA G 4 (fun _ => 0))]) rfl (vin (by decide +kernel)) (k := 2) (by decide +kernel) (rfl) dX4_init_81 (fun H locs hP hD hS => ?_)
  refine lv_iinc (v := 3) (lv' := [(1, .int 3), (0, .ref h0)]) hx hb dX4_init_82 hl (k := 0) rfl (by decide) (by decide) rfl (fun ls hl => ?_)
  refine lv_goto (tgt := 70) hx hb dX4_init_85 (by decide) ?_
  refine lv_iload_n hx hb dX4_init_70 rfl (lv_at0 hl) ?_
  refine lv_iconst (v := 4) hx hb dX4_init_71 (by decide) ?_
  refine lv_icmp_ge (tgt := 88) hx hb dX4_init_72 (by decide) (fun c9 => absurd c9 (by decide)) (fun _ => ?_)
  refine lv_aload_n hx hb dX4_init_75 rfl (lv_at1 hl) ?_
  refine gf_X4_21 hC rfl hK hP 0 rfl rfl dX4_init_76 ?_
  refine lv_iload_n hx hb dX4_init_79 rfl (lv_at0 hl) ?_
  refine lv_iconst (v := 4) hx hb dX4_init_80 (by decide) ?_
  refine ast hC hK hP hD hS 4 (ws' := [(h0, oX4 q9109 q9110 q9111 q9112 q9113 q9114), (q9109, iA G 4 (upd (upd (upd (upd (fun _ => 0) 0 (-1)) 1 (-1)) 2 (-1)) 3 (-1))), (q9110, iA G 4 (fun _ => 0)), (q9111, iA G 160 (fun _ => 0)), (q9112, iA G 4 (upd (upd (upd (upd (fun _ => 0) 0 4) 1 4) 2 4) 3 4)), (q9113, iA G 4 (fun _ => 0)), (q9114, iA G 4 (fun _ => 0))]) rfl (vin (by decide +kernel)) (k := 3) (by decide +kernel) (rfl) dX4_init_81 (fun H locs hP hD hS => ?_)
  refine lv_iinc (v := 4) (lv' := [(1, .int 4), (0, .ref h0)]) hx hb dX4_init_82 hl (k := 0) rfl (by decide) (by decide) rfl (fun ls hl => ?_)
  refine lv_goto (tgt := 70) hx hb dX4_init_85 (by decide) ?_
  refine lv_iload_n hx hb dX4_init_70 rfl (lv_at0 hl) ?_
  refine lv_iconst (v := 4) hx hb dX4_init_71 (by decide) ?_
  refine lv_icmp_ge (tgt := 88) hx hb dX4_init_72 (by decide) (fun _ => ?_) (fun c9 => absurd (by decide) c9)
  exact toQ hQ0 (RV hC hP hD hS [0, 1, 2, 3, 4, 5, 6] (fun k9 => ([q9109, q9110, q9111, q9112, q9113, q9114] : List Nat).getD k9 0) rfl rfl (by decide) (trivial) dX4_init_88)
def K_c_De_init (l : Launch) (G : GG) (h0 : Nat) (bk : Nat) : Prop := MV l G yX2_init cX2_init 2 2 1 30 [.ref h0, .ref bk] [(h0, .inr (2, [.null, .null, .int 0, .int 0, .int 0, .int 0, .int 0, .int 0]))] (fun u : Nat => True) (fun u : Nat => [(h0, oX2 bk u 0 0 0 0 0 0), (u, iA G 30 (fun _ => 0))])
set_option maxHeartbeats 4000000 in
set_option maxRecDepth 100000 in
theorem c_De_init (l : Launch) (G : GG) (h0 : Nat) (bk : Nat) : K_c_De_init l G h0 bk := by
  refine MV.start (by decide +kernel) (Nat.le_of_ble_eq_true rfl) ?_
  intro p e s m below meth c A ls hC hK hP hD hS hA hl
  refine absQ (fun Q0 hQ0 => ?_)
  have hl : lv_has ls 2 [(0, .ref h0), (1, .ref bk)] := hl
  refine Kan8 hC (fun hx hb hr hml hB hown hlocks hnm => ?_)
  refine lv_aload_n hx hb dX2_init_0 rfl (lv_at0 hl) ?_
  refine W.objInit hx hb hown (hB _ m_268) (hB _ m_128) (hB _ m_129) rfl (by rw [hml]; exact hl.1) rfl dX2_init_1 (Nat.le_of_ble_eq_true rfl) (Nat.le_of_ble_eq_true rfl) ?_
  refine W.eq (g2 := F0 m 4 ls []) rfl ?_
  refine lv_aload_n hx hb dX2_init_4 rfl (lv_at0 hl) ?_
  refine lv_bipush (v := 30) hx hb dX2_init_5 (by decide) ?_
  refine newI hC hK hP hD hS hA m_148 (by decide) (N := 30) (by decide +kernel) (Nat.le_of_ble_eq_true rfl) (by decide) (Nat.le_of_ble_eq_true rfl) dX2_init_7 (fun q9115 H hP hD hS => ?_)
  refine Kpdr (ws := [(h0, .inr (2, [.null, .null, .int 0, .int 0, .int 0, .int 0, .int 0, .int 0])), (q9115, iA G 30 (fun _ => 0))]) hP hD (fun hP hD => ?_)
  refine Wcast (c1 := 1) (s1 := 30) rfl rfl ?_
  refine pf_X2_11 hC rfl rfl hK hP hD hS 0 (ws' := [(h0, .inr (2, [.null, .ref q9115, .int 0, .int 0, .int 0, .int 0, .int 0, .int 0])), (q9115, iA G 30 (fun _ => 0))]) rfl (Nat.le_of_ble_eq_true rfl) rfl rfl rfl dX2_init_9 (fun H locs hP hD hS => ?_)
  refine lv_aload_n hx hb dX2_init_12 rfl (lv_at0 hl) ?_
  refine lv_aload_n hx hb dX2_init_13 rfl (lv_at1 hl) ?_
  refine pf_X2_15 hC rfl rfl hK hP hD hS 0 (ws' := [(h0, oX2 bk q9115 0 0 0 0 0 0), (q9115, iA G 30 (fun _ => 0))]) rfl (Nat.le_of_ble_eq_true rfl) rfl rfl rfl dX2_init_14 (fun H locs hP hD hS => ?_)
  refine lv_aload_n hx hb dX2_init_17 rfl (lv_at0 hl) ?_
  refine lv_iconst (v := 0) hx hb dX2_init_18 (by decide) ?_
  refine pf_X2_19 hC rfl hK hP hD hS 0 (ws' := [(h0, oX2 bk q9115 0 0 0 0 0 0), (q9115, iA G 30 (fun _ => 0))]) rfl (Nat.le_of_ble_eq_true rfl) rfl rfl rfl dX2_init_19 (fun H locs hP hD hS => ?_)
  refine lv_aload_n hx hb dX2_init_22 rfl (lv_at0 hl) ?_
  refine lv_iconst (v := 0) hx hb dX2_init_23 (by decide) ?_
  refine pf_X2_23 hC rfl hK hP hD hS 0 (ws' := [(h0, oX2 bk q9115 0 0 0 0 0 0), (q9115, iA G 30 (fun _ => 0))]) rfl (Nat.le_of_ble_eq_true rfl) rfl rfl rfl dX2_init_24 (fun H locs hP hD hS => ?_)
  refine lv_aload_n hx hb dX2_init_27 rfl (lv_at0 hl) ?_
  refine lv_iconst (v := 0) hx hb dX2_init_28 (by decide) ?_
  refine pf_X2_26 hC rfl hK hP hD hS 0 (ws' := [(h0, oX2 bk q9115 0 0 0 0 0 0), (q9115, iA G 30 (fun _ => 0))]) rfl (Nat.le_of_ble_eq_true rfl) rfl rfl rfl dX2_init_29 (fun H locs hP hD hS => ?_)
  refine lv_aload_n hx hb dX2_init_32 rfl (lv_at0 hl) ?_
  refine lv_iconst (v := 0) hx hb dX2_init_33 (by decide) ?_
  refine pf_X2_29 hC rfl hK hP hD hS 0 (ws' := [(h0, oX2 bk q9115 0 0 0 0 0 0), (q9115, iA G 30 (fun _ => 0))]) rfl (Nat.le_of_ble_eq_true rfl) rfl rfl rfl dX2_init_34 (fun H locs hP hD hS => ?_)
  refine lv_aload_n hx hb dX2_init_37 rfl (lv_at0 hl) ?_
  refine lv_iconst (v := 0) hx hb dX2_init_38 (by decide) ?_
  refine pf_X2_32 hC rfl hK hP hD hS 0 (ws' := [(h0, oX2 bk q9115 0 0 0 0 0 0), (q9115, iA G 30 (fun _ => 0))]) rfl (Nat.le_of_ble_eq_true rfl) rfl rfl rfl dX2_init_39 (fun H locs hP hD hS => ?_)
  refine lv_aload_n hx hb dX2_init_42 rfl (lv_at0 hl) ?_
  refine lv_iconst (v := 0) hx hb dX2_init_43 (by decide) ?_
  refine pf_X2_35 hC rfl hK hP hD hS 0 (ws' := [(h0, oX2 bk q9115 0 0 0 0 0 0), (q9115, iA G 30 (fun _ => 0))]) rfl (Nat.le_of_ble_eq_true rfl) rfl (by decide +kernel) (by decide +kernel) dX2_init_44 (fun H locs hP hD hS => ?_)
  exact toQ hQ0 (RV hC hP hD hS [0, 1] q9115 rfl rfl (by decide) (trivial) dX2_init_47)
def K_c_init (l : Launch) (G : GG) (h0 : Nat) : Prop := MV l G yX11_init cX11_init 3 5 102 5346 [.ref h0] [(h0, .inr (11, [.null, .null, .int 0, .null, .null, .null, .null, .null, .null, .null, .null]))] (fun u : (Nat → Nat) × (Nat → Option Nat) => u.2 0 = some (u.1 59) ∧ u.2 1 = some (u.1 61) ∧ u.2 2 = some (u.1 63) ∧ u.2 3 = some (u.1 65) ∧ u.2 4 = some (u.1 67) ∧ u.2 5 = some (u.1 69) ∧ u.2 6 = some (u.1 71) ∧ u.2 7 = some (u.1 73) ∧ u.2 8 = some (u.1 75) ∧ u.2 9 = some (u.1 77) ∧ u.2 10 = some (u.1 79) ∧ u.2 11 = some (u.1 81) ∧ u.2 12 = some (u.1 83)) (fun u : (Nat → Nat) × (Nat → Option Nat) => [(h0, oX11 (u.1 0) (u.1 1) 0 (u.1 2) (u.1 3) (u.1 4) (u.1 5) (u.1 6) (u.1 7) (u.1 8) (u.1 9)), ((u.1 0), oX0 (u.1 10) (u.1 11) (u.1 12) (u.1 13) (u.1 14) (u.1 15) (u.1 16) (u.1 17) (u.1 18) (u.1 19) 0 (-1) 3 24), ((u.1 10), oX8 10 2 (u.1 20) 0), ((u.1 20), iA G 20 (fun _ => 0)), ((u.1 11), oX8 12 6 (u.1 21) 0), ((u.1 21), iA G 72 (fun _ => 0)), ((u.1 12), oX8 24 3 (u.1 22) 0), ((u.1 22), iA G 72 (fun _ => 0)), ((u.1 13), oX8 8 3 (u.1 23) 0), ((u.1 23), iA G 24 (fun _ => 0)), ((u.1 14), oX8 72 7 (u.1 24) 0), ((u.1 24), iA G 504 (fun _ => 0)), ((u.1 15), oX8 960 1 (u.1 25) 0), ((u.1 25), iA G 960 (fun _ => 0)), ((u.1 16), oX8 16 8 (u.1 26) 0), ((u.1 26), iA G 128 (fun _ => 0)), ((u.1 17), oX8 12 4 (u.1 27) 0), ((u.1 27), iA G 48 (fun _ => 0)), ((u.1 18), oX8 16 3 (u.1 28) 0), ((u.1 28), iA G 48 (fun _ => 0)), ((u.1 19), oX8 7 2 (u.1 29) 0), ((u.1 29), iA G 14 (fun _ => 0)), ((u.1 1), oX0 (u.1 30) (u.1 31) (u.1 32) (u.1 33) (u.1 34) (u.1 35) (u.1 36) (u.1 37) (u.1 38) (u.1 39) 0 (-1) 3 24), ((u.1 30), oX8 10 2 (u.1 40) 0), ((u.1 40), iA G 20 (fun _ => 0)), ((u.1 31), oX8 12 6 (u.1 41) 0), ((u.1 41), iA G 72 (fun _ => 0)), ((u.1 32), oX8 24 3 (u.1 42) 0), ((u.1 42), iA G 72 (fun _ => 0)), ((u.1 33), oX8 8 3 (u.1 43) 0), ((u.1 43), iA G 24 (fun _ => 0)), ((u.1 34), oX8 72 7 (u.1 44) 0), ((u.1 44), iA G 504 (fun _ => 0)), ((u.1 35), oX8 960 1 (u.1 45) 0), ((u.1 45), iA G 960 (fun _ => 0)), ((u.1 36), oX8 16 8 (u.1 46) 0), ((u.1 46), iA G 128 (fun _ => 0)), ((u.1 37), oX8 12 4 (u.1 47) 0), ((u.1 47), iA G 48 (fun _ => 0)), ((u.1 38), oX8 16 3 (u.1 48) 0), ((u.1 48), iA G 48 (fun _ => 0)), ((u.1 39), oX8 7 2 (u.1 49) 0), ((u.1 49), iA G 14 (fun _ => 0)), ((u.1 2), oX7 (u.1 0) (u.1 50) (u.1 51) (u.1 52) (u.1 53) (u.1 54) (u.1 55) (u.1 56) 0), ((u.1 50), oX1 (u.1 57)), ((u.1 57), iA G 36 (fun _ => 0)), ((u.1 51), iA G 12 (fun _ => 0)), ((u.1 52), iA G 12 (fun _ => 0)), ((u.1 53), iA G 12 (fun _ => 0)), ((u.1 54), iA G 12 (fun _ => 0)), ((u.1 55), iA G 12 (fun _ => 0)), ((u.1 56), iA G 12 (fun _ => 0)), ((u.1 3), oX3 (u.1 0) (u.1 58) 0 0 0), ((u.1 58), cA G 13 u.2), ((u.1 59), oX1 (u.1 60)), ((u.1 60), iA G 36 (fun _ => 0)), ((u.1 61), oX1 (u.1 62)), ((u.1 62), iA G 36 (fun _ => 0)), ((u.1 63), oX1 (u.1 64)), ((u.1 64), iA G 36 (fun _ => 0)), ((u.1 65), oX1 (u.1 66)), ((u.1 66), iA G 36 (fun _ => 0)), ((u.1 67), oX1 (u.1 68)), ((u.1 68), iA G 36 (fun _ => 0)), ((u.1 69), oX1 (u.1 70)), ((u.1 70), iA G 36 (fun _ => 0)), ((u.1 71), oX1 (u.1 72)), ((u.1 72), iA G 36 (fun _ => 0)), ((u.1 73), oX1 (u.1 74)), ((u.1 74), iA G 36 (fun _ => 0)), ((u.1 75), oX1 (u.1 76)), ((u.1 76), iA G 36 (fun _ => 0)), ((u.1 77), oX1 (u.1 78)), ((u.1 78), iA G 36 (fun _ => 0)), ((u.1 79), oX1 (u.1 80)), ((u.1 80), iA G 36 (fun _ => 0)), ((u.1 81), oX1 (u.1 82)), ((u.1 82), iA G 36 (fun _ => 0)), ((u.1 83), oX1 (u.1 84)), ((u.1 84), iA G 36 (fun _ => 0)), ((u.1 4), oX6 (u.1 0) (u.1 2) (u.1 85) (u.1 86) 0 0 0), ((u.1 85), iA G 5 (fun _ => 0)), ((u.1 86), iA G 8 (fun _ => 0)), ((u.1 5), oX9 (u.1 0) (u.1 2) 0 0 0 0), ((u.1 6), oX10 (u.1 87) 0 (u.1 88) (u.1 89) (-1) 0 0 (-1)), ((u.1 87), iA G 240 (fun _ => 0)), ((u.1 88), oX8 9 7 (u.1 90) 0), ((u.1 90), iA G 63 (fun _ => 0)), ((u.1 89), oX8 120 1 (u.1 91) 0), ((u.1 91), iA G 120 (fun _ => 0)), ((u.1 7), oX5 (u.1 0) (u.1 92) (u.1 93) 0 0 0), ((u.1 92), oX8 7 2 (u.1 94) 0), ((u.1 94), iA G 14 (fun _ => 0)), ((u.1 93), iA G 128 (fun _ => 0)), ((u.1 8), oX4 (u.1 95) (u.1 96) (u.1 97) (u.1 98) (u.1 99) (u.1 100)), ((u.1 95), iA G 4 (upd (upd (upd (upd (fun _ => 0) 0 (-1)) 1 (-1)) 2 (-1)) 3 (-1))), ((u.1 96), iA G 4 (fun _ => 0)), ((u.1 97), iA G 160 (fun _ => 0)), ((u.1 98), iA G 4 (upd (upd (upd (upd (fun _ => 0) 0 4) 1 4) 2 4) 3 4)), ((u.1 99), iA G 4 (fun _ => 0)), ((u.1 100), iA G 4 (fun _ => 0)), ((u.1 9), oX2 (u.1 0) (u.1 101) 0 0 0 0 0 0), ((u.1 101), iA G 30 (fun _ => 0))])
set_option maxHeartbeats 4000000 in
set_option maxRecDepth 100000 in
theorem c_init (l : Launch) (G : GG) (h0 : Nat) : K_c_init l G h0 := by
  refine MV.start (by decide +kernel) (Nat.le_of_ble_eq_true rfl) ?_
  intro p e s m below meth c A ls hC hK hP hD hS hA hl
  refine absQ (fun Q0 hQ0 => ?_)
  have hl : lv_has ls 3 [(0, .ref h0)] := hl
  refine Kan8 hC (fun hx hb hr hml hB hown hlocks hnm => ?_)
  refine lv_aload_n hx hb dX11_init_0 rfl (lv_at0 hl) ?_
  refine W.objInit hx hb hown (hB _ m_127) (hB _ m_128) (hB _ m_129) rfl (by rw [hml]; exact hl.1) rfl dX11_init_1 (Nat.le_of_ble_eq_true rfl) (Nat.le_of_ble_eq_true rfl) ?_
  refine W.eq (g2 := F0 m 4 ls []) rfl ?_
  refine nw_X11_7 hC rfl hK hP hD hS hA (Nat.le_of_ble_eq_true rfl) (Nat.le_of_ble_eq_true rfl) dX11_init_4 (fun q9116 H hP hD hS => ?_)
  refine Kpdr (ws := [(h0, .inr (11, [.null, .null, .int 0, .null, .null, .null, .null, .null, .null, .null, .null])), (q9116, .inr (0, [.null, .null, .null, .null, .null, .null, .null, .null, .null, .null, .int 0, .int 0, .int 0, .int 0]))]) hP hD (fun hP hD => ?_)
  refine Wcast (c1 := 1) (s1 := 14) rfl rfl ?_
  refine lv_dup hx hb dX11_init_7 rfl ?_
  refine vIN (wr := [(h0, .inr (11, [.null, .null, .int 0, .null, .null, .null, .null, .null, .null, .null, .null]))]) hC hK hl hP hD hS hA (c_B_init l G q9116) si_X11_9 [1] [0] sm_1 fm_1 nd_1 sm_0 nd_0 dj_1__0 rfl rfl (Nat.le_of_ble_eq_true rfl) rm_5_3_1 ⟨by first | exact Nat.le_of_ble_eq_true rfl | omega, by first | exact Nat.le_of_ble_eq_true rfl | omega⟩ dX11_init_8 (fun u9118 H locs hr9117 hP hD hS => ?_)
  refine Kpdr (ws := [(h0, .inr (11, [.null, .null, .int 0, .null, .null, .null, .null, .null, .null, .null, .null])), (q9116, oX0 (u9118 0) (u9118 2) (u9118 4) (u9118 6) (u9118 8) (u9118 10) (u9118 12) (u9118 14) (u9118 16) (u9118 18) 0 (-1) 3 24), ((u9118 0), oX8 10 2 (u9118 1) 0), ((u9118 1), iA G 20 (fun _ => 0)), ((u9118 2), oX8 12 6 (u9118 3) 0), ((u9118 3), iA G 72 (fun _ => 0)), ((u9118 4), oX8 24 3 (u9118 5) 0), ((u9118 5), iA G 72 (fun _ => 0)), ((u9118 6), oX8 8 3 (u9118 7) 0), ((u9118 7), iA G 24 (fun _ => 0)), ((u9118 8), oX8 72 7 (u9118 9) 0), ((u9118 9), iA G 504 (fun _ => 0)), ((u9118 10), oX8 960 1 (u9118 11) 0), ((u9118 11), iA G 960 (fun _ => 0)), ((u9118 12), oX8 16 8 (u9118 13) 0), ((u9118 13), iA G 128 (fun _ => 0)), ((u9118 14), oX8 12 4 (u9118 15) 0), ((u9118 15), iA G 48 (fun _ => 0)), ((u9118 16), oX8 16 3 (u9118 17) 0), ((u9118 17), iA G 48 (fun _ => 0)), ((u9118 18), oX8 7 2 (u9118 19) 0), ((u9118 19), iA G 14 (fun _ => 0))]) hP hD (fun hP hD => ?_)
  refine Wcast (c1 := 21) (s1 := 1944) rfl rfl ?_
  refine lv_astore_n (lv' := [(1, .ref q9116), (0, .ref h0)]) hx hb dX11_init_11 rfl hl (by decide) rfl (fun ls hl => ?_)
  refine nw_X11_10 hC rfl hK hP hD hS hA (Nat.le_of_ble_eq_true rfl) (Nat.le_of_ble_eq_true rfl) dX11_init_12 (fun q9119 H hP hD hS => ?_)
  refine Kpdr (ws := [(h0, .inr (11, [.null, .null, .int 0, .null, .null, .null, .null, .null, .null, .null, .null])), (q9116, oX0 (u9118 0) (u9118 2) (u9118 4) (u9118 6) (u9118 8) (u9118 10) (u9118 12) (u9118 14) (u9118 16) (u9118 18) 0 (-1) 3 24), ((u9118 0), oX8 10 2 (u9118 1) 0), ((u9118 1), iA G 20 (fun _ => 0)), ((u9118 2), oX8 12 6 (u9118 3) 0), ((u9118 3), iA G 72 (fun _ => 0)), ((u9118 4), oX8 24 3 (u9118 5) 0), ((u9118 5), iA G 72 (fun _ => 0)), ((u9118 6), oX8 8 3 (u9118 7) 0), ((u9118 7), iA G 24 (fun _ => 0)), ((u9118 8), oX8 72 7 (u9118 9) 0), ((u9118 9), iA G 504 (fun _ => 0)), ((u9118 10), oX8 960 1 (u9118 11) 0), ((u9118 11), iA G 960 (fun _ => 0)), ((u9118 12), oX8 16 8 (u9118 13) 0), ((u9118 13), iA G 128 (fun _ => 0)), ((u9118 14), oX8 12 4 (u9118 15) 0), ((u9118 15), iA G 48 (fun _ => 0)), ((u9118 16), oX8 16 3 (u9118 17) 0), ((u9118 17), iA G 48 (fun _ => 0)), ((u9118 18), oX8 7 2 (u9118 19) 0), ((u9118 19), iA G 14 (fun _ => 0)), (q9119, .inr (7, [.null, .null, .null, .null, .null, .null, .null, .null, .int 0]))]) hP hD (fun hP hD => ?_)
  refine Wcast (c1 := 22) (s1 := 1953) rfl rfl ?_
  refine lv_dup hx hb dX11_init_15 rfl ?_
  refine lv_aload_n hx hb dX11_init_16 rfl (lv_at0 hl) ?_
  refine vI (wr := [(h0, .inr (11, [.null, .null, .int 0, .null, .null, .null, .null, .null, .null, .null, .null])), (q9116, oX0 (u9118 0) (u9118 2) (u9118 4) (u9118 6) (u9118 8) (u9118 10) (u9118 12) (u9118 14) (u9118 16) (u9118 18) 0 (-1) 3 24), ((u9118 0), oX8 10 2 (u9118 1) 0), ((u9118 1), iA G 20 (fun _ => 0)), ((u9118 2), oX8 12 6 (u9118 3) 0), ((u9118 3), iA G 72 (fun _ => 0)), ((u9118 4), oX8 24 3 (u9118 5) 0), ((u9118 5), iA G 72 (fun _ => 0)), ((u9118 6), oX8 8 3 (u9118 7) 0), ((u9118 7), iA G 24 (fun _ => 0)), ((u9118 8), oX8 72 7 (u9118 9) 0), ((u9118 9), iA G 504 (fun _ => 0)), ((u9118 10), oX8 960 1 (u9118 11) 0), ((u9118 11), iA G 960 (fun _ => 0)), ((u9118 12), oX8 16 8 (u9118 13) 0), ((u9118 13), iA G 128 (fun _ => 0)), ((u9118 14), oX8 12 4 (u9118 15) 0), ((u9118 15), iA G 48 (fun _ => 0)), ((u9118 16), oX8 16 3 (u9118 17) 0), ((u9118 17), iA G 48 (fun _ => 0)), ((u9118 18), oX8 7 2 (u9118 19) 0), ((u9118 19), iA G 14 (fun _ => 0))]) hC hK hl hP hD hS hA (c_S_init l G q9119 q9116) si_X11_12 [22] [0, 1, 2, 3, 4, 5, 6, 7, 8, 9, 10, 11, 12, 13, 14, 15, 16, 17, 18, 19, 20, 21] sm_22 fm_22 nd_22 sm_0_1_2_3_4_5_6_7_8_9_10_11_12_13_14_15_16_17_18_19_20_21 nd_0_1_2_3_4_5_6_7_8_9_10_11_12_13_14_15_16_17_18_19_20_21 dj_22__0_1_2_3_4_5_6_7_8_9_10_11_12_13_14_15_16_17_18_19_20_21 rfl rfl (Nat.le_of_ble_eq_true rfl) rm_5_3_2 ⟨by first | exact Nat.le_of_ble_eq_true rfl | omega, by first | exact Nat.le_of_ble_eq_true rfl | omega⟩ dX11_init_17 (fun u9121 H locs hr9120 hP hD hS => ?_)
  refine Kpdr (ws := [(h0, .inr (11, [.null, .null, .int 0, .null, .null, .null, .null, .null, .null, .null, .null])), (q9116, oX0 (u9118 0) (u9118 2) (u9118 4) (u9118 6) (u9118 8) (u9118 10) (u9118 12) (u9118 14) (u9118 16) (u9118 18) 0 (-1) 3 24), ((u9118 0), oX8 10 2 (u9118 1) 0), ((u9118 1), iA G 20 (fun _ => 0)), ((u9118 2), oX8 12 6 (u9118 3) 0), ((u9118 3), iA G 72 (fun _ => 0)), ((u9118 4), oX8 24 3 (u9118 5) 0), ((u9118 5), iA G 72 (fun _ => 0)), ((u9118 6), oX8 8 3 (u9118 7) 0), ((u9118 7), iA G 24 (fun _ => 0)), ((u9118 8), oX8 72 7 (u9118 9) 0), ((u9118 9), iA G 504 (fun _ => 0)), ((u9118 10), oX8 960 1 (u9118 11) 0), ((u9118 11), iA G 960 (fun _ => 0)), ((u9118 12), oX8 16 8 (u9118 13) 0), ((u9118 13), iA G 128 (fun _ => 0)), ((u9118 14), oX8 12 4 (u9118 15) 0), ((u9118 15), iA G 48 (fun _ => 0)), ((u9118 16), oX8 16 3 (u9118 17) 0), ((u9118 17), iA G 48 (fun _ => 0)), ((u9118 18), oX8 7 2 (u9118 19) 0), ((u9118 19), iA G 14 (fun _ => 0)), (q9119, oX7 q9116 (u9121 0) (u9121 2) (u9121 3) (u9121 4) (u9121 5) (u9121 6) (u9121 7) 0), ((u9121 0), oX1 (u9121 1)), ((u9121 1), iA G 36 (fun _ => 0)), ((u9121 2), iA G 12 (fun _ => 0)), ((u9121 3), iA G 12 (fun _ => 0)), ((u9121 4), iA G 12 (fun _ => 0)), ((u9121 5), iA G 12 (fun _ => 0)), ((u9121 6), iA G 12 (fun _ => 0)), ((u9121 7), iA G 12 (fun _ => 0))]) hP hD (fun hP hD => ?_)
  refine Wcast (c1 := 30) (s1 := 2062) rfl rfl ?_
  refine lv_astore_n (lv' := [(2, .ref q9119), (1, .ref q9116), (0, .ref h0)]) hx hb dX11_init_20 rfl hl (by decide) rfl (fun ls hl => ?_)
  refine lv_aload_n hx hb dX11_init_21 rfl (lv_at2 hl) ?_
  refine lv_aload_n hx hb dX11_init_22 rfl (lv_at1 hl) ?_
  refine pf_X11_15 hC rfl rfl hK hP hD hS 0 (ws' := [(h0, .inr (11, [.ref q9116, .null, .int 0, .null, .null, .null, .null, .null, .null, .null, .null])), (q9116, oX0 (u9118 0) (u9118 2) (u9118 4) (u9118 6) (u9118 8) (u9118 10) (u9118 12) (u9118 14) (u9118 16) (u9118 18) 0 (-1) 3 24), ((u9118 0), oX8 10 2 (u9118 1) 0), ((u9118 1), iA G 20 (fun _ => 0)), ((u9118 2), oX8 12 6 (u9118 3) 0), ((u9118 3), iA G 72 (fun _ => 0)), ((u9118 4), oX8 24 3 (u9118 5) 0), ((u9118 5), iA G 72 (fun _ => 0)), ((u9118 6), oX8 8 3 (u9118 7) 0), ((u9118 7), iA G 24 (fun _ => 0)), ((u9118 8), oX8 72 7 (u9118 9) 0), ((u9118 9), iA G 504 (fun _ => 0)), ((u9118 10), oX8 960 1 (u9118 11) 0), ((u9118 11), iA G 960 (fun _ => 0)), ((u9118 12), oX8 16 8 (u9118 13) 0), ((u9118 13), iA G 128 (fun _ => 0)), ((u9118 14), oX8 12 4 (u9118 15) 0), ((u9118 15), iA G 48 (fun _ => 0)), ((u9118 16), oX8 16 3 (u9118 17) 0), ((u9118 17), iA G 48 (fun _ => 0)), ((u9118 18), oX8 7 2 (u9118 19) 0), ((u9118 19), iA G 14 (fun _ => 0)), (q9119, oX7 q9116 (u9121 0) (u9121 2) (u9121 3) (u9121 4) (u9121 5) (u9121 6) (u9121 7) 0), ((u9121 0), oX1 (u9121 1)), ((u9121 1), iA G 36 (fun _ => 0)), ((u9121 2), iA G 12 (fun _ => 0)), ((u9121 3), iA G 12 (fun _ => 0)), ((u9121 4), iA G 12 (fun _ => 0)), ((u9121 5), iA G 12 (fun _ => 0)), ((u9121 6), iA G 12 (fun _ => 0)), ((u9121 7), iA G 12 (fun _ => 0))]) rfl (Nat.le_of_ble_eq_true rfl) rfl rfl rfl dX11_init_23 (fun H locs hP hD hS => ?_)
  refine lv_aload_n hx hb dX11_init_26 rfl (lv_at2 hl) ?_
  refine nw_X11_7 hC rfl hK hP hD hS hA (Nat.le_of_ble_eq_true rfl) (Nat.le_of_ble_eq_true rfl) dX11_init_27 (fun q9122 H hP hD hS => ?_)
  refine Kpdr (ws := [(h0, .inr (11, [.ref q9116, .null, .int 0, .null, .null, .null, .null, .null, .null, .null, .null])), (q9116, oX0 (u9118 0) (u9118 2) (u9118 4) (u9118 6) (u9118 8) (u9118 10) (u9118 12) (u9118 14) (u9118 16) (u9118 18) 0 (-1) 3 24), ((u9118 0), oX8 10 2 (u9118 1) 0), ((u9118 1), iA G 20 (fun _ => 0)), ((u9118 2), oX8 12 6 (u9118 3) 0), ((u9118 3), iA G 72 (fun _ => 0)), ((u9118 4), oX8 24 3 (u9118 5) 0), ((u9118 5), iA G 72 (fun _ => 0)), ((u9118 6), oX8 8 3 (u9118 7) 0), ((u9118 7), iA G 24 (fun _ => 0)), ((u9118 8), oX8 72 7 (u9118 9) 0), ((u9118 9), iA G 504 (fun _ => 0)), ((u9118 10), oX8 960 1 (u9118 11) 0), ((u9118 11), iA G 960 (fun _ => 0)), ((u9118 12), oX8 16 8 (u9118 13) 0), ((u9118 13), iA G 128 (fun _ => 0)), ((u9118 14), oX8 12 4 (u9118 15) 0), ((u9118 15), iA G 48 (fun _ => 0)), ((u9118 16), oX8 16 3 (u9118 17) 0), ((u9118 17), iA G 48 (fun _ => 0)), ((u9118 18), oX8 7 2 (u9118 19) 0), ((u9118 19), iA G 14 (fun _ => 0)), (q9119, oX7 q9116 (u9121 0) (u9121 2) (u9121 3) (u9121 4) (u9121 5) (u9121 6) (u9121 7) 0), ((u9121 0), oX1 (u9121 1)), ((u9121 1), iA G 36 (fun _ => 0)), ((u9121 2), iA G 12 (fun _ => 0)), ((u9121 3), iA G 12 (fun _ => 0)), ((u9121 4), iA G 12 (fun _ => 0)), ((u9121 5), iA G 12 (fun _ => 0)), ((u9121 6), iA G 12 (fun _ => 0)), ((u9121 7), iA G 12 (fun _ => 0)), (q9122, .inr (0, [.null, .null, .null, .null, .null, .null, .null, .null, .null, .null, .int 0, .int 0, .int 0, .int 0]))]) hP hD (fun hP hD => ?_)
  refine Wcast (c1 := 31) (s1 := 2076) rfl rfl ?_
  refine lv_dup hx hb dX11_init_30 rfl ?_
  refine vIN (wr := [(h0, .inr (11, [.ref q9116, .null, .int 0, .null, .null, .null, .null, .null, .null, .null, .null])), (q9116, oX0 (u9118 0) (u9118 2) (u9118 4) (u9118 6) (u9118 8) (u9118 10) (u9118 12) (u9118 14) (u9118 16) (u9118 18) 0 (-1) 3 24), ((u9118 0), oX8 10 2 (u9118 1) 0), ((u9118 1), iA G 20 (fun _ => 0)), ((u9118 2), oX8 12 6 (u9118 3) 0), ((u9118 3), iA G 72 (fun _ => 0)), ((u9118 4), oX8 24 3 (u9118 5) 0), ((u9118 5), iA G 72 (fun _ => 0)), ((u9118 6), oX8 8 3 (u9118 7) 0), ((u9118 7), iA G 24 (fun _ => 0)), ((u9118 8), oX8 72 7 (u9118 9) 0), ((u9118 9), iA G 504 (fun _ => 0)), ((u9118 10), oX8 960 1 (u9118 11) 0), ((u9118 11), iA G 960 (fun _ => 0)), ((u9118 12), oX8 16 8 (u9118 13) 0), ((u9118 13), iA G 128 (fun _ => 0)), ((u9118 14), oX8 12 4 (u9118 15) 0), ((u9118 15), iA G 48 (fun _ => 0)), ((u9118 16), oX8 16 3 (u9118 17) 0), ((u9118 17), iA G 48 (fun _ => 0)), ((u9118 18), oX8 7 2 (u9118 19) 0), ((u9118 19), iA G 14 (fun _ => 0)), (q9119, oX7 q9116 (u9121 0) (u9121 2) (u9121 3) (u9121 4) (u9121 5) (u9121 6) (u9121 7) 0), ((u9121 0), oX1 (u9121 1)), ((u9121 1), iA G 36 (fun _ => 0)), ((u9121 2), iA G 12 (fun _ => 0)), ((u9121 3), iA G 12 (fun _ => 0)), ((u9121 4), iA G 12 (fun _ => 0)), ((u9121 5), iA G 12 (fun _ => 0)), ((u9121 6), iA G 12 (fun _ => 0)), ((u9121 7), iA G 12 (fun _ => 0))]) hC hK hl hP hD hS hA (c_B_init l G q9122) si_X11_9 [31] [0, 1, 2, 3, 4, 5, 6, 7, 8, 9, 10, 11, 12, 13, 14, 15, 16, 17, 18, 19, 20, 21, 22, 23, 24, 25, 26, 27, 28, 29, 30] sm_31 fm_31 nd_31 sm_0_1_2_3_4_5_6_7_8_9_10_11_12_13_14_15_16_17_18_19_20_21_22_23_24_25_26_27_28_29_30 nd_0_1_2_3_4_5_6_7_8_9_10_11_12_13_14_15_16_17_18_19_20_21_22_23_24_25_26_27_28_29_30 dj_31__0_1_2_3_4_5_6_7_8_9_10_11_12_13_14_15_16_17_18_19_20_21_22_23_24_25_26_27_28_29_30 rfl rfl (Nat.le_of_ble_eq_true rfl) rm_5_3_1 ⟨by first | exact Nat.le_of_ble_eq_true rfl | omega, by first | exact Nat.le_of_ble_eq_true rfl | omega⟩ dX11_init_31 (fun u9124 H locs hr9123 hP hD hS => ?_)
  refine Kpdr (ws := [(h0, .inr (11, [.ref q9116, .null, .int 0, .null, .null, .null, .null, .null, .null, .null, .null])), (q9116, oX0 (u9118 0) (u9118 2) (u9118 4) (u9118 6) (u9118 8) (u9118 10) (u9118 12) (u9118 14) (u9118 16) (u9118 18) 0 (-1) 3 24), ((u9118 0), oX8 10 2 (u9118 1) 0), ((u9118 1), iA G 20 (fun _ => 0)), ((u9118 2), oX8 12 6 (u9118 3) 0), ((u9118 3), iA G 72 (fun _ => 0)), ((u9118 4), oX8 24 3 (u9118 5) 0), ((u9118 5), iA G 72 (fun _ => 0)), ((u9118 6), oX8 8 3 (u9118 7) 0), ((u9118 7), iA G 24 (fun _ => 0)), ((u9118 8), oX8 72 7 (u9118 9) 0), ((u9118 9), iA G 504 (fun _ => 0)), ((u9118 10), oX8 960 1 (u9118 11) 0), ((u9118 11), iA G 960 (fun _ => 0)), ((u9118 12), oX8 16 8 (u9118 13) 0), ((u9118 13), iA G 128 (fun _ => 0)), ((u9118 14), oX8 12 4 (u9118 15) 0), ((u9118 15), iA G 48 (fun _ => 0)), ((u9118 16), oX8 16 3 (u9118 17) 0), ((u9118 17), iA G 48 (fun _ => 0)), ((u9118 18), oX8 7 2 (u9118 19) 0), ((u9118 19), iA G 14 (fun _ => 0)), (q9119, oX7 q9116 (u9121 0) (u9121 2) (u9121 3) (u9121 4) (u9121 5) (u9121 6) (u9121 7) 0), ((u9121 0), oX1 (u9121 1)), ((u9121 1), iA G 36 (fun _ => 0)), ((u9121 2), iA G 12 (fun _ => 0)), ((u9121 3), iA G 12 (fun _ => 0)), ((u9121 4), iA G 12 (fun _ => 0)), ((u9121 5), iA G 12 (fun _ => 0)), ((u9121 6), iA G 12 (fun _ => 0)), ((u9121 7), iA G 12 (fun _ => 0)), (q9122, oX0 (u9124 0) (u9124 2) (u9124 4) (u9124 6) (u9124 8) (u9124 10) (u9124 12) (u9124 14) (u9124 16) (u9124 18) 0 (-1) 3 24), ((u9124 0), oX8 10 2 (u9124 1) 0), ((u9124 1), iA G 20 (fun _ => 0)), ((u9124 2), oX8 12 6 (u9124 3) 0), ((u9124 3), iA G 72 (fun _ => 0)), ((u9124 4), oX8 24 3 (u9124 5) 0), ((u9124 5), iA G 72 (fun _ => 0)), ((u9124 6), oX8 8 3 (u9124 7) 0), ((u9124 7), iA G 24 (fun _ => 0)), ((u9124 8), oX8 72 7 (u9124 9) 0), ((u9124 9), iA G 504 (fun _ => 0)), ((u9124 10), oX8 960 1 (u9124 11) 0), ((u9124 11), iA G 960 (fun _ => 0)), ((u9124 12), oX8 16 8 (u9124 13) 0), ((u9124 13), iA G 128 (fun _ => 0)), ((u9124 14), oX8 12 4 (u9124 15) 0), ((u9124 15), iA G 48 (fun _ => 0)), ((u9124 16), oX8 16 3 (u9124 17) 0), ((u9124 17), iA G 48 (fun _ => 0)), ((u9124 18), oX8 7 2 (u9124 19) 0), ((u9124 19), iA G 14 (fun _ => 0))]) hP hD (fun hP hD => ?_)
  refine Wcast (c1 := 51) (s1 := 4006) rfl rfl ?_
  refine pf_X11_21 hC rfl rfl hK hP hD hS 0 (ws' := [(h0, .inr (11, [.ref q9116, .ref q9122, .int 0, .null, .null, .null, .null, .null, .null, .null, .null])), (q9116, oX0 (u9118 0) (u9118 2) (u9118 4) (u9118 6) (u9118 8) (u9118 10) (u9118 12) (u9118 14) (u9118 16) (u9118 18) 0 (-1) 3 24), ((u9118 0), oX8 10 2 (u9118 1) 0), ((u9118 1), iA G 20 (fun _ => 0)), ((u9118 2), oX8 12 6 (u9118 3) 0), ((u9118 3), iA G 72 (fun _ => 0)), ((u9118 4), oX8 24 3 (u9118 5) 0), ((u9118 5), iA G 72 (fun _ => 0)), ((u9118 6), oX8 8 3 (u9118 7) 0), ((u9118 7), iA G 24 (fun _ => 0)), ((u9118 8), oX8 72 7 (u9118 9) 0), ((u9118 9), iA G 504 (fun _ => 0)), ((u9118 10), oX8 960 1 (u9118 11) 0), ((u9118 11), iA G 960 (fun _ => 0)), ((u9118 12), oX8 16 8 (u9118 13) 0), ((u9118 13), iA G 128 (fun _ => 0)), ((u9118 14), oX8 12 4 (u9118 15) 0), ((u9118 15), iA G 48 (fun _ => 0)), ((u9118 16), oX8 16 3 (u9118 17) 0), ((u9118 17), iA G 48 (fun _ => 0)), ((u9118 18), oX8 7 2 (u9118 19) 0), ((u9118 19), iA G 14 (fun _ => 0)), (q9119, oX7 q9116 (u9121 0) (u9121 2) (u9121 3) (u9121 4) (u9121 5) (u9121 6) (u9121 7) 0), ((u9121 0), oX1 (u9121 1)), ((u9121 1), iA G 36 (fun _ => 0)), ((u9121 2), iA G 12 (fun _ => 0)), ((u9121 3), iA G 12 (fun _ => 0)), ((u9121 4), iA G 12 (fun _ => 0)), ((u9121 5), iA G 12 (fun _ => 0)), ((u9121 6), iA G 12 (fun _ => 0)), ((u9121 7), iA G 12 (fun _ => 0)), (q9122, oX0 (u9124 0) (u9124 2) (u9124 4) (u9124 6) (u9124 8) (u9124 10) (u9124 12) (u9124 14) (u9124 16) (u9124 18) 0 (-1) 3 24), ((u9124 0), oX8 10 2 (u9124 1) 0), ((u9124 1), iA G 20 (fun _ => 0)), ((u9124 2), oX8 12 6 (u9124 3) 0), ((u9124 3), iA G 72 (fun _ => 0)), ((u9124 4), oX8 24 3 (u9124 5) 0), ((u9124 5), iA G 72 (fun _ => 0)), ((u9124 6), oX8 8 3 (u9124 7) 0), ((u9124 7), iA G 24 (fun _ => 0)), ((u9124 8), oX8 72 7 (u9124 9) 0), ((u9124 9), iA G 504 (fun _ => 0)), ((u9124 10), oX8 960 1 (u9124 11) 0), ((u9124 11), iA G 960 (fun _ => 0)), ((u9124 12), oX8 16 8 (u9124 13) 0), ((u9124 13), iA G 128 (fun _ => 0)), ((u9124 14), oX8 12 4 (u9124 15) 0), ((u9124 15), iA G 48 (fun _ => 0)), ((u9124 16), oX8 16 3 (u9124 17) 0), ((u9124 17), iA G 48 (fun _ => 0)), ((u9124 18), oX8 7 2 (u9124 19) 0), ((u9124 19), iA G 14 (fun _ => 0))]) rfl (Nat.le_of_ble_eq_true rfl) rfl rfl rfl dX11_init_34 (fun H locs hP hD hS => ?_)
  refine lv_aload_n hx hb dX11_init_37 rfl (lv_at2 hl) ?_
  refine lv_iconst (v := 0) hx hb dX11_init_38 (by decide) ?_
  refine pf_X11_24 hC rfl hK hP hD hS 0 (ws' := [(h0, .inr (11, [.ref q9116, .ref q9122, .int 0, .null, .null, .null, .null, .null, .null, .null, .null])), (q9116, oX0 (u9118 0) (u9118 2) (u9118 4) (u9118 6) (u9118 8) (u9118 10) (u9118 12) (u9118 14) (u9118 16) (u9118 18) 0 (-1) 3 24), ((u9118 0), oX8 10 2 (u9118 1) 0), ((u9118 1), iA G 20 (fun _ => 0)), ((u9118 2), oX8 12 6 (u9118 3) 0), ((u9118 3), iA G 72 (fun _ => 0)), ((u9118 4), oX8 24 3 (u9118 5) 0), ((u9118 5), iA G 72 (fun _ => 0)), ((u9118 6), oX8 8 3 (u9118 7) 0), ((u9118 7), iA G 24 (fun _ => 0)), ((u9118 8), oX8 72 7 (u9118 9) 0), ((u9118 9), iA G 504 (fun _ => 0)), ((u9118 10), oX8 960 1 (u9118 11) 0), ((u9118 11), iA G 960 (fun _ => 0)), ((u9118 12), oX8 16 8 (u9118 13) 0), ((u9118 13), iA G 128 (fun _ => 0)), ((u9118 14), oX8 12 4 (u9118 15) 0), ((u9118 15), iA G 48 (fun _ => 0)), ((u9118 16), oX8 16 3 (u9118 17) 0), ((u9118 17), iA G 48 (fun _ => 0)), ((u9118 18), oX8 7 2 (u9118 19) 0), ((u9118 19), iA G 14 (fun _ => 0)), (q9119, oX7 q9116 (u9121 0) (u9121 2) (u9121 3) (u9121 4) (u9121 5) (u9121 6) (u9121 7) 0), ((u9121 0), oX1 (u9121 1)), ((u9121 1), iA G 36 (fun _ => 0)), ((u9121 2), iA G 12 (fun _ => 0)), ((u9121 3), iA G 12 (fun _ => 0)), ((u9121 4), iA G 12 (fun _ => 0)), ((u9121 5), iA G 12 (fun _ => 0)), ((u9121 6), iA G 12 (fun _ => 0)), ((u9121 7), iA G 12 (fun _ => 0)), (q9122, oX0 (u9124 0) (u9124 2) (u9124 4) (u9124 6) (u9124 8) (u9124 10) (u9124 12) (u9124 14) (u9124 16) (u9124 18) 0 (-1) 3 24), ((u9124 0), oX8 10 2 (u9124 1) 0), ((u9124 1), iA G 20 (fun _ => 0)), ((u9124 2), oX8 12 6 (u9124 3) 0), ((u9124 3), iA G 72 (fun _ => 0)), ((u9124 4), oX8 24 3 (u9124 5) 0), ((u9124 5), iA G 72 (fun _ => 0)), ((u9124 6), oX8 8 3 (u9124 7) 0), ((u9124 7), iA G 24 (fun _ => 0)), ((u9124 8), oX8 72 7 (u9124 9) 0), ((u9124 9), iA G 504 (fun _ => 0)), ((u9124 10), oX8 960 1 (u9124 11) 0), ((u9124 11), iA G 960 (fun _ => 0)), ((u9124 12), oX8 16 8 (u9124 13) 0), ((u9124 13), iA G 128 (fun _ => 0)), ((u9124 14), oX8 12 4 (u9124 15) 0), ((u9124 15), iA G 48 (fun _ => 0)), ((u9124 16), oX8 16 3 (u9124 17) 0), ((u9124 17), iA G 48 (fun _ => 0)), ((u9124 18), oX8 7 2 (u9124 19) 0), ((u9124 19), iA G 14 (fun _ => 0))]) rfl (Nat.le_of_ble_eq_true rfl) rfl (by decide +kernel) (by decide +kernel) dX11_init_39 (fun H locs hP hD hS => ?_)
  refine lv_aload_n hx hb dX11_init_42 rfl (lv_at2 hl) ?_
  refine lv_aload_n hx hb dX11_init_43 rfl (lv_at0 hl) ?_
  refine pf_X11_28 hC rfl rfl hK hP hD hS 0 (ws' := [(h0, .inr (11, [.ref q9116, .ref q9122, .int 0, .ref q9119, .null, .null, .null, .null, .null, .null, .null])), (q9116, oX0 (u9118 0) (u9118 2) (u9118 4) (u9118 6) (u9118 8) (u9118 10) (u9118 12) (u9118 14) (u9118 16) (u9118 18) 0 (-1) 3 24), ((u9118 0), oX8 10 2 (u9118 1) 0), ((u9118 1), iA G 20 (fun _ => 0)), ((u9118 2), oX8 12 6 (u9118 3) 0), ((u9118 3), iA G 72 (fun _ => 0)), ((u9118 4), oX8 24 3 (u9118 5) 0), ((u9118 5), iA G 72 (fun _ => 0)), ((u9118 6), oX8 8 3 (u9118 7) 0), ((u9118 7), iA G 24 (fun _ => 0)), ((u9118 8), oX8 72 7 (u9118 9) 0), ((u9118 9), iA G 504 (fun _ => 0)), ((u9118 10), oX8 960 1 (u9118 11) 0), ((u9118 11), iA G 960 (fun _ => 0)), ((u9118 12), oX8 16 8 (u9118 13) 0), ((u9118 13), iA G 128 (fun _ => 0)), ((u9118 14), oX8 12 4 (u9118 15) 0), ((u9118 15), iA G 48 (fun _ => 0)), ((u9118 16), oX8 16 3 (u9118 17) 0), ((u9118 17), iA G 48 (fun _ => 0)), ((u9118 18), oX8 7 2 (u9118 19) 0), ((u9118 19), iA G 14 (fun _ => 0)), (q9119, oX7 q9116 (u9121 0) (u9121 2) (u9121 3) (u9121 4) (u9121 5) (u9121 6) (u9121 7) 0), ((u9121 0), oX1 (u9121 1)), ((u9121 1), iA G 36 (fun _ => 0)), ((u9121 2), iA G 12 (fun _ => 0)), ((u9121 3), iA G 12 (fun _ => 0)), ((u9121 4), iA G 12 (fun _ => 0)), ((u9121 5), iA G 12 (fun _ => 0)), ((u9121 6), iA G 12 (fun _ => 0)), ((u9121 7), iA G 12 (fun _ => 0)), (q9122, oX0 (u9124 0) (u9124 2) (u9124 4) (u9124 6) (u9124 8) (u9124 10) (u9124 12) (u9124 14) (u9124 16) (u9124 18) 0 (-1) 3 24), ((u9124 0), oX8 10 2 (u9124 1) 0), ((u9124 1), iA G 20 (fun _ => 0)), ((u9124 2), oX8 12 6 (u9124 3) 0), ((u9124 3), iA G 72 (fun _ => 0)), ((u9124 4), oX8 24 3 (u9124 5) 0), ((u9124 5), iA G 72 (fun _ => 0)), ((u9124 6), oX8 8 3 (u9124 7) 0), ((u9124 7), iA G 24 (fun _ => 0)), ((u9124 8), oX8 72 7 (u9124 9) 0), ((u9124 9), iA G 504 (fun _ => 0)), ((u9124 10), oX8 960 1 (u9124 11) 0), ((u9124 11), iA G 960 (fun _ => 0)), ((u9124 12), oX8 16 8 (u9124 13) 0), ((u9124 13), iA G 128 (fun _ => 0)), ((u9124 14), oX8 12 4 (u9124 15) 0), ((u9124 15), iA G 48 (fun _ => 0)), ((u9124 16), oX8 16 3 (u9124 17) 0), ((u9124 17), iA G 48 (fun _ => 0)), ((u9124 18), oX8 7 2 (u9124 19) 0), ((u9124 19), iA G 14 (fun _ => 0))]) rfl (Nat.le_of_ble_eq_true rfl) rfl rfl rfl dX11_init_44 (fun H locs hP hD hS => ?_)
  refine lv_aload_n hx hb dX11_init_47 rfl (lv_at2 hl) ?_
  refine nw_X11_32 hC rfl hK hP hD hS hA (Nat.le_of_ble_eq_true rfl) (Nat.le_of_ble_eq_true rfl) dX11_init_48 (fun q9125 H hP hD hS => ?_)
  refine Kpdr (ws := [(h0, .inr (11, [.ref q9116, .ref q9122, .int 0, .ref q9119, .null, .null, .null, .null, .null, .null, .null])), (q9116, oX0 (u9118 0) (u9118 2) (u9118 4) (u9118 6) (u9118 8) (u9118 10) (u9118 12) (u9118 14) (u9118 16) (u9118 18) 0 (-1) 3 24), ((u9118 0), oX8 10 2 (u9118 1) 0), ((u9118 1), iA G 20 (fun _ => 0)), ((u9118 2), oX8 12 6 (u9118 3) 0), ((u9118 3), iA G 72 (fun _ => 0)), ((u9118 4), oX8 24 3 (u9118 5) 0), ((u9118 5), iA G 72 (fun _ => 0)), ((u9118 6), oX8 8 3 (u9118 7) 0), ((u9118 7), iA G 24 (fun _ => 0)), ((u9118 8), oX8 72 7 (u9118 9) 0), ((u9118 9), iA G 504 (fun _ => 0)), ((u9118 10), oX8 960 1 (u9118 11) 0), ((u9118 11), iA G 960 (fun _ => 0)), ((u9118 12), oX8 16 8 (u9118 13) 0), ((u9118 13), iA G 128 (fun _ => 0)), ((u9118 14), oX8 12 4 (u9118 15) 0), ((u9118 15), iA G 48 (fun _ => 0)), ((u9118 16), oX8 16 3 (u9118 17) 0), ((u9118 17), iA G 48 (fun _ => 0)), ((u9118 18), oX8 7 2 (u9118 19) 0), ((u9118 19), iA G 14 (fun _ => 0)), (q9119, oX7 q9116 (u9121 0) (u9121 2) (u9121 3) (u9121 4) (u9121 5) (u9121 6) (u9121 7) 0), ((u9121 0), oX1 (u9121 1)), ((u9121 1), iA G 36 (fun _ => 0)), ((u9121 2), iA G 12 (fun _ => 0)), ((u9121 3), iA G 12 (fun _ => 0)), ((u9121 4), iA G 12 (fun _ => 0)), ((u9121 5), iA G 12 (fun _ => 0)), ((u9121 6), iA G 12 (fun _ => 0)), ((u9121 7), iA G 12 (fun _ => 0)), (q9122, oX0 (u9124 0) (u9124 2) (u9124 4) (u9124 6) (u9124 8) (u9124 10) (u9124 12) (u9124 14) (u9124 16) (u9124 18) 0 (-1) 3 24), ((u9124 0), oX8 10 2 (u9124 1) 0), ((u9124 1), iA G 20 (fun _ => 0)), ((u9124 2), oX8 12 6 (u9124 3) 0), ((u9124 3), iA G 72 (fun _ => 0)), ((u9124 4), oX8 24 3 (u9124 5) 0), ((u9124 5), iA G 72 (fun _ => 0)), ((u9124 6), oX8 8 3 (u9124 7) 0), ((u9124 7), iA G 24 (fun _ => 0)), ((u9124 8), oX8 72 7 (u9124 9) 0), ((u9124 9), iA G 504 (fun _ => 0)), ((u9124 10), oX8 960 1 (u9124 11) 0), ((u9124 11), iA G 960 (fun _ => 0)), ((u9124 12), oX8 16 8 (u9124 13) 0), ((u9124 13), iA G 128 (fun _ => 0)), ((u9124 14), oX8 12 4 (u9124 15) 0), ((u9124 15), iA G 48 (fun _ => 0)), ((u9124 16), oX8 16 3 (u9124 17) 0), ((u9124 17), iA G 48 (fun _ => 0)), ((u9124 18), oX8 7 2 (u9124 19) 0), ((u9124 19), iA G 14 (fun _ => 0)), (q9125, .inr (3, [.null, .null, .int 0, .int 0, .int 0]))]) hP hD (fun hP hD => ?_)
  refine Wcast (c1 := 52) (s1 := 4011) rfl rfl ?_
  refine lv_dup hx hb dX11_init_51 rfl ?_
  refine lv_aload_n hx hb dX11_init_52 rfl (lv_at1 hl) ?_
  refine vI (wr := [(h0, .inr (11, [.ref q9116, .ref q9122, .int 0, .ref q9119, .null, .null, .null, .null, .null, .null, .null])), (q9116, oX0 (u9118 0) (u9118 2) (u9118 4) (u9118 6) (u9118 8) (u9118 10) (u9118 12) (u9118 14) (u9118 16) (u9118 18) 0 (-1) 3 24), ((u9118 0), oX8 10 2 (u9118 1) 0), ((u9118 1), iA G 20 (fun _ => 0)), ((u9118 2), oX8 12 6 (u9118 3) 0), ((u9118 3), iA G 72 (fun _ => 0)), ((u9118 4), oX8 24 3 (u9118 5) 0), ((u9118 5), iA G 72 (fun _ => 0)), ((u9118 6), oX8 8 3 (u9118 7) 0), ((u9118 7), iA G 24 (fun _ => 0)), ((u9118 8), oX8 72 7 (u9118 9) 0), ((u9118 9), iA G 504 (fun _ => 0)), ((u9118 10), oX8 960 1 (u9118 11) 0), ((u9118 11), iA G 960 (fun _ => 0)), ((u9118 12), oX8 16 8 (u9118 13) 0), ((u9118 13), iA G 128 (fun _ => 0)), ((u9118 14), oX8 12 4 (u9118 15) 0), ((u9118 15), iA G 48 (fun _ => 0)), ((u9118 16), oX8 16 3 (u9118 17) 0), ((u9118 17), iA G 48 (fun _ => 0)), ((u9118 18), oX8 7 2 (u9118 19) 0), ((u9118 19), iA G 14 (fun _ => 0)), (q9119, oX7 q9116 (u9121 0) (u9121 2) (u9121 3) (u9121 4) (u9121 5) (u9121 6) (u9121 7) 0), ((u9121 0), oX1 (u9121 1)), ((u9121 1), iA G 36 (fun _ => 0)), ((u9121 2), iA G 12 (fun _ => 0)), ((u9121 3), iA G 12 (fun _ => 0)), ((u9121 4), iA G 12 (fun _ => 0)), ((u9121 5), iA G 12 (fun _ => 0)), ((u9121 6), iA G 12 (fun _ => 0)), ((u9121 7), iA G 12 (fun _ => 0)), (q9122, oX0 (u9124 0) (u9124 2) (u9124 4) (u9124 6) (u9124 8) (u9124 10) (u9124 12) (u9124 14) (u9124 16) (u9124 18) 0 (-1) 3 24), ((u9124 0), oX8 10 2 (u9124 1) 0), ((u9124 1), iA G 20 (fun _ => 0)), ((u9124 2), oX8 12 6 (u9124 3) 0), ((u9124 3), iA G 72 (fun _ => 0)), ((u9124 4), oX8 24 3 (u9124 5) 0), ((u9124 5), iA G 72 (fun _ => 0)), ((u9124 6), oX8 8 3 (u9124 7) 0), ((u9124 7), iA G 24 (fun _ => 0)), ((u9124 8), oX8 72 7 (u9124 9) 0), ((u9124 9), iA G 504 (fun _ => 0)), ((u9124 10), oX8 960 1 (u9124 11) 0), ((u9124 11), iA G 960 (fun _ => 0)), ((u9124 12), oX8 16 8 (u9124 13) 0), ((u9124 13), iA G 128 (fun _ => 0)), ((u9124 14), oX8 12 4 (u9124 15) 0), ((u9124 15), iA G 48 (fun _ => 0)), ((u9124 16), oX8 16 3 (u9124 17) 0), ((u9124 17), iA G 48 (fun _ => 0)), ((u9124 18), oX8 7 2 (u9124 19) 0), ((u9124 19), iA G 14 (fun _ => 0))]) hC hK hl hP hD hS hA (c_D_init l G q9125 q9116) si_X11_34 [52] [0, 1, 2, 3, 4, 5, 6, 7, 8, 9, 10, 11, 12, 13, 14, 15, 16, 17, 18, 19, 20, 21, 22, 23, 24, 25, 26, 27, 28, 29, 30, 31, 32, 33, 34, 35, 36, 37, 38, 39, 40, 41, 42, 43, 44, 45, 46, 47, 48, 49, 50, 51] sm_52 fm_52 nd_52 rfl (by decide +kernel) (by decide) rfl rfl (Nat.le_of_ble_eq_true rfl) rm_5_3_3 ⟨by first | exact Nat.le_of_ble_eq_true rfl | omega, by first | exact Nat.le_of_ble_eq_true rfl | omega⟩ dX11_init_53 (Ktu2 fun ad9128 hf9129 => ?_)
  intro H locs hr9126 hP hD hS
  try dsimp only at hr9126
  refine Kpdr (ws := [(h0, .inr (11, [.ref q9116, .ref q9122, .int 0, .ref q9119, .null, .null, .null, .null, .null, .null, .null])), (q9116, oX0 (u9118 0) (u9118 2) (u9118 4) (u9118 6) (u9118 8) (u9118 10) (u9118 12) (u9118 14) (u9118 16) (u9118 18) 0 (-1) 3 24), ((u9118 0), oX8 10 2 (u9118 1) 0), ((u9118 1), iA G 20 (fun _ => 0)), ((u9118 2), oX8 12 6 (u9118 3) 0), ((u9118 3), iA G 72 (fun _ => 0)), ((u9118 4), oX8 24 3 (u9118 5) 0), ((u9118 5), iA G 72 (fun _ => 0)), ((u9118 6), oX8 8 3 (u9118 7) 0), ((u9118 7), iA G 24 (fun _ => 0)), ((u9118 8), oX8 72 7 (u9118 9) 0), ((u9118 9), iA G 504 (fun _ => 0)), ((u9118 10), oX8 960 1 (u9118 11) 0), ((u9118 11), iA G 960 (fun _ => 0)), ((u9118 12), oX8 16 8 (u9118 13) 0), ((u9118 13), iA G 128 (fun _ => 0)), ((u9118 14), oX8 12 4 (u9118 15) 0), ((u9118 15), iA G 48 (fun _ => 0)), ((u9118 16), oX8 16 3 (u9118 17) 0), ((u9118 17), iA G 48 (fun _ => 0)), ((u9118 18), oX8 7 2 (u9118 19) 0), ((u9118 19), iA G 14 (fun _ => 0)), (q9119, oX7 q9116 (u9121 0) (u9121 2) (u9121 3) (u9121 4) (u9121 5) (u9121 6) (u9121 7) 0), ((u9121 0), oX1 (u9121 1)), ((u9121 1), iA G 36 (fun _ => 0)), ((u9121 2), iA G 12 (fun _ => 0)), ((u9121 3), iA G 12 (fun _ => 0)), ((u9121 4), iA G 12 (fun _ => 0)), ((u9121 5), iA G 12 (fun _ => 0)), ((u9121 6), iA G 12 (fun _ => 0)), ((u9121 7), iA G 12 (fun _ => 0)), (q9122, oX0 (u9124 0) (u9124 2) (u9124 4) (u9124 6) (u9124 8) (u9124 10) (u9124 12) (u9124 14) (u9124 16) (u9124 18) 0 (-1) 3 24), ((u9124 0), oX8 10 2 (u9124 1) 0), ((u9124 1), iA G 20 (fun _ => 0)), ((u9124 2), oX8 12 6 (u9124 3) 0), ((u9124 3), iA G 72 (fun _ => 0)), ((u9124 4), oX8 24 3 (u9124 5) 0), ((u9124 5), iA G 72 (fun _ => 0)), ((u9124 6), oX8 8 3 (u9124 7) 0), ((u9124 7), iA G 24 (fun _ => 0)), ((u9124 8), oX8 72 7 (u9124 9) 0), ((u9124 9), iA G 504 (fun _ => 0)), ((u9124 10), oX8 960 1 (u9124 11) 0), ((u9124 11), iA G 960 (fun _ => 0)), ((u9124 12), oX8 16 8 (u9124 13) 0), ((u9124 13), iA G 128 (fun _ => 0)), ((u9124 14), oX8 12 4 (u9124 15) 0), ((u9124 15), iA G 48 (fun _ => 0)), ((u9124 16), oX8 16 3 (u9124 17) 0), ((u9124 17), iA G 48 (fun _ => 0)), ((u9124 18), oX8 7 2 (u9124 19) 0), ((u9124 19), iA G 14 (fun _ => 0)), (q9125, oX3 q9116 (ad9128 0) 0 0 0), ((ad9128 0), cA G 13 hf9129), ((ad9128 1), oX1 (ad9128 2)), ((ad9128 2), iA G 36 (fun _ => 0)), ((ad9128 3), oX1 (ad9128 4)), ((ad9128 4), iA G 36 (fun _ => 0)), ((ad9128 5), oX1 (ad9128 6)), ((ad9128 6), iA G 36 (fun _ => 0)), ((ad9128 7), oX1 (ad9128 8)), ((ad9128 8), iA G 36 (fun _ => 0)), ((ad9128 9), oX1 (ad9128 10)), ((ad9128 10), iA G 36 (fun _ => 0)), ((ad9128 11), oX1 (ad9128 12)), ((ad9128 12), iA G 36 (fun _ => 0)), ((ad9128 13), oX1 (ad9128 14)), ((ad9128 14), iA G 36 (fun _ => 0)), ((ad9128 15), oX1 (ad9128 16)), ((ad9128 16), iA G 36 (fun _ => 0)), ((ad9128 17), oX1 (ad9128 18)), ((ad9128 18), iA G 36 (fun _ => 0)), ((ad9128 19), oX1 (ad9128 20)), ((ad9128 20), iA G 36 (fun _ => 0)), ((ad9128 21), oX1 (ad9128 22)), ((ad9128 22), iA G 36 (fun _ => 0)), ((ad9128 23), oX1 (ad9128 24)), ((ad9128 24), iA G 36 (fun _ => 0)), ((ad9128 25), oX1 (ad9128 26)), ((ad9128 26), iA G 36 (fun _ => 0))]) hP hD (fun hP hD => ?_)
  refine Wcast (c1 := 79) (s1 := 4505) rfl rfl ?_
  have w9130 := hr9126
  refine pf_X11_35 hC rfl rfl hK hP hD hS 0 (ws' := [(h0, .inr (11, [.ref q9116, .ref q9122, .int 0, .ref q9119, .ref q9125, .null, .null, .null, .null, .null, .null])), (q9116, oX0 (u9118 0) (u9118 2) (u9118 4) (u9118 6) (u9118 8) (u9118 10) (u9118 12) (u9118 14) (u9118 16) (u9118 18) 0 (-1) 3 24), ((u9118 0), oX8 10 2 (u9118 1) 0), ((u9118 1), iA G 20 (fun _ => 0)), ((u9118 2), oX8 12 6 (u9118 3) 0), ((u9118 3), iA G 72 (fun _ => 0)), ((u9118 4), oX8 24 3 (u9118 5) 0), ((u9118 5), iA G 72 (fun _ => 0)), ((u9118 6), oX8 8 3 (u9118 7) 0), ((u9118 7), iA G 24 (fun _ => 0)), ((u9118 8), oX8 72 7 (u9118 9) 0), ((u9118 9), iA G 504 (fun _ => 0)), ((u9118 10), oX8 960 1 (u9118 11) 0), ((u9118 11), iA G 960 (fun _ => 0)), ((u9118 12), oX8 16 8 (u9118 13) 0), ((u9118 13), iA G 128 (fun _ => 0)), ((u9118 14), oX8 12 4 (u9118 15) 0), ((u9118 15), iA G 48 (fun _ => 0)), ((u9118 16), oX8 16 3 (u9118 17) 0), ((u9118 17), iA G 48 (fun _ => 0)), ((u9118 18), oX8 7 2 (u9118 19) 0), ((u9118 19), iA G 14 (fun _ => 0)), (q9119, oX7 q9116 (u9121 0) (u9121 2) (u9121 3) (u9121 4) (u9121 5) (u9121 6) (u9121 7) 0), ((u9121 0), oX1 (u9121 1)), ((u9121 1), iA G 36 (fun _ => 0)), ((u9121 2), iA G 12 (fun _ => 0)), ((u9121 3), iA G 12 (fun _ => 0)), ((u9121 4), iA G 12 (fun _ => 0)), ((u9121 5), iA G 12 (fun _ => 0)), ((u9121 6), iA G 12 (fun _ => 0)), ((u9121 7), iA G 12 (fun _ => 0)), (q9122, oX0 (u9124 0) (u9124 2) (u9124 4) (u9124 6) (u9124 8) (u9124 10) (u9124 12) (u9124 14) (u9124 16) (u9124 18) 0 (-1) 3 24), ((u9124 0), oX8 10 2 (u9124 1) 0), ((u9124 1), iA G 20 (fun _ => 0)), ((u9124 2), oX8 12 6 (u9124 3) 0), ((u9124 3), iA G 72 (fun _ => 0)), ((u9124 4), oX8 24 3 (u9124 5) 0), ((u9124 5), iA G 72 (fun _ => 0)), ((u9124 6), oX8 8 3 (u9124 7) 0), ((u9124 7), iA G 24 (fun _ => 0)), ((u9124 8), oX8 72 7 (u9124 9) 0), ((u9124 9), iA G 504 (fun _ => 0)), ((u9124 10), oX8 960 1 (u9124 11) 0), ((u9124 11), iA G 960 (fun _ => 0)), ((u9124 12), oX8 16 8 (u9124 13) 0), ((u9124 13), iA G 128 (fun _ => 0)), ((u9124 14), oX8 12 4 (u9124 15) 0), ((u9124 15), iA G 48 (fun _ => 0)), ((u9124 16), oX8 16 3 (u9124 17) 0), ((u9124 17), iA G 48 (fun _ => 0)), ((u9124 18), oX8 7 2 (u9124 19) 0), ((u9124 19), iA G 14 (fun _ => 0)), (q9125, oX3 q9116 (ad9128 0) 0 0 0), ((ad9128 0), cA G 13 hf9129), ((ad9128 1), oX1 (ad9128 2)), ((ad9128 2), iA G 36 (fun _ => 0)), ((ad9128 3), oX1 (ad9128 4)), ((ad9128 4), iA G 36 (fun _ => 0)), ((ad9128 5), oX1 (ad9128 6)), ((ad9128 6), iA G 36 (fun _ => 0)), ((ad9128 7), oX1 (ad9128 8)), ((ad9128 8), iA G 36 (fun _ => 0)), ((ad9128 9), oX1 (ad9128 10)), ((ad9128 10), iA G 36 (fun _ => 0)), ((ad9128 11), oX1 (ad9128 12)), ((ad9128 12), iA G 36 (fun _ => 0)), ((ad9128 13), oX1 (ad9128 14)), ((ad9128 14), iA G 36 (fun _ => 0)), ((ad9128 15), oX1 (ad9128 16)), ((ad9128 16), iA G 36 (fun _ => 0)), ((ad9128 17), oX1 (ad9128 18)), ((ad9128 18), iA G 36 (fun _ => 0)), ((ad9128 19), oX1 (ad9128 20)), ((ad9128 20), iA G 36 (fun _ => 0)), ((ad9128 21), oX1 (ad9128 22)), ((ad9128 22), iA G 36 (fun _ => 0)), ((ad9128 23), oX1 (ad9128 24)), ((ad9128 24), iA G 36 (fun _ => 0)), ((ad9128 25), oX1 (ad9128 26)), ((ad9128 26), iA G 36 (fun _ => 0))]) rfl (Nat.le_of_ble_eq_true rfl) rfl rfl rfl dX11_init_56 (fun H locs hP hD hS => ?_)
  refine lv_aload_n hx hb dX11_init_59 rfl (lv_at2 hl) ?_
  refine nw_X11_39 hC rfl hK hP hD hS hA (Nat.le_of_ble_eq_true rfl) (Nat.le_of_ble_eq_true rfl) dX11_init_60 (fun q9131 H hP hD hS => ?_)
  refine Kpdr (ws := [(h0, .inr (11, [.ref q9116, .ref q9122, .int 0, .ref q9119, .ref q9125, .null, .null, .null, .null, .null, .null])), (q9116, oX0 (u9118 0) (u9118 2) (u9118 4) (u9118 6) (u9118 8) (u9118 10) (u9118 12) (u9118 14) (u9118 16) (u9118 18) 0 (-1) 3 24), ((u9118 0), oX8 10 2 (u9118 1) 0), ((u9118 1), iA G 20 (fun _ => 0)), ((u9118 2), oX8 12 6 (u9118 3) 0), ((u9118 3), iA G 72 (fun _ => 0)), ((u9118 4), oX8 24 3 (u9118 5) 0), ((u9118 5), iA G 72 (fun _ => 0)), ((u9118 6), oX8 8 3 (u9118 7) 0), ((u9118 7), iA G 24 (fun _ => 0)), ((u9118 8), oX8 72 7 (u9118 9) 0), ((u9118 9), iA G 504 (fun _ => 0)), ((u9118 10), oX8 960 1 (u9118 11) 0), ((u9118 11), iA G 960 (fun _ => 0)), ((u9118 12), oX8 16 8 (u9118 13) 0), ((u9118 13), iA G 128 (fun _ => 0)), ((u9118 14), oX8 12 4 (u9118 15) 0), ((u9118 15), iA G 48 (fun _ => 0)), ((u9118 16), oX8 16 3 (u9118 17) 0), ((u9118 17), iA G 48 (fun _ => 0)), ((u9118 18), oX8 7 2 (u9118 19) 0), ((u9118 19), iA G 14 (fun _ => 0)), (q9119, oX7 q9116 (u9121 0) (u9121 2) (u9121 3) (u9121 4) (u9121 5) (u9121 6) (u9121 7) 0), ((u9121 0), oX1 (u9121 1)), ((u9121 1), iA G 36 (fun _ => 0)), ((u9121 2), iA G 12 (fun _ => 0)), ((u9121 3), iA G 12 (fun _ => 0)), ((u9121 4), iA G 12 (fun _ => 0)), ((u9121 5), iA G 12 (fun _ => 0)), ((u9121 6), iA G 12 (fun _ => 0)), ((u9121 7), iA G 12 (fun _ => 0)), (q9122, oX0 (u9124 0) (u9124 2) (u9124 4) (u9124 6) (u9124 8) (u9124 10) (u9124 12) (u9124 14) (u9124 16) (u9124 18) 0 (-1) 3 24), ((u9124 0), oX8 10 2 (u9124 1) 0), ((u9124 1), iA G 20 (fun _ => 0)), ((u9124 2), oX8 12 6 (u9124 3) 0), ((u9124 3), iA G 72 (fun _ => 0)), ((u9124 4), oX8 24 3 (u9124 5) 0), ((u9124 5), iA G 72 (fun _ => 0)), ((u9124 6), oX8 8 3 (u9124 7) 0), ((u9124 7), iA G 24 (fun _ => 0)), ((u9124 8), oX8 72 7 (u9124 9) 0), ((u9124 9), iA G 504 (fun _ => 0)), ((u9124 10), oX8 960 1 (u9124 11) 0), ((u9124 11), iA G 960 (fun _ => 0)), ((u9124 12), oX8 16 8 (u9124 13) 0), ((u9124 13), iA G 128 (fun _ => 0)), ((u9124 14), oX8 12 4 (u9124 15) 0), ((u9124 15), iA G 48 (fun _ => 0)), ((u9124 16), oX8 16 3 (u9124 17) 0), ((u9124 17), iA G 48 (fun _ => 0)), ((u9124 18), oX8 7 2 (u9124 19) 0), ((u9124 19), iA G 14 (fun _ => 0)), (q9125, oX3 q9116 (ad9128 0) 0 0 0), ((ad9128 0), cA G 13 hf9129), ((ad9128 1), oX1 (ad9128 2)), ((ad9128 2), iA G 36 (fun _ => 0)), ((ad9128 3), oX1 (ad9128 4)), ((ad9128 4), iA G 36 (fun _ => 0)), ((ad9128 5), oX1 (ad9128 6)), ((ad9128 6), iA G 36 (fun _ => 0)), ((ad9128 7), oX1 (ad9128 8)), ((ad9128 8), iA G 36 (fun _ => 0)), ((ad9128 9), oX1 (ad9128 10)), ((ad9128 10), iA G 36 (fun _ => 0)), ((ad9128 11), oX1 (ad9128 12)), ((ad9128 12), iA G 36 (fun _ => 0)), ((ad9128 13), oX1 (ad9128 14)), ((ad9128 14), iA G 36 (fun _ => 0)), ((ad9128 15), oX1 (ad9128 16)), ((ad9128 16), iA G 36 (fun _ => 0)), ((ad9128 17), oX1 (ad9128 18)), ((ad9128 18), iA G 36 (fun _ => 0)), ((ad9128 19), oX1 (ad9128 20)), ((ad9128 20), iA G 36 (fun _ => 0)), ((ad9128 21), oX1 (ad9128 22)), ((ad9128 22), iA G 36 (fun _ => 0)), ((ad9128 23), oX1 (ad9128 24)), ((ad9128 24), iA G 36 (fun _ => 0)), ((ad9128 25), oX1 (ad9128 26)), ((ad9128 26), iA G 36 (fun _ => 0)), (q9131, .inr (6, [.null, .null, .null, .null, .int 0, .int 0, .int 0]))]) hP hD (fun hP hD => ?_)
  refine Wcast (c1 := 80) (s1 := 4512) rfl rfl ?_
  refine lv_dup hx hb dX11_init_63 rfl ?_
  refine lv_aload_n hx hb dX11_init_64 rfl (lv_at1 hl) ?_
  refine lv_aload_n hx hb dX11_init_65 rfl (lv_at0 hl) ?_
  refine vI (wr := [(h0, .inr (11, [.ref q9116, .ref q9122, .int 0, .ref q9119, .ref q9125, .null, .null, .null, .null, .null, .null])), (q9116, oX0 (u9118 0) (u9118 2) (u9118 4) (u9118 6) (u9118 8) (u9118 10) (u9118 12) (u9118 14) (u9118 16) (u9118 18) 0 (-1) 3 24), ((u9118 0), oX8 10 2 (u9118 1) 0), ((u9118 1), iA G 20 (fun _ => 0)), ((u9118 2), oX8 12 6 (u9118 3) 0), ((u9118 3), iA G 72 (fun _ => 0)), ((u9118 4), oX8 24 3 (u9118 5) 0), ((u9118 5), iA G 72 (fun _ => 0)), ((u9118 6), oX8 8 3 (u9118 7) 0), ((u9118 7), iA G 24 (fun _ => 0)), ((u9118 8), oX8 72 7 (u9118 9) 0), ((u9118 9), iA G 504 (fun _ => 0)), ((u9118 10), oX8 960 1 (u9118 11) 0), ((u9118 11), iA G 960 (fun _ => 0)), ((u9118 12), oX8 16 8 (u9118 13) 0), ((u9118 13), iA G 128 (fun _ => 0)), ((u9118 14), oX8 12 4 (u9118 15) 0), ((u9118 15), iA G 48 (fun _ => 0)), ((u9118 16), oX8 16 3 (u9118 17) 0), ((u9118 17), iA G 48 (fun _ => 0)), ((u9118 18), oX8 7 2 (u9118 19) 0), ((u9118 19), iA G 14 (fun _ => 0)), (q9119, oX7 q9116 (u9121 0) (u9121 2) (u9121 3) (u9121 4) (u9121 5) (u9121 6) (u9121 7) 0), ((u9121 0), oX1 (u9121 1)), ((u9121 1), iA G 36 (fun _ => 0)), ((u9121 2), iA G 12 (fun _ => 0)), ((u9121 3), iA G 12 (fun _ => 0)), ((u9121 4), iA G 12 (fun _ => 0)), ((u9121 5), iA G 12 (fun _ => 0)), ((u9121 6), iA G 12 (fun _ => 0)), ((u9121 7), iA G 12 (fun _ => 0)), (q9122, oX0 (u9124 0) (u9124 2) (u9124 4) (u9124 6) (u9124 8) (u9124 10) (u9124 12) (u9124 14) (u9124 16) (u9124 18) 0 (-1) 3 24), ((u9124 0), oX8 10 2 (u9124 1) 0), ((u9124 1), iA G 20 (fun _ => 0)), ((u9124 2), oX8 12 6 (u9124 3) 0), ((u9124 3), iA G 72 (fun _ => 0)), ((u9124 4), oX8 24 3 (u9124 5) 0), ((u9124 5), iA G 72 (fun _ => 0)), ((u9124 6), oX8 8 3 (u9124 7) 0), ((u9124 7), iA G 24 (fun _ => 0)), ((u9124 8), oX8 72 7 (u9124 9) 0), ((u9124 9), iA G 504 (fun _ => 0)), ((u9124 10), oX8 960 1 (u9124 11) 0), ((u9124 11), iA G 960 (fun _ => 0)), ((u9124 12), oX8 16 8 (u9124 13) 0), ((u9124 13), iA G 128 (fun _ => 0)), ((u9124 14), oX8 12 4 (u9124 15) 0), ((u9124 15), iA G 48 (fun _ => 0)), ((u9124 16), oX8 16 3 (u9124 17) 0), ((u9124 17), iA G 48 (fun _ => 0)), ((u9124 18), oX8 7 2 (u9124 19) 0), ((u9124 19), iA G 14 (fun _ => 0)), (q9125, oX3 q9116 (ad9128 0) 0 0 0), ((ad9128 0), cA G 13 hf9129), ((ad9128 1), oX1 (ad9128 2)), ((ad9128 2), iA G 36 (fun _ => 0)), ((ad9128 3), oX1 (ad9128 4)), ((ad9128 4), iA G 36 (fun _ => 0)), ((ad9128 5), oX1 (ad9128 6)), ((ad9128 6), iA G 36 (fun _ => 0)), ((ad9128 7), oX1 (ad9128 8)), ((ad9128 8), iA G 36 (fun _ => 0)), ((ad9128 9), oX1 (ad9128 10)), ((ad9128 10), iA G 36 (fun _ => 0)), ((ad9128 11), oX1 (ad9128 12)), ((ad9128 12), iA G 36 (fun _ => 0)), ((ad9128 13), oX1 (ad9128 14)), ((ad9128 14), iA G 36 (fun _ => 0)), ((ad9128 15), oX1 (ad9128 16)), ((ad9128 16), iA G 36 (fun _ => 0)), ((ad9128 17), oX1 (ad9128 18)), ((ad9128 18), iA G 36 (fun _ => 0)), ((ad9128 19), oX1 (ad9128 20)), ((ad9128 20), iA G 36 (fun _ => 0)), ((ad9128 21), oX1 (ad9128 22)), ((ad9128 22), iA G 36 (fun _ => 0)), ((ad9128 23), oX1 (ad9128 24)), ((ad9128 24), iA G 36 (fun _ => 0)), ((ad9128 25), oX1 (ad9128 26)), ((ad9128 26), iA G 36 (fun _ => 0))]) hC hK hl hP hD hS hA (c_R_init l G q9131 q9116 q9119) si_X11_41 [80] [0, 1, 2, 3, 4, 5, 6, 7, 8, 9, 10, 11, 12, 13, 14, 15, 16, 17, 18, 19, 20, 21, 22, 23, 24, 25, 26, 27, 28, 29, 30, 31, 32, 33, 34, 35, 36, 37, 38, 39, 40, 41, 42, 43, 44, 45, 46, 47, 48, 49, 50, 51, 52, 53, 54, 55, 56, 57, 58, 59, 60, 61, 62, 63, 64, 65, 66, 67, 68, 69, 70, 71, 72, 73, 74, 75, 76, 77, 78, 79] sm_80 fm_80 nd_80 rfl (by decide +kernel) (by decide) rfl rfl (Nat.le_of_ble_eq_true rfl) rm_5_2_3 ⟨by first | exact Nat.le_of_ble_eq_true rfl | omega, by first | exact Nat.le_of_ble_eq_true rfl | omega⟩ dX11_init_66 (Ktu2 fun fa9134 sh9135 => ?_)
  intro H locs hr9132 hP hD hS
  try dsimp only at hr9132
  refine Kpdr (ws := [(h0, .inr (11, [.ref q9116, .ref q9122, .int 0, .ref q9119, .ref q9125, .null, .null, .null, .null, .null, .null])), (q9116, oX0 (u9118 0) (u9118 2) (u9118 4) (u9118 6) (u9118 8) (u9118 10) (u9118 12) (u9118 14) (u9118 16) (u9118 18) 0 (-1) 3 24), ((u9118 0), oX8 10 2 (u9118 1) 0), ((u9118 1), iA G 20 (fun _ => 0)), ((u9118 2), oX8 12 6 (u9118 3) 0), ((u9118 3), iA G 72 (fun _ => 0)), ((u9118 4), oX8 24 3 (u9118 5) 0), ((u9118 5), iA G 72 (fun _ => 0)), ((u9118 6), oX8 8 3 (u9118 7) 0), ((u9118 7), iA G 24 (fun _ => 0)), ((u9118 8), oX8 72 7 (u9118 9) 0), ((u9118 9), iA G 504 (fun _ => 0)), ((u9118 10), oX8 960 1 (u9118 11) 0), ((u9118 11), iA G 960 (fun _ => 0)), ((u9118 12), oX8 16 8 (u9118 13) 0), ((u9118 13), iA G 128 (fun _ => 0)), ((u9118 14), oX8 12 4 (u9118 15) 0), ((u9118 15), iA G 48 (fun _ => 0)), ((u9118 16), oX8 16 3 (u9118 17) 0), ((u9118 17), iA G 48 (fun _ => 0)), ((u9118 18), oX8 7 2 (u9118 19) 0), ((u9118 19), iA G 14 (fun _ => 0)), (q9119, oX7 q9116 (u9121 0) (u9121 2) (u9121 3) (u9121 4) (u9121 5) (u9121 6) (u9121 7) 0), ((u9121 0), oX1 (u9121 1)), ((u9121 1), iA G 36 (fun _ => 0)), ((u9121 2), iA G 12 (fun _ => 0)), ((u9121 3), iA G 12 (fun _ => 0)), ((u9121 4), iA G 12 (fun _ => 0)), ((u9121 5), iA G 12 (fun _ => 0)), ((u9121 6), iA G 12 (fun _ => 0)), ((u9121 7), iA G 12 (fun _ => 0)), (q9122, oX0 (u9124 0) (u9124 2) (u9124 4) (u9124 6) (u9124 8) (u9124 10) (u9124 12) (u9124 14) (u9124 16) (u9124 18) 0 (-1) 3 24), ((u9124 0), oX8 10 2 (u9124 1) 0), ((u9124 1), iA G 20 (fun _ => 0)), ((u9124 2), oX8 12 6 (u9124 3) 0), ((u9124 3), iA G 72 (fun _ => 0)), ((u9124 4), oX8 24 3 (u9124 5) 0), ((u9124 5), iA G 72 (fun _ => 0)), ((u9124 6), oX8 8 3 (u9124 7) 0), ((u9124 7), iA G 24 (fun _ => 0)), ((u9124 8), oX8 72 7 (u9124 9) 0), ((u9124 9), iA G 504 (fun _ => 0)), ((u9124 10), oX8 960 1 (u9124 11) 0), ((u9124 11), iA G 960 (fun _ => 0)), ((u9124 12), oX8 16 8 (u9124 13) 0), ((u9124 13), iA G 128 (fun _ => 0)), ((u9124 14), oX8 12 4 (u9124 15) 0), ((u9124 15), iA G 48 (fun _ => 0)), ((u9124 16), oX8 16 3 (u9124 17) 0), ((u9124 17), iA G 48 (fun _ => 0)), ((u9124 18), oX8 7 2 (u9124 19) 0), ((u9124 19), iA G 14 (fun _ => 0)), (q9125, oX3 q9116 (ad9128 0) 0 0 0), ((ad9128 0), cA G 13 hf9129), ((ad9128 1), oX1 (ad9128 2)), ((ad9128 2), iA G 36 (fun _ => 0)), ((ad9128 3), oX1 (ad9128 4)), ((ad9128 4), iA G 36 (fun _ => 0)), ((ad9128 5), oX1 (ad9128 6)), ((ad9128 6), iA G 36 (fun _ => 0)), ((ad9128 7), oX1 (ad9128 8)), ((ad9128 8), iA G 36 (fun _ => 0)), ((ad9128 9), oX1 (ad9128 10)), ((ad9128 10), iA G 36 (fun _ => 0)), ((ad9128 11), oX1 (ad9128 12)), ((ad9128 12), iA G 36 (fun _ => 0)), ((ad9128 13), oX1 (ad9128 14)), ((ad9128 14), iA G 36 (fun _ => 0)), ((ad9128 15), oX1 (ad9128 16)), ((ad9128 16), iA G 36 (fun _ => 0)), ((ad9128 17), oX1 (ad9128 18)), ((ad9128 18), iA G 36 (fun _ => 0)), ((ad9128 19), oX1 (ad9128 20)), ((ad9128 20), iA G 36 (fun _ => 0)), ((ad9128 21), oX1 (ad9128 22)), ((ad9128 22), iA G 36 (fun _ => 0)), ((ad9128 23), oX1 (ad9128 24)), ((ad9128 24), iA G 36 (fun _ => 0)), ((ad9128 25), oX1 (ad9128 26)), ((ad9128 26), iA G 36 (fun _ => 0)), (q9131, oX6 q9116 q9119 fa9134 sh9135 0 0 0), (fa9134, iA G 5 (fun _ => 0)), (sh9135, iA G 8 (fun _ => 0))]) hP hD (fun hP hD => ?_)
  refine Wcast (c1 := 82) (s1 := 4525) rfl rfl ?_
  refine pf_X11_44 hC rfl rfl hK hP hD hS 0 (ws' := [(h0, .inr (11, [.ref q9116, .ref q9122, .int 0, .ref q9119, .ref q9125, .ref q9131, .null, .null, .null, .null, .null])), (q9116, oX0 (u9118 0) (u9118 2) (u9118 4) (u9118 6) (u9118 8) (u9118 10) (u9118 12) (u9118 14) (u9118 16) (u9118 18) 0 (-1) 3 24), ((u9118 0), oX8 10 2 (u9118 1) 0), ((u9118 1), iA G 20 (fun _ => 0)), ((u9118 2), oX8 12 6 (u9118 3) 0), ((u9118 3), iA G 72 (fun _ => 0)), ((u9118 4), oX8 24 3 (u9118 5) 0), ((u9118 5), iA G 72 (fun _ => 0)), ((u9118 6), oX8 8 3 (u9118 7) 0), ((u9118 7), iA G 24 (fun _ => 0)), ((u9118 8), oX8 72 7 (u9118 9) 0), ((u9118 9), iA G 504 (fun _ => 0)), ((u9118 10), oX8 960 1 (u9118 11) 0), ((u9118 11), iA G 960 (fun _ => 0)), ((u9118 12), oX8 16 8 (u9118 13) 0), ((u9118 13), iA G 128 (fun _ => 0)), ((u9118 14), oX8 12 4 (u9118 15) 0), ((u9118 15), iA G 48 (fun _ => 0)), ((u9118 16), oX8 16 3 (u9118 17) 0), ((u9118 17), iA G 48 (fun _ => 0)), ((u9118 18), oX8 7 2 (u9118 19) 0), ((u9118 19), iA G 14 (fun _ => 0)), (q9119, oX7 q9116 (u9121 0) (u9121 2) (u9121 3) (u9121 4) (u9121 5) (u9121 6) (u9121 7) 0), ((u9121 0), oX1 (u9121 1)), ((u9121 1), iA G 36 (fun _ => 0)), ((u9121 2), iA G 12 (fun _ => 0)), ((u9121 3), iA G 12 (fun _ => 0)), ((u9121 4), iA G 12 (fun _ => 0)), ((u9121 5), iA G 12 (fun _ => 0)), ((u9121 6), iA G 12 (fun _ => 0)), ((u9121 7), iA G 12 (fun _ => 0)), (q9122, oX0 (u9124 0) (u9124 2) (u9124 4) (u9124 6) (u9124 8) (u9124 10) (u9124 12) (u9124 14) (u9124 16) (u9124 18) 0 (-1) 3 24), ((u9124 0), oX8 10 2 (u9124 1) 0), ((u9124 1), iA G 20 (fun _ => 0)), ((u9124 2), oX8 12 6 (u9124 3) 0), ((u9124 3), iA G 72 (fun _ => 0)), ((u9124 4), oX8 24 3 (u9124 5) 0), ((u9124 5), iA G 72 (fun _ => 0)), ((u9124 6), oX8 8 3 (u9124 7) 0), ((u9124 7), iA G 24 (fun _ => 0)), ((u9124 8), oX8 72 7 (u9124 9) 0), ((u9124 9), iA G 504 (fun _ => 0)), ((u9124 10), oX8 960 1 (u9124 11) 0), ((u9124 11), iA G 960 (fun _ => 0)), ((u9124 12), oX8 16 8 (u9124 13) 0), ((u9124 13), iA G 128 (fun _ => 0)), ((u9124 14), oX8 12 4 (u9124 15) 0), ((u9124 15), iA G 48 (fun _ => 0)), ((u9124 16), oX8 16 3 (u9124 17) 0), ((u9124 17), iA G 48 (fun _ => 0)), ((u9124 18), oX8 7 2 (u9124 19) 0), ((u9124 19), iA G 14 (fun _ => 0)), (q9125, oX3 q9116 (ad9128 0) 0 0 0), ((ad9128 0), cA G 13 hf9129), ((ad9128 1), oX1 (ad9128 2)), ((ad9128 2), iA G 36 (fun _ => 0)), ((ad9128 3), oX1 (ad9128 4)), ((ad9128 4), iA G 36 (fun _ => 0)), ((ad9128 5), oX1 (ad9128 6)), ((ad9128 6), iA G 36 (fun _ => 0)), ((ad9128 7), oX1 (ad9128 8)), ((ad9128 8), iA G 36 (fun _ => 0)), ((ad9128 9), oX1 (ad9128 10)), ((ad9128 10), iA G 36 (fun _ => 0)), ((ad9128 11), oX1 (ad9128 12)), ((ad9128 12), iA G 36 (fun _ => 0)), ((ad9128 13), oX1 (ad9128 14)), ((ad9128 14), iA G 36 (fun _ => 0)), ((ad9128 15), oX1 (ad9128 16)), ((ad9128 16), iA G 36 (fun _ => 0)), ((ad9128 17), oX1 (ad9128 18)), ((ad9128 18), iA G 36 (fun _ => 0)), ((ad9128 19), oX1 (ad9128 20)), ((ad9128 20), iA G 36 (fun _ => 0)), ((ad9128 21), oX1 (ad9128 22)), ((ad9128 22), iA G 36 (fun _ => 0)), ((ad9128 23), oX1 (ad9128 24)), ((ad9128 24), iA G 36 (fun _ => 0)), ((ad9128 25), oX1 (ad9128 26)), ((ad9128 26), iA G 36 (fun _ => 0)), (q9131, oX6 q9116 q9119 fa9134 sh9135 0 0 0), (fa9134, iA G 5 (fun _ => 0)), (sh9135, iA G 8 (fun _ => 0))]) rfl (Nat.le_of_ble_eq_true rfl) rfl rfl rfl dX11_init_69 (fun H locs hP hD hS => ?_)
  refine lv_aload_n hx hb dX11_init_72 rfl (lv_at2 hl) ?_
  refine nw_X11_48 hC rfl hK hP hD hS hA (Nat.le_of_ble_eq_true rfl) (Nat.le_of_ble_eq_true rfl) dX11_init_73 (fun q9136 H hP hD hS => ?_)
  refine Kpdr (ws := [(h0, .inr (11, [.ref q9116, .ref q9122, .int 0, .ref q9119, .ref q9125, .ref q9131, .null, .null, .null, .null, .null])), (q9116, oX0 (u9118 0) (u9118 2) (u9118 4) (u9118 6) (u9118 8) (u9118 10) (u9118 12) (u9118 14) (u9118 16) (u9118 18) 0 (-1) 3 24), ((u9118 0), oX8 10 2 (u9118 1) 0), ((u9118 1), iA G 20 (fun _ => 0)), ((u9118 2), oX8 12 6 (u9118 3) 0), ((u9118 3), iA G 72 (fun _ => 0)), ((u9118 4), oX8 24 3 (u9118 5) 0), ((u9118 5), iA G 72 (fun _ => 0)), ((u9118 6), oX8 8 3 (u9118 7) 0), ((u9118 7), iA G 24 (fun _ => 0)), ((u9118 8), oX8 72 7 (u9118 9) 0), ((u9118 9), iA G 504 (fun _ => 0)), ((u9118 10), oX8 960 1 (u9118 11) 0), ((u9118 11), iA G 960 (fun _ => 0)), ((u9118 12), oX8 16 8 (u9118 13) 0), ((u9118 13), iA G 128 (fun _ => 0)), ((u9118 14), oX8 12 4 (u9118 15) 0), ((u9118 15), iA G 48 (fun _ => 0)), ((u9118 16), oX8 16 3 (u9118 17) 0), ((u9118 17), iA G 48 (fun _ => 0)), ((u9118 18), oX8 7 2 (u9118 19) 0), ((u9118 19), iA G 14 (fun _ => 0)), (q9119, oX7 q9116 (u9121 0) (u9121 2) (u9121 3) (u9121 4) (u9121 5) (u9121 6) (u9121 7) 0), ((u9121 0), oX1 (u9121 1)), ((u9121 1), iA G 36 (fun _ => 0)), ((u9121 2), iA G 12 (fun _ => 0)), ((u9121 3), iA G 12 (fun _ => 0)), ((u9121 4), iA G 12 (fun _ => 0)), ((u9121 5), iA G 12 (fun _ => 0)), ((u9121 6), iA G 12 (fun _ => 0)), ((u9121 7), iA G 12 (fun _ => 0)), (q9122, oX0 (u9124 0) (u9124 2) (u9124 4) (u9124 6) (u9124 8) (u9124 10) (u9124 12) (u9124 14) (u9124 16) (u9124 18) 0 (-1) 3 24), ((u9124 0), oX8 10 2 (u9124 1) 0), ((u9124 1), iA G 20 (fun _ => 0)), ((u9124 2), oX8 12 6 (u9124 3) 0), ((u9124 3), iA G 72 (fun _ => 0)), ((u9124 4), oX8 24 3 (u9124 5) 0), ((u9124 5), iA G 72 (fun _ => 0)), ((u9124 6), oX8 8 3 (u9124 7) 0), ((u9124 7), iA G 24 (fun _ => 0)), ((u9124 8), oX8 72 7 (u9124 9) 0), ((u9124 9), iA G 504 (fun _ => 0)), ((u9124 10), oX8 960 1 (u9124 11) 0), ((u9124 11), iA G 960 (fun _ => 0)), ((u9124 12), oX8 16 8 (u9124 13) 0), ((u9124 13), iA G 128 (fun _ => 0)), ((u9124 14), oX8 12 4 (u9124 15) 0), ((u9124 15), iA G 48 (fun _ => 0)), ((u9124 16), oX8 16 3 (u9124 17) 0), ((u9124 17), iA G 48 (fun _ => 0)), ((u9124 18), oX8 7 2 (u9124 19) 0), ((u9124 19), iA G 14 (fun _ => 0)), (q9125, oX3 q9116 (ad9128 0) 0 0 0), ((ad9128 0), cA G 13 hf9129), ((ad9128 1), oX1 (ad9128 2)), ((ad9128 2), iA G 36 (fun _ => 0)), ((ad9128 3), oX1 (ad9128 4)), ((ad9128 4), iA G 36 (fun _ => 0)), ((ad9128 5), oX1 (ad9128 6)), ((ad9128 6), iA G 36 (fun _ => 0)), ((ad9128 7), oX1 (ad9128 8)), ((ad9128 8), iA G 36 (fun _ => 0)), ((ad9128 9), oX1 (ad9128 10)), ((ad9128 10), iA G 36 (fun _ => 0)), ((ad9128 11), oX1 (ad9128 12)), ((ad9128 12), iA G 36 (fun _ => 0)), ((ad9128 13), oX1 (ad9128 14)), ((ad9128 14), iA G 36 (fun _ => 0)), ((ad9128 15), oX1 (ad9128 16)), ((ad9128 16), iA G 36 (fun _ => 0)), ((ad9128 17), oX1 (ad9128 18)), ((ad9128 18), iA G 36 (fun _ => 0)), ((ad9128 19), oX1 (ad9128 20)), ((ad9128 20), iA G 36 (fun _ => 0)), ((ad9128 21), oX1 (ad9128 22)), ((ad9128 22), iA G 36 (fun _ => 0)), ((ad9128 23), oX1 (ad9128 24)), ((ad9128 24), iA G 36 (fun _ => 0)), ((ad9128 25), oX1 (ad9128 26)), ((ad9128 26), iA G 36 (fun _ => 0)), (q9131, oX6 q9116 q9119 fa9134 sh9135 0 0 0), (fa9134, iA G 5 (fun _ => 0)), (sh9135, iA G 8 (fun _ => 0)), (q9136, .inr (9, [.null, .null, .int 0, .int 0, .int 0, .int 0]))]) hP hD (fun hP hD => ?_)
  refine Wcast (c1 := 83) (s1 := 4531) rfl rfl ?_
  refine lv_dup hx hb dX11_init_76 rfl ?_
  refine lv_aload_n hx hb dX11_init_77 rfl (lv_at1 hl) ?_
  refine lv_aload_n hx hb dX11_init_78 rfl (lv_at0 hl) ?_
  refine vI (wr := [(h0, .inr (11, [.ref q9116, .ref q9122, .int 0, .ref q9119, .ref q9125, .ref q9131, .null, .null, .null, .null, .null])), (q9116, oX0 (u9118 0) (u9118 2) (u9118 4) (u9118 6) (u9118 8) (u9118 10) (u9118 12) (u9118 14) (u9118 16) (u9118 18) 0 (-1) 3 24), ((u9118 0), oX8 10 2 (u9118 1) 0), ((u9118 1), iA G 20 (fun _ => 0)), ((u9118 2), oX8 12 6 (u9118 3) 0), ((u9118 3), iA G 72 (fun _ => 0)), ((u9118 4), oX8 24 3 (u9118 5) 0), ((u9118 5), iA G 72 (fun _ => 0)), ((u9118 6), oX8 8 3 (u9118 7) 0), ((u9118 7), iA G 24 (fun _ => 0)), ((u9118 8), oX8 72 7 (u9118 9) 0), ((u9118 9), iA G 504 (fun _ => 0)), ((u9118 10), oX8 960 1 (u9118 11) 0), ((u9118 11), iA G 960 (fun _ => 0)), ((u9118 12), oX8 16 8 (u9118 13) 0), ((u9118 13), iA G 128 (fun _ => 0)), ((u9118 14), oX8 12 4 (u9118 15) 0), ((u9118 15), iA G 48 (fun _ => 0)), ((u9118 16), oX8 16 3 (u9118 17) 0), ((u9118 17), iA G 48 (fun _ => 0)), ((u9118 18), oX8 7 2 (u9118 19) 0), ((u9118 19), iA G 14 (fun _ => 0)), (q9119, oX7 q9116 (u9121 0) (u9121 2) (u9121 3) (u9121 4) (u9121 5) (u9121 6) (u9121 7) 0), ((u9121 0), oX1 (u9121 1)), ((u9121 1), iA G 36 (fun _ => 0)), ((u9121 2), iA G 12 (fun _ => 0)), ((u9121 3), iA G 12 (fun _ => 0)), ((u9121 4), iA G 12 (fun _ => 0)), ((u9121 5), iA G 12 (fun _ => 0)), ((u9121 6), iA G 12 (fun _ => 0)), ((u9121 7), iA G 12 (fun _ => 0)), (q9122, oX0 (u9124 0) (u9124 2) (u9124 4) (u9124 6) (u9124 8) (u9124 10) (u9124 12) (u9124 14) (u9124 16) (u9124 18) 0 (-1) 3 24), ((u9124 0), oX8 10 2 (u9124 1) 0), ((u9124 1), iA G 20 (fun _ => 0)), ((u9124 2), oX8 12 6 (u9124 3) 0), ((u9124 3), iA G 72 (fun _ => 0)), ((u9124 4), oX8 24 3 (u9124 5) 0), ((u9124 5), iA G 72 (fun _ => 0)), ((u9124 6), oX8 8 3 (u9124 7) 0), ((u9124 7), iA G 24 (fun _ => 0)), ((u9124 8), oX8 72 7 (u9124 9) 0), ((u9124 9), iA G 504 (fun _ => 0)), ((u9124 10), oX8 960 1 (u9124 11) 0), ((u9124 11), iA G 960 (fun _ => 0)), ((u9124 12), oX8 16 8 (u9124 13) 0), ((u9124 13), iA G 128 (fun _ => 0)), ((u9124 14), oX8 12 4 (u9124 15) 0), ((u9124 15), iA G 48 (fun _ => 0)), ((u9124 16), oX8 16 3 (u9124 17) 0), ((u9124 17), iA G 48 (fun _ => 0)), ((u9124 18), oX8 7 2 (u9124 19) 0), ((u9124 19), iA G 14 (fun _ => 0)), (q9125, oX3 q9116 (ad9128 0) 0 0 0), ((ad9128 0), cA G 13 hf9129), ((ad9128 1), oX1 (ad9128 2)), ((ad9128 2), iA G 36 (fun _ => 0)), ((ad9128 3), oX1 (ad9128 4)), ((ad9128 4), iA G 36 (fun _ => 0)), ((ad9128 5), oX1 (ad9128 6)), ((ad9128 6), iA G 36 (fun _ => 0)), ((ad9128 7), oX1 (ad9128 8)), ((ad9128 8), iA G 36 (fun _ => 0)), ((ad9128 9), oX1 (ad9128 10)), ((ad9128 10), iA G 36 (fun _ => 0)), ((ad9128 11), oX1 (ad9128 12)), ((ad9128 12), iA G 36 (fun _ => 0)), ((ad9128 13), oX1 (ad9128 14)), ((ad9128 14), iA G 36 (fun _ => 0)), ((ad9128 15), oX1 (ad9128 16)), ((ad9128 16), iA G 36 (fun _ => 0)), ((ad9128 17), oX1 (ad9128 18)), ((ad9128 18), iA G 36 (fun _ => 0)), ((ad9128 19), oX1 (ad9128 20)), ((ad9128 20), iA G 36 (fun _ => 0)), ((ad9128 21), oX1 (ad9128 22)), ((ad9128 22), iA G 36 (fun _ => 0)), ((ad9128 23), oX1 (ad9128 24)), ((ad9128 24), iA G 36 (fun _ => 0)), ((ad9128 25), oX1 (ad9128 26)), ((ad9128 26), iA G 36 (fun _ => 0)), (q9131, oX6 q9116 q9119 fa9134 sh9135 0 0 0), (fa9134, iA G 5 (fun _ => 0)), (sh9135, iA G 8 (fun _ => 0))]) hC hK hl hP hD hS hA (c_Ta_init l G q9136 q9116 q9119) si_X11_50 [83] [0, 1, 2, 3, 4, 5, 6, 7, 8, 9, 10, 11, 12, 13, 14, 15, 16, 17, 18, 19, 20, 21, 22, 23, 24, 25, 26, 27, 28, 29, 30, 31, 32, 33, 34, 35, 36, 37, 38, 39, 40, 41, 42, 43, 44, 45, 46, 47, 48, 49, 50, 51, 52, 53, 54, 55, 56, 57, 58, 59, 60, 61, 62, 63, 64, 65, 66, 67, 68, 69, 70, 71, 72, 73, 74, 75, 76, 77, 78, 79, 80, 81, 82] sm_83 fm_83 nd_83 rfl (by decide +kernel) (by decide) rfl rfl (Nat.le_of_ble_eq_true rfl) rm_5_2_3 ⟨by first | exact Nat.le_of_ble_eq_true rfl | omega, by first | exact Nat.le_of_ble_eq_true rfl | omega⟩ dX11_init_79 (fun u9138 H locs hr9137 hP hD hS => ?_)
  refine Kpdr (ws := [(h0, .inr (11, [.ref q9116, .ref q9122, .int 0, .ref q9119, .ref q9125, .ref q9131, .null, .null, .null, .null, .null])), (q9116, oX0 (u9118 0) (u9118 2) (u9118 4) (u9118 6) (u9118 8) (u9118 10) (u9118 12) (u9118 14) (u9118 16) (u9118 18) 0 (-1) 3 24), ((u9118 0), oX8 10 2 (u9118 1) 0), ((u9118 1), iA G 20 (fun _ => 0)), ((u9118 2), oX8 12 6 (u9118 3) 0), ((u9118 3), iA G 72 (fun _ => 0)), ((u9118 4), oX8 24 3 (u9118 5) 0), ((u9118 5), iA G 72 (fun _ => 0)), ((u9118 6), oX8 8 3 (u9118 7) 0), ((u9118 7), iA G 24 (fun _ => 0)), ((u9118 8), oX8 72 7 (u9118 9) 0), ((u9118 9), iA G 504 (fun _ => 0)), ((u9118 10), oX8 960 1 (u9118 11) 0), ((u9118 11), iA G 960 (fun _ => 0)), ((u9118 12), oX8 16 8 (u9118 13) 0), ((u9118 13), iA G 128 (fun _ => 0)), ((u9118 14), oX8 12 4 (u9118 15) 0), ((u9118 15), iA G 48 (fun _ => 0)), ((u9118 16), oX8 16 3 (u9118 17) 0), ((u9118 17), iA G 48 (fun _ => 0)), ((u9118 18), oX8 7 2 (u9118 19) 0), ((u9118 19), iA G 14 (fun _ => 0)), (q9119, oX7 q9116 (u9121 0) (u9121 2) (u9121 3) (u9121 4) (u9121 5) (u9121 6) (u9121 7) 0), ((u9121 0), oX1 (u9121 1)), ((u9121 1), iA G 36 (fun _ => 0)), ((u9121 2), iA G 12 (fun _ => 0)), ((u9121 3), iA G 12 (fun _ => 0)), ((u9121 4), iA G 12 (fun _ => 0)), ((u9121 5), iA G 12 (fun _ => 0)), ((u9121 6), iA G 12 (fun _ => 0)), ((u9121 7), iA G 12 (fun _ => 0)), (q9122, oX0 (u9124 0) (u9124 2) (u9124 4) (u9124 6) (u9124 8) (u9124 10) (u9124 12) (u9124 14) (u9124 16) (u9124 18) 0 (-1) 3 24), ((u9124 0), oX8 10 2 (u9124 1) 0), ((u9124 1), iA G 20 (fun _ => 0)), ((u9124 2), oX8 12 6 (u9124 3) 0), ((u9124 3), iA G 72 (fun _ => 0)), ((u9124 4), oX8 24 3 (u9124 5) 0), ((u9124 5), iA G 72 (fun _ => 0)), ((u9124 6), oX8 8 3 (u9124 7) 0), ((u9124 7), iA G 24 (fun _ => 0)), ((u9124 8), oX8 72 7 (u9124 9) 0), ((u9124 9), iA G 504 (fun _ => 0)), ((u9124 10), oX8 960 1 (u9124 11) 0), ((u9124 11), iA G 960 (fun _ => 0)), ((u9124 12), oX8 16 8 (u9124 13) 0), ((u9124 13), iA G 128 (fun _ => 0)), ((u9124 14), oX8 12 4 (u9124 15) 0), ((u9124 15), iA G 48 (fun _ => 0)), ((u9124 16), oX8 16 3 (u9124 17) 0), ((u9124 17), iA G 48 (fun _ => 0)), ((u9124 18), oX8 7 2 (u9124 19) 0), ((u9124 19), iA G 14 (fun _ => 0)), (q9125, oX3 q9116 (ad9128 0) 0 0 0), ((ad9128 0), cA G 13 hf9129), ((ad9128 1), oX1 (ad9128 2)), ((ad9128 2), iA G 36 (fun _ => 0)), ((ad9128 3), oX1 (ad9128 4)), ((ad9128 4), iA G 36 (fun _ => 0)), ((ad9128 5), oX1 (ad9128 6)), ((ad9128 6), iA G 36 (fun _ => 0)), ((ad9128 7), oX1 (ad9128 8)), ((ad9128 8), iA G 36 (fun _ => 0)), ((ad9128 9), oX1 (ad9128 10)), ((ad9128 10), iA G 36 (fun _ => 0)), ((ad9128 11), oX1 (ad9128 12)), ((ad9128 12), iA G 36 (fun _ => 0)), ((ad9128 13), oX1 (ad9128 14)), ((ad9128 14), iA G 36 (fun _ => 0)), ((ad9128 15), oX1 (ad9128 16)), ((ad9128 16), iA G 36 (fun _ => 0)), ((ad9128 17), oX1 (ad9128 18)), ((ad9128 18), iA G 36 (fun _ => 0)), ((ad9128 19), oX1 (ad9128 20)), ((ad9128 20), iA G 36 (fun _ => 0)), ((ad9128 21), oX1 (ad9128 22)), ((ad9128 22), iA G 36 (fun _ => 0)), ((ad9128 23), oX1 (ad9128 24)), ((ad9128 24), iA G 36 (fun _ => 0)), ((ad9128 25), oX1 (ad9128 26)), ((ad9128 26), iA G 36 (fun _ => 0)), (q9131, oX6 q9116 q9119 fa9134 sh9135 0 0 0), (fa9134, iA G 5 (fun _ => 0)), (sh9135, iA G 8 (fun _ => 0)), (q9136, oX9 q9116 q9119 0 0 0 0)]) hP hD (fun hP hD => ?_)
  refine pf_X11_51 hC rfl rfl hK hP hD hS 0 (ws' := [(h0, .inr (11, [.ref q9116, .ref q9122, .int 0, .ref q9119, .ref q9125, .ref q9131, .ref q9136, .null, .null, .null, .null])), (q9116, oX0 (u9118 0) (u9118 2) (u9118 4) (u9118 6) (u9118 8) (u9118 10) (u9118 12) (u9118 14) (u9118 16) (u9118 18) 0 (-1) 3 24), ((u9118 0), oX8 10 2 (u9118 1) 0), ((u9118 1), iA G 20 (fun _ => 0)), ((u9118 2), oX8 12 6 (u9118 3) 0), ((u9118 3), iA G 72 (fun _ => 0)), ((u9118 4), oX8 24 3 (u9118 5) 0), ((u9118 5), iA G 72 (fun _ => 0)), ((u9118 6), oX8 8 3 (u9118 7) 0), ((u9118 7), iA G 24 (fun _ => 0)), ((u9118 8), oX8 72 7 (u9118 9) 0), ((u9118 9), iA G 504 (fun _ => 0)), ((u9118 10), oX8 960 1 (u9118 11) 0), ((u9118 11), iA G 960 (fun _ => 0)), ((u9118 12), oX8 16 8 (u9118 13) 0), ((u9118 13), iA G 128 (fun _ => 0)), ((u9118 14), oX8 12 4 (u9118 15) 0), ((u9118 15), iA G 48 (fun _ => 0)), ((u9118 16), oX8 16 3 (u9118 17) 0), ((u9118 17), iA G 48 (fun _ => 0)), ((u9118 18), oX8 7 2 (u9118 19) 0), ((u9118 19), iA G 14 (fun _ => 0)), (q9119, oX7 q9116 (u9121 0) (u9121 2) (u9121 3) (u9121 4) (u9121 5) (u9121 6) (u9121 7) 0), ((u9121 0), oX1 (u9121 1)), ((u9121 1), iA G 36 (fun _ => 0)), ((u9121 2), iA G 12 (fun _ => 0)), ((u9121 3), iA G 12 (fun _ => 0)), ((u9121 4), iA G 12 (fun _ => 0)), ((u9121 5), iA G 12 (fun _ => 0)), ((u9121 6), iA G 12 (fun _ => 0)), ((u9121 7), iA G 12 (fun _ => 0)), (q9122, oX0 (u9124 0) (u9124 2) (u9124 4) (u9124 6) (u9124 8) (u9124 10) (u9124 12) (u9124 14) (u9124 16) (u9124 18) 0 (-1) 3 24), ((u9124 0), oX8 10 2 (u9124 1) 0), ((u9124 1), iA G 20 (fun _ => 0)), ((u9124 2), oX8 12 6 (u9124 3) 0), ((u9124 3), iA G 72 (fun _ => 0)), ((u9124 4), oX8 24 3 (u9124 5) 0), ((u9124 5), iA G 72 (fun _ => 0)), ((u9124 6), oX8 8 3 (u9124 7) 0), ((u9124 7), iA G 24 (fun _ => 0)), ((u9124 8), oX8 72 7 (u9124 9) 0), ((u9124 9), iA G 504 (fun _ => 0)), ((u9124 10), oX8 960 1 (u9124 11) 0), ((u9124 11), iA G 960 (fun _ => 0)), ((u9124 12), oX8 16 8 (u9124 13) 0), ((u9124 13), iA G 128 (fun _ => 0)), ((u9124 14), oX8 12 4 (u9124 15) 0), ((u9124 15), iA G 48 (fun _ => 0)), ((u9124 16), oX8 16 3 (u9124 17) 0), ((u9124 17), iA G 48 (fun _ => 0)), ((u9124 18), oX8 7 2 (u9124 19) 0), ((u9124 19), iA G 14 (fun _ => 0)), (q9125, oX3 q9116 (ad9128 0) 0 0 0), ((ad9128 0), cA G 13 hf9129), ((ad9128 1), oX1 (ad9128 2)), ((ad9128 2), iA G 36 (fun _ => 0)), ((ad9128 3), oX1 (ad9128 4)), ((ad9128 4), iA G 36 (fun _ => 0)), ((ad9128 5), oX1 (ad9128 6)), ((ad9128 6), iA G 36 (fun _ => 0)), ((ad9128 7), oX1 (ad9128 8)), ((ad9128 8), iA G 36 (fun _ => 0)), ((ad9128 9), oX1 (ad9128 10)), ((ad9128 10), iA G 36 (fun _ => 0)), ((ad9128 11), oX1 (ad9128 12)), ((ad9128 12), iA G 36 (fun _ => 0)), ((ad9128 13), oX1 (ad9128 14)), ((ad9128 14), iA G 36 (fun _ => 0)), ((ad9128 15), oX1 (ad9128 16)), ((ad9128 16), iA G 36 (fun _ => 0)), ((ad9128 17), oX1 (ad9128 18)), ((ad9128 18), iA G 36 (fun _ => 0)), ((ad9128 19), oX1 (ad9128 20)), ((ad9128 20), iA G 36 (fun _ => 0)), ((ad9128 21), oX1 (ad9128 22)), ((ad9128 22), iA G 36 (fun _ => 0)), ((ad9128 23), oX1 (ad9128 24)), ((ad9128 24), iA G 36 (fun _ => 0)), ((ad9128 25), oX1 (ad9128 26)), ((ad9128 26), iA G 36 (fun _ => 0)), (q9131, oX6 q9116 q9119 fa9134 sh9135 0 0 0), (fa9134, iA G 5 (fun _ => 0)), (sh9135, iA G 8 (fun _ => 0)), (q9136, oX9 q9116 q9119 0 0 0 0)]) rfl (Nat.le_of_ble_eq_true rfl) rfl rfl rfl dX11_init_82 (fun H locs hP hD hS => ?_)
  refine lv_aload_n hx hb dX11_init_85 rfl (lv_at2 hl) ?_
  refine nw_X11_55 hC rfl hK hP hD hS hA (Nat.le_of_ble_eq_true rfl) (Nat.le_of_ble_eq_true rfl) dX11_init_86 (fun q9139 H hP hD hS => ?_)
  refine Kpdr (ws := [(h0, .inr (11, [.ref q9116, .ref q9122, .int 0, .ref q9119, .ref q9125, .ref q9131, .ref q9136, .null, .null, .null, .null])), (q9116, oX0 (u9118 0) (u9118 2) (u9118 4) (u9118 6) (u9118 8) (u9118 10) (u9118 12) (u9118 14) (u9118 16) (u9118 18) 0 (-1) 3 24), ((u9118 0), oX8 10 2 (u9118 1) 0), ((u9118 1), iA G 20 (fun _ => 0)), ((u9118 2), oX8 12 6 (u9118 3) 0), ((u9118 3), iA G 72 (fun _ => 0)), ((u9118 4), oX8 24 3 (u9118 5) 0), ((u9118 5), iA G 72 (fun _ => 0)), ((u9118 6), oX8 8 3 (u9118 7) 0), ((u9118 7), iA G 24 (fun _ => 0)), ((u9118 8), oX8 72 7 (u9118 9) 0), ((u9118 9), iA G 504 (fun _ => 0)), ((u9118 10), oX8 960 1 (u9118 11) 0), ((u9118 11), iA G 960 (fun _ => 0)), ((u9118 12), oX8 16 8 (u9118 13) 0), ((u9118 13), iA G 128 (fun _ => 0)), ((u9118 14), oX8 12 4 (u9118 15) 0), ((u9118 15), iA G 48 (fun _ => 0)), ((u9118 16), oX8 16 3 (u9118 17) 0), ((u9118 17), iA G 48 (fun _ => 0)), ((u9118 18), oX8 7 2 (u9118 19) 0), ((u9118 19), iA G 14 (fun _ => 0)), (q9119, oX7 q9116 (u9121 0) (u9121 2) (u9121 3) (u9121 4) (u9121 5) (u9121 6) (u9121 7) 0), ((u9121 0), oX1 (u9121 1)), ((u9121 1), iA G 36 (fun _ => 0)), ((u9121 2), iA G 12 (fun _ => 0)), ((u9121 3), iA G 12 (fun _ => 0)), ((u9121 4), iA G 12 (fun _ => 0)), ((u9121 5), iA G 12 (fun _ => 0)), ((u9121 6), iA G 12 (fun _ => 0)), ((u9121 7), iA G 12 (fun _ => 0)), (q9122, oX0 (u9124 0) (u9124 2) (u9124 4) (u9124 6) (u9124 8) (u9124 10) (u9124 12) (u9124 14) (u9124 16) (u9124 18) 0 (-1) 3 24), ((u9124 0), oX8 10 2 (u9124 1) 0), ((u9124 1), iA G 20 (fun _ => 0)), ((u9124 2), oX8 12 6 (u9124 3) 0), ((u9124 3), iA G 72 (fun _ => 0)), ((u9124 4), oX8 24 3 (u9124 5) 0), ((u9124 5), iA G 72 (fun _ => 0)), ((u9124 6), oX8 8 3 (u9124 7) 0), ((u9124 7), iA G 24 (fun _ => 0)), ((u9124 8), oX8 72 7 (u9124 9) 0), ((u9124 9), iA G 504 (fun _ => 0)), ((u9124 10), oX8 960 1 (u9124 11) 0), ((u9124 11), iA G 960 (fun _ => 0)), ((u9124 12), oX8 16 8 (u9124 13) 0), ((u9124 13), iA G 128 (fun _ => 0)), ((u9124 14), oX8 12 4 (u9124 15) 0), ((u9124 15), iA G 48 (fun _ => 0)), ((u9124 16), oX8 16 3 (u9124 17) 0), ((u9124 17), iA G 48 (fun _ => 0)), ((u9124 18), oX8 7 2 (u9124 19) 0), ((u9124 19), iA G 14 (fun _ => 0)), (q9125, oX3 q9116 (ad9128 0) 0 0 0), ((ad9128 0), cA G 13 hf9129), ((ad9128 1), oX1 (ad9128 2)), ((ad9128 2), iA G 36 (fun _ => 0)), ((ad9128 3), oX1 (ad9128 4)), ((ad9128 4), iA G 36 (fun _ => 0)), ((ad9128 5), oX1 (ad9128 6)), ((ad9128 6), iA G 36 (fun _ => 0)), ((ad9128 7), oX1 (ad9128 8)), ((ad9128 8), iA G 36 (fun _ => 0)), ((ad9128 9), oX1 (ad9128 10)), ((ad9128 10), iA G 36 (fun _ => 0)), ((ad9128 11), oX1 (ad9128 12)), ((ad9128 12), iA G 36 (fun _ => 0)), ((ad9128 13), oX1 (ad9128 14)), ((ad9128 14), iA G 36 (fun _ => 0)), ((ad9128 15), oX1 (ad9128 16)), ((ad9128 16), iA G 36 (fun _ => 0)), ((ad9128 17), oX1 (ad9128 18)), ((ad9128 18), iA G 36 (fun _ => 0)), ((ad9128 19), oX1 (ad9128 20)), ((ad9128 20), iA G 36 (fun _ => 0)), ((ad9128 21), oX1 (ad9128 22)), ((ad9128 22), iA G 36 (fun _ => 0)), ((ad9128 23), oX1 (ad9128 24)), ((ad9128 24), iA G 36 (fun _ => 0)), ((ad9128 25), oX1 (ad9128 26)), ((ad9128 26), iA G 36 (fun _ => 0)), (q9131, oX6 q9116 q9119 fa9134 sh9135 0 0 0), (fa9134, iA G 5 (fun _ => 0)), (sh9135, iA G 8 (fun _ => 0)), (q9136, oX9 q9116 q9119 0 0 0 0), (q9139, .inr (10, [.null, .int 0, .null, .null, .int 0, .int 0, .int 0, .int 0]))]) hP hD (fun hP hD => ?_)
  refine Wcast (c1 := 84) (s1 := 4539) rfl rfl ?_
  refine lv_dup hx hb dX11_init_89 rfl ?_
  refine vI (wr := [(h0, .inr (11, [.ref q9116, .ref q9122, .int 0, .ref q9119, .ref q9125, .ref q9131, .ref q9136, .null, .null, .null, .null])), (q9116, oX0 (u9118 0) (u9118 2) (u9118 4) (u9118 6) (u9118 8) (u9118 10) (u9118 12) (u9118 14) (u9118 16) (u9118 18) 0 (-1) 3 24), ((u9118 0), oX8 10 2 (u9118 1) 0), ((u9118 1), iA G 20 (fun _ => 0)), ((u9118 2), oX8 12 6 (u9118 3) 0), ((u9118 3), iA G 72 (fun _ => 0)), ((u9118 4), oX8 24 3 (u9118 5) 0), ((u9118 5), iA G 72 (fun _ => 0)), ((u9118 6), oX8 8 3 (u9118 7) 0), ((u9118 7), iA G 24 (fun _ => 0)), ((u9118 8), oX8 72 7 (u9118 9) 0), ((u9118 9), iA G 504 (fun _ => 0)), ((u9118 10), oX8 960 1 (u9118 11) 0), ((u9118 11), iA G 960 (fun _ => 0)), ((u9118 12), oX8 16 8 (u9118 13) 0), ((u9118 13), iA G 128 (fun _ => 0)), ((u9118 14), oX8 12 4 (u9118 15) 0), ((u9118 15), iA G 48 (fun _ => 0)), ((u9118 16), oX8 16 3 (u9118 17) 0), ((u9118 17), iA G 48 (fun _ => 0)), ((u9118 18), oX8 7 2 (u9118 19) 0), ((u9118 19), iA G 14 (fun _ => 0)), (q9119, oX7 q9116 (u9121 0) (u9121 2) (u9121 3) (u9121 4) (u9121 5) (u9121 6) (u9121 7) 0), ((u9121 0), oX1 (u9121 1)), ((u9121 1), iA G 36 (fun _ => 0)), ((u9121 2), iA G 12 (fun _ => 0)), ((u9121 3), iA G 12 (fun _ => 0)), ((u9121 4), iA G 12 (fun _ => 0)), ((u9121 5), iA G 12 (fun _ => 0)), ((u9121 6), iA G 12 (fun _ => 0)), ((u9121 7), iA G 12 (fun _ => 0)), (q9122, oX0 (u9124 0) (u9124 2) (u9124 4) (u9124 6) (u9124 8) (u9124 10) (u9124 12) (u9124 14) (u9124 16) (u9124 18) 0 (-1) 3 24), ((u9124 0), oX8 10 2 (u9124 1) 0), ((u9124 1), iA G 20 (fun _ => 0)), ((u9124 2), oX8 12 6 (u9124 3) 0), ((u9124 3), iA G 72 (fun _ => 0)), ((u9124 4), oX8 24 3 (u9124 5) 0), ((u9124 5), iA G 72 (fun _ => 0)), ((u9124 6), oX8 8 3 (u9124 7) 0), ((u9124 7), iA G 24 (fun _ => 0)), ((u9124 8), oX8 72 7 (u9124 9) 0), ((u9124 9), iA G 504 (fun _ => 0)), ((u9124 10), oX8 960 1 (u9124 11) 0), ((u9124 11), iA G 960 (fun _ => 0)), ((u9124 12), oX8 16 8 (u9124 13) 0), ((u9124 13), iA G 128 (fun _ => 0)), ((u9124 14), oX8 12 4 (u9124 15) 0), ((u9124 15), iA G 48 (fun _ => 0)), ((u9124 16), oX8 16 3 (u9124 17) 0), ((u9124 17), iA G 48 (fun _ => 0)), ((u9124 18), oX8 7 2 (u9124 19) 0), ((u9124 19), iA G 14 (fun _ => 0)), (q9125, oX3 q9116 (ad9128 0) 0 0 0), ((ad9128 0), cA G 13 hf9129), ((ad9128 1), oX1 (ad9128 2)), ((ad9128 2), iA G 36 (fun _ => 0)), ((ad9128 3), oX1 (ad9128 4)), ((ad9128 4), iA G 36 (fun _ => 0)), ((ad9128 5), oX1 (ad9128 6)), ((ad9128 6), iA G 36 (fun _ => 0)), ((ad9128 7), oX1 (ad9128 8)), ((ad9128 8), iA G 36 (fun _ => 0)), ((ad9128 9), oX1 (ad9128 10)), ((ad9128 10), iA G 36 (fun _ => 0)), ((ad9128 11), oX1 (ad9128 12)), ((ad9128 12), iA G 36 (fun _ => 0)), ((ad9128 13), oX1 (ad9128 14)), ((ad9128 14), iA G 36 (fun _ => 0)), ((ad9128 15), oX1 (ad9128 16)), ((ad9128 16), iA G 36 (fun _ => 0)), ((ad9128 17), oX1 (ad9128 18)), ((ad9128 18), iA G 36 (fun _ => 0)), ((ad9128 19), oX1 (ad9128 20)), ((ad9128 20), iA G 36 (fun _ => 0)), ((ad9128 21), oX1 (ad9128 22)), ((ad9128 22), iA G 36 (fun _ => 0)), ((ad9128 23), oX1 (ad9128 24)), ((ad9128 24), iA G 36 (fun _ => 0)), ((ad9128 25), oX1 (ad9128 26)), ((ad9128 26), iA G 36 (fun _ => 0)), (q9131, oX6 q9116 q9119 fa9134 sh9135 0 0 0), (fa9134, iA G 5 (fun _ => 0)), (sh9135, iA G 8 (fun _ => 0)), (q9136, oX9 q9116 q9119 0 0 0 0)]) hC hK hl hP hD hS hA (c_Tp_init l G q9139) si_X11_57 [84] [0, 1, 2, 3, 4, 5, 6, 7, 8, 9, 10, 11, 12, 13, 14, 15, 16, 17, 18, 19, 20, 21, 22, 23, 24, 25, 26, 27, 28, 29, 30, 31, 32, 33, 34, 35, 36, 37, 38, 39, 40, 41, 42, 43, 44, 45, 46, 47, 48, 49, 50, 51, 52, 53, 54, 55, 56, 57, 58, 59, 60, 61, 62, 63, 64, 65, 66, 67, 68, 69, 70, 71, 72, 73, 74, 75, 76, 77, 78, 79, 80, 81, 82, 83] sm_84 fm_84 nd_84 rfl (by decide +kernel) (by decide) rfl rfl (Nat.le_of_ble_eq_true rfl) rm_5_3_1 ⟨by first | exact Nat.le_of_ble_eq_true rfl | omega, by first | exact Nat.le_of_ble_eq_true rfl | omega⟩ dX11_init_90 (fun u9141 H locs hr9140 hP hD hS => ?_)
  refine Kpdr (ws := [(h0, .inr (11, [.ref q9116, .ref q9122, .int 0, .ref q9119, .ref q9125, .ref q9131, .ref q9136, .null, .null, .null, .null])), (q9116, oX0 (u9118 0) (u9118 2) (u9118 4) (u9118 6) (u9118 8) (u9118 10) (u9118 12) (u9118 14) (u9118 16) (u9118 18) 0 (-1) 3 24), ((u9118 0), oX8 10 2 (u9118 1) 0), ((u9118 1), iA G 20 (fun _ => 0)), ((u9118 2), oX8 12 6 (u9118 3) 0), ((u9118 3), iA G 72 (fun _ => 0)), ((u9118 4), oX8 24 3 (u9118 5) 0), ((u9118 5), iA G 72 (fun _ => 0)), ((u9118 6), oX8 8 3 (u9118 7) 0), ((u9118 7), iA G 24 (fun _ => 0)), ((u9118 8), oX8 72 7 (u9118 9) 0), ((u9118 9), iA G 504 (fun _ => 0)), ((u9118 10), oX8 960 1 (u9118 11) 0), ((u9118 11), iA G 960 (fun _ => 0)), ((u9118 12), oX8 16 8 (u9118 13) 0), ((u9118 13), iA G 128 (fun _ => 0)), ((u9118 14), oX8 12 4 (u9118 15) 0), ((u9118 15), iA G 48 (fun _ => 0)), ((u9118 16), oX8 16 3 (u9118 17) 0), ((u9118 17), iA G 48 (fun _ => 0)), ((u9118 18), oX8 7 2 (u9118 19) 0), ((u9118 19), iA G 14 (fun _ => 0)), (q9119, oX7 q9116 (u9121 0) (u9121 2) (u9121 3) (u9121 4) (u9121 5) (u9121 6) (u9121 7) 0), ((u9121 0), oX1 (u9121 1)), ((u9121 1), iA G 36 (fun _ => 0)), ((u9121 2), iA G 12 (fun _ => 0)), ((u9121 3), iA G 12 (fun _ => 0)), ((u9121 4), iA G 12 (fun _ => 0)), ((u9121 5), iA G 12 (fun _ => 0)), ((u9121 6), iA G 12 (fun _ => 0)), ((u9121 7), iA G 12 (fun _ => 0)), (q9122, oX0 (u9124 0) (u9124 2) (u9124 4) (u9124 6) (u9124 8) (u9124 10) (u9124 12) (u9124 14) (u9124 16) (u9124 18) 0 (-1) 3 24), ((u9124 0), oX8 10 2 (u9124 1) 0), ((u9124 1), iA G 20 (fun _ => 0)), ((u9124 2), oX8 12 6 (u9124 3) 0), ((u9124 3), iA G 72 (fun _ => 0)), ((u9124 4), oX8 24 3 (u9124 5) 0), ((u9124 5), iA G 72 (fun _ => 0)), ((u9124 6), oX8 8 3 (u9124 7) 0), ((u9124 7), iA G 24 (fun _ => 0)), ((u9124 8), oX8 72 7 (u9124 9) 0), ((u9124 9), iA G 504 (fun _ => 0)), ((u9124 10), oX8 960 1 (u9124 11) 0), ((u9124 11), iA G 960 (fun _ => 0)), ((u9124 12), oX8 16 8 (u9124 13) 0), ((u9124 13), iA G 128 (fun _ => 0)), ((u9124 14), oX8 12 4 (u9124 15) 0), ((u9124 15), iA G 48 (fun _ => 0)), ((u9124 16), oX8 16 3 (u9124 17) 0), ((u9124 17), iA G 48 (fun _ => 0)), ((u9124 18), oX8 7 2 (u9124 19) 0), ((u9124 19), iA G 14 (fun _ => 0)), (q9125, oX3 q9116 (ad9128 0) 0 0 0), ((ad9128 0), cA G 13 hf9129), ((ad9128 1), oX1 (ad9128 2)), ((ad9128 2), iA G 36 (fun _ => 0)), ((ad9128 3), oX1 (ad9128 4)), ((ad9128 4), iA G 36 (fun _ => 0)), ((ad9128 5), oX1 (ad9128 6)), ((ad9128 6), iA G 36 (fun _ => 0)), ((ad9128 7), oX1 (ad9128 8)), ((ad9128 8), iA G 36 (fun _ => 0)), ((ad9128 9), oX1 (ad9128 10)), ((ad9128 10), iA G 36 (fun _ => 0)), ((ad9128 11), oX1 (ad9128 12)), ((ad9128 12), iA G 36 (fun _ => 0)), ((ad9128 13), oX1 (ad9128 14)), ((ad9128 14), iA G 36 (fun _ => 0)), ((ad9128 15), oX1 (ad9128 16)), ((ad9128 16), iA G 36 (fun _ => 0)), ((ad9128 17), oX1 (ad9128 18)), ((ad9128 18), iA G 36 (fun _ => 0)), ((ad9128 19), oX1 (ad9128 20)), ((ad9128 20), iA G 36 (fun _ => 0)), ((ad9128 21), oX1 (ad9128 22)), ((ad9128 22), iA G 36 (fun _ => 0)), ((ad9128 23), oX1 (ad9128 24)), ((ad9128 24), iA G 36 (fun _ => 0)), ((ad9128 25), oX1 (ad9128 26)), ((ad9128 26), iA G 36 (fun _ => 0)), (q9131, oX6 q9116 q9119 fa9134 sh9135 0 0 0), (fa9134, iA G 5 (fun _ => 0)), (sh9135, iA G 8 (fun _ => 0)), (q9136, oX9 q9116 q9119 0 0 0 0), (q9139, oX10 (u9141 0) 0 (u9141 1) (u9141 3) (-1) 0 0 (-1)), ((u9141 0), iA G 240 (fun _ => 0)), ((u9141 1), oX8 9 7 (u9141 2) 0), ((u9141 2), iA G 63 (fun _ => 0)), ((u9141 3), oX8 120 1 (u9141 4) 0), ((u9141 4), iA G 120 (fun _ => 0))]) hP hD (fun hP hD => ?_)
  refine Wcast (c1 := 89) (s1 := 4970) rfl rfl ?_
  refine pf_X11_58 hC rfl rfl hK hP hD hS 0 (ws' := [(h0, .inr (11, [.ref q9116, .ref q9122, .int 0, .ref q9119, .ref q9125, .ref q9131, .ref q9136, .ref q9139, .null, .null, .null])), (q9116, oX0 (u9118 0) (u9118 2) (u9118 4) (u9118 6) (u9118 8) (u9118 10) (u9118 12) (u9118 14) (u9118 16) (u9118 18) 0 (-1) 3 24), ((u9118 0), oX8 10 2 (u9118 1) 0), ((u9118 1), iA G 20 (fun _ => 0)), ((u9118 2), oX8 12 6 (u9118 3) 0), ((u9118 3), iA G 72 (fun _ => 0)), ((u9118 4), oX8 24 3 (u9118 5) 0), ((u9118 5), iA G 72 (fun _ => 0)), ((u9118 6), oX8 8 3 (u9118 7) 0), ((u9118 7), iA G 24 (fun _ => 0)), ((u9118 8), oX8 72 7 (u9118 9) 0), ((u9118 9), iA G 504 (fun _ => 0)), ((u9118 10), oX8 960 1 (u9118 11) 0), ((u9118 11), iA G 960 (fun _ => 0)), ((u9118 12), oX8 16 8 (u9118 13) 0), ((u9118 13), iA G 128 (fun _ => 0)), ((u9118 14), oX8 12 4 (u9118 15) 0), ((u9118 15), iA G 48 (fun _ => 0)), ((u9118 16), oX8 16 3 (u9118 17) 0), ((u9118 17), iA G 48 (fun _ => 0)), ((u9118 18), oX8 7 2 (u9118 19) 0), ((u9118 19), iA G 14 (fun _ => 0)), (q9119, oX7 q9116 (u9121 0) (u9121 2) (u9121 3) (u9121 4) (u9121 5) (u9121 6) (u9121 7) 0), ((u9121 0), oX1 (u9121 1)), ((u9121 1), iA G 36 (fun _ => 0)), ((u9121 2), iA G 12 (fun _ => 0)), ((u9121 3), iA G 12 (fun _ => 0)), ((u9121 4), iA G 12 (fun _ => 0)), ((u9121 5), iA G 12 (fun _ => 0)), ((u9121 6), iA G 12 (fun _ => 0)), ((u9121 7), iA G 12 (fun _ => 0)), (q9122, oX0 (u9124 0) (u9124 2) (u9124 4) (u9124 6) (u9124 8) (u9124 10) (u9124 12) (u9124 14) (u9124 16) (u9124 18) 0 (-1) 3 24), ((u9124 0), oX8 10 2 (u9124 1) 0), ((u9124 1), iA G 20 (fun _ => 0)), ((u9124 2), oX8 12 6 (u9124 3) 0), ((u9124 3), iA G 72 (fun _ => 0)), ((u9124 4), oX8 24 3 (u9124 5) 0), ((u9124 5), iA G 72 (fun _ => 0)), ((u9124 6), oX8 8 3 (u9124 7) 0), ((u9124 7), iA G 24 (fun _ => 0)), ((u9124 8), oX8 72 7 (u9124 9) 0), ((u9124 9), iA G 504 (fun _ => 0)), ((u9124 10), oX8 960 1 (u9124 11) 0), ((u9124 11), iA G 960 (fun _ => 0)), ((u9124 12), oX8 16 8 (u9124 13) 0), ((u9124 13), iA G 128 (fun _ => 0)), ((u9124 14), oX8 12 4 (u9124 15) 0), ((u9124 15), iA G 48 (fun _ => 0)), ((u9124 16), oX8 16 3 (u9124 17) 0), ((u9124 17), iA G 48 (fun _ => 0)), ((u9124 18), oX8 7 2 (u9124 19) 0), ((u9124 19), iA G 14 (fun _ => 0)), (q9125, oX3 q9116 (ad9128 0) 0 0 0), ((ad9128 0), cA G 13 hf9129), ((ad9128 1), oX1 (ad9128 2)), ((ad9128 2), iA G 36 (fun _ => 0)), ((ad9128 3), oX1 (ad9128 4)), ((ad9128 4), iA G 36 (fun _ => 0)), ((ad9128 5), oX1 (ad9128 6)), ((ad9128 6), iA G 36 (fun _ => 0)), ((ad9128 7), oX1 (ad9128 8)), ((ad9128 8), iA G 36 (fun _ => 0)), ((ad9128 9), oX1 (ad9128 10)), ((ad9128 10), iA G 36 (fun _ => 0)), ((ad9128 11), oX1 (ad9128 12)), ((ad9128 12), iA G 36 (fun _ => 0)), ((ad9128 13), oX1 (ad9128 14)), ((ad9128 14), iA G 36 (fun _ => 0)), ((ad9128 15), oX1 (ad9128 16)), ((ad9128 16), iA G 36 (fun _ => 0)), ((ad9128 17), oX1 (ad9128 18)), ((ad9128 18), iA G 36 (fun _ => 0)), ((ad9128 19), oX1 (ad9128 20)), ((ad9128 20), iA G 36 (fun _ => 0)), ((ad9128 21), oX1 (ad9128 22)), ((ad9128 22), iA G 36 (fun _ => 0)), ((ad9128 23), oX1 (ad9128 24)), ((ad9128 24), iA G 36 (fun _ => 0)), ((ad9128 25), oX1 (ad9128 26)), ((ad9128 26), iA G 36 (fun _ => 0)), (q9131, oX6 q9116 q9119 fa9134 sh9135 0 0 0), (fa9134, iA G 5 (fun _ => 0)), (sh9135, iA G 8 (fun _ => 0)), (q9136, oX9 q9116 q9119 0 0 0 0), (q9139, oX10 (u9141 0) 0 (u9141 1) (u9141 3) (-1) 0 0 (-1)), ((u9141 0), iA G 240 (fun _ => 0)), ((u9141 1), oX8 9 7 (u9141 2) 0), ((u9141 2), iA G 63 (fun _ => 0)), ((u9141 3), oX8 120 1 (u9141 4) 0), ((u9141 4), iA G 120 (fun _ => 0))]) rfl (Nat.le_of_ble_eq_true rfl) rfl rfl rfl dX11_init_93 (fun H locs hP hD hS => ?_)
  refine lv_aload_n hx hb dX11_init_96 rfl (lv_at2 hl) ?_
  refine nw_X11_62 hC rfl hK hP hD hS hA (Nat.le_of_ble_eq_true rfl) (Nat.le_of_ble_eq_true rfl) dX11_init_97 (fun q9142 H hP hD hS => ?_)
  refine Kpdr (ws := [(h0, .inr (11, [.ref q9116, .ref q9122, .int 0, .ref q9119, .ref q9125, .ref q9131, .ref q9136, .ref q9139, .null, .null, .null])), (q9116, oX0 (u9118 0) (u9118 2) (u9118 4) (u9118 6) (u9118 8) (u9118 10) (u9118 12) (u9118 14) (u9118 16) (u9118 18) 0 (-1) 3 24), ((u9118 0), oX8 10 2 (u9118 1) 0), ((u9118 1), iA G 20 (fun _ => 0)), ((u9118 2), oX8 12 6 (u9118 3) 0), ((u9118 3), iA G 72 (fun _ => 0)), ((u9118 4), oX8 24 3 (u9118 5) 0), ((u9118 5), iA G 72 (fun _ => 0)), ((u9118 6), oX8 8 3 (u9118 7) 0), ((u9118 7), iA G 24 (fun _ => 0)), ((u9118 8), oX8 72 7 (u9118 9) 0), ((u9118 9), iA G 504 (fun _ => 0)), ((u9118 10), oX8 960 1 (u9118 11) 0), ((u9118 11), iA G 960 (fun _ => 0)), ((u9118 12), oX8 16 8 (u9118 13) 0), ((u9118 13), iA G 128 (fun _ => 0)), ((u9118 14), oX8 12 4 (u9118 15) 0), ((u9118 15), iA G 48 (fun _ => 0)), ((u9118 16), oX8 16 3 (u9118 17) 0), ((u9118 17), iA G 48 (fun _ => 0)), ((u9118 18), oX8 7 2 (u9118 19) 0), ((u9118 19), iA G 14 (fun _ => 0)), (q9119, oX7 q9116 (u9121 0) (u9121 2) (u9121 3) (u9121 4) (u9121 5) (u9121 6) (u9121 7) 0), ((u9121 0), oX1 (u9121 1)), ((u9121 1), iA G 36 (fun _ => 0)), ((u9121 2), iA G 12 (fun _ => 0)), ((u9121 3), iA G 12 (fun _ => 0)), ((u9121 4), iA G 12 (fun _ => 0)), ((u9121 5), iA G 12 (fun _ => 0)), ((u9121 6), iA G 12 (fun _ => 0)), ((u9121 7), iA G 12 (fun _ => 0)), (q9122, oX0 (u9124 0) (u9124 2) (u9124 4) (u9124 6) (u9124 8) (u9124 10) (u9124 12) (u9124 14) (u9124 16) (u9124 18) 0 (-1) 3 24), ((u9124 0), oX8 10 2 (u9124 1) 0), ((u9124 1), iA G 20 (fun _ => 0)), ((u9124 2), oX8 12 6 (u9124 3) 0), ((u9124 3), iA G 72 (fun _ => 0)), ((u9124 4), oX8 24 3 (u9124 5) 0), ((u9124 5), iA G 72 (fun _ => 0)), ((u9124 6), oX8 8 3 (u9124 7) 0), ((u9124 7), iA G 24 (fun _ => 0)), ((u9124 8), oX8 72 7 (u9124 9) 0), ((u9124 9), iA G 504 (fun _ => 0)), ((u9124 10), oX8 960 1 (u9124 11) 0), ((u9124 11), iA G 960 (fun _ => 0)), ((u9124 12), oX8 16 8 (u9124 13) 0), ((u9124 13), iA G 128 (fun _ => 0)), ((u9124 14), oX8 12 4 (u9124 15) 0), ((u9124 15), iA G 48 (fun _ => 0)), ((u9124 16), oX8 16 3 (u9124 17) 0), ((u9124 17), iA G 48 (fun _ => 0)), ((u9124 18), oX8 7 2 (u9124 19) 0), ((u9124 19), iA G 14 (fun _ => 0)), (q9125, oX3 q9116 (ad9128 0) 0 0 0), ((ad9128 0), cA G 13 hf9129), ((ad9128 1), oX1 (ad9128 2)), ((ad9128 2), iA G 36 (fun _ => 0)), ((ad9128 3), oX1 (ad9128 4)), ((ad9128 4), iA G 36 (fun _ => 0)), ((ad9128 5), oX1 (ad9128 6)), ((ad9128 6), iA G 36 (fun _ => 0)), ((ad9128 7), oX1 (ad9128 8)), ((ad9128 8), iA G 36 (fun _ => 0)), ((ad9128 9), oX1 (ad9128 10)), ((ad9128 10), iA G 36 (fun _ => 0)), ((ad9128 11), oX1 (ad9128 12)), ((ad9128 12), iA G 36 (fun _ => 0)), ((ad9128 13), oX1 (ad9128 14)), ((ad9128 14), iA G 36 (fun _ => 0)), ((ad9128 15), oX1 (ad9128 16)), ((ad9128 16), iA G 36 (fun _ => 0)), ((ad9128 17), oX1 (ad9128 18)), ((ad9128 18), iA G 36 (fun _ => 0)), ((ad9128 19), oX1 (ad9128 20)), ((ad9128 20), iA G 36 (fun _ => 0)), ((ad9128 21), oX1 (ad9128 22)), ((ad9128 22), iA G 36 (fun _ => 0)), ((ad9128 23), oX1 (ad9128 24)), ((ad9128 24), iA G 36 (fun _ => 0)), ((ad9128 25), oX1 (ad9128 26)), ((ad9128 26), iA G 36 (fun _ => 0)), (q9131, oX6 q9116 q9119 fa9134 sh9135 0 0 0), (fa9134, iA G 5 (fun _ => 0)), (sh9135, iA G 8 (fun _ => 0)), (q9136, oX9 q9116 q9119 0 0 0 0), (q9139, oX10 (u9141 0) 0 (u9141 1) (u9141 3) (-1) 0 0 (-1)), ((u9141 0), iA G 240 (fun _ => 0)), ((u9141 1), oX8 9 7 (u9141 2) 0), ((u9141 2), iA G 63 (fun _ => 0)), ((u9141 3), oX8 120 1 (u9141 4) 0), ((u9141 4), iA G 120 (fun _ => 0)), (q9142, .inr (5, [.null, .null, .null, .int 0, .int 0, .int 0]))]) hP hD (fun hP hD => ?_)
  refine Wcast (c1 := 90) (s1 := 4976) rfl rfl ?_
  refine lv_dup hx hb dX11_init_100 rfl ?_
  refine lv_aload_n hx hb dX11_init_101 rfl (lv_at1 hl) ?_
  refine vI (wr := [(h0, .inr (11, [.ref q9116, .ref q9122, .int 0, .ref q9119, .ref q9125, .ref q9131, .ref q9136, .ref q9139, .null, .null, .null])), (q9116, oX0 (u9118 0) (u9118 2) (u9118 4) (u9118 6) (u9118 8) (u9118 10) (u9118 12) (u9118 14) (u9118 16) (u9118 18) 0 (-1) 3 24), ((u9118 0), oX8 10 2 (u9118 1) 0), ((u9118 1), iA G 20 (fun _ => 0)), ((u9118 2), oX8 12 6 (u9118 3) 0), ((u9118 3), iA G 72 (fun _ => 0)), ((u9118 4), oX8 24 3 (u9118 5) 0), ((u9118 5), iA G 72 (fun _ => 0)), ((u9118 6), oX8 8 3 (u9118 7) 0), ((u9118 7), iA G 24 (fun _ => 0)), ((u9118 8), oX8 72 7 (u9118 9) 0), ((u9118 9), iA G 504 (fun _ => 0)), ((u9118 10), oX8 960 1 (u9118 11) 0), ((u9118 11), iA G 960 (fun _ => 0)), ((u9118 12), oX8 16 8 (u9118 13) 0), ((u9118 13), iA G 128 (fun _ => 0)), ((u9118 14), oX8 12 4 (u9118 15) 0), ((u9118 15), iA G 48 (fun _ => 0)), ((u9118 16), oX8 16 3 (u9118 17) 0), ((u9118 17), iA G 48 (fun _ => 0)), ((u9118 18), oX8 7 2 (u9118 19) 0), ((u9118 19), iA G 14 (fun _ => 0)), (q9119, oX7 q9116 (u9121 0) (u9121 2) (u9121 3) (u9121 4) (u9121 5) (u9121 6) (u9121 7) 0), ((u9121 0), oX1 (u9121 1)), ((u9121 1), iA G 36 (fun _ => 0)), ((u9121 2), iA G 12 (fun _ => 0)), ((u9121 3), iA G 12 (fun _ => 0)), ((u9121 4), iA G 12 (fun _ => 0)), ((u9121 5), iA G 12 (fun _ => 0)), ((u9121 6), iA G 12 (fun _ => 0)), ((u9121 7), iA G 12 (fun _ => 0)), (q9122, oX0 (u9124 0) (u9124 2) (u9124 4) (u9124 6) (u9124 8) (u9124 10) (u9124 12) (u9124 14) (u9124 16) (u9124 18) 0 (-1) 3 24), ((u9124 0), oX8 10 2 (u9124 1) 0), ((u9124 1), iA G 20 (fun _ => 0)), ((u9124 2), oX8 12 6 (u9124 3) 0), ((u9124 3), iA G 72 (fun _ => 0)), ((u9124 4), oX8 24 3 (u9124 5) 0), ((u9124 5), iA G 72 (fun _ => 0)), ((u9124 6), oX8 8 3 (u9124 7) 0), ((u9124 7), iA G 24 (fun _ => 0)), ((u9124 8), oX8 72 7 (u9124 9) 0), ((u9124 9), iA G 504 (fun _ => 0)), ((u9124 10), oX8 960 1 (u9124 11) 0), ((u9124 11), iA G 960 (fun _ => 0)), ((u9124 12), oX8 16 8 (u9124 13) 0), ((u9124 13), iA G 128 (fun _ => 0)), ((u9124 14), oX8 12 4 (u9124 15) 0), ((u9124 15), iA G 48 (fun _ => 0)), ((u9124 16), oX8 16 3 (u9124 17) 0), ((u9124 17), iA G 48 (fun _ => 0)), ((u9124 18), oX8 7 2 (u9124 19) 0), ((u9124 19), iA G 14 (fun _ => 0)), (q9125, oX3 q9116 (ad9128 0) 0 0 0), ((ad9128 0), cA G 13 hf9129), ((ad9128 1), oX1 (ad9128 2)), ((ad9128 2), iA G 36 (fun _ => 0)), ((ad9128 3), oX1 (ad9128 4)), ((ad9128 4), iA G 36 (fun _ => 0)), ((ad9128 5), oX1 (ad9128 6)), ((ad9128 6), iA G 36 (fun _ => 0)), ((ad9128 7), oX1 (ad9128 8)), ((ad9128 8), iA G 36 (fun _ => 0)), ((ad9128 9), oX1 (ad9128 10)), ((ad9128 10), iA G 36 (fun _ => 0)), ((ad9128 11), oX1 (ad9128 12)), ((ad9128 12), iA G 36 (fun _ => 0)), ((ad9128 13), oX1 (ad9128 14)), ((ad9128 14), iA G 36 (fun _ => 0)), ((ad9128 15), oX1 (ad9128 16)), ((ad9128 16), iA G 36 (fun _ => 0)), ((ad9128 17), oX1 (ad9128 18)), ((ad9128 18), iA G 36 (fun _ => 0)), ((ad9128 19), oX1 (ad9128 20)), ((ad9128 20), iA G 36 (fun _ => 0)), ((ad9128 21), oX1 (ad9128 22)), ((ad9128 22), iA G 36 (fun _ => 0)), ((ad9128 23), oX1 (ad9128 24)), ((ad9128 24), iA G 36 (fun _ => 0)), ((ad9128 25), oX1 (ad9128 26)), ((ad9128 26), iA G 36 (fun _ => 0)), (q9131, oX6 q9116 q9119 fa9134 sh9135 0 0 0), (fa9134, iA G 5 (fun _ => 0)), (sh9135, iA G 8 (fun _ => 0)), (q9136, oX9 q9116 q9119 0 0 0 0), (q9139, oX10 (u9141 0) 0 (u9141 1) (u9141 3) (-1) 0 0 (-1)), ((u9141 0), iA G 240 (fun _ => 0)), ((u9141 1), oX8 9 7 (u9141 2) 0), ((u9141 2), iA G 63 (fun _ => 0)), ((u9141 3), oX8 120 1 (u9141 4) 0), ((u9141 4), iA G 120 (fun _ => 0))]) hC hK hl hP hD hS hA (c_Ro_init l G q9142 q9116) si_X11_64 [90] [0, 1, 2, 3, 4, 5, 6, 7, 8, 9, 10, 11, 12, 13, 14, 15, 16, 17, 18, 19, 20, 21, 22, 23, 24, 25, 26, 27, 28, 29, 30, 31, 32, 33, 34, 35, 36, 37, 38, 39, 40, 41, 42, 43, 44, 45, 46, 47, 48, 49, 50, 51, 52, 53, 54, 55, 56, 57, 58, 59, 60, 61, 62, 63, 64, 65, 66, 67, 68, 69, 70, 71, 72, 73, 74, 75, 76, 77, 78, 79, 80, 81, 82, 83, 84, 85, 86, 87, 88, 89] sm_90 fm_90 nd_90 rfl (by decide +kernel) (by decide) rfl rfl (Nat.le_of_ble_eq_true rfl) rm_5_3_2 ⟨by first | exact Nat.le_of_ble_eq_true rfl | omega, by first | exact Nat.le_of_ble_eq_true rfl | omega⟩ dX11_init_102 (Ktu3 fun rr9145 rrc9146 tc9147 => ?_)
  intro H locs hr9143 hP hD hS
  try dsimp only at hr9143
  refine Kpdr (ws := [(h0, .inr (11, [.ref q9116, .ref q9122, .int 0, .ref q9119, .ref q9125, .ref q9131, .ref q9136, .ref q9139, .null, .null, .null])), (q9116, oX0 (u9118 0) (u9118 2) (u9118 4) (u9118 6) (u9118 8) (u9118 10) (u9118 12) (u9118 14) (u9118 16) (u9118 18) 0 (-1) 3 24), ((u9118 0), oX8 10 2 (u9118 1) 0), ((u9118 1), iA G 20 (fun _ => 0)), ((u9118 2), oX8 12 6 (u9118 3) 0), ((u9118 3), iA G 72 (fun _ => 0)), ((u9118 4), oX8 24 3 (u9118 5) 0), ((u9118 5), iA G 72 (fun _ => 0)), ((u9118 6), oX8 8 3 (u9118 7) 0), ((u9118 7), iA G 24 (fun _ => 0)), ((u9118 8), oX8 72 7 (u9118 9) 0), ((u9118 9), iA G 504 (fun _ => 0)), ((u9118 10), oX8 960 1 (u9118 11) 0), ((u9118 11), iA G 960 (fun _ => 0)), ((u9118 12), oX8 16 8 (u9118 13) 0), ((u9118 13), iA G 128 (fun _ => 0)), ((u9118 14), oX8 12 4 (u9118 15) 0), ((u9118 15), iA G 48 (fun _ => 0)), ((u9118 16), oX8 16 3 (u9118 17) 0), ((u9118 17), iA G 48 (fun _ => 0)), ((u9118 18), oX8 7 2 (u9118 19) 0), ((u9118 19), iA G 14 (fun _ => 0)), (q9119, oX7 q9116 (u9121 0) (u9121 2) (u9121 3) (u9121 4) (u9121 5) (u9121 6) (u9121 7) 0), ((u9121 0), oX1 (u9121 1)), ((u9121 1), iA G 36 (fun _ => 0)), ((u9121 2), iA G 12 (fun _ => 0)), ((u9121 3), iA G 12 (fun _ => 0)), ((u9121 4), iA G 12 (fun _ => 0)), ((u9121 5), iA G 12 (fun _ => 0)), ((u9121 6), iA G 12 (fun _ => 0)), ((u9121 7), iA G 12 (fun _ => 0)), (q9122, oX0 (u9124 0) (u9124 2) (u9124 4) (u9124 6) (u9124 8) (u9124 10) (u9124 12) (u9124 14) (u9124 16) (u9124 18) 0 (-1) 3 24), ((u9124 0), oX8 10 2 (u9124 1) 0), ((u9124 1), iA G 20 (fun _ => 0)), ((u9124 2), oX8 12 6 (u9124 3) 0), ((u9124 3), iA G 72 (fun _ => 0)), ((u9124 4), oX8 24 3 (u9124 5) 0), ((u9124 5), iA G 72 (fun _ => 0)), ((u9124 6), oX8 8 3 (u9124 7) 0), ((u9124 7), iA G 24 (fun _ => 0)), ((u9124 8), oX8 72 7 (u9124 9) 0), ((u9124 9), iA G 504 (fun _ => 0)), ((u9124 10), oX8 960 1 (u9124 11) 0), ((u9124 11), iA G 960 (fun _ => 0)), ((u9124 12), oX8 16 8 (u9124 13) 0), ((u9124 13), iA G 128 (fun _ => 0)), ((u9124 14), oX8 12 4 (u9124 15) 0), ((u9124 15), iA G 48 (fun _ => 0)), ((u9124 16), oX8 16 3 (u9124 17) 0), ((u9124 17), iA G 48 (fun _ => 0)), ((u9124 18), oX8 7 2 (u9124 19) 0), ((u9124 19), iA G 14 (fun _ => 0)), (q9125, oX3 q9116 (ad9128 0) 0 0 0), ((ad9128 0), cA G 13 hf9129), ((ad9128 1), oX1 (ad9128 2)), ((ad9128 2), iA G 36 (fun _ => 0)), ((ad9128 3), oX1 (ad9128 4)), ((ad9128 4), iA G 36 (fun _ => 0)), ((ad9128 5), oX1 (ad9128 6)), ((ad9128 6), iA G 36 (fun _ => 0)), ((ad9128 7), oX1 (ad9128 8)), ((ad9128 8), iA G 36 (fun _ => 0)), ((ad9128 9), oX1 (ad9128 10)), ((ad9128 10), iA G 36 (fun _ => 0)), ((ad9128 11), oX1 (ad9128 12)), ((ad9128 12), iA G 36 (fun _ => 0)), ((ad9128 13), oX1 (ad9128 14)), ((ad9128 14), iA G 36 (fun _ => 0)), ((ad9128 15), oX1 (ad9128 16)), ((ad9128 16), iA G 36 (fun _ => 0)), ((ad9128 17), oX1 (ad9128 18)), ((ad9128 18), iA G 36 (fun _ => 0)), ((ad9128 19), oX1 (ad9128 20)), ((ad9128 20), iA G 36 (fun _ => 0)), ((ad9128 21), oX1 (ad9128 22)), ((ad9128 22), iA G 36 (fun _ => 0)), ((ad9128 23), oX1 (ad9128 24)), ((ad9128 24), iA G 36 (fun _ => 0)), ((ad9128 25), oX1 (ad9128 26)), ((ad9128 26), iA G 36 (fun _ => 0)), (q9131, oX6 q9116 q9119 fa9134 sh9135 0 0 0), (fa9134, iA G 5 (fun _ => 0)), (sh9135, iA G 8 (fun _ => 0)), (q9136, oX9 q9116 q9119 0 0 0 0), (q9139, oX10 (u9141 0) 0 (u9141 1) (u9141 3) (-1) 0 0 (-1)), ((u9141 0), iA G 240 (fun _ => 0)), ((u9141 1), oX8 9 7 (u9141 2) 0), ((u9141 2), iA G 63 (fun _ => 0)), ((u9141 3), oX8 120 1 (u9141 4) 0), ((u9141 4), iA G 120 (fun _ => 0)), (q9142, oX5 q9116 rr9145 tc9147 0 0 0), (rr9145, oX8 7 2 rrc9146 0), (rrc9146, iA G 14 (fun _ => 0)), (tc9147, iA G 128 (fun _ => 0))]) hP hD (fun hP hD => ?_)
  refine Wcast (c1 := 93) (s1 := 5122) rfl rfl ?_
  refine pf_X11_65 hC rfl rfl hK hP hD hS 0 (ws' := [(h0, .inr (11, [.ref q9116, .ref q9122, .int 0, .ref q9119, .ref q9125, .ref q9131, .ref q9136, .ref q9139, .ref q9142, .null, .null])), (q9116, oX0 (u9118 0) (u9118 2) (u9118 4) (u9118 6) (u9118 8) (u9118 10) (u9118 12) (u9118 14) (u9118 16) (u9118 18) 0 (-1) 3 24), ((u9118 0), oX8 10 2 (u9118 1) 0), ((u9118 1), iA G 20 (fun _ => 0)), ((u9118 2), oX8 12 6 (u9118 3) 0), ((u9118 3), iA G 72 (fun _ => 0)), ((u9118 4), oX8 24 3 (u9118 5) 0), ((u9118 5), iA G 72 (fun _ => 0)), ((u9118 6), oX8 8 3 (u9118 7) 0), ((u9118 7), iA G 24 (fun _ => 0)), ((u9118 8), oX8 72 7 (u9118 9) 0), ((u9118 9), iA G 504 (fun _ => 0)), ((u9118 10), oX8 960 1 (u9118 11) 0), ((u9118 11), iA G 960 (fun _ => 0)), ((u9118 12), oX8 16 8 (u9118 13) 0), ((u9118 13), iA G 128 (fun _ => 0)), ((u9118 14), oX8 12 4 (u9118 15) 0), ((u9118 15), iA G 48 (fun _ => 0)), ((u9118 16), oX8 16 3 (u9118 17) 0), ((u9118 17), iA G 48 (fun _ => 0)), ((u9118 18), oX8 7 2 (u9118 19) 0), ((u9118 19), iA G 14 (fun _ => 0)), (q9119, oX7 q9116 (u9121 0) (u9121 2) (u9121 3) (u9121 4) (u9121 5) (u9121 6) (u9121 7) 0), ((u9121 0), oX1 (u9121 1)), ((u9121 1), iA G 36 (fun _ => 0)), ((u9121 2), iA G 12 (fun _ => 0)), ((u9121 3), iA G 12 (fun _ => 0)), ((u9121 4), iA G 12 (fun _ => 0)), ((u9121 5), iA G 12 (fun _ => 0)), ((u9121 6), iA G 12 (fun _ => 0)), ((u9121 7), iA G 12 (fun _ => 0)), (q9122, oX0 (u9124 0) (u9124 2) (u9124 4) (u9124 6) (u9124 8) (u9124 10) (u9124 12) (u9124 14) (u9124 16) (u9124 18) 0 (-1) 3 24), ((u9124 0), oX8 10 2 (u9124 1) 0), ((u9124 1), iA G 20 (fun _ => 0)), ((u9124 2), oX8 12 6 (u9124 3) 0), ((u9124 3), iA G 72 (fun _ => 0)), ((u9124 4), oX8 24 3 (u9124 5) 0), ((u9124 5), iA G 72 (fun _ => 0)), ((u9124 6), oX8 8 3 (u9124 7) 0), ((u9124 7), iA G 24 (fun _ => 0)), ((u9124 8), oX8 72 7 (u9124 9) 0), ((u9124 9), iA G 504 (fun _ => 0)), ((u9124 10), oX8 960 1 (u9124 11) 0), ((u9124 11), iA G 960 (fun _ => 0)), ((u9124 12), oX8 16 8 (u9124 13) 0), ((u9124 13), iA G 128 (fun _ => 0)), ((u9124 14), oX8 12 4 (u9124 15) 0), ((u9124 15), iA G 48 (fun _ => 0)), ((u9124 16), oX8 16 3 (u9124 17) 0), ((u9124 17), iA G 48 (fun _ => 0)), ((u9124 18), oX8 7 2 (u9124 19) 0), ((u9124 19), iA G 14 (fun _ => 0)), (q9125, oX3 q9116 (ad9128 0) 0 0 0), ((ad9128 0), cA G 13 hf9129), ((ad9128 1), oX1 (ad9128 2)), ((ad9128 2), iA G 36 (fun _ => 0)), ((ad9128 3), oX1 (ad9128 4)), ((ad9128 4), iA G 36 (fun _ => 0)), ((ad9128 5), oX1 (ad9128 6)), ((ad9128 6), iA G 36 (fun _ => 0)), ((ad9128 7), oX1 (ad9128 8)), ((ad9128 8), iA G 36 (fun _ => 0)), ((ad9128 9), oX1 (ad9128 10)), ((ad9128 10), iA G 36 (fun _ => 0)), ((ad9128 11), oX1 (ad9128 12)), ((ad9128 12), iA G 36 (fun _ => 0)), ((ad9128 13), oX1 (ad9128 14)), ((ad9128 14), iA G 36 (fun _ => 0)), ((ad9128 15), oX1 (ad9128 16)), ((ad9128 16), iA G 36 (fun _ => 0)), ((ad9128 17), oX1 (ad9128 18)), ((ad9128 18), iA G 36 (fun _ => 0)), ((ad9128 19), oX1 (ad9128 20)), ((ad9128 20), iA G 36 (fun _ => 0)), ((ad9128 21), oX1 (ad9128 22)), ((ad9128 22), iA G 36 (fun _ => 0)), ((ad9128 23), oX1 (ad9128 24)), ((ad9128 24), iA G 36 (fun _ => 0)), ((ad9128 25), oX1 (ad9128 26)), ((ad9128 26), iA G 36 (fun _ => 0)), (q9131, oX6 q9116 q9119 fa9134 sh9135 0 0 0), (fa9134, iA G 5 (fun _ => 0)), (sh9135, iA G 8 (fun _ => 0)), (q9136, oX9 q9116 q9119 0 0 0 0), (q9139, oX10 (u9141 0) 0 (u9141 1) (u9141 3) (-1) 0 0 (-1)), ((u9141 0), iA G 240 (fun _ => 0)), ((u9141 1), oX8 9 7 (u9141 2) 0), ((u9141 2), iA G 63 (fun _ => 0)), ((u9141 3), oX8 120 1 (u9141 4) 0), ((u9141 4), iA G 120 (fun _ => 0)), (q9142, oX5 q9116 rr9145 tc9147 0 0 0), (rr9145, oX8 7 2 rrc9146 0), (rrc9146, iA G 14 (fun _ => 0)), (tc9147, iA G 128 (fun _ => 0))]) rfl (Nat.le_of_ble_eq_true rfl) rfl rfl rfl dX11_init_105 (fun H locs hP hD hS => ?_)
  refine lv_aload_n hx hb dX11_init_108 rfl (lv_at2 hl) ?_
  refine nw_X11_69 hC rfl hK hP hD hS hA (Nat.le_of_ble_eq_true rfl) (Nat.le_of_ble_eq_true rfl) dX11_init_109 (fun q9148 H hP hD hS => ?_)
  refine Kpdr (ws := [(h0, .inr (11, [.ref q9116, .ref q9122, .int 0, .ref q9119, .ref q9125, .ref q9131, .ref q9136, .ref q9139, .ref q9142, .null, .null])), (q9116, oX0 (u9118 0) (u9118 2) (u9118 4) (u9118 6) (u9118 8) (u9118 10) (u9118 12) (u9118 14) (u9118 16) (u9118 18) 0 (-1) 3 24), ((u9118 0), oX8 10 2 (u9118 1) 0), ((u9118 1), iA G 20 (fun _ => 0)), ((u9118 2), oX8 12 6 (u9118 3) 0), ((u9118 3), iA G 72 (fun _ => 0)), ((u9118 4), oX8 24 3 (u9118 5) 0), ((u9118 5), iA G 72 (fun _ => 0)), ((u9118 6), oX8 8 3 (u9118 7) 0), ((u9118 7), iA G 24 (fun _ => 0)), ((u9118 8), oX8 72 7 (u9118 9) 0), ((u9118 9), iA G 504 (fun _ => 0)), ((u9118 10), oX8 960 1 (u9118 11) 0), ((u9118 11), iA G 960 (fun _ => 0)), ((u9118 12), oX8 16 8 (u9118 13) 0), ((u9118 13), iA G 128 (fun _ => 0)), ((u9118 14), oX8 12 4 (u9118 15) 0), ((u9118 15), iA G 48 (fun _ => 0)), ((u9118 16), oX8 16 3 (u9118 17) 0), ((u9118 17), iA G 48 (fun _ => 0)), ((u9118 18), oX8 7 2 (u9118 19) 0), ((u9118 19), iA G 14 (fun _ => 0)), (q9119, oX7 q9116 (u9121 0) (u9121 2) (u9121 3) (u9121 4) (u9121 5) (u9121 6) (u9121 7) 0), ((u9121 0), oX1 (u9121 1)), ((u9121 1), iA G 36 (fun _ => 0)), ((u9121 2), iA G 12 (fun _ => 0)), ((u9121 3), iA G 12 (fun _ => 0)), ((u9121 4), iA G 12 (fun _ => 0)), ((u9121 5), iA G 12 (fun _ => 0)), ((u9121 6), iA G 12 (fun _ => 0)), ((u9121 7), iA G 12 (fun _ => 0)), (q9122, oX0 (u9124 0) (u9124 2) (u9124 4) (u9124 6) (u9124 8) (u9124 10) (u9124 12) (u9124 14) (u9124 16) (u9124 18) 0 (-1) 3 24), ((u9124 0), oX8 10 2 (u9124 1) 0), ((u9124 1), iA G 20 (fun _ => 0)), ((u9124 2), oX8 12 6 (u9124 3) 0), ((u9124 3), iA G 72 (fun _ => 0)), ((u9124 4), oX8 24 3 (u9124 5) 0), ((u9124 5), iA G 72 (fun _ => 0)), ((u9124 6), oX8 8 3 (u9124 7) 0), ((u9124 7), iA G 24 (fun _ => 0)), ((u9124 8), oX8 72 7 (u9124 9) 0), ((u9124 9), iA G 504 (fun _ => 0)), ((u9124 10), oX8 960 1 (u9124 11) 0), ((u9124 11), iA G 960 (fun _ => 0)), ((u9124 12), oX8 16 8 (u9124 13) 0), ((u9124 13), iA G 128 (fun _ => 0)), ((u9124 14), oX8 12 4 (u9124 15) 0), ((u9124 15), iA G 48 (fun _ => 0)), ((u9124 16), oX8 16 3 (u9124 17) 0), ((u9124 17), iA G 48 (fun _ => 0)), ((u9124 18), oX8 7 2 (u9124 19) 0), ((u9124 19), iA G 14 (fun _ => 0)), (q9125, oX3 q9116 (ad9128 0) 0 0 0), ((ad9128 0), cA G 13 hf9129), ((ad9128 1), oX1 (ad9128 2)), ((ad9128 2), iA G 36 (fun _ => 0)), ((ad9128 3), oX1 (ad9128 4)), ((ad9128 4), iA G 36 (fun _ => 0)), ((ad9128 5), oX1 (ad9128 6)), ((ad9128 6), iA G 36 (fun _ => 0)), ((ad9128 7), oX1 (ad9128 8)), ((ad9128 8), iA G 36 (fun _ => 0)), ((ad9128 9), oX1 (ad9128 10)), ((ad9128 10), iA G 36 (fun _ => 0)), ((ad9128 11), oX1 (ad9128 12)), ((ad9128 12), iA G 36 (fun _ => 0)), ((ad9128 13), oX1 (ad9128 14)), ((ad9128 14), iA G 36 (fun _ => 0)), ((ad9128 15), oX1 (ad9128 16)), ((ad9128 16), iA G 36 (fun _ => 0)), ((ad9128 17), oX1 (ad9128 18)), ((ad9128 18), iA G 36 (fun _ => 0)), ((ad9128 19), oX1 (ad9128 20)), ((ad9128 20), iA G 36 (fun _ => 0)), ((ad9128 21), oX1 (ad9128 22)), ((ad9128 22), iA G 36 (fun _ => 0)), ((ad9128 23), oX1 (ad9128 24)), ((ad9128 24), iA G 36 (fun _ => 0)), ((ad9128 25), oX1 (ad9128 26)), ((ad9128 26), iA G 36 (fun _ => 0)), (q9131, oX6 q9116 q9119 fa9134 sh9135 0 0 0), (fa9134, iA G 5 (fun _ => 0)), (sh9135, iA G 8 (fun _ => 0)), (q9136, oX9 q9116 q9119 0 0 0 0), (q9139, oX10 (u9141 0) 0 (u9141 1) (u9141 3) (-1) 0 0 (-1)), ((u9141 0), iA G 240 (fun _ => 0)), ((u9141 1), oX8 9 7 (u9141 2) 0), ((u9141 2), iA G 63 (fun _ => 0)), ((u9141 3), oX8 120 1 (u9141 4) 0), ((u9141 4), iA G 120 (fun _ => 0)), (q9142, oX5 q9116 rr9145 tc9147 0 0 0), (rr9145, oX8 7 2 rrc9146 0), (rrc9146, iA G 14 (fun _ => 0)), (tc9147, iA G 128 (fun _ => 0)), (q9148, .inr (4, [.null, .null, .null, .null, .null, .null]))]) hP hD (fun hP hD => ?_)
  refine Wcast (c1 := 94) (s1 := 5128) rfl rfl ?_
  refine lv_dup hx hb dX11_init_112 rfl ?_
  refine vI (wr := [(h0, .inr (11, [.ref q9116, .ref q9122, .int 0, .ref q9119, .ref q9125, .ref q9131, .ref q9136, .ref q9139, .ref q9142, .null, .null])), (q9116, oX0 (u9118 0) (u9118 2) (u9118 4) (u9118 6) (u9118 8) (u9118 10) (u9118 12) (u9118 14) (u9118 16) (u9118 18) 0 (-1) 3 24), ((u9118 0), oX8 10 2 (u9118 1) 0), ((u9118 1), iA G 20 (fun _ => 0)), ((u9118 2), oX8 12 6 (u9118 3) 0), ((u9118 3), iA G 72 (fun _ => 0)), ((u9118 4), oX8 24 3 (u9118 5) 0), ((u9118 5), iA G 72 (fun _ => 0)), ((u9118 6), oX8 8 3 (u9118 7) 0), ((u9118 7), iA G 24 (fun _ => 0)), ((u9118 8), oX8 72 7 (u9118 9) 0), ((u9118 9), iA G 504 (fun _ => 0)), ((u9118 10), oX8 960 1 (u9118 11) 0), ((u9118 11), iA G 960 (fun _ => 0)), ((u9118 12), oX8 16 8 (u9118 13) 0), ((u9118 13), iA G 128 (fun _ => 0)), ((u9118 14), oX8 12 4 (u9118 15) 0), ((u9118 15), iA G 48 (fun _ => 0)), ((u9118 16), oX8 16 3 (u9118 17) 0), ((u9118 17), iA G 48 (fun _ => 0)), ((u9118 18), oX8 7 2 (u9118 19) 0), ((u9118 19), iA G 14 (fun _ => 0)), (q9119, oX7 q9116 (u9121 0) (u9121 2) (u9121 3) (u9121 4) (u9121 5) (u9121 6) (u9121 7) 0), ((u9121 0), oX1 (u9121 1)), ((u9121 1), iA G 36 (fun _ => 0)), ((u9121 2), iA G 12 (fun _ => 0)), ((u9121 3), iA G 12 (fun _ => 0)), ((u9121 4), iA G 12 (fun _ => 0)), ((u9121 5), iA G 12 (fun _ => 0)), ((u9121 6), iA G 12 (fun _ => 0)), ((u9121 7), iA G 12 (fun _ => 0)), (q9122, oX0 (u9124 0) (u9124 2) (u9124 4) (u9124 6) (u9124 8) (u9124 10) (u9124 12) (u9124 14) (u9124 16) (u9124 18) 0 (-1) 3 24), ((u9124 0), oX8 10 2 (u9124 1) 0), ((u9124 1), iA G 20 (fun _ => 0)), ((u9124 2), oX8 12 6 (u9124 3) 0), ((u9124 3), iA G 72 (fun _ => 0)), ((u9124 4), oX8 24 3 (u9124 5) 0), ((u9124 5), iA G 72 (fun _ => 0)), ((u9124 6), oX8 8 3 (u9124 7) 0), ((u9124 7), iA G 24 (fun _ => 0)), ((u9124 8), oX8 72 7 (u9124 9) 0), ((u9124 9), iA G 504 (fun _ => 0)), ((u9124 10), oX8 960 1 (u9124 11) 0), ((u9124 11), iA G 960 (fun _ => 0)), ((u9124 12), oX8 16 8 (u9124 13) 0), ((u9124 13), iA G 128 (fun _ => 0)), ((u9124 14), oX8 12 4 (u9124 15) 0), ((u9124 15), iA G 48 (fun _ => 0)), ((u9124 16), oX8 16 3 (u9124 17) 0), ((u9124 17), iA G 48 (fun _ => 0)), ((u9124 18), oX8 7 2 (u9124 19) 0), ((u9124 19), iA G 14 (fun _ => 0)), (q9125, oX3 q9116 (ad9128 0) 0 0 0), ((ad9128 0), cA G 13 hf9129), ((ad9128 1), oX1 (ad9128 2)), ((ad9128 2), iA G 36 (fun _ => 0)), ((ad9128 3), oX1 (ad9128 4)), ((ad9128 4), iA G 36 (fun _ => 0)), ((ad9128 5), oX1 (ad9128 6)), ((ad9128 6), iA G 36 (fun _ => 0)), ((ad9128 7), oX1 (ad9128 8)), ((ad9128 8), iA G 36 (fun _ => 0)), ((ad9128 9), oX1 (ad9128 10)), ((ad9128 10), iA G 36 (fun _ => 0)), ((ad9128 11), oX1 (ad9128 12)), ((ad9128 12), iA G 36 (fun _ => 0)), ((ad9128 13), oX1 (ad9128 14)), ((ad9128 14), iA G 36 (fun _ => 0)), ((ad9128 15), oX1 (ad9128 16)), ((ad9128 16), iA G 36 (fun _ => 0)), ((ad9128 17), oX1 (ad9128 18)), ((ad9128 18), iA G 36 (fun _ => 0)), ((ad9128 19), oX1 (ad9128 20)), ((ad9128 20), iA G 36 (fun _ => 0)), ((ad9128 21), oX1 (ad9128 22)), ((ad9128 22), iA G 36 (fun _ => 0)), ((ad9128 23), oX1 (ad9128 24)), ((ad9128 24), iA G 36 (fun _ => 0)), ((ad9128 25), oX1 (ad9128 26)), ((ad9128 26), iA G 36 (fun _ => 0)), (q9131, oX6 q9116 q9119 fa9134 sh9135 0 0 0), (fa9134, iA G 5 (fun _ => 0)), (sh9135, iA G 8 (fun _ => 0)), (q9136, oX9 q9116 q9119 0 0 0 0), (q9139, oX10 (u9141 0) 0 (u9141 1) (u9141 3) (-1) 0 0 (-1)), ((u9141 0), iA G 240 (fun _ => 0)), ((u9141 1), oX8 9 7 (u9141 2) 0), ((u9141 2), iA G 63 (fun _ => 0)), ((u9141 3), oX8 120 1 (u9141 4) 0), ((u9141 4), iA G 120 (fun _ => 0)), (q9142, oX5 q9116 rr9145 tc9147 0 0 0), (rr9145, oX8 7 2 rrc9146 0), (rrc9146, iA G 14 (fun _ => 0)), (tc9147, iA G 128 (fun _ => 0))]) hC hK hl hP hD hS hA (c_H_init l G q9148) si_X11_71 [94] [0, 1, 2, 3, 4, 5, 6, 7, 8, 9, 10, 11, 12, 13, 14, 15, 16, 17, 18, 19, 20, 21, 22, 23, 24, 25, 26, 27, 28, 29, 30, 31, 32, 33, 34, 35, 36, 37, 38, 39, 40, 41, 42, 43, 44, 45, 46, 47, 48, 49, 50, 51, 52, 53, 54, 55, 56, 57, 58, 59, 60, 61, 62, 63, 64, 65, 66, 67, 68, 69, 70, 71, 72, 73, 74, 75, 76, 77, 78, 79, 80, 81, 82, 83, 84, 85, 86, 87, 88, 89, 90, 91, 92, 93] sm_94 fm_94 nd_94 rfl (by decide +kernel) (by decide) rfl rfl (Nat.le_of_ble_eq_true rfl) rm_5_2_2 ⟨by first | exact Nat.le_of_ble_eq_true rfl | omega, by first | exact Nat.le_of_ble_eq_true rfl | omega⟩ dX11_init_113 (fun u9150 H locs hr9149 hP hD hS => ?_)
  refine Kpdr (ws := [(h0, .inr (11, [.ref q9116, .ref q9122, .int 0, .ref q9119, .ref q9125, .ref q9131, .ref q9136, .ref q9139, .ref q9142, .null, .null])), (q9116, oX0 (u9118 0) (u9118 2) (u9118 4) (u9118 6) (u9118 8) (u9118 10) (u9118 12) (u9118 14) (u9118 16) (u9118 18) 0 (-1) 3 24), ((u9118 0), oX8 10 2 (u9118 1) 0), ((u9118 1), iA G 20 (fun _ => 0)), ((u9118 2), oX8 12 6 (u9118 3) 0), ((u9118 3), iA G 72 (fun _ => 0)), ((u9118 4), oX8 24 3 (u9118 5) 0), ((u9118 5), iA G 72 (fun _ => 0)), ((u9118 6), oX8 8 3 (u9118 7) 0), ((u9118 7), iA G 24 (fun _ => 0)), ((u9118 8), oX8 72 7 (u9118 9) 0), ((u9118 9), iA G 504 (fun _ => 0)), ((u9118 10), oX8 960 1 (u9118 11) 0), ((u9118 11), iA G 960 (fun _ => 0)), ((u9118 12), oX8 16 8 (u9118 13) 0), ((u9118 13), iA G 128 (fun _ => 0)), ((u9118 14), oX8 12 4 (u9118 15) 0), ((u9118 15), iA G 48 (fun _ => 0)), ((u9118 16), oX8 16 3 (u9118 17) 0), ((u9118 17), iA G 48 (fun _ => 0)), ((u9118 18), oX8 7 2 (u9118 19) 0), ((u9118 19), iA G 14 (fun _ => 0)), (q9119, oX7 q9116 (u9121 0) (u9121 2) (u9121 3) (u9121 4) (u9121 5) (u9121 6) (u9121 7) 0), ((u9121 0), oX1 (u9121 1)), ((u9121 1), iA G 36 (fun _ => 0)), ((u9121 2), iA G 12 (fun _ => 0)), ((u9121 3), iA G 12 (fun _ => 0)), ((u9121 4), iA G 12 (fun _ => 0)), ((u9121 5), iA G 12 (fun _ => 0)), ((u9121 6), iA G 12 (fun _ => 0)), ((u9121 7), iA G 12 (fun _ => 0)), (q9122, oX0 (u9124 0) (u9124 2) (u9124 4) (u9124 6) (u9124 8) (u9124 10) (u9124 12) (u9124 14) (u9124 16) (u9124 18) 0 (-1) 3 24), ((u9124 0), oX8 10 2 (u9124 1) 0), ((u9124 1), iA G 20 (fun _ => 0)), ((u9124 2), oX8 12 6 (u9124 3) 0), ((u9124 3), iA G 72 (fun _ => 0)), ((u9124 4), oX8 24 3 (u9124 5) 0), ((u9124 5), iA G 72 (fun _ => 0)), ((u9124 6), oX8 8 3 (u9124 7) 0), ((u9124 7), iA G 24 (fun _ => 0)), ((u9124 8), oX8 72 7 (u9124 9) 0), ((u9124 9), iA G 504 (fun _ => 0)), ((u9124 10), oX8 960 1 (u9124 11) 0), ((u9124 11), iA G 960 (fun _ => 0)), ((u9124 12), oX8 16 8 (u9124 13) 0), ((u9124 13), iA G 128 (fun _ => 0)), ((u9124 14), oX8 12 4 (u9124 15) 0), ((u9124 15), iA G 48 (fun _ => 0)), ((u9124 16), oX8 16 3 (u9124 17) 0), ((u9124 17), iA G 48 (fun _ => 0)), ((u9124 18), oX8 7 2 (u9124 19) 0), ((u9124 19), iA G 14 (fun _ => 0)), (q9125, oX3 q9116 (ad9128 0) 0 0 0), ((ad9128 0), cA G 13 hf9129), ((ad9128 1), oX1 (ad9128 2)), ((ad9128 2), iA G 36 (fun _ => 0)), ((ad9128 3), oX1 (ad9128 4)), ((ad9128 4), iA G 36 (fun _ => 0)), ((ad9128 5), oX1 (ad9128 6)), ((ad9128 6), iA G 36 (fun _ => 0)), ((ad9128 7), oX1 (ad9128 8)), ((ad9128 8), iA G 36 (fun _ => 0)), ((ad9128 9), oX1 (ad9128 10)), ((ad9128 10), iA G 36 (fun _ => 0)), ((ad9128 11), oX1 (ad9128 12)), ((ad9128 12), iA G 36 (fun _ => 0)), ((ad9128 13), oX1 (ad9128 14)), ((ad9128 14), iA G 36 (fun _ => 0)), ((ad9128 15), oX1 (ad9128 16)), ((ad9128 16), iA G 36 (fun _ => 0)), ((ad9128 17), oX1 (ad9128 18)), ((ad9128 18), iA G 36 (fun _ => 0)), ((ad9128 19), oX1 (ad9128 20)), ((ad9128 20), iA G 36 (fun _ => 0)), ((ad9128 21), oX1 (ad9128 22)), ((ad9128 22), iA G 36 (fun _ => 0)), ((ad9128 23), oX1 (ad9128 24)), ((ad9128 24), iA G 36 (fun _ => 0)), ((ad9128 25), oX1 (ad9128 26)), ((ad9128 26), iA G 36 (fun _ => 0)), (q9131, oX6 q9116 q9119 fa9134 sh9135 0 0 0), (fa9134, iA G 5 (fun _ => 0)), (sh9135, iA G 8 (fun _ => 0)), (q9136, oX9 q9116 q9119 0 0 0 0), (q9139, oX10 (u9141 0) 0 (u9141 1) (u9141 3) (-1) 0 0 (-1)), ((u9141 0), iA G 240 (fun _ => 0)), ((u9141 1), oX8 9 7 (u9141 2) 0), ((u9141 2), iA G 63 (fun _ => 0)), ((u9141 3), oX8 120 1 (u9141 4) 0), ((u9141 4), iA G 120 (fun _ => 0)), (q9142, oX5 q9116 rr9145 tc9147 0 0 0), (rr9145, oX8 7 2 rrc9146 0), (rrc9146, iA G 14 (fun _ => 0)), (tc9147, iA G 128 (fun _ => 0)), (q9148, oX4 (u9150 0) (u9150 1) (u9150 2) (u9150 3) (u9150 4) (u9150 5)), ((u9150 0), iA G 4 (upd (upd (upd (upd (fun _ => 0) 0 (-1)) 1 (-1)) 2 (-1)) 3 (-1))), ((u9150 1), iA G 4 (fun _ => 0)), ((u9150 2), iA G 160 (fun _ => 0)), ((u9150 3), iA G 4 (upd (upd (upd (upd (fun _ => 0) 0 4) 1 4) 2 4) 3 4)), ((u9150 4), iA G 4 (fun _ => 0)), ((u9150 5), iA G 4 (fun _ => 0))]) hP hD (fun hP hD => ?_)
  refine Wcast (c1 := 100) (s1 := 5308) rfl rfl ?_
  refine pf_X11_72 hC rfl rfl hK hP hD hS 0 (ws' := [(h0, .inr (11, [.ref q9116, .ref q9122, .int 0, .ref q9119, .ref q9125, .ref q9131, .ref q9136, .ref q9139, .ref q9142, .ref q9148, .null])), (q9116, oX0 (u9118 0) (u9118 2) (u9118 4) (u9118 6) (u9118 8) (u9118 10) (u9118 12) (u9118 14) (u9118 16) (u9118 18) 0 (-1) 3 24), ((u9118 0), oX8 10 2 (u9118 1) 0), ((u9118 1), iA G 20 (fun _ => 0)), ((u9118 2), oX8 12 6 (u9118 3) 0), ((u9118 3), iA G 72 (fun _ => 0)), ((u9118 4), oX8 24 3 (u9118 5) 0), ((u9118 5), iA G 72 (fun _ => 0)), ((u9118 6), oX8 8 3 (u9118 7) 0), ((u9118 7), iA G 24 (fun _ => 0)), ((u9118 8), oX8 72 7 (u9118 9) 0), ((u9118 9), iA G 504 (fun _ => 0)), ((u9118 10), oX8 960 1 (u9118 11) 0), ((u9118 11), iA G 960 (fun _ => 0)), ((u9118 12), oX8 16 8 (u9118 13) 0), ((u9118 13), iA G 128 (fun _ => 0)), ((u9118 14), oX8 12 4 (u9118 15) 0), ((u9118 15), iA G 48 (fun _ => 0)), ((u9118 16), oX8 16 3 (u9118 17) 0), ((u9118 17), iA G 48 (fun _ => 0)), ((u9118 18), oX8 7 2 (u9118 19) 0), ((u9118 19), iA G 14 (fun _ => 0)), (q9119, oX7 q9116 (u9121 0) (u9121 2) (u9121 3) (u9121 4) (u9121 5) (u9121 6) (u9121 7) 0), ((u9121 0), oX1 (u9121 1)), ((u9121 1), iA G 36 (fun _ => 0)), ((u9121 2), iA G 12 (fun _ => 0)), ((u9121 3), iA G 12 (fun _ => 0)), ((u9121 4), iA G 12 (fun _ => 0)), ((u9121 5), iA G 12 (fun _ => 0)), ((u9121 6), iA G 12 (fun _ => 0)), ((u9121 7), iA G 12 (fun _ => 0)), (q9122, oX0 (u9124 0) (u9124 2) (u9124 4) (u9124 6) (u9124 8) (u9124 10) (u9124 12) (u9124 14) (u9124 16) (u9124 18) 0 (-1) 3 24), ((u9124 0), oX8 10 2 (u9124 1) 0), ((u9124 1), iA G 20 (fun _ => 0)), ((u9124 2), oX8 12 6 (u9124 3) 0), ((u9124 3), iA G 72 (fun _ => 0)), ((u9124 4), oX8 24 3 (u9124 5) 0), ((u9124 5), iA G 72 (fun _ => 0)), ((u9124 6), oX8 8 3 (u9124 7) 0), ((u9124 7), iA G 24 (fun _ => 0)), ((u9124 8), oX8 72 7 (u9124 9) 0), ((u9124 9), iA G 504 (fun _ => 0)), ((u9124 10), oX8 960 1 (u9124 11) 0), ((u9124 11), iA G 960 (fun _ => 0)), ((u9124 12), oX8 16 8 (u9124 13) 0), ((u9124 13), iA G 128 (fun _ => 0)), ((u9124 14), oX8 12 4 (u9124 15) 0), ((u9124 15), iA G 48 (fun _ => 0)), ((u9124 16), oX8 16 3 (u9124 17) 0), ((u9124 17), iA G 48 (fun _ => 0)), ((u9124 18), oX8 7 2 (u9124 19) 0), ((u9124 19), iA G 14 (fun _ => 0)), (q9125, oX3 q9116 (ad9128 0) 0 0 0), ((ad9128 0), cA G 13 hf9129), ((ad9128 1), oX1 (ad9128 2)), ((ad9128 2), iA G 36 (fun _ => 0)), ((ad9128 3), oX1 (ad9128 4)), ((ad9128 4), iA G 36 (fun _ => 0)), ((ad9128 5), oX1 (ad9128 6)), ((ad9128 6), iA G 36 (fun _ => 0)), ((ad9128 7), oX1 (ad9128 8)), ((ad9128 8), iA G 36 (fun _ => 0)), ((ad9128 9), oX1 (ad9128 10)), ((ad9128 10), iA G 36 (fun _ => 0)), ((ad9128 11), oX1 (ad9128 12)), ((ad9128 12), iA G 36 (fun _ => 0)), ((ad9128 13), oX1 (ad9128 14)), ((ad9128 14), iA G 36 (fun _ => 0)), ((ad9128 15), oX1 (ad9128 16)), ((ad9128 16), iA G 36 (fun _ => 0)), ((ad9128 17), oX1 (ad9128 18)), ((ad9128 18), iA G 36 (fun _ => 0)), ((ad9128 19), oX1 (ad9128 20)), ((ad9128 20), iA G 36 (fun _ => 0)), ((ad9128 21), oX1 (ad9128 22)), ((ad9128 22), iA G 36 (fun _ => 0)), ((ad9128 23), oX1 (ad9128 24)), ((ad9128 24), iA G 36 (fun _ => 0)), ((ad9128 25), oX1 (ad9128 26)), ((ad9128 26), iA G 36 (fun _ => 0)), (q9131, oX6 q9116 q9119 fa9134 sh9135 0 0 0), (fa9134, iA G 5 (fun _ => 0)), (sh9135, iA G 8 (fun _ => 0)), (q9136, oX9 q9116 q9119 0 0 0 0), (q9139, oX10 (u9141 0) 0 (u9141 1) (u9141 3) (-1) 0 0 (-1)), ((u9141 0), iA G 240 (fun _ => 0)), ((u9141 1), oX8 9 7 (u9141 2) 0), ((u9141 2), iA G 63 (fun _ => 0)), ((u9141 3), oX8 120 1 (u9141 4) 0), ((u9141 4), iA G 120 (fun _ => 0)), (q9142, oX5 q9116 rr9145 tc9147 0 0 0), (rr9145, oX8 7 2 rrc9146 0), (rrc9146, iA G 14 (fun _ => 0)), (tc9147, iA G 128 (fun _ => 0)), (q9148, oX4 (u9150 0) (u9150 1) (u9150 2) (u9150 3) (u9150 4) (u9150 5)), ((u9150 0), iA G 4 (upd (upd (upd (upd (fun _ => 0) 0 (-1)) 1 (-1)) 2 (-1)) 3 (-1))), ((u9150 1), iA G 4 (fun _ => 0)), ((u9150 2), iA G 160 (fun _ => 0)), ((u9150 3), iA G 4 (upd (upd (upd (upd (fun _ => 0) 0 4) 1 4) 2 4) 3 4)), ((u9150 4), iA G 4 (fun _ => 0)), ((u9150 5), iA G 4 (fun _ => 0))]) rfl (Nat.le_of_ble_eq_true rfl) rfl rfl rfl dX11_init_116 (fun H locs hP hD hS => ?_)
  refine lv_aload_n hx hb dX11_init_119 rfl (lv_at2 hl) ?_
  refine nw_X11_76 hC rfl hK hP hD hS hA (Nat.le_of_ble_eq_true rfl) (Nat.le_of_ble_eq_true rfl) dX11_init_120 (fun q9151 H hP hD hS => ?_)
  refine Kpdr (ws := [(h0, .inr (11, [.ref q9116, .ref q9122, .int 0, .ref q9119, .ref q9125, .ref q9131, .ref q9136, .ref q9139, .ref q9142, .ref q9148, .null])), (q9116, oX0 (u9118 0) (u9118 2) (u9118 4) (u9118 6) (u9118 8) (u9118 10) (u9118 12) (u9118 14) (u9118 16) (u9118 18) 0 (-1) 3 24), ((u9118 0), oX8 10 2 (u9118 1) 0), ((u9118 1), iA G 20 (fun _ => 0)), ((u9118 2), oX8 12 6 (u9118 3) 0), ((u9118 3), iA G 72 (fun _ => 0)), ((u9118 4), oX8 24 3 (u9118 5) 0), ((u9118 5), iA G 72 (fun _ => 0)), ((u9118 6), oX8 8 3 (u9118 7) 0), ((u9118 7), iA G 24 (fun _ => 0)), ((u9118 8), oX8 72 7 (u9118 9) 0), ((u9118 9), iA G 504 (fun _ => 0)), ((u9118 10), oX8 960 1 (u9118 11) 0), ((u9118 11), iA G 960 (fun _ => 0)), ((u9118 12), oX8 16 8 (u9118 13) 0), ((u9118 13), iA G 128 (fun _ => 0)), ((u9118 14), oX8 12 4 (u9118 15) 0), ((u9118 15), iA G 48 (fun _ => 0)), ((u9118 16), oX8 16 3 (u9118 17) 0), ((u9118 17), iA G 48 (fun _ => 0)), ((u9118 18), oX8 7 2 (u9118 19) 0), ((u9118 19), iA G 14 (fun _ => 0)), (q9119, oX7 q9116 (u9121 0) (u9121 2) (u9121 3) (u9121 4) (u9121 5) (u9121 6) (u9121 7) 0), ((u9121 0), oX1 (u9121 1)), ((u9121 1), iA G 36 (fun _ => 0)), ((u9121 2), iA G 12 (fun _ => 0)), ((u9121 3), iA G 12 (fun _ => 0)), ((u9121 4), iA G 12 (fun _ => 0)), ((u9121 5), iA G 12 (fun _ => 0)), ((u9121 6), iA G 12 (fun _ => 0)), ((u9121 7), iA G 12 (fun _ => 0)), (q9122, oX0 (u9124 0) (u9124 2) (u9124 4) (u9124 6) (u9124 8) (u9124 10) (u9124 12) (u9124 14) (u9124 16) (u9124 18) 0 (-1) 3 24), ((u9124 0), oX8 10 2 (u9124 1) 0), ((u9124 1), iA G 20 (fun _ => 0)), ((u9124 2), oX8 12 6 (u9124 3) 0), ((u9124 3), iA G 72 (fun _ => 0)), ((u9124 4), oX8 24 3 (u9124 5) 0), ((u9124 5), iA G 72 (fun _ => 0)), ((u9124 6), oX8 8 3 (u9124 7) 0), ((u9124 7), iA G 24 (fun _ => 0)), ((u9124 8), oX8 72 7 (u9124 9) 0), ((u9124 9), iA G 504 (fun _ => 0)), ((u9124 10), oX8 960 1 (u9124 11) 0), ((u9124 11), iA G 960 (fun _ => 0)), ((u9124 12), oX8 16 8 (u9124 13) 0), ((u9124 13), iA G 128 (fun _ => 0)), ((u9124 14), oX8 12 4 (u9124 15) 0), ((u9124 15), iA G 48 (fun _ => 0)), ((u9124 16), oX8 16 3 (u9124 17) 0), ((u9124 17), iA G 48 (fun _ => 0)), ((u9124 18), oX8 7 2 (u9124 19) 0), ((u9124 19), iA G 14 (fun _ => 0)), (q9125, oX3 q9116 (ad9128 0) 0 0 0), ((ad9128 0), cA G 13 hf9129), ((ad9128 1), oX1 (ad9128 2)), ((ad9128 2), iA G 36 (fun _ => 0)), ((ad9128 3), oX1 (ad9128 4)), ((ad9128 4), iA G 36 (fun _ => 0)), ((ad9128 5), oX1 (ad9128 6)), ((ad9128 6), iA G 36 (fun _ => 0)), ((ad9128 7), oX1 (ad9128 8)), ((ad9128 8), iA G 36 (fun _ => 0)), ((ad9128 9), oX1 (ad9128 10)), ((ad9128 10), iA G 36 (fun _ => 0)), ((ad9128 11), oX1 (ad9128 12)), ((ad9128 12), iA G 36 (fun _ => 0)), ((ad9128 13), oX1 (ad9128 14)), ((ad9128 14), iA G 36 (fun _ => 0)), ((ad9128 15), oX1 (ad9128 16)), ((ad9128 16), iA G 36 (fun _ => 0)), ((ad9128 17), oX1 (ad9128 18)), ((ad9128 18), iA G 36 (fun _ => 0)), ((ad9128 19), oX1 (ad9128 20)), ((ad9128 20), iA G 36 (fun _ => 0)), ((ad9128 21), oX1 (ad9128 22)), ((ad9128 22), iA G 36 (fun _ => 0)), ((ad9128 23), oX1 (ad9128 24)), ((ad9128 24), iA G 36 (fun _ => 0)), ((ad9128 25), oX1 (ad9128 26)), ((ad9128 26), iA G 36 (fun _ => 0)), (q9131, oX6 q9116 q9119 fa9134 sh9135 0 0 0), (fa9134, iA G 5 (fun _ => 0)), (sh9135, iA G 8 (fun _ => 0)), (q9136, oX9 q9116 q9119 0 0 0 0), (q9139, oX10 (u9141 0) 0 (u9141 1) (u9141 3) (-1) 0 0 (-1)), ((u9141 0), iA G 240 (fun _ => 0)), ((u9141 1), oX8 9 7 (u9141 2) 0), ((u9141 2), iA G 63 (fun _ => 0)), ((u9141 3), oX8 120 1 (u9141 4) 0), ((u9141 4), iA G 120 (fun _ => 0)), (q9142, oX5 q9116 rr9145 tc9147 0 0 0), (rr9145, oX8 7 2 rrc9146 0), (rrc9146, iA G 14 (fun _ => 0)), (tc9147, iA G 128 (fun _ => 0)), (q9148, oX4 (u9150 0) (u9150 1) (u9150 2) (u9150 3) (u9150 4) (u9150 5)), ((u9150 0), iA G 4 (upd (upd (upd (upd (fun _ => 0) 0 (-1)) 1 (-1)) 2 (-1)) 3 (-1))), ((u9150 1), iA G 4 (fun _ => 0)), ((u9150 2), iA G 160 (fun _ => 0)), ((u9150 3), iA G 4 (upd (upd (upd (upd (fun _ => 0) 0 4) 1 4) 2 4) 3 4)), ((u9150 4), iA G 4 (fun _ => 0)), ((u9150 5), iA G 4 (fun _ => 0)), (q9151, .inr (2, [.null, .null, .int 0, .int 0, .int 0, .int 0, .int 0, .int 0]))]) hP hD (fun hP hD => ?_)
  refine Wcast (c1 := 101) (s1 := 5316) rfl rfl ?_
  refine lv_dup hx hb dX11_init_123 rfl ?_
  refine lv_aload_n hx hb dX11_init_124 rfl (lv_at1 hl) ?_
  refine vI (wr := [(h0, .inr (11, [.ref q9116, .ref q9122, .int 0, .ref q9119, .ref q9125, .ref q9131, .ref q9136, .ref q9139, .ref q9142, .ref q9148, .null])), (q9116, oX0 (u9118 0) (u9118 2) (u9118 4) (u9118 6) (u9118 8) (u9118 10) (u9118 12) (u9118 14) (u9118 16) (u9118 18) 0 (-1) 3 24), ((u9118 0), oX8 10 2 (u9118 1) 0), ((u9118 1), iA G 20 (fun _ => 0)), ((u9118 2), oX8 12 6 (u9118 3) 0), ((u9118 3), iA G 72 (fun _ => 0)), ((u9118 4), oX8 24 3 (u9118 5) 0), ((u9118 5), iA G 72 (fun _ => 0)), ((u9118 6), oX8 8 3 (u9118 7) 0), ((u9118 7), iA G 24 (fun _ => 0)), ((u9118 8), oX8 72 7 (u9118 9) 0), ((u9118 9), iA G 504 (fun _ => 0)), ((u9118 10), oX8 960 1 (u9118 11) 0), ((u9118 11), iA G 960 (fun _ => 0)), ((u9118 12), oX8 16 8 (u9118 13) 0), ((u9118 13), iA G 128 (fun _ => 0)), ((u9118 14), oX8 12 4 (u9118 15) 0), ((u9118 15), iA G 48 (fun _ => 0)), ((u9118 16), oX8 16 3 (u9118 17) 0), ((u9118 17), iA G 48 (fun _ => 0)), ((u9118 18), oX8 7 2 (u9118 19) 0), ((u9118 19), iA G 14 (fun _ => 0)), (q9119, oX7 q9116 (u9121 0) (u9121 2) (u9121 3) (u9121 4) (u9121 5) (u9121 6) (u9121 7) 0), ((u9121 0), oX1 (u9121 1)), ((u9121 1), iA G 36 (fun _ => 0)), ((u9121 2), iA G 12 (fun _ => 0)), ((u9121 3), iA G 12 (fun _ => 0)), ((u9121 4), iA G 12 (fun _ => 0)), ((u9121 5), iA G 12 (fun _ => 0)), ((u9121 6), iA G 12 (fun _ => 0)), ((u9121 7), iA G 12 (fun _ => 0)), (q9122, oX0 (u9124 0) (u9124 2) (u9124 4) (u9124 6) (u9124 8) (u9124 10) (u9124 12) (u9124 14) (u9124 16) (u9124 18) 0 (-1) 3 24), ((u9124 0), oX8 10 2 (u9124 1) 0), ((u9124 1), iA G 20 (fun _ => 0)), ((u9124 2), oX8 12 6 (u9124 3) 0), ((u9124 3), iA G 72 (fun _ => 0)), ((u9124 4), oX8 24 3 (u9124 5) 0), ((u9124 5), iA G 72 (fun _ => 0)), ((u9124 6), oX8 8 3 (u9124 7) 0), ((u9124 7), iA G 24 (fun _ => 0)), ((u9124 8), oX8 72 7 (u9124 9) 0), ((u9124 9), iA G 504 (fun _ => 0)), ((u9124 10), oX8 960 1 (u9124 11) 0), ((u9124 11), iA G 960 (fun _ => 0)), ((u9124 12), oX8 16 8 (u9124 13) 0), ((u9124 13), iA G 128 (fun _ => 0)), ((u9124 14), oX8 12 4 (u9124 15) 0), ((u9124 15), iA G 48 (fun _ => 0)), ((u9124 16), oX8 16 3 (u9124 17) 0), ((u9124 17), iA G 48 (fun _ => 0)), ((u9124 18), oX8 7 2 (u9124 19) 0), ((u9124 19), iA G 14 (fun _ => 0)), (q9125, oX3 q9116 (ad9128 0) 0 0 0), ((ad9128 0), cA G 13 hf9129), ((ad9128 1), oX1 (ad9128 2)), ((ad9128 2), iA G 36 (fun _ => 0)), ((ad9128 3), oX1 (ad9128 4)), ((ad9128 4), iA G 36 (fun _ => 0)), ((ad9128 5), oX1 (ad9128 6)), ((ad9128 6), iA G 36 (fun _ => 0)), ((ad9128 7), oX1 (ad9128 8)), ((ad9128 8), iA G 36 (fun _ => 0)), ((ad9128 9), oX1 (ad9128 10)), ((ad9128 10), iA G 36 (fun _ => 0)), ((ad9128 11), oX1 (ad9128 12)), ((ad9128 12), iA G 36 (fun _ => 0)), ((ad9128 13), oX1 (ad9128 14)), ((ad9128 14), iA G 36 (fun _ => 0)), ((ad9128 15), oX1 (ad9128 16)), ((ad9128 16), iA G 36 (fun _ => 0)), ((ad9128 17), oX1 (ad9128 18)), ((ad9128 18), iA G 36 (fun _ => 0)), ((ad9128 19), oX1 (ad9128 20)), ((ad9128 20), iA G 36 (fun _ => 0)), ((ad9128 21), oX1 (ad9128 22)), ((ad9128 22), iA G 36 (fun _ => 0)), ((ad9128 23), oX1 (ad9128 24)), ((ad9128 24), iA G 36 (fun _ => 0)), ((ad9128 25), oX1 (ad9128 26)), ((ad9128 26), iA G 36 (fun _ => 0)), (q9131, oX6 q9116 q9119 fa9134 sh9135 0 0 0), (fa9134, iA G 5 (fun _ => 0)), (sh9135, iA G 8 (fun _ => 0)), (q9136, oX9 q9116 q9119 0 0 0 0), (q9139, oX10 (u9141 0) 0 (u9141 1) (u9141 3) (-1) 0 0 (-1)), ((u9141 0), iA G 240 (fun _ => 0)), ((u9141 1), oX8 9 7 (u9141 2) 0), ((u9141 2), iA G 63 (fun _ => 0)), ((u9141 3), oX8 120 1 (u9141 4) 0), ((u9141 4), iA G 120 (fun _ => 0)), (q9142, oX5 q9116 rr9145 tc9147 0 0 0), (rr9145, oX8 7 2 rrc9146 0), (rrc9146, iA G 14 (fun _ => 0)), (tc9147, iA G 128 (fun _ => 0)), (q9148, oX4 (u9150 0) (u9150 1) (u9150 2) (u9150 3) (u9150 4) (u9150 5)), ((u9150 0), iA G 4 (upd (upd (upd (upd (fun _ => 0) 0 (-1)) 1 (-1)) 2 (-1)) 3 (-1))), ((u9150 1), iA G 4 (fun _ => 0)), ((u9150 2), iA G 160 (fun _ => 0)), ((u9150 3), iA G 4 (upd (upd (upd (upd (fun _ => 0) 0 4) 1 4) 2 4) 3 4)), ((u9150 4), iA G 4 (fun _ => 0)), ((u9150 5), iA G 4 (fun _ => 0))]) hC hK hl hP hD hS hA (c_De_init l G q9151 q9116) si_X11_78 [101] [0, 1, 2, 3, 4, 5, 6, 7, 8, 9, 10, 11, 12, 13, 14, 15, 16, 17, 18, 19, 20, 21, 22, 23, 24, 25, 26, 27, 28, 29, 30, 31, 32, 33, 34, 35, 36, 37, 38, 39, 40, 41, 42, 43, 44, 45, 46, 47, 48, 49, 50, 51, 52, 53, 54, 55, 56, 57, 58, 59, 60, 61, 62, 63, 64, 65, 66, 67, 68, 69, 70, 71, 72, 73, 74, 75, 76, 77, 78, 79, 80, 81, 82, 83, 84, 85, 86, 87, 88, 89, 90, 91, 92, 93, 94, 95, 96, 97, 98, 99, 100] sm_101 fm_101 nd_101 rfl (by decide +kernel) (by decide) rfl rfl (Nat.le_of_ble_eq_true rfl) rm_5_2_2 ⟨by first | exact Nat.le_of_ble_eq_true rfl | omega, by first | exact Nat.le_of_ble_eq_true rfl | omega⟩ dX11_init_125 (fun tr99154 H locs hr9152 hP hD hS => ?_)
  try dsimp only at hr9152
  refine Kpdr (ws := [(h0, .inr (11, [.ref q9116, .ref q9122, .int 0, .ref q9119, .ref q9125, .ref q9131, .ref q9136, .ref q9139, .ref q9142, .ref q9148, .null])), (q9116, oX0 (u9118 0) (u9118 2) (u9118 4) (u9118 6) (u9118 8) (u9118 10) (u9118 12) (u9118 14) (u9118 16) (u9118 18) 0 (-1) 3 24), ((u9118 0), oX8 10 2 (u9118 1) 0), ((u9118 1), iA G 20 (fun _ => 0)), ((u9118 2), oX8 12 6 (u9118 3) 0), ((u9118 3), iA G 72 (fun _ => 0)), ((u9118 4), oX8 24 3 (u9118 5) 0), ((u9118 5), iA G 72 (fun _ => 0)), ((u9118 6), oX8 8 3 (u9118 7) 0), ((u9118 7), iA G 24 (fun _ => 0)), ((u9118 8), oX8 72 7 (u9118 9) 0), ((u9118 9), iA G 504 (fun _ => 0)), ((u9118 10), oX8 960 1 (u9118 11) 0), ((u9118 11), iA G 960 (fun _ => 0)), ((u9118 12), oX8 16 8 (u9118 13) 0), ((u9118 13), iA G 128 (fun _ => 0)), ((u9118 14), oX8 12 4 (u9118 15) 0), ((u9118 15), iA G 48 (fun _ => 0)), ((u9118 16), oX8 16 3 (u9118 17) 0), ((u9118 17), iA G 48 (fun _ => 0)), ((u9118 18), oX8 7 2 (u9118 19) 0), ((u9118 19), iA G 14 (fun _ => 0)), (q9119, oX7 q9116 (u9121 0) (u9121 2) (u9121 3) (u9121 4) (u9121 5) (u9121 6) (u9121 7) 0), ((u9121 0), oX1 (u9121 1)), ((u9121 1), iA G 36 (fun _ => 0)), ((u9121 2), iA G 12 (fun _ => 0)), ((u9121 3), iA G 12 (fun _ => 0)), ((u9121 4), iA G 12 (fun _ => 0)), ((u9121 5), iA G 12 (fun _ => 0)), ((u9121 6), iA G 12 (fun _ => 0)), ((u9121 7), iA G 12 (fun _ => 0)), (q9122, oX0 (u9124 0) (u9124 2) (u9124 4) (u9124 6) (u9124 8) (u9124 10) (u9124 12) (u9124 14) (u9124 16) (u9124 18) 0 (-1) 3 24), ((u9124 0), oX8 10 2 (u9124 1) 0), ((u9124 1), iA G 20 (fun _ => 0)), ((u9124 2), oX8 12 6 (u9124 3) 0), ((u9124 3), iA G 72 (fun _ => 0)), ((u9124 4), oX8 24 3 (u9124 5) 0), ((u9124 5), iA G 72 (fun _ => 0)), ((u9124 6), oX8 8 3 (u9124 7) 0), ((u9124 7), iA G 24 (fun _ => 0)), ((u9124 8), oX8 72 7 (u9124 9) 0), ((u9124 9), iA G 504 (fun _ => 0)), ((u9124 10), oX8 960 1 (u9124 11) 0), ((u9124 11), iA G 960 (fun _ => 0)), ((u9124 12), oX8 16 8 (u9124 13) 0), ((u9124 13), iA G 128 (fun _ => 0)), ((u9124 14), oX8 12 4 (u9124 15) 0), ((u9124 15), iA G 48 (fun _ => 0)), ((u9124 16), oX8 16 3 (u9124 17) 0), ((u9124 17), iA G 48 (fun _ => 0)), ((u9124 18), oX8 7 2 (u9124 19) 0), ((u9124 19), iA G 14 (fun _ => 0)), (q9125, oX3 q9116 (ad9128 0) 0 0 0), ((ad9128 0), cA G 13 hf9129), ((ad9128 1), oX1 (ad9128 2)), ((ad9128 2), iA G 36 (fun _ => 0)), ((ad9128 3), oX1 (ad9128 4)), ((ad9128 4), iA G 36 (fun _ => 0)), ((ad9128 5), oX1 (ad9128 6)), ((ad9128 6), iA G 36 (fun _ => 0)), ((ad9128 7), oX1 (ad9128 8)), ((ad9128 8), iA G 36 (fun _ => 0)), ((ad9128 9), oX1 (ad9128 10)), ((ad9128 10), iA G 36 (fun _ => 0)), ((ad9128 11), oX1 (ad9128 12)), ((ad9128 12), iA G 36 (fun _ => 0)), ((ad9128 13), oX1 (ad9128 14)), ((ad9128 14), iA G 36 (fun _ => 0)), ((ad9128 15), oX1 (ad9128 16)), ((ad9128 16), iA G 36 (fun _ => 0)), ((ad9128 17), oX1 (ad9128 18)), ((ad9128 18), iA G 36 (fun _ => 0)), ((ad9128 19), oX1 (ad9128 20)), ((ad9128 20), iA G 36 (fun _ => 0)), ((ad9128 21), oX1 (ad9128 22)), ((ad9128 22), iA G 36 (fun _ => 0)), ((ad9128 23), oX1 (ad9128 24)), ((ad9128 24), iA G 36 (fun _ => 0)), ((ad9128 25), oX1 (ad9128 26)), ((ad9128 26), iA G 36 (fun _ => 0)), (q9131, oX6 q9116 q9119 fa9134 sh9135 0 0 0), (fa9134, iA G 5 (fun _ => 0)), (sh9135, iA G 8 (fun _ => 0)), (q9136, oX9 q9116 q9119 0 0 0 0), (q9139, oX10 (u9141 0) 0 (u9141 1) (u9141 3) (-1) 0 0 (-1)), ((u9141 0), iA G 240 (fun _ => 0)), ((u9141 1), oX8 9 7 (u9141 2) 0), ((u9141 2), iA G 63 (fun _ => 0)), ((u9141 3), oX8 120 1 (u9141 4) 0), ((u9141 4), iA G 120 (fun _ => 0)), (q9142, oX5 q9116 rr9145 tc9147 0 0 0), (rr9145, oX8 7 2 rrc9146 0), (rrc9146, iA G 14 (fun _ => 0)), (tc9147, iA G 128 (fun _ => 0)), (q9148, oX4 (u9150 0) (u9150 1) (u9150 2) (u9150 3) (u9150 4) (u9150 5)), ((u9150 0), iA G 4 (upd (upd (upd (upd (fun _ => 0) 0 (-1)) 1 (-1)) 2 (-1)) 3 (-1))), ((u9150 1), iA G 4 (fun _ => 0)), ((u9150 2), iA G 160 (fun _ => 0)), ((u9150 3), iA G 4 (upd (upd (upd (upd (fun _ => 0) 0 4) 1 4) 2 4) 3 4)), ((u9150 4), iA G 4 (fun _ => 0)), ((u9150 5), iA G 4 (fun _ => 0)), (q9151, oX2 q9116 tr99154 0 0 0 0 0 0), (tr99154, iA G 30 (fun _ => 0))]) hP hD (fun hP hD => ?_)
  refine Wcast (c1 := 102) (s1 := 5346) rfl rfl ?_
  refine pf_X11_79 hC rfl rfl hK hP hD hS 0 (ws' := [(h0, oX11 q9116 q9122 0 q9119 q9125 q9131 q9136 q9139 q9142 q9148 q9151), (q9116, oX0 (u9118 0) (u9118 2) (u9118 4) (u9118 6) (u9118 8) (u9118 10) (u9118 12) (u9118 14) (u9118 16) (u9118 18) 0 (-1) 3 24), ((u9118 0), oX8 10 2 (u9118 1) 0), ((u9118 1), iA G 20 (fun _ => 0)), ((u9118 2), oX8 12 6 (u9118 3) 0), ((u9118 3), iA G 72 (fun _ => 0)), ((u9118 4), oX8 24 3 (u9118 5) 0), ((u9118 5), iA G 72 (fun _ => 0)), ((u9118 6), oX8 8 3 (u9118 7) 0), ((u9118 7), iA G 24 (fun _ => 0)), ((u9118 8), oX8 72 7 (u9118 9) 0), ((u9118 9), iA G 504 (fun _ => 0)), ((u9118 10), oX8 960 1 (u9118 11) 0), ((u9118 11), iA G 960 (fun _ => 0)), ((u9118 12), oX8 16 8 (u9118 13) 0), ((u9118 13), iA G 128 (fun _ => 0)), ((u9118 14), oX8 12 4 (u9118 15) 0), ((u9118 15), iA G 48 (fun _ => 0)), ((u9118 16), oX8 16 3 (u9118 17) 0), ((u9118 17), iA G 48 (fun _ => 0)), ((u9118 18), oX8 7 2 (u9118 19) 0), ((u9118 19), iA G 14 (fun _ => 0)), (q9119, oX7 q9116 (u9121 0) (u9121 2) (u9121 3) (u9121 4) (u9121 5) (u9121 6) (u9121 7) 0), ((u9121 0), oX1 (u9121 1)), ((u9121 1), iA G 36 (fun _ => 0)), ((u9121 2), iA G 12 (fun _ => 0)), ((u9121 3), iA G 12 (fun _ => 0)), ((u9121 4), iA G 12 (fun _ => 0)), ((u9121 5), iA G 12 (fun _ => 0)), ((u9121 6), iA G 12 (fun _ => 0)), ((u9121 7), iA G 12 (fun _ => 0)), (q9122, oX0 (u9124 0) (u9124 2) (u9124 4) (u9124 6) (u9124 8) (u9124 10) (u9124 12) (u9124 14) (u9124 16) (u9124 18) 0 (-1) 3 24), ((u9124 0), oX8 10 2 (u9124 1) 0), ((u9124 1), iA G 20 (fun _ => 0)), ((u9124 2), oX8 12 6 (u9124 3) 0), ((u9124 3), iA G 72 (fun _ => 0)), ((u9124 4), oX8 24 3 (u9124 5) 0), ((u9124 5), iA G 72 (fun _ => 0)), ((u9124 6), oX8 8 3 (u9124 7) 0), ((u9124 7), iA G 24 (fun _ => 0)), ((u9124 8), oX8 72 7 (u9124 9) 0), ((u9124 9), iA G 504 (fun _ => 0)), ((u9124 10), oX8 960 1 (u9124 11) 0), ((u9124 11), iA G 960 (fun _ => 0)), ((u9124 12), oX8 16 8 (u9124 13) 0), ((u9124 13), iA G 128 (fun _ => 0)), ((u9124 14), oX8 12 4 (u9124 15) 0), ((u9124 15), iA G 48 (fun _ => 0)), ((u9124 16), oX8 16 3 (u9124 17) 0), ((u9124 17), iA G 48 (fun _ => 0)), ((u9124 18), oX8 7 2 (u9124 19) 0), ((u9124 19), iA G 14 (fun _ => 0)), (q9125, oX3 q9116 (ad9128 0) 0 0 0), ((ad9128 0), cA G 13 hf9129), ((ad9128 1), oX1 (ad9128 2)), ((ad9128 2), iA G 36 (fun _ => 0)), ((ad9128 3), oX1 (ad9128 4)), ((ad9128 4), iA G 36 (fun _ => 0)), ((ad9128 5), oX1 (ad9128 6)), ((ad9128 6), iA G 36 (fun _ => 0)), ((ad9128 7), oX1 (ad9128 8)), ((ad9128 8), iA G 36 (fun _ => 0)), ((ad9128 9), oX1 (ad9128 10)), ((ad9128 10), iA G 36 (fun _ => 0)), ((ad9128 11), oX1 (ad9128 12)), ((ad9128 12), iA G 36 (fun _ => 0)), ((ad9128 13), oX1 (ad9128 14)), ((ad9128 14), iA G 36 (fun _ => 0)), ((ad9128 15), oX1 (ad9128 16)), ((ad9128 16), iA G 36 (fun _ => 0)), ((ad9128 17), oX1 (ad9128 18)), ((ad9128 18), iA G 36 (fun _ => 0)), ((ad9128 19), oX1 (ad9128 20)), ((ad9128 20), iA G 36 (fun _ => 0)), ((ad9128 21), oX1 (ad9128 22)), ((ad9128 22), iA G 36 (fun _ => 0)), ((ad9128 23), oX1 (ad9128 24)), ((ad9128 24), iA G 36 (fun _ => 0)), ((ad9128 25), oX1 (ad9128 26)), ((ad9128 26), iA G 36 (fun _ => 0)), (q9131, oX6 q9116 q9119 fa9134 sh9135 0 0 0), (fa9134, iA G 5 (fun _ => 0)), (sh9135, iA G 8 (fun _ => 0)), (q9136, oX9 q9116 q9119 0 0 0 0), (q9139, oX10 (u9141 0) 0 (u9141 1) (u9141 3) (-1) 0 0 (-1)), ((u9141 0), iA G 240 (fun _ => 0)), ((u9141 1), oX8 9 7 (u9141 2) 0), ((u9141 2), iA G 63 (fun _ => 0)), ((u9141 3), oX8 120 1 (u9141 4) 0), ((u9141 4), iA G 120 (fun _ => 0)), (q9142, oX5 q9116 rr9145 tc9147 0 0 0), (rr9145, oX8 7 2 rrc9146 0), (rrc9146, iA G 14 (fun _ => 0)), (tc9147, iA G 128 (fun _ => 0)), (q9148, oX4 (u9150 0) (u9150 1) (u9150 2) (u9150 3) (u9150 4) (u9150 5)), ((u9150 0), iA G 4 (upd (upd (upd (upd (fun _ => 0) 0 (-1)) 1 (-1)) 2 (-1)) 3 (-1))), ((u9150 1), iA G 4 (fun _ => 0)), ((u9150 2), iA G 160 (fun _ => 0)), ((u9150 3), iA G 4 (upd (upd (upd (upd (fun _ => 0) 0 4) 1 4) 2 4) 3 4)), ((u9150 4), iA G 4 (fun _ => 0)), ((u9150 5), iA G 4 (fun _ => 0)), (q9151, oX2 q9116 tr99154 0 0 0 0 0 0), (tr99154, iA G 30 (fun _ => 0))]) rfl (Nat.le_of_ble_eq_true rfl) rfl rfl rfl dX11_init_128 (fun H locs hP hD hS => ?_)
  exact toQ hQ0 (RV hC hP hD hS [0, 1, 2, 3, 4, 5, 6, 7, 8, 9, 10, 11, 12, 13, 14, 15, 16, 17, 18, 19, 20, 21, 31, 32, 33, 34, 35, 36, 37, 38, 39, 40, 41, 42, 43, 44, 45, 46, 47, 48, 49, 50, 51, 22, 23, 24, 25, 26, 27, 28, 29, 30, 52, 53, 54, 55, 56, 57, 58, 59, 60, 61, 62, 63, 64, 65, 66, 67, 68, 69, 70, 71, 72, 73, 74, 75, 76, 77, 78, 79, 80, 81, 82, 83, 84, 85, 86, 87, 88, 89, 90, 91, 92, 93, 94, 95, 96, 97, 98, 99, 100, 101, 102] ((fun k9 => ([q9116, q9122, q9119, q9125, q9131, q9136, q9139, q9142, q9148, q9151, (u9118 0), (u9118 2), (u9118 4), (u9118 6), (u9118 8), (u9118 10), (u9118 12), (u9118 14), (u9118 16), (u9118 18), (u9118 1), (u9118 3), (u9118 5), (u9118 7), (u9118 9), (u9118 11), (u9118 13), (u9118 15), (u9118 17), (u9118 19), (u9124 0), (u9124 2), (u9124 4), (u9124 6), (u9124 8), (u9124 10), (u9124 12), (u9124 14), (u9124 16), (u9124 18), (u9124 1), (u9124 3), (u9124 5), (u9124 7), (u9124 9), (u9124 11), (u9124 13), (u9124 15), (u9124 17), (u9124 19), (u9121 0), (u9121 2), (u9121 3), (u9121 4), (u9121 5), (u9121 6), (u9121 7), (u9121 1), (ad9128 0), (ad9128 1), (ad9128 2), (ad9128 3), (ad9128 4), (ad9128 5), (ad9128 6), (ad9128 7), (ad9128 8), (ad9128 9), (ad9128 10), (ad9128 11), (ad9128 12), (ad9128 13), (ad9128 14), (ad9128 15), (ad9128 16), (ad9128 17), (ad9128 18), (ad9128 19), (ad9128 20), (ad9128 21), (ad9128 22), (ad9128 23), (ad9128 24), (ad9128 25), (ad9128 26), fa9134, sh9135, (u9141 0), (u9141 1), (u9141 3), (u9141 2), (u9141 4), rr9145, tc9147, rrc9146, (u9150 0), (u9150 1), (u9150 2), (u9150 3), (u9150 4), (u9150 5), tr99154] : List Nat).getD k9 0), hf9129) rfl rfl (by decide) (w9130) dX11_init_131)
def K_m_init (l : Launch) (G : GG) (K : OO) (h0 : Nat) : Prop := MVo l G K yX12_init cX12_init 2 3 19 4105 [.ref h0] [(h0, .inr (12, [.null, .null, .int 0, .null, .int 0, .null, .int 0, .int 0, .int 0, .int 0, .null, .int 0, .int 0, .null, .int 0, .int 0, .int 0, .int 0, .int 0, .int 0, .int 0, .null, .null, .null, .null, .null, .null, .int 0, .null, .null, .null, .null, .null, .null, .null, .int 0, .int 0, .int 0, .int 0, .int 0, .int 0]))] (fun u : (Nat → Nat) => True) (fun u : (Nat → Nat) => [(h0, oX12 (u 0) (u 1) 0 (u 2) 0 (u 3) 0 (-1) 0 0 (u 4) 0 0 (u 5) 0 0 0 0 0 0 0 (u 6) (u 7) (u 18) (u 8) (u 9) (u 10) 0 (u 11) (u 12) (u 13) (u 14) (u 15) (u 16) (u 17) 0 0 0 0 0 0), ((u 0), iA G 1662 (upd (upd (upd (fun _ => 0) 1 (-1)) 2 3) 3 24)), ((u 1), iA G 1662 (fun _ => 0)), ((u 2), iA G 240 (fun _ => 0)), ((u 3), iA G 14 (fun _ => 0)), ((u 4), iA G 36 (fun _ => 0)), ((u 5), iA G 8 (fun _ => 0)), ((u 6), iA G 54 (fun _ => 0)), ((u 7), iA G 100 (fun _ => 0)), ((u 8), iA G 100 (fun _ => 0)), ((u 9), iA G 7 (fun _ => 0)), ((u 10), iA G 7 (fun _ => 0)), ((u 11), iA G 4 (upd (upd (upd (upd (fun _ => 0) 0 (-1)) 1 (-1)) 2 (-1)) 3 (-1))), ((u 12), iA G 4 (fun _ => 0)), ((u 13), iA G 160 (fun _ => 0)), ((u 14), iA G 4 (fun _ => 0)), ((u 15), iA G 4 (fun _ => 0)), ((u 16), iA G 4 (fun _ => 0)), ((u 17), iA G 30 (fun _ => 0)), ((u 18), sA G 5 (FCT K))])
set_option maxHeartbeats 4000000 in
set_option maxRecDepth 100000 in
theorem m_init (l : Launch) (G : GG) (K : OO) (h0 : Nat) : K_m_init l G K h0 := by
  refine MVo.start (by decide +kernel) (Nat.le_of_ble_eq_true rfl) ?_
  intro p e s m below meth c A ls hC hK hP hD hS hA hl hO
  refine absQ (fun Q0 hQ0 => ?_)
  have hl : lv_has ls 2 [(0, .ref h0)] := hl
  refine Kan8 hC (fun hx hb hr hml hB hown hlocks hnm => ?_)
  refine lv_aload_n hx hb dX12_init_0 rfl (lv_at0 hl) ?_
  refine W.objInit hx hb hown (hB _ m_1028) (hB _ m_128) (hB _ m_129) rfl (by rw [hml]; exact hl.1) rfl dX12_init_1 (Nat.le_of_ble_eq_true rfl) (Nat.le_of_ble_eq_true rfl) ?_
  refine W.eq (g2 := F0 m 4 ls []) rfl ?_
  refine lv_aload_n hx hb dX12_init_4 rfl (lv_at0 hl) ?_
  refine lv_sipush (v := 1662) hx hb dX12_init_5 (by decide) ?_
  refine newI hC hK hP hD hS hA m_148 (by decide) (N := 1662) (by decide +kernel) (Nat.le_of_ble_eq_true rfl) (by decide) (Nat.le_of_ble_eq_true rfl) dX12_init_8 (fun q9155 H hP hD hS => ?_)
  refine Kpdr (ws := [(h0, .inr (12, [.null, .null, .int 0, .null, .int 0, .null, .int 0, .int 0, .int 0, .int 0, .null, .int 0, .int 0, .null, .int 0, .int 0, .int 0, .int 0, .int 0, .int 0, .int 0, .null, .null, .null, .null, .null, .null, .int 0, .null, .null, .null, .null, .null, .null, .null, .int 0, .int 0, .int 0, .int 0, .int 0, .int 0])), (q9155, iA G 1662 (fun _ => 0))]) hP hD (fun hP hD => ?_)
  refine Wcast (c1 := 1) (s1 := 1662) rfl rfl ?_
  refine pf_X12_9 hC rfl rfl hK hP hD hS 0 (ws' := [(h0, .inr (12, [.ref q9155, .null, .int 0, .null, .int 0, .null, .int 0, .int 0, .int 0, .int 0, .null, .int 0, .int 0, .null, .int 0, .int 0, .int 0, .int 0, .int 0, .int 0, .int 0, .null, .null, .null, .null, .null, .null, .int 0, .null, .null, .null, .null, .null, .null, .null, .int 0, .int 0, .int 0, .int 0, .int 0, .int 0])), (q9155, iA G 1662 (fun _ => 0))]) rfl (Nat.le_of_ble_eq_true rfl) rfl rfl rfl dX12_init_10 (fun H locs hP hD hS => ?_)
  refine lv_aload_n hx hb dX12_init_13 rfl (lv_at0 hl) ?_
  refine lv_sipush (v := 1662) hx hb dX12_init_14 (by decide) ?_
  refine newI hC hK hP hD hS hA m_148 (by decide) (N := 1662) (by decide +kernel) (Nat.le_of_ble_eq_true rfl) (by decide) (Nat.le_of_ble_eq_true rfl) dX12_init_17 (fun q9156 H hP hD hS => ?_)
  refine Kpdr (ws := [(h0, .inr (12, [.ref q9155, .null, .int 0, .null, .int 0, .null, .int 0, .int 0, .int 0, .int 0, .null, .int 0, .int 0, .null, .int 0, .int 0, .int 0, .int 0, .int 0, .int 0, .int 0, .null, .null, .null, .null, .null, .null, .int 0, .null, .null, .null, .null, .null, .null, .null, .int 0, .int 0, .int 0, .int 0, .int 0, .int 0])), (q9155, iA G 1662 (fun _ => 0)), (q9156, iA G 1662 (fun _ => 0))]) hP hD (fun hP hD => ?_)
  refine Wcast (c1 := 2) (s1 := 3324) rfl rfl ?_
  refine pf_X12_13 hC rfl rfl hK hP hD hS 0 (ws' := [(h0, .inr (12, [.ref q9155, .ref q9156, .int 0, .null, .int 0, .null, .int 0, .int 0, .int 0, .int 0, .null, .int 0, .int 0, .null, .int 0, .int 0, .int 0, .int 0, .int 0, .int 0, .int 0, .null, .null, .null, .null, .null, .null, .int 0, .null, .null, .null, .null, .null, .null, .null, .int 0, .int 0, .int 0, .int 0, .int 0, .int 0])), (q9155, iA G 1662 (fun _ => 0)), (q9156, iA G 1662 (fun _ => 0))]) rfl (Nat.le_of_ble_eq_true rfl) rfl rfl rfl dX12_init_19 (fun H locs hP hD hS => ?_)
  refine lv_aload_n hx hb dX12_init_22 rfl (lv_at0 hl) ?_
  refine lv_sipush (v := 240) hx hb dX12_init_23 (by decide) ?_
  refine newI hC hK hP hD hS hA m_148 (by decide) (N := 240) (by decide +kernel) (Nat.le_of_ble_eq_true rfl) (by decide) (Nat.le_of_ble_eq_true rfl) dX12_init_26 (fun q9157 H hP hD hS => ?_)
  refine Kpdr (ws := [(h0, .inr (12, [.ref q9155, .ref q9156, .int 0, .null, .int 0, .null, .int 0, .int 0, .int 0, .int 0, .null, .int 0, .int 0, .null, .int 0, .int 0, .int 0, .int 0, .int 0, .int 0, .int 0, .null, .null, .null, .null, .null, .null, .int 0, .null, .null, .null, .null, .null, .null, .null, .int 0, .int 0, .int 0, .int 0, .int 0, .int 0])), (q9155, iA G 1662 (fun _ => 0)), (q9156, iA G 1662 (fun _ => 0)), (q9157, iA G 240 (fun _ => 0))]) hP hD (fun hP hD => ?_)
  refine Wcast (c1 := 3) (s1 := 3564) rfl rfl ?_
  refine pf_X12_16 hC rfl rfl hK hP hD hS 0 (ws' := [(h0, .inr (12, [.ref q9155, .ref q9156, .int 0, .ref q9157, .int 0, .null, .int 0, .int 0, .int 0, .int 0, .null, .int 0, .int 0, .null, .int 0, .int 0, .int 0, .int 0, .int 0, .int 0, .int 0, .null, .null, .null, .null, .null, .null, .int 0, .null, .null, .null, .null, .null, .null, .null, .int 0, .int 0, .int 0, .int 0, .int 0, .int 0])), (q9155, iA G 1662 (fun _ => 0)), (q9156, iA G 1662 (fun _ => 0)), (q9157, iA G 240 (fun _ => 0))]) rfl (Nat.le_of_ble_eq_true rfl) rfl rfl rfl dX12_init_28 (fun H locs hP hD hS => ?_)
  refine lv_aload_n hx hb dX12_init_31 rfl (lv_at0 hl) ?_
  refine lv_bipush (v := 14) hx hb dX12_init_32 (by decide) ?_
  refine newI hC hK hP hD hS hA m_148 (by decide) (N := 14) (by decide +kernel) (Nat.le_of_ble_eq_true rfl) (by decide) (Nat.le_of_ble_eq_true rfl) dX12_init_34 (fun q9158 H hP hD hS => ?_)
  refine Kpdr (ws := [(h0, .inr (12, [.ref q9155, .ref q9156, .int 0, .ref q9157, .int 0, .null, .int 0, .int 0, .int 0, .int 0, .null, .int 0, .int 0, .null, .int 0, .int 0, .int 0, .int 0, .int 0, .int 0, .int 0, .null, .null, .null, .null, .null, .null, .int 0, .null, .null, .null, .null, .null, .null, .null, .int 0, .int 0, .int 0, .int 0, .int 0, .int 0])), (q9155, iA G 1662 (fun _ => 0)), (q9156, iA G 1662 (fun _ => 0)), (q9157, iA G 240 (fun _ => 0)), (q9158, iA G 14 (fun _ => 0))]) hP hD (fun hP hD => ?_)
  refine Wcast (c1 := 4) (s1 := 3578) rfl rfl ?_
  refine pf_X12_19 hC rfl rfl hK hP hD hS 0 (ws' := [(h0, .inr (12, [.ref q9155, .ref q9156, .int 0, .ref q9157, .int 0, .ref q9158, .int 0, .int 0, .int 0, .int 0, .null, .int 0, .int 0, .null, .int 0, .int 0, .int 0, .int 0, .int 0, .int 0, .int 0, .null, .null, .null, .null, .null, .null, .int 0, .null, .null, .null, .null, .null, .null, .null, .int 0, .int 0, .int 0, .int 0, .int 0, .int 0])), (q9155, iA G 1662 (fun _ => 0)), (q9156, iA G 1662 (fun _ => 0)), (q9157, iA G 240 (fun _ => 0)), (q9158, iA G 14 (fun _ => 0))]) rfl (Nat.le_of_ble_eq_true rfl) rfl rfl rfl dX12_init_36 (fun H locs hP hD hS => ?_)
  refine lv_aload_n hx hb dX12_init_39 rfl (lv_at0 hl) ?_
  refine lv_iconst (v := (-1)) hx hb dX12_init_40 (by decide) ?_
  refine pf_X12_22 hC rfl hK hP hD hS 0 (ws' := [(h0, .inr (12, [.ref q9155, .ref q9156, .int 0, .ref q9157, .int 0, .ref q9158, .int 0, .int (-1), .int 0, .int 0, .null, .int 0, .int 0, .null, .int 0, .int 0, .int 0, .int 0, .int 0, .int 0, .int 0, .null, .null, .null, .null, .null, .null, .int 0, .null, .null, .null, .null, .null, .null, .null, .int 0, .int 0, .int 0, .int 0, .int 0, .int 0])), (q9155, iA G 1662 (fun _ => 0)), (q9156, iA G 1662 (fun _ => 0)), (q9157, iA G 240 (fun _ => 0)), (q9158, iA G 14 (fun _ => 0))]) rfl (Nat.le_of_ble_eq_true rfl) rfl rfl rfl dX12_init_41 (fun H locs hP hD hS => ?_)
  refine lv_aload_n hx hb dX12_init_44 rfl (lv_at0 hl) ?_
  refine lv_bipush (v := 36) hx hb dX12_init_45 (by decide) ?_
  refine newI hC hK hP hD hS hA m_148 (by decide) (N := 36) (by decide +kernel) (Nat.le_of_ble_eq_true rfl) (by decide) (Nat.le_of_ble_eq_true rfl) dX12_init_47 (fun q9159 H hP hD hS => ?_)
  refine Kpdr (ws := [(h0, .inr (12, [.ref q9155, .ref q9156, .int 0, .ref q9157, .int 0, .ref q9158, .int 0, .int (-1), .int 0, .int 0, .null, .int 0, .int 0, .null, .int 0, .int 0, .int 0, .int 0, .int 0, .int 0, .int 0, .null, .null, .null, .null, .null, .null, .int 0, .null, .null, .null, .null, .null, .null, .null, .int 0, .int 0, .int 0, .int 0, .int 0, .int 0])), (q9155, iA G 1662 (fun _ => 0)), (q9156, iA G 1662 (fun _ => 0)), (q9157, iA G 240 (fun _ => 0)), (q9158, iA G 14 (fun _ => 0)), (q9159, iA G 36 (fun _ => 0))]) hP hD (fun hP hD => ?_)
  refine Wcast (c1 := 5) (s1 := 3614) rfl rfl ?_
  refine pf_X12_26 hC rfl rfl hK hP hD hS 0 (ws' := [(h0, .inr (12, [.ref q9155, .ref q9156, .int 0, .ref q9157, .int 0, .ref q9158, .int 0, .int (-1), .int 0, .int 0, .ref q9159, .int 0, .int 0, .null, .int 0, .int 0, .int 0, .int 0, .int 0, .int 0, .int 0, .null, .null, .null, .null, .null, .null, .int 0, .null, .null, .null, .null, .null, .null, .null, .int 0, .int 0, .int 0, .int 0, .int 0, .int 0])), (q9155, iA G 1662 (fun _ => 0)), (q9156, iA G 1662 (fun _ => 0)), (q9157, iA G 240 (fun _ => 0)), (q9158, iA G 14 (fun _ => 0)), (q9159, iA G 36 (fun _ => 0))]) rfl (Nat.le_of_ble_eq_true rfl) rfl rfl rfl dX12_init_49 (fun H locs hP hD hS => ?_)
  refine lv_aload_n hx hb dX12_init_52 rfl (lv_at0 hl) ?_
  refine lv_bipush (v := 8) hx hb dX12_init_53 (by decide) ?_
  refine newI hC hK hP hD hS hA m_148 (by decide) (N := 8) (by decide +kernel) (Nat.le_of_ble_eq_true rfl) (by decide) (Nat.le_of_ble_eq_true rfl) dX12_init_55 (fun q9160 H hP hD hS => ?_)
  refine Kpdr (ws := [(h0, .inr (12, [.ref q9155, .ref q9156, .int 0, .ref q9157, .int 0, .ref q9158, .int 0, .int (-1), .int 0, .int 0, .ref q9159, .int 0, .int 0, .null, .int 0, .int 0, .int 0, .int 0, .int 0, .int 0, .int 0, .null, .null, .null, .null, .null, .null, .int 0, .null, .null, .null, .null, .null, .null, .null, .int 0, .int 0, .int 0, .int 0, .int 0, .int 0])), (q9155, iA G 1662 (fun _ => 0)), (q9156, iA G 1662 (fun _ => 0)), (q9157, iA G 240 (fun _ => 0)), (q9158, iA G 14 (fun _ => 0)), (q9159, iA G 36 (fun _ => 0)), (q9160, iA G 8 (fun _ => 0))]) hP hD (fun hP hD => ?_)
  refine Wcast (c1 := 6) (s1 := 3622) rfl rfl ?_
  refine pf_X12_29 hC rfl rfl hK hP hD hS 0 (ws' := [(h0, .inr (12, [.ref q9155, .ref q9156, .int 0, .ref q9157, .int 0, .ref q9158, .int 0, .int (-1), .int 0, .int 0, .ref q9159, .int 0, .int 0, .ref q9160, .int 0, .int 0, .int 0, .int 0, .int 0, .int 0, .int 0, .null, .null, .null, .null, .null, .null, .int 0, .null, .null, .null, .null, .null, .null, .null, .int 0, .int 0, .int 0, .int 0, .int 0, .int 0])), (q9155, iA G 1662 (fun _ => 0)), (q9156, iA G 1662 (fun _ => 0)), (q9157, iA G 240 (fun _ => 0)), (q9158, iA G 14 (fun _ => 0)), (q9159, iA G 36 (fun _ => 0)), (q9160, iA G 8 (fun _ => 0))]) rfl (Nat.le_of_ble_eq_true rfl) rfl rfl rfl dX12_init_57 (fun H locs hP hD hS => ?_)
  refine lv_aload_n hx hb dX12_init_60 rfl (lv_at0 hl) ?_
  refine lv_bipush (v := 54) hx hb dX12_init_61 (by decide) ?_
  refine newI hC hK hP hD hS hA m_148 (by decide) (N := 54) (by decide +kernel) (Nat.le_of_ble_eq_true rfl) (by decide) (Nat.le_of_ble_eq_true rfl) dX12_init_63 (fun q9161 H hP hD hS => ?_)
  refine Kpdr (ws := [(h0, .inr (12, [.ref q9155, .ref q9156, .int 0, .ref q9157, .int 0, .ref q9158, .int 0, .int (-1), .int 0, .int 0, .ref q9159, .int 0, .int 0, .ref q9160, .int 0, .int 0, .int 0, .int 0, .int 0, .int 0, .int 0, .null, .null, .null, .null, .null, .null, .int 0, .null, .null, .null, .null, .null, .null, .null, .int 0, .int 0, .int 0, .int 0, .int 0, .int 0])), (q9155, iA G 1662 (fun _ => 0)), (q9156, iA G 1662 (fun _ => 0)), (q9157, iA G 240 (fun _ => 0)), (q9158, iA G 14 (fun _ => 0)), (q9159, iA G 36 (fun _ => 0)), (q9160, iA G 8 (fun _ => 0)), (q9161, iA G 54 (fun _ => 0))]) hP hD (fun hP hD => ?_)
  refine Wcast (c1 := 7) (s1 := 3676) rfl rfl ?_
  refine pf_X12_32 hC rfl rfl hK hP hD hS 0 (ws' := [(h0, .inr (12, [.ref q9155, .ref q9156, .int 0, .ref q9157, .int 0, .ref q9158, .int 0, .int (-1), .int 0, .int 0, .ref q9159, .int 0, .int 0, .ref q9160, .int 0, .int 0, .int 0, .int 0, .int 0, .int 0, .int 0, .ref q9161, .null, .null, .null, .null, .null, .int 0, .null, .null, .null, .null, .null, .null, .null, .int 0, .int 0, .int 0, .int 0, .int 0, .int 0])), (q9155, iA G 1662 (fun _ => 0)), (q9156, iA G 1662 (fun _ => 0)), (q9157, iA G 240 (fun _ => 0)), (q9158, iA G 14 (fun _ => 0)), (q9159, iA G 36 (fun _ => 0)), (q9160, iA G 8 (fun _ => 0)), (q9161, iA G 54 (fun _ => 0))]) rfl (Nat.le_of_ble_eq_true rfl) rfl rfl rfl dX12_init_65 (fun H locs hP hD hS => ?_)
  refine lv_aload_n hx hb dX12_init_68 rfl (lv_at0 hl) ?_
  refine lv_bipush (v := 100) hx hb dX12_init_69 (by decide) ?_
  refine newI hC hK hP hD hS hA m_148 (by decide) (N := 100) (by decide +kernel) (Nat.le_of_ble_eq_true rfl) (by decide) (Nat.le_of_ble_eq_true rfl) dX12_init_71 (fun q9162 H hP hD hS => ?_)
  refine Kpdr (ws := [(h0, .inr (12, [.ref q9155, .ref q9156, .int 0, .ref q9157, .int 0, .ref q9158, .int 0, .int (-1), .int 0, .int 0, .ref q9159, .int 0, .int 0, .ref q9160, .int 0, .int 0, .int 0, .int 0, .int 0, .int 0, .int 0, .ref q9161, .null, .null, .null, .null, .null, .int 0, .null, .null, .null, .null, .null, .null, .null, .int 0, .int 0, .int 0, .int 0, .int 0, .int 0])), (q9155, iA G 1662 (fun _ => 0)), (q9156, iA G 1662 (fun _ => 0)), (q9157, iA G 240 (fun _ => 0)), (q9158, iA G 14 (fun _ => 0)), (q9159, iA G 36 (fun _ => 0)), (q9160, iA G 8 (fun _ => 0)), (q9161, iA G 54 (fun _ => 0)), (q9162, iA G 100 (fun _ => 0))]) hP hD (fun hP hD => ?_)
  refine Wcast (c1 := 8) (s1 := 3776) rfl rfl ?_
  refine pf_X12_35 hC rfl rfl hK hP hD hS 0 (ws' := [(h0, .inr (12, [.ref q9155, .ref q9156, .int 0, .ref q9157, .int 0, .ref q9158, .int 0, .int (-1), .int 0, .int 0, .ref q9159, .int 0, .int 0, .ref q9160, .int 0, .int 0, .int 0, .int 0, .int 0, .int 0, .int 0, .ref q9161, .ref q9162, .null, .null, .null, .null, .int 0, .null, .null, .null, .null, .null, .null, .null, .int 0, .int 0, .int 0, .int 0, .int 0, .int 0])), (q9155, iA G 1662 (fun _ => 0)), (q9156, iA G 1662 (fun _ => 0)), (q9157, iA G 240 (fun _ => 0)), (q9158, iA G 14 (fun _ => 0)), (q9159, iA G 36 (fun _ => 0)), (q9160, iA G 8 (fun _ => 0)), (q9161, iA G 54 (fun _ => 0)), (q9162, iA G 100 (fun _ => 0))]) rfl (Nat.le_of_ble_eq_true rfl) rfl rfl rfl dX12_init_73 (fun H locs hP hD hS => ?_)
  refine lv_aload_n hx hb dX12_init_76 rfl (lv_at0 hl) ?_
  refine lv_iconst (v := 5) hx hb dX12_init_77 (by decide) ?_
  refine newQ (E := RJ0) 2 rfl hC hK hP hD hS hA m_1029 hK.2.2.2 (by decide) (N := 5) (by decide +kernel) (by decide) (Nat.le_of_ble_eq_true rfl) (Nat.le_of_ble_eq_true rfl) dX12_init_78 (fun q9163 H hP hD hS => ?_)
  refine Kpdr (ws := [(h0, .inr (12, [.ref q9155, .ref q9156, .int 0, .ref q9157, .int 0, .ref q9158, .int 0, .int (-1), .int 0, .int 0, .ref q9159, .int 0, .int 0, .ref q9160, .int 0, .int 0, .int 0, .int 0, .int 0, .int 0, .int 0, .ref q9161, .ref q9162, .null, .null, .null, .null, .int 0, .null, .null, .null, .null, .null, .null, .null, .int 0, .int 0, .int 0, .int 0, .int 0, .int 0])), (q9155, iA G 1662 (fun _ => 0)), (q9156, iA G 1662 (fun _ => 0)), (q9157, iA G 240 (fun _ => 0)), (q9158, iA G 14 (fun _ => 0)), (q9159, iA G 36 (fun _ => 0)), (q9160, iA G 8 (fun _ => 0)), (q9161, iA G 54 (fun _ => 0)), (q9162, iA G 100 (fun _ => 0)), (q9163, sA G 5 (fun _ => none))]) hP hD (fun hP hD => ?_)
  refine Wcast (c1 := 9) (s1 := 3781) rfl rfl ?_
  refine lv_dup hx hb dX12_init_81 rfl ?_
  refine lv_iconst (v := 0) hx hb dX12_init_82 (by decide) ?_
  refine va_ldcS (index := 40) (tx := "person") hx hb hown (hO.2.2 11 (by decide)) dX12_init_83 ?_
  refine va_astqM hx hb hK.1 hP hD hS 9 2 rfl rfl (any_ofO (i := 11) (by decide) hO hS) (vin (by decide +kernel)) dX12_init_85 (fun H locs hP hD hS => ?_)
  refine Kpdr (ws := [(h0, .inr (12, [.ref q9155, .ref q9156, .int 0, .ref q9157, .int 0, .ref q9158, .int 0, .int (-1), .int 0, .int 0, .ref q9159, .int 0, .int 0, .ref q9160, .int 0, .int 0, .int 0, .int 0, .int 0, .int 0, .int 0, .ref q9161, .ref q9162, .null, .null, .null, .null, .int 0, .null, .null, .null, .null, .null, .null, .null, .int 0, .int 0, .int 0, .int 0, .int 0, .int 0])), (q9155, iA G 1662 (fun _ => 0)), (q9156, iA G 1662 (fun _ => 0)), (q9157, iA G 240 (fun _ => 0)), (q9158, iA G 14 (fun _ => 0)), (q9159, iA G 36 (fun _ => 0)), (q9160, iA G 8 (fun _ => 0)), (q9161, iA G 54 (fun _ => 0)), (q9162, iA G 100 (fun _ => 0)), (q9163, sA G 5 (va_up (fun _ => none) (0 : Int32).toNatClampNeg (some (K.1 11))))]) hP hD (fun hP hD => ?_)
  refine lv_dup hx hb dX12_init_86 rfl ?_
  refine lv_iconst (v := 1) hx hb dX12_init_87 (by decide) ?_
  refine va_ldcS (index := 42) (tx := "post") hx hb hown (hO.2.2 12 (by decide)) dX12_init_88 ?_
  refine va_astqM hx hb hK.1 hP hD hS 9 2 rfl rfl (any_ofO (i := 12) (by decide) hO hS) (vin (by decide +kernel)) dX12_init_90 (fun H locs hP hD hS => ?_)
  refine Kpdr (ws := [(h0, .inr (12, [.ref q9155, .ref q9156, .int 0, .ref q9157, .int 0, .ref q9158, .int 0, .int (-1), .int 0, .int 0, .ref q9159, .int 0, .int 0, .ref q9160, .int 0, .int 0, .int 0, .int 0, .int 0, .int 0, .int 0, .ref q9161, .ref q9162, .null, .null, .null, .null, .int 0, .null, .null, .null, .null, .null, .null, .null, .int 0, .int 0, .int 0, .int 0, .int 0, .int 0])), (q9155, iA G 1662 (fun _ => 0)), (q9156, iA G 1662 (fun _ => 0)), (q9157, iA G 240 (fun _ => 0)), (q9158, iA G 14 (fun _ => 0)), (q9159, iA G 36 (fun _ => 0)), (q9160, iA G 8 (fun _ => 0)), (q9161, iA G 54 (fun _ => 0)), (q9162, iA G 100 (fun _ => 0)), (q9163, sA G 5 (va_up (va_up (fun _ => none) (0 : Int32).toNatClampNeg (some (K.1 11))) (1 : Int32).toNatClampNeg (some (K.1 12))))]) hP hD (fun hP hD => ?_)
  refine lv_dup hx hb dX12_init_91 rfl ?_
  refine lv_iconst (v := 2) hx hb dX12_init_92 (by decide) ?_
  refine va_ldcS (index := 44) (tx := "had") hx hb hown (hO.2.2 13 (by decide)) dX12_init_93 ?_
  refine va_astqM hx hb hK.1 hP hD hS 9 2 rfl rfl (any_ofO (i := 13) (by decide) hO hS) (vin (by decide +kernel)) dX12_init_95 (fun H locs hP hD hS => ?_)
  refine Kpdr (ws := [(h0, .inr (12, [.ref q9155, .ref q9156, .int 0, .ref q9157, .int 0, .ref q9158, .int 0, .int (-1), .int 0, .int 0, .ref q9159, .int 0, .int 0, .ref q9160, .int 0, .int 0, .int 0, .int 0, .int 0, .int 0, .int 0, .ref q9161, .ref q9162, .null, .null, .null, .null, .int 0, .null, .null, .null, .null, .null, .null, .null, .int 0, .int 0, .int 0, .int 0, .int 0, .int 0])), (q9155, iA G 1662 (fun _ => 0)), (q9156, iA G 1662 (fun _ => 0)), (q9157, iA G 240 (fun _ => 0)), (q9158, iA G 14 (fun _ => 0)), (q9159, iA G 36 (fun _ => 0)), (q9160, iA G 8 (fun _ => 0)), (q9161, iA G 54 (fun _ => 0)), (q9162, iA G 100 (fun _ => 0)), (q9163, sA G 5 (va_up (va_up (va_up (fun _ => none) (0 : Int32).toNatClampNeg (some (K.1 11))) (1 : Int32).toNatClampNeg (some (K.1 12))) (2 : Int32).toNatClampNeg (some (K.1 13))))]) hP hD (fun hP hD => ?_)
  refine lv_dup hx hb dX12_init_96 rfl ?_
  refine lv_iconst (v := 3) hx hb dX12_init_97 (by decide) ?_
  refine va_ldcS (index := 46) (tx := "made") hx hb hown (hO.2.2 14 (by decide)) dX12_init_98 ?_
  refine va_astqM hx hb hK.1 hP hD hS 9 2 rfl rfl (any_ofO (i := 14) (by decide) hO hS) (vin (by decide +kernel)) dX12_init_100 (fun H locs hP hD hS => ?_)
  refine Kpdr (ws := [(h0, .inr (12, [.ref q9155, .ref q9156, .int 0, .ref q9157, .int 0, .ref q9158, .int 0, .int (-1), .int 0, .int 0, .ref q9159, .int 0, .int 0, .ref q9160, .int 0, .int 0, .int 0, .int 0, .int 0, .int 0, .int 0, .ref q9161, .ref q9162, .null, .null, .null, .null, .int 0, .null, .null, .null, .null, .null, .null, .null, .int 0, .int 0, .int 0, .int 0, .int 0, .int 0])), (q9155, iA G 1662 (fun _ => 0)), (q9156, iA G 1662 (fun _ => 0)), (q9157, iA G 240 (fun _ => 0)), (q9158, iA G 14 (fun _ => 0)), (q9159, iA G 36 (fun _ => 0)), (q9160, iA G 8 (fun _ => 0)), (q9161, iA G 54 (fun _ => 0)), (q9162, iA G 100 (fun _ => 0)), (q9163, sA G 5 (va_up (va_up (va_up (va_up (fun _ => none) (0 : Int32).toNatClampNeg (some (K.1 11))) (1 : Int32).toNatClampNeg (some (K.1 12))) (2 : Int32).toNatClampNeg (some (K.1 13))) (3 : Int32).toNatClampNeg (some (K.1 14))))]) hP hD (fun hP hD => ?_)
  refine lv_dup hx hb dX12_init_101 rfl ?_
  refine lv_iconst (v := 4) hx hb dX12_init_102 (by decide) ?_
  refine va_ldcS (index := 48) (tx := "slow") hx hb hown (hO.2.2 15 (by decide)) dX12_init_103 ?_
  refine va_astqM hx hb hK.1 hP hD hS 9 2 rfl rfl (any_ofO (i := 15) (by decide) hO hS) (vin (by decide +kernel)) dX12_init_105 (fun H locs hP hD hS => ?_)
  refine Kpdr (ws := [(h0, .inr (12, [.ref q9155, .ref q9156, .int 0, .ref q9157, .int 0, .ref q9158, .int 0, .int (-1), .int 0, .int 0, .ref q9159, .int 0, .int 0, .ref q9160, .int 0, .int 0, .int 0, .int 0, .int 0, .int 0, .int 0, .ref q9161, .ref q9162, .null, .null, .null, .null, .int 0, .null, .null, .null, .null, .null, .null, .null, .int 0, .int 0, .int 0, .int 0, .int 0, .int 0])), (q9155, iA G 1662 (fun _ => 0)), (q9156, iA G 1662 (fun _ => 0)), (q9157, iA G 240 (fun _ => 0)), (q9158, iA G 14 (fun _ => 0)), (q9159, iA G 36 (fun _ => 0)), (q9160, iA G 8 (fun _ => 0)), (q9161, iA G 54 (fun _ => 0)), (q9162, iA G 100 (fun _ => 0)), (q9163, sA G 5 (va_up (va_up (va_up (va_up (va_up (fun _ => none) (0 : Int32).toNatClampNeg (some (K.1 11))) (1 : Int32).toNatClampNeg (some (K.1 12))) (2 : Int32).toNatClampNeg (some (K.1 13))) (3 : Int32).toNatClampNeg (some (K.1 14))) (4 : Int32).toNatClampNeg (some (K.1 15))))]) hP hD (fun hP hD => ?_)
  rw [fct_eq] at hP hD
  refine Kpdr (ws := [(h0, .inr (12, [.ref q9155, .ref q9156, .int 0, .ref q9157, .int 0, .ref q9158, .int 0, .int (-1), .int 0, .int 0, .ref q9159, .int 0, .int 0, .ref q9160, .int 0, .int 0, .int 0, .int 0, .int 0, .int 0, .int 0, .ref q9161, .ref q9162, .null, .null, .null, .null, .int 0, .null, .null, .null, .null, .null, .null, .null, .int 0, .int 0, .int 0, .int 0, .int 0, .int 0])), (q9155, iA G 1662 (fun _ => 0)), (q9156, iA G 1662 (fun _ => 0)), (q9157, iA G 240 (fun _ => 0)), (q9158, iA G 14 (fun _ => 0)), (q9159, iA G 36 (fun _ => 0)), (q9160, iA G 8 (fun _ => 0)), (q9161, iA G 54 (fun _ => 0)), (q9162, iA G 100 (fun _ => 0)), (q9163, sA G 5 (FCT K))]) hP hD (fun hP hD => ?_)
  refine pf_X12_50 hC rfl rfl hK hP hD hS 0 (ws' := [(h0, .inr (12, [.ref q9155, .ref q9156, .int 0, .ref q9157, .int 0, .ref q9158, .int 0, .int (-1), .int 0, .int 0, .ref q9159, .int 0, .int 0, .ref q9160, .int 0, .int 0, .int 0, .int 0, .int 0, .int 0, .int 0, .ref q9161, .ref q9162, .ref q9163, .null, .null, .null, .int 0, .null, .null, .null, .null, .null, .null, .null, .int 0, .int 0, .int 0, .int 0, .int 0, .int 0])), (q9155, iA G 1662 (fun _ => 0)), (q9156, iA G 1662 (fun _ => 0)), (q9157, iA G 240 (fun _ => 0)), (q9158, iA G 14 (fun _ => 0)), (q9159, iA G 36 (fun _ => 0)), (q9160, iA G 8 (fun _ => 0)), (q9161, iA G 54 (fun _ => 0)), (q9162, iA G 100 (fun _ => 0)), (q9163, sA G 5 (FCT K))]) rfl (Nat.le_of_ble_eq_true rfl) rfl rfl rfl dX12_init_106 (fun H locs hP hD hS => ?_)
  refine lv_aload_n hx hb dX12_init_109 rfl (lv_at0 hl) ?_
  refine lv_bipush (v := 100) hx hb dX12_init_110 (by decide) ?_
  refine newI hC hK hP hD hS hA m_148 (by decide) (N := 100) (by decide +kernel) (Nat.le_of_ble_eq_true rfl) (by decide) (Nat.le_of_ble_eq_true rfl) dX12_init_112 (fun q9164 H hP hD hS => ?_)
  refine Kpdr (ws := [(h0, .inr (12, [.ref q9155, .ref q9156, .int 0, .ref q9157, .int 0, .ref q9158, .int 0, .int (-1), .int 0, .int 0, .ref q9159, .int 0, .int 0, .ref q9160, .int 0, .int 0, .int 0, .int 0, .int 0, .int 0, .int 0, .ref q9161, .ref q9162, .ref q9163, .null, .null, .null, .int 0, .null, .null, .null, .null, .null, .null, .null, .int 0, .int 0, .int 0, .int 0, .int 0, .int 0])), (q9155, iA G 1662 (fun _ => 0)), (q9156, iA G 1662 (fun _ => 0)), (q9157, iA G 240 (fun _ => 0)), (q9158, iA G 14 (fun _ => 0)), (q9159, iA G 36 (fun _ => 0)), (q9160, iA G 8 (fun _ => 0)), (q9161, iA G 54 (fun _ => 0)), (q9162, iA G 100 (fun _ => 0)), (q9163, sA G 5 (FCT K)), (q9164, iA G 100 (fun _ => 0))]) hP hD (fun hP hD => ?_)
  refine Wcast (c1 := 10) (s1 := 3881) rfl rfl ?_
  refine pf_X12_54 hC rfl rfl hK hP hD hS 0 (ws' := [(h0, .inr (12, [.ref q9155, .ref q9156, .int 0, .ref q9157, .int 0, .ref q9158, .int 0, .int (-1), .int 0, .int 0, .ref q9159, .int 0, .int 0, .ref q9160, .int 0, .int 0, .int 0, .int 0, .int 0, .int 0, .int 0, .ref q9161, .ref q9162, .ref q9163, .ref q9164, .null, .null, .int 0, .null, .null, .null, .null, .null, .null, .null, .int 0, .int 0, .int 0, .int 0, .int 0, .int 0])), (q9155, iA G 1662 (fun _ => 0)), (q9156, iA G 1662 (fun _ => 0)), (q9157, iA G 240 (fun _ => 0)), (q9158, iA G 14 (fun _ => 0)), (q9159, iA G 36 (fun _ => 0)), (q9160, iA G 8 (fun _ => 0)), (q9161, iA G 54 (fun _ => 0)), (q9162, iA G 100 (fun _ => 0)), (q9163, sA G 5 (FCT K)), (q9164, iA G 100 (fun _ => 0))]) rfl (Nat.le_of_ble_eq_true rfl) rfl rfl rfl dX12_init_114 (fun H locs hP hD hS => ?_)
  refine lv_aload_n hx hb dX12_init_117 rfl (lv_at0 hl) ?_
  refine lv_bipush (v := 7) hx hb dX12_init_118 (by decide) ?_
  refine newI hC hK hP hD hS hA m_148 (by decide) (N := 7) (by decide +kernel) (Nat.le_of_ble_eq_true rfl) (by decide) (Nat.le_of_ble_eq_true rfl) dX12_init_120 (fun q9165 H hP hD hS => ?_)
  refine Kpdr (ws := [(h0, .inr (12, [.ref q9155, .ref q9156, .int 0, .ref q9157, .int 0, .ref q9158, .int 0, .int (-1), .int 0, .int 0, .ref q9159, .int 0, .int 0, .ref q9160, .int 0, .int 0, .int 0, .int 0, .int 0, .int 0, .int 0, .ref q9161, .ref q9162, .ref q9163, .ref q9164, .null, .null, .int 0, .null, .null, .null, .null, .null, .null, .null, .int 0, .int 0, .int 0, .int 0, .int 0, .int 0])), (q9155, iA G 1662 (fun _ => 0)), (q9156, iA G 1662 (fun _ => 0)), (q9157, iA G 240 (fun _ => 0)), (q9158, iA G 14 (fun _ => 0)), (q9159, iA G 36 (fun _ => 0)), (q9160, iA G 8 (fun _ => 0)), (q9161, iA G 54 (fun _ => 0)), (q9162, iA G 100 (fun _ => 0)), (q9163, sA G 5 (FCT K)), (q9164, iA G 100 (fun _ => 0)), (q9165, iA G 7 (fun _ => 0))]) hP hD (fun hP hD => ?_)
  refine Wcast (c1 := 11) (s1 := 3888) rfl rfl ?_
  refine pf_X12_57 hC rfl rfl hK hP hD hS 0 (ws' := [(h0, .inr (12, [.ref q9155, .ref q9156, .int 0, .ref q9157, .int 0, .ref q9158, .int 0, .int (-1), .int 0, .int 0, .ref q9159, .int 0, .int 0, .ref q9160, .int 0, .int 0, .int 0, .int 0, .int 0, .int 0, .int 0, .ref q9161, .ref q9162, .ref q9163, .ref q9164, .ref q9165, .null, .int 0, .null, .null, .null, .null, .null, .null, .null, .int 0, .int 0, .int 0, .int 0, .int 0, .int 0])), (q9155, iA G 1662 (fun _ => 0)), (q9156, iA G 1662 (fun _ => 0)), (q9157, iA G 240 (fun _ => 0)), (q9158, iA G 14 (fun _ => 0)), (q9159, iA G 36 (fun _ => 0)), (q9160, iA G 8 (fun _ => 0)), (q9161, iA G 54 (fun _ => 0)), (q9162, iA G 100 (fun _ => 0)), (q9163, sA G 5 (FCT K)), (q9164, iA G 100 (fun _ => 0)), (q9165, iA G 7 (fun _ => 0))]) rfl (Nat.le_of_ble_eq_true rfl) rfl rfl rfl dX12_init_122 (fun H locs hP hD hS => ?_)
  refine lv_aload_n hx hb dX12_init_125 rfl (lv_at0 hl) ?_
  refine lv_bipush (v := 7) hx hb dX12_init_126 (by decide) ?_
  refine newI hC hK hP hD hS hA m_148 (by decide) (N := 7) (by decide +kernel) (Nat.le_of_ble_eq_true rfl) (by decide) (Nat.le_of_ble_eq_true rfl) dX12_init_128 (fun q9166 H hP hD hS => ?_)
  refine Kpdr (ws := [(h0, .inr (12, [.ref q9155, .ref q9156, .int 0, .ref q9157, .int 0, .ref q9158, .int 0, .int (-1), .int 0, .int 0, .ref q9159, .int 0, .int 0, .ref q9160, .int 0, .int 0, .int 0, .int 0, .int 0, .int 0, .int 0, .ref q9161, .ref q9162, .ref q9163, .ref q9164, .ref q9165, .null, .int 0, .null, .null, .null, .null, .null, .null, .null, .int 0, .int 0, .int 0, .int 0, .int 0, .int 0])), (q9155, iA G 1662 (fun _ => 0)), (q9156, iA G 1662 (fun _ => 0)), (q9157, iA G 240 (fun _ => 0)), (q9158, iA G 14 (fun _ => 0)), (q9159, iA G 36 (fun _ => 0)), (q9160, iA G 8 (fun _ => 0)), (q9161, iA G 54 (fun _ => 0)), (q9162, iA G 100 (fun _ => 0)), (q9163, sA G 5 (FCT K)), (q9164, iA G 100 (fun _ => 0)), (q9165, iA G 7 (fun _ => 0)), (q9166, iA G 7 (fun _ => 0))]) hP hD (fun hP hD => ?_)
  refine Wcast (c1 := 12) (s1 := 3895) rfl rfl ?_
  refine pf_X12_60 hC rfl rfl hK hP hD hS 0 (ws' := [(h0, .inr (12, [.ref q9155, .ref q9156, .int 0, .ref q9157, .int 0, .ref q9158, .int 0, .int (-1), .int 0, .int 0, .ref q9159, .int 0, .int 0, .ref q9160, .int 0, .int 0, .int 0, .int 0, .int 0, .int 0, .int 0, .ref q9161, .ref q9162, .ref q9163, .ref q9164, .ref q9165, .ref q9166, .int 0, .null, .null, .null, .null, .null, .null, .null, .int 0, .int 0, .int 0, .int 0, .int 0, .int 0])), (q9155, iA G 1662 (fun _ => 0)), (q9156, iA G 1662 (fun _ => 0)), (q9157, iA G 240 (fun _ => 0)), (q9158, iA G 14 (fun _ => 0)), (q9159, iA G 36 (fun _ => 0)), (q9160, iA G 8 (fun _ => 0)), (q9161, iA G 54 (fun _ => 0)), (q9162, iA G 100 (fun _ => 0)), (q9163, sA G 5 (FCT K)), (q9164, iA G 100 (fun _ => 0)), (q9165, iA G 7 (fun _ => 0)), (q9166, iA G 7 (fun _ => 0))]) rfl (Nat.le_of_ble_eq_true rfl) rfl rfl rfl dX12_init_130 (fun H locs hP hD hS => ?_)
  refine lv_aload_n hx hb dX12_init_133 rfl (lv_at0 hl) ?_
  refine lv_iconst (v := 4) hx hb dX12_init_134 (by decide) ?_
  refine newI hC hK hP hD hS hA m_148 (by decide) (N := 4) (by decide +kernel) (Nat.le_of_ble_eq_true rfl) (by decide) (Nat.le_of_ble_eq_true rfl) dX12_init_135 (fun q9167 H hP hD hS => ?_)
  refine Kpdr (ws := [(h0, .inr (12, [.ref q9155, .ref q9156, .int 0, .ref q9157, .int 0, .ref q9158, .int 0, .int (-1), .int 0, .int 0, .ref q9159, .int 0, .int 0, .ref q9160, .int 0, .int 0, .int 0, .int 0, .int 0, .int 0, .int 0, .ref q9161, .ref q9162, .ref q9163, .ref q9164, .ref q9165, .ref q9166, .int 0, .null, .null, .null, .null, .null, .null, .null, .int 0, .int 0, .int 0, .int 0, .int 0, .int 0])), (q9155, iA G 1662 (fun _ => 0)), (q9156, iA G 1662 (fun _ => 0)), (q9157, iA G 240 (fun _ => 0)), (q9158, iA G 14 (fun _ => 0)), (q9159, iA G 36 (fun _ => 0)), (q9160, iA G 8 (fun _ => 0)), (q9161, iA G 54 (fun _ => 0)), (q9162, iA G 100 (fun _ => 0)), (q9163, sA G 5 (FCT K)), (q9164, iA G 100 (fun _ => 0)), (q9165, iA G 7 (fun _ => 0)), (q9166, iA G 7 (fun _ => 0)), (q9167, iA G 4 (fun _ => 0))]) hP hD (fun hP hD => ?_)
  refine Wcast (c1 := 13) (s1 := 3899) rfl rfl ?_
  refine pf_X12_63 hC rfl rfl hK hP hD hS 0 (ws' := [(h0, .inr (12, [.ref q9155, .ref q9156, .int 0, .ref q9157, .int 0, .ref q9158, .int 0, .int (-1), .int 0, .int 0, .ref q9159, .int 0, .int 0, .ref q9160, .int 0, .int 0, .int 0, .int 0, .int 0, .int 0, .int 0, .ref q9161, .ref q9162, .ref q9163, .ref q9164, .ref q9165, .ref q9166, .int 0, .ref q9167, .null, .null, .null, .null, .null, .null, .int 0, .int 0, .int 0, .int 0, .int 0, .int 0])), (q9155, iA G 1662 (fun _ => 0)), (q9156, iA G 1662 (fun _ => 0)), (q9157, iA G 240 (fun _ => 0)), (q9158, iA G 14 (fun _ => 0)), (q9159, iA G 36 (fun _ => 0)), (q9160, iA G 8 (fun _ => 0)), (q9161, iA G 54 (fun _ => 0)), (q9162, iA G 100 (fun _ => 0)), (q9163, sA G 5 (FCT K)), (q9164, iA G 100 (fun _ => 0)), (q9165, iA G 7 (fun _ => 0)), (q9166, iA G 7 (fun _ => 0)), (q9167, iA G 4 (fun _ => 0))]) rfl (Nat.le_of_ble_eq_true rfl) rfl rfl rfl dX12_init_137 (fun H locs hP hD hS => ?_)
  refine lv_aload_n hx hb dX12_init_140 rfl (lv_at0 hl) ?_
  refine lv_iconst (v := 4) hx hb dX12_init_141 (by decide) ?_
  refine newI hC hK hP hD hS hA m_148 (by decide) (N := 4) (by decide +kernel) (Nat.le_of_ble_eq_true rfl) (by decide) (Nat.le_of_ble_eq_true rfl) dX12_init_142 (fun q9168 H hP hD hS => ?_)
  refine Kpdr (ws := [(h0, .inr (12, [.ref q9155, .ref q9156, .int 0, .ref q9157, .int 0, .ref q9158, .int 0, .int (-1), .int 0, .int 0, .ref q9159, .int 0, .int 0, .ref q9160, .int 0, .int 0, .int 0, .int 0, .int 0, .int 0, .int 0, .ref q9161, .ref q9162, .ref q9163, .ref q9164, .ref q9165, .ref q9166, .int 0, .ref q9167, .null, .null, .null, .null, .null, .null, .int 0, .int 0, .int 0, .int 0, .int 0, .int 0])), (q9155, iA G 1662 (fun _ => 0)), (q9156, iA G 1662 (fun _ => 0)), (q9157, iA G 240 (fun _ => 0)), (q9158, iA G 14 (fun _ => 0)), (q9159, iA G 36 (fun _ => 0)), (q9160, iA G 8 (fun _ => 0)), (q9161, iA G 54 (fun _ => 0)), (q9162, iA G 100 (fun _ => 0)), (q9163, sA G 5 (FCT K)), (q9164, iA G 100 (fun _ => 0)), (q9165, iA G 7 (fun _ => 0)), (q9166, iA G 7 (fun _ => 0)), (q9167, iA G 4 (fun _ => 0)), (q9168, iA G 4 (fun _ => 0))]) hP hD (fun hP hD => ?_)
  refine Wcast (c1 := 14) (s1 := 3903) rfl rfl ?_
  refine pf_X12_66 hC rfl rfl hK hP hD hS 0 (ws' := [(h0, .inr (12, [.ref q9155, .ref q9156, .int 0, .ref q9157, .int 0, .ref q9158, .int 0, .int (-1), .int 0, .int 0, .ref q9159, .int 0, .int 0, .ref q9160, .int 0, .int 0, .int 0, .int 0, .int 0, .int 0, .int 0, .ref q9161, .ref q9162, .ref q9163, .ref q9164, .ref q9165, .ref q9166, .int 0, .ref q9167, .ref q9168, .null, .null, .null, .null, .null, .int 0, .int 0, .int 0, .int 0, .int 0, .int 0])), (q9155, iA G 1662 (fun _ => 0)), (q9156, iA G 1662 (fun _ => 0)), (q9157, iA G 240 (fun _ => 0)), (q9158, iA G 14 (fun _ => 0)), (q9159, iA G 36 (fun _ => 0)), (q9160, iA G 8 (fun _ => 0)), (q9161, iA G 54 (fun _ => 0)), (q9162, iA G 100 (fun _ => 0)), (q9163, sA G 5 (FCT K)), (q9164, iA G 100 (fun _ => 0)), (q9165, iA G 7 (fun _ => 0)), (q9166, iA G 7 (fun _ => 0)), (q9167, iA G 4 (fun _ => 0)), (q9168, iA G 4 (fun _ => 0))]) rfl (Nat.le_of_ble_eq_true rfl) rfl rfl rfl dX12_init_144 (fun H locs hP hD hS => ?_)
  refine lv_aload_n hx hb dX12_init_147 rfl (lv_at0 hl) ?_
  refine lv_sipush (v := 160) hx hb dX12_init_148 (by decide) ?_
  refine newI hC hK hP hD hS hA m_148 (by decide) (N := 160) (by decide +kernel) (Nat.le_of_ble_eq_true rfl) (by decide) (Nat.le_of_ble_eq_true rfl) dX12_init_151 (fun q9169 H hP hD hS => ?_)
  refine Kpdr (ws := [(h0, .inr (12, [.ref q9155, .ref q9156, .int 0, .ref q9157, .int 0, .ref q9158, .int 0, .int (-1), .int 0, .int 0, .ref q9159, .int 0, .int 0, .ref q9160, .int 0, .int 0, .int 0, .int 0, .int 0, .int 0, .int 0, .ref q9161, .ref q9162, .ref q9163, .ref q9164, .ref q9165, .ref q9166, .int 0, .ref q9167, .ref q9168, .null, .null, .null, .null, .null, .int 0, .int 0, .int 0, .int 0, .int 0, .int 0])), (q9155, iA G 1662 (fun _ => 0)), (q9156, iA G 1662 (fun _ => 0)), (q9157, iA G 240 (fun _ => 0)), (q9158, iA G 14 (fun _ => 0)), (q9159, iA G 36 (fun _ => 0)), (q9160, iA G 8 (fun _ => 0)), (q9161, iA G 54 (fun _ => 0)), (q9162, iA G 100 (fun _ => 0)), (q9163, sA G 5 (FCT K)), (q9164, iA G 100 (fun _ => 0)), (q9165, iA G 7 (fun _ => 0)), (q9166, iA G 7 (fun _ => 0)), (q9167, iA G 4 (fun _ => 0)), (q9168, iA G 4 (fun _ => 0)), (q9169, iA G 160 (fun _ => 0))]) hP hD (fun hP hD => ?_)
  refine Wcast (c1 := 15) (s1 := 4063) rfl rfl ?_
  refine pf_X12_69 hC rfl rfl hK hP hD hS 0 (ws' := [(h0, .inr (12, [.ref q9155, .ref q9156, .int 0, .ref q9157, .int 0, .ref q9158, .int 0, .int (-1), .int 0, .int 0, .ref q9159, .int 0, .int 0, .ref q9160, .int 0, .int 0, .int 0, .int 0, .int 0, .int 0, .int 0, .ref q9161, .ref q9162, .ref q9163, .ref q9164, .ref q9165, .ref q9166, .int 0, .ref q9167, .ref q9168, .ref q9169, .null, .null, .null, .null, .int 0, .int 0, .int 0, .int 0, .int 0, .int 0])), (q9155, iA G 1662 (fun _ => 0)), (q9156, iA G 1662 (fun _ => 0)), (q9157, iA G 240 (fun _ => 0)), (q9158, iA G 14 (fun _ => 0)), (q9159, iA G 36 (fun _ => 0)), (q9160, iA G 8 (fun _ => 0)), (q9161, iA G 54 (fun _ => 0)), (q9162, iA G 100 (fun _ => 0)), (q9163, sA G 5 (FCT K)), (q9164, iA G 100 (fun _ => 0)), (q9165, iA G 7 (fun _ => 0)), (q9166, iA G 7 (fun _ => 0)), (q9167, iA G 4 (fun _ => 0)), (q9168, iA G 4 (fun _ => 0)), (q9169, iA G 160 (fun _ => 0))]) rfl (Nat.le_of_ble_eq_true rfl) rfl rfl rfl dX12_init_153 (fun H locs hP hD hS => ?_)
  refine lv_aload_n hx hb dX12_init_156 rfl (lv_at0 hl) ?_
  refine lv_iconst (v := 4) hx hb dX12_init_157 (by decide) ?_
  refine newI hC hK hP hD hS hA m_148 (by decide) (N := 4) (by decide +kernel) (Nat.le_of_ble_eq_true rfl) (by decide) (Nat.le_of_ble_eq_true rfl) dX12_init_158 (fun q9170 H hP hD hS => ?_)
  refine Kpdr (ws := [(h0, .inr (12, [.ref q9155, .ref q9156, .int 0, .ref q9157, .int 0, .ref q9158, .int 0, .int (-1), .int 0, .int 0, .ref q9159, .int 0, .int 0, .ref q9160, .int 0, .int 0, .int 0, .int 0, .int 0, .int 0, .int 0, .ref q9161, .ref q9162, .ref q9163, .ref q9164, .ref q9165, .ref q9166, .int 0, .ref q9167, .ref q9168, .ref q9169, .null, .null, .null, .null, .int 0, .int 0, .int 0, .int 0, .int 0, .int 0])), (q9155, iA G 1662 (fun _ => 0)), (q9156, iA G 1662 (fun _ => 0)), (q9157, iA G 240 (fun _ => 0)), (q9158, iA G 14 (fun _ => 0)), (q9159, iA G 36 (fun _ => 0)), (q9160, iA G 8 (fun _ => 0)), (q9161, iA G 54 (fun _ => 0)), (q9162, iA G 100 (fun _ => 0)), (q9163, sA G 5 (FCT K)), (q9164, iA G 100 (fun _ => 0)), (q9165, iA G 7 (fun _ => 0)), (q9166, iA G 7 (fun _ => 0)), (q9167, iA G 4 (fun _ => 0)), (q9168, iA G 4 (fun _ => 0)), (q9169, iA G 160 (fun _ => 0)), (q9170, iA G 4 (fun _ => 0))]) hP hD (fun hP hD => ?_)
  refine Wcast (c1 := 16) (s1 := 4067) rfl rfl ?_
  refine pf_X12_72 hC rfl rfl hK hP hD hS 0 (ws' := [(h0, .inr (12, [.ref q9155, .ref q9156, .int 0, .ref q9157, .int 0, .ref q9158, .int 0, .int (-1), .int 0, .int 0, .ref q9159, .int 0, .int 0, .ref q9160, .int 0, .int 0, .int 0, .int 0, .int 0, .int 0, .int 0, .ref q9161, .ref q9162, .ref q9163, .ref q9164, .ref q9165, .ref q9166, .int 0, .ref q9167, .ref q9168, .ref q9169, .ref q9170, .null, .null, .null, .int 0, .int 0, .int 0, .int 0, .int 0, .int 0])), (q9155, iA G 1662 (fun _ => 0)), (q9156, iA G 1662 (fun _ => 0)), (q9157, iA G 240 (fun _ => 0)), (q9158, iA G 14 (fun _ => 0)), (q9159, iA G 36 (fun _ => 0)), (q9160, iA G 8 (fun _ => 0)), (q9161, iA G 54 (fun _ => 0)), (q9162, iA G 100 (fun _ => 0)), (q9163, sA G 5 (FCT K)), (q9164, iA G 100 (fun _ => 0)), (q9165, iA G 7 (fun _ => 0)), (q9166, iA G 7 (fun _ => 0)), (q9167, iA G 4 (fun _ => 0)), (q9168, iA G 4 (fun _ => 0)), (q9169, iA G 160 (fun _ => 0)), (q9170, iA G 4 (fun _ => 0))]) rfl (Nat.le_of_ble_eq_true rfl) rfl rfl rfl dX12_init_160 (fun H locs hP hD hS => ?_)
  refine lv_aload_n hx hb dX12_init_163 rfl (lv_at0 hl) ?_
  refine lv_iconst (v := 4) hx hb dX12_init_164 (by decide) ?_
  refine newI hC hK hP hD hS hA m_148 (by decide) (N := 4) (by decide +kernel) (Nat.le_of_ble_eq_true rfl) (by decide) (Nat.le_of_ble_eq_true rfl) dX12_init_165 (fun q9171 H hP hD hS => ?_)
  refine Kpdr (ws := [(h0, .inr (12, [.ref q9155, .ref q9156, .int 0, .ref q9157, .int 0, .ref q9158, .int 0, .int (-1), .int 0, .int 0, .ref q9159, .int 0, .int 0, .ref q9160, .int 0, .int 0, .int 0, .int 0, .int 0, .int 0, .int 0, .ref q9161, .ref q9162, .ref q9163, .ref q9164, .ref q9165, .ref q9166, .int 0, .ref q9167, .ref q9168, .ref q9169, .ref q9170, .null, .null, .null, .int 0, .int 0, .int 0, .int 0, .int 0, .int 0])), (q9155, iA G 1662 (fun _ => 0)), (q9156, iA G 1662 (fun _ => 0)), (q9157, iA G 240 (fun _ => 0)), (q9158, iA G 14 (fun _ => 0)), (q9159, iA G 36 (fun _ => 0)), (q9160, iA G 8 (fun _ => 0)), (q9161, iA G 54 (fun _ => 0)), (q9162, iA G 100 (fun _ => 0)), (q9163, sA G 5 (FCT K)), (q9164, iA G 100 (fun _ => 0)), (q9165, iA G 7 (fun _ => 0)), (q9166, iA G 7 (fun _ => 0)), (q9167, iA G 4 (fun _ => 0)), (q9168, iA G 4 (fun _ => 0)), (q9169, iA G 160 (fun _ => 0)), (q9170, iA G 4 (fun _ => 0)), (q9171, iA G 4 (fun _ => 0))]) hP hD (fun hP hD => ?_)
  refine Wcast (c1 := 17) (s1 := 4071) rfl rfl ?_
  refine pf_X12_75 hC rfl rfl hK hP hD hS 0 (ws' := [(h0, .inr (12, [.ref q9155, .ref q9156, .int 0, .ref q9157, .int 0, .ref q9158, .int 0, .int (-1), .int 0, .int 0, .ref q9159, .int 0, .int 0, .ref q9160, .int 0, .int 0, .int 0, .int 0, .int 0, .int 0, .int 0, .ref q9161, .ref q9162, .ref q9163, .ref q9164, .ref q9165, .ref q9166, .int 0, .ref q9167, .ref q9168, .ref q9169, .ref q9170, .ref q9171, .null, .null, .int 0, .int 0, .int 0, .int 0, .int 0, .int 0])), (q9155, iA G 1662 (fun _ => 0)), (q9156, iA G 1662 (fun _ => 0)), (q9157, iA G 240 (fun _ => 0)), (q9158, iA G 14 (fun _ => 0)), (q9159, iA G 36 (fun _ => 0)), (q9160, iA G 8 (fun _ => 0)), (q9161, iA G 54 (fun _ => 0)), (q9162, iA G 100 (fun _ => 0)), (q9163, sA G 5 (FCT K)), (q9164, iA G 100 (fun _ => 0)), (q9165, iA G 7 (fun _ => 0)), (q9166, iA G 7 (fun _ => 0)), (q9167, iA G 4 (fun _ => 0)), (q9168, iA G 4 (fun _ => 0)), (q9169, iA G 160 (fun _ => 0)), (q9170, iA G 4 (fun _ => 0)), (q9171, iA G 4 (fun _ => 0))]) rfl (Nat.le_of_ble_eq_true rfl) rfl rfl rfl dX12_init_167 (fun H locs hP hD hS => ?_)
  refine lv_aload_n hx hb dX12_init_170 rfl (lv_at0 hl) ?_
  refine lv_iconst (v := 4) hx hb dX12_init_171 (by decide) ?_
  refine newI hC hK hP hD hS hA m_148 (by decide) (N := 4) (by decide +kernel) (Nat.le_of_ble_eq_true rfl) (by decide) (Nat.le_of_ble_eq_true rfl) dX12_init_172 (fun q9172 H hP hD hS => ?_)
  refine Kpdr (ws := [(h0, .inr (12, [.ref q9155, .ref q9156, .int 0, .ref q9157, .int 0, .ref q9158, .int 0, .int (-1), .int 0, .int 0, .ref q9159, .int 0, .int 0, .ref q9160, .int 0, .int 0, .int 0, .int 0, .int 0, .int 0, .int 0, .ref q9161, .ref q9162, .ref q9163, .ref q9164, .ref q9165, .ref q9166, .int 0, .ref q9167, .ref q9168, .ref q9169, .ref q9170, .ref q9171, .null, .null, .int 0, .int 0, .int 0, .int 0, .int 0, .int 0])), (q9155, iA G 1662 (fun _ => 0)), (q9156, iA G 1662 (fun _ => 0)), (q9157, iA G 240 (fun _ => 0)), (q9158, iA G 14 (fun _ => 0)), (q9159, iA G 36 (fun _ => 0)), (q9160, iA G 8 (fun _ => 0)), (q9161, iA G 54 (fun _ => 0)), (q9162, iA G 100 (fun _ => 0)), (q9163, sA G 5 (FCT K)), (q9164, iA G 100 (fun _ => 0)), (q9165, iA G 7 (fun _ => 0)), (q9166, iA G 7 (fun _ => 0)), (q9167, iA G 4 (fun _ => 0)), (q9168, iA G 4 (fun _ => 0)), (q9169, iA G 160 (fun _ => 0)), (q9170, iA G 4 (fun _ => 0)), (q9171, iA G 4 (fun _ => 0)), (q9172, iA G 4 (fun _ => 0))]) hP hD (fun hP hD => ?_)
  refine Wcast (c1 := 18) (s1 := 4075) rfl rfl ?_
  refine pf_X12_78 hC rfl rfl hK hP hD hS 0 (ws' := [(h0, .inr (12, [.ref q9155, .ref q9156, .int 0, .ref q9157, .int 0, .ref q9158, .int 0, .int (-1), .int 0, .int 0, .ref q9159, .int 0, .int 0, .ref q9160, .int 0, .int 0, .int 0, .int 0, .int 0, .int 0, .int 0, .ref q9161, .ref q9162, .ref q9163, .ref q9164, .ref q9165, .ref q9166, .int 0, .ref q9167, .ref q9168, .ref q9169, .ref q9170, .ref q9171, .ref q9172, .null, .int 0, .int 0, .int 0, .int 0, .int 0, .int 0])), (q9155, iA G 1662 (fun _ => 0)), (q9156, iA G 1662 (fun _ => 0)), (q9157, iA G 240 (fun _ => 0)), (q9158, iA G 14 (fun _ => 0)), (q9159, iA G 36 (fun _ => 0)), (q9160, iA G 8 (fun _ => 0)), (q9161, iA G 54 (fun _ => 0)), (q9162, iA G 100 (fun _ => 0)), (q9163, sA G 5 (FCT K)), (q9164, iA G 100 (fun _ => 0)), (q9165, iA G 7 (fun _ => 0)), (q9166, iA G 7 (fun _ => 0)), (q9167, iA G 4 (fun _ => 0)), (q9168, iA G 4 (fun _ => 0)), (q9169, iA G 160 (fun _ => 0)), (q9170, iA G 4 (fun _ => 0)), (q9171, iA G 4 (fun _ => 0)), (q9172, iA G 4 (fun _ => 0))]) rfl (Nat.le_of_ble_eq_true rfl) rfl rfl rfl dX12_init_174 (fun H locs hP hD hS => ?_)
  refine lv_aload_n hx hb dX12_init_177 rfl (lv_at0 hl) ?_
  refine lv_bipush (v := 30) hx hb dX12_init_178 (by decide) ?_
  refine newI hC hK hP hD hS hA m_148 (by decide) (N := 30) (by decide +kernel) (Nat.le_of_ble_eq_true rfl) (by decide) (Nat.le_of_ble_eq_true rfl) dX12_init_180 (fun q9173 H hP hD hS => ?_)
  refine Kpdr (ws := [(h0, .inr (12, [.ref q9155, .ref q9156, .int 0, .ref q9157, .int 0, .ref q9158, .int 0, .int (-1), .int 0, .int 0, .ref q9159, .int 0, .int 0, .ref q9160, .int 0, .int 0, .int 0, .int 0, .int 0, .int 0, .int 0, .ref q9161, .ref q9162, .ref q9163, .ref q9164, .ref q9165, .ref q9166, .int 0, .ref q9167, .ref q9168, .ref q9169, .ref q9170, .ref q9171, .ref q9172, .null, .int 0, .int 0, .int 0, .int 0, .int 0, .int 0])), (q9155, iA G 1662 (fun _ => 0)), (q9156, iA G 1662 (fun _ => 0)), (q9157, iA G 240 (fun _ => 0)), (q9158, iA G 14 (fun _ => 0)), (q9159, iA G 36 (fun _ => 0)), (q9160, iA G 8 (fun _ => 0)), (q9161, iA G 54 (fun _ => 0)), (q9162, iA G 100 (fun _ => 0)), (q9163, sA G 5 (FCT K)), (q9164, iA G 100 (fun _ => 0)), (q9165, iA G 7 (fun _ => 0)), (q9166, iA G 7 (fun _ => 0)), (q9167, iA G 4 (fun _ => 0)), (q9168, iA G 4 (fun _ => 0)), (q9169, iA G 160 (fun _ => 0)), (q9170, iA G 4 (fun _ => 0)), (q9171, iA G 4 (fun _ => 0)), (q9172, iA G 4 (fun _ => 0)), (q9173, iA G 30 (fun _ => 0))]) hP hD (fun hP hD => ?_)
  refine Wcast (c1 := 19) (s1 := 4105) rfl rfl ?_
  refine pf_X12_81 hC rfl rfl hK hP hD hS 0 (ws' := [(h0, oX12 q9155 q9156 0 q9157 0 q9158 0 (-1) 0 0 q9159 0 0 q9160 0 0 0 0 0 0 0 q9161 q9162 q9163 q9164 q9165 q9166 0 q9167 q9168 q9169 q9170 q9171 q9172 q9173 0 0 0 0 0 0), (q9155, iA G 1662 (fun _ => 0)), (q9156, iA G 1662 (fun _ => 0)), (q9157, iA G 240 (fun _ => 0)), (q9158, iA G 14 (fun _ => 0)), (q9159, iA G 36 (fun _ => 0)), (q9160, iA G 8 (fun _ => 0)), (q9161, iA G 54 (fun _ => 0)), (q9162, iA G 100 (fun _ => 0)), (q9163, sA G 5 (FCT K)), (q9164, iA G 100 (fun _ => 0)), (q9165, iA G 7 (fun _ => 0)), (q9166, iA G 7 (fun _ => 0)), (q9167, iA G 4 (fun _ => 0)), (q9168, iA G 4 (fun _ => 0)), (q9169, iA G 160 (fun _ => 0)), (q9170, iA G 4 (fun _ => 0)), (q9171, iA G 4 (fun _ => 0)), (q9172, iA G 4 (fun _ => 0)), (q9173, iA G 30 (fun _ => 0))]) rfl (Nat.le_of_ble_eq_true rfl) rfl rfl rfl dX12_init_182 (fun H locs hP hD hS => ?_)
  refine lv_aload_n hx hb dX12_init_185 rfl (lv_at0 hl) ?_
  refine gf_X12_9 hC rfl hK hP 0 rfl rfl dX12_init_186 ?_
  refine lv_iconst (v := 1) hx hb dX12_init_189 (by decide) ?_
  refine lv_iconst (v := (-1)) hx hb dX12_init_190 (by decide) ?_
  refine ast hC hK hP hD hS 1 (ws' := [(h0, oX12 q9155 q9156 0 q9157 0 q9158 0 (-1) 0 0 q9159 0 0 q9160 0 0 0 0 0 0 0 q9161 q9162 q9163 q9164 q9165 q9166 0 q9167 q9168 q9169 q9170 q9171 q9172 q9173 0 0 0 0 0 0), (q9155, iA G 1662 (upd (fun _ => 0) 1 (-1))), (q9156, iA G 1662 (fun _ => 0)), (q9157, iA G 240 (fun _ => 0)), (q9158, iA G 14 (fun _ => 0)), (q9159, iA G 36 (fun _ => 0)), (q9160, iA G 8 (fun _ => 0)), (q9161, iA G 54 (fun _ => 0)), (q9162, iA G 100 (fun _ => 0)), (q9163, sA G 5 (FCT K)), (q9164, iA G 100 (fun _ => 0)), (q9165, iA G 7 (fun _ => 0)), (q9166, iA G 7 (fun _ => 0)), (q9167, iA G 4 (fun _ => 0)), (q9168, iA G 4 (fun _ => 0)), (q9169, iA G 160 (fun _ => 0)), (q9170, iA G 4 (fun _ => 0)), (q9171, iA G 4 (fun _ => 0)), (q9172, iA G 4 (fun _ => 0)), (q9173, iA G 30 (fun _ => 0))]) rfl (vin (by decide +kernel)) (k := 1) (by decide +kernel) (rfl) dX12_init_191 (fun H locs hP hD hS => ?_)
  refine lv_aload_n hx hb dX12_init_192 rfl (lv_at0 hl) ?_
  refine gf_X12_9 hC rfl hK hP 0 rfl rfl dX12_init_193 ?_
  refine lv_iconst (v := 2) hx hb dX12_init_196 (by decide) ?_
  refine lv_iconst (v := 3) hx hb dX12_init_197 (by decide) ?_
  refine ast hC hK hP hD hS 1 (ws' := [(h0, oX12 q9155 q9156 0 q9157 0 q9158 0 (-1) 0 0 q9159 0 0 q9160 0 0 0 0 0 0 0 q9161 q9162 q9163 q9164 q9165 q9166 0 q9167 q9168 q9169 q9170 q9171 q9172 q9173 0 0 0 0 0 0), (q9155, iA G 1662 (upd (upd (fun _ => 0) 1 (-1)) 2 3)), (q9156, iA G 1662 (fun _ => 0)), (q9157, iA G 240 (fun _ => 0)), (q9158, iA G 14 (fun _ => 0)), (q9159, iA G 36 (fun _ => 0)), (q9160, iA G 8 (fun _ => 0)), (q9161, iA G 54 (fun _ => 0)), (q9162, iA G 100 (fun _ => 0)), (q9163, sA G 5 (FCT K)), (q9164, iA G 100 (fun _ => 0)), (q9165, iA G 7 (fun _ => 0)), (q9166, iA G 7 (fun _ => 0)), (q9167, iA G 4 (fun _ => 0)), (q9168, iA G 4 (fun _ => 0)), (q9169, iA G 160 (fun _ => 0)), (q9170, iA G 4 (fun _ => 0)), (q9171, iA G 4 (fun _ => 0)), (q9172, iA G 4 (fun _ => 0)), (q9173, iA G 30 (fun _ => 0))]) rfl (vin (by decide +kernel)) (k := 2) (by decide +kernel) (rfl) dX12_init_198 (fun H locs hP hD hS => ?_)
  refine lv_aload_n hx hb dX12_init_199 rfl (lv_at0 hl) ?_
  refine gf_X12_9 hC rfl hK hP 0 rfl rfl dX12_init_200 ?_
  refine lv_iconst (v := 3) hx hb dX12_init_203 (by decide) ?_
  refine lv_bipush (v := 24) hx hb dX12_init_204 (by decide) ?_
  refine ast hC hK hP hD hS 1 (ws' := [(h0, oX12 q9155 q9156 0 q9157 0 q9158 0 (-1) 0 0 q9159 0 0 q9160 0 0 0 0 0 0 0 q9161 q9162 q9163 q9164 q9165 q9166 0 q9167 q9168 q9169 q9170 q9171 q9172 q9173 0 0 0 0 0 0), (q9155, iA G 1662 (upd (upd (upd (fun _ => 0) 1 (-1)) 2 3) 3 24)), (q9156, iA G 1662 (fun _ => 0)), (q9157, iA G 240 (fun _ => 0)), (q9158, iA G 14 (fun _ => 0)), (q9159, iA G 36 (fun _ => 0)), (q9160, iA G 8 (fun _ => 0)), (q9161, iA G 54 (fun _ => 0)), (q9162, iA G 100 (fun _ => 0)), (q9163, sA G 5 (FCT K)), (q9164, iA G 100 (fun _ => 0)), (q9165, iA G 7 (fun _ => 0)), (q9166, iA G 7 (fun _ => 0)), (q9167, iA G 4 (fun _ => 0)), (q9168, iA G 4 (fun _ => 0)), (q9169, iA G 160 (fun _ => 0)), (q9170, iA G 4 (fun _ => 0)), (q9171, iA G 4 (fun _ => 0)), (q9172, iA G 4 (fun _ => 0)), (q9173, iA G 30 (fun _ => 0))]) rfl (vin (by decide +kernel)) (k := 3) (by decide +kernel) (rfl) dX12_init_206 (fun H locs hP hD hS => ?_)
  refine lv_iconst (v := 0) hx hb dX12_init_207 (by decide) ?_
  refine lv_istore_n (lv' := [(1, .int 0), (0, .ref h0)]) hx hb dX12_init_208 rfl hl (by decide) rfl (fun ls hl => ?_)
  refine lv_iload_n hx hb dX12_init_209 rfl (lv_at0 hl) ?_
  refine lv_iconst (v := 4) hx hb dX12_init_210 (by decide) ?_
  refine lv_icmp_ge (tgt := 227) hx hb dX12_init_211 (by decide) (fun c9 => absurd c9 (by decide)) (fun _ => ?_)
  refine lv_aload_n hx hb dX12_init_214 rfl (lv_at1 hl) ?_
  refine gf_X12_63 hC rfl hK hP 0 rfl rfl dX12_init_215 ?_
  refine lv_iload_n hx hb dX12_init_218 rfl (lv_at0 hl) ?_
  refine lv_iconst (v := (-1)) hx hb dX12_init_219 (by decide) ?_
  refine ast hC hK hP hD hS 13 (ws' := [(h0, oX12 q9155 q9156 0 q9157 0 q9158 0 (-1) 0 0 q9159 0 0 q9160 0 0 0 0 0 0 0 q9161 q9162 q9163 q9164 q9165 q9166 0 q9167 q9168 q9169 q9170 q9171 q9172 q9173 0 0 0 0 0 0), (q9155, iA G 1662 (upd (upd (upd (fun _ => 0) 1 (-1)) 2 3) 3 24)), (q9156, iA G 1662 (fun _ => 0)), (q9157, iA G 240 (fun _ => 0)), (q9158, iA G 14 (fun _ => 0)), (q9159, iA G 36 (fun _ => 0)), (q9160, iA G 8 (fun _ => 0)), (q9161, iA G 54 (fun _ => 0)), (q9162, iA G 100 (fun _ => 0)), (q9163, sA G 5 (FCT K)), (q9164, iA G 100 (fun _ => 0)), (q9165, iA G 7 (fun _ => 0)), (q9166, iA G 7 (fun _ => 0)), (q9167, iA G 4 (upd (fun _ => 0) 0 (-1))), (q9168, iA G 4 (fun _ => 0)), (q9169, iA G 160 (fun _ => 0)), (q9170, iA G 4 (fun _ => 0)), (q9171, iA G 4 (fun _ => 0)), (q9172, iA G 4 (fun _ => 0)), (q9173, iA G 30 (fun _ => 0))]) rfl (vin (by decide +kernel)) (k := 0) (by decide +kernel) (rfl) dX12_init_220 (fun H locs hP hD hS => ?_)
  refine lv_iinc (v := 1) (lv' := [(1, .int 1), (0, .ref h0)]) hx hb dX12_init_221 hl (k := 0) rfl (by decide) (by decide) rfl (fun ls hl => ?_)
  refine lv_goto (tgt := 209) hx hb dX12_init_224 (by decide) ?_
  refine lv_iload_n hx hb dX12_init_209 rfl (lv_at0 hl) ?_
  refine lv_iconst (v := 4) hx hb dX12_init_210 (by decide) ?_
  refine lv_icmp_ge (tgt := 227) hx hb dX12_init_211 (by decide) (fun c9 => absurd c9 (by decide)) (fun _ => ?_)
  refine lv_aload_n hx hb dX12_init_214 rfl (lv_at1 hl) ?_
  refine gf_X12_63 hC rfl hK hP 0 rfl rfl dX12_init_215 ?_
  refine lv_iload_n hx hb dX12_init_218 rfl (lv_at0 hl) ?_
  refine lv_iconst (v := (-1)) hx hb dX12_init_219 (by decide) ?_
  refine ast hC hK hP hD hS 13 (ws' := [(h0, oX12 q9155 q9156 0 q9157 0 q9158 0 (-1) 0 0 q9159 0 0 q9160 0 0 0 0 0 0 0 q9161 q9162 q9163 q9164 q9165 q9166 0 q9167 q9168 q9169 q9170 q9171 q9172 q9173 0 0 0 0 0 0), (q9155, iA G 1662 (upd (upd (upd (fun _ => 0) 1 (-1)) 2 3) 3 24)), (q9156, iA G 1662 (fun _ => 0)), (q9157, iA G 240 (fun _ => 0)), (q9158, iA G 14 (fun _ => 0)), (q9159, iA G 36 (fun _ => 0)), (q9160, iA G 8 (fun _ => 0)), (q9161, iA G 54 (fun _ => 0)), (q9162, iA G 100 (fun _ => 0)), (q9163, sA G 5 (FCT K)), (q9164, iA G 100 (fun _ => 0)), (q9165, iA G 7 (fun _ => 0)), (q9166, iA G 7 (fun _ => 0)), (q9167, iA G 4 (upd (upd (fun _ => 0) 0 (-1)) 1 (-1))), (q9168, iA G 4 (fun _ => 0)), (q9169, iA G 160 (fun _ => 0)), (q9170, iA G 4 (fun _ => 0)), (q9171, iA G 4 (fun _ => 0)), (q9172, iA G 4 (fun _ => 0)), (q9173, iA G 30 (fun _ => 0))]) rfl (vin (by decide +kernel)) (k := 1) (by decide +kernel) (rfl) dX12_init_220 (fun H locs hP hD hS => ?_)
  refine lv_iinc (v := 2) (lv' := [(1, .int 2), (0, .ref h0)]) hx hb dX12_init_221 hl (k := 0) rfl (by decide) (by decide) rfl (fun ls hl => ?_)
  refine lv_goto (tgt := 209) hx hb dX12_init_224 (by decide) ?_
  refine lv_iload_n hx hb dX12_init_209 rfl (lv_at0 hl) ?_
  refine lv_iconst (v := 4) hx hb dX12_init_210 (by decide) ?_
  refine lv_icmp_ge (tgt := 227) hx hb dX12_init_211 (by decide) (fun c9 => absurd c9 (by decide)) (fun _ => ?_)
  refine lv_aload_n hx hb dX12_init_214 rfl (lv_at1 hl) ?_
  refine gf_X12_63 hC rfl hK hP 0 rfl rfl dX12_init_215 ?_
  refine lv_iload_n hx hb dX12_init_218 rfl (lv_at0 hl) ?_
  refine lv_iconst (v := (-1)) hx hb dX12_init_219 (by decide) ?_
  refine ast hC hK hP hD hS 13 (ws' := [(h0, oX12 q9155 q9156 0 q9157 0 q9158 0 (-1) 0 0 q9159 0 0 q9160 0 0 0 0 0 0 0 q9161 q9162 q9163 q9164 q9165 q9166 0 q9167 q9168 q9169 q9170 q9171 q9172 q9173 0 0 0 0 0 0), (q9155, iA G 1662 (upd (upd (upd (fun _ => 0) 1 (-1)) 2 3) 3 24)), (q9156, iA G 1662 (fun _ => 0)), (q9157, iA G 240 (fun _ => 0)), (q9158, iA G 14 (fun _ => 0)), (q9159, iA G 36 (fun _ => 0)), (q9160, iA G 8 (fun _ => 0)), (q9161, iA G 54 (fun _ => 0)), (q9162, iA G 100 (fun _ => 0)), (q9163, sA G 5 (FCT K)), (q9164, iA G 100 (fun _ => 0)), (q9165, iA G 7 (fun _ => 0)), (q9166, iA G 7 (fun _ => 0)), (q9167, iA G 4 (upd (upd (upd (fun _ => 0) 0 (-1)) 1 (-1)) 2 (-1))), (q9168, iA G 4 (fun _ => 0)), (q9169, iA G 160 (fun _ => 0)), (q9170, iA G 4 (fun _ => 0)), (q9171, iA G 4 (fun _ => 0)), (q9172, iA G 4 (fun _ => 0)), (q9173, iA G 30 (fun _ => 0))]) rfl (vin (by decide +kernel)) (k := 2) (by decide +kernel) (rfl) dX12_init_220 (fun H locs hP hD hS => ?_)
  refine lv_iinc (v := 3) (lv' := [(1, .int 3), (0, .ref h0)]) hx hb dX12_init_221 hl (k := 0) rfl (by decide) (by decide) rfl (fun ls hl => ?_)
  refine lv_goto (tgt := 209) hx hb dX12_init_224 (by decide) ?_
  refine lv_iload_n hx hb dX12_init_209 rfl (lv_at0 hl) ?_
  refine lv_iconst (v := 4) hx hb dX12_init_210 (by decide) ?_
  refine lv_icmp_ge (tgt := 227) hx hb dX12_init_211 (by decide) (fun c9 => absurd c9 (by decide)) (fun _ => ?_)
  refine lv_aload_n hx hb dX12_init_214 rfl (lv_at1 hl) ?_
  refine gf_X12_63 hC rfl hK hP 0 rfl rfl dX12_init_215 ?_
  refine lv_iload_n hx hb dX12_init_218 rfl (lv_at0 hl) ?_
  refine lv_iconst (v := (-1)) hx hb dX12_init_219 (by decide) ?_
  refine ast hC hK hP hD hS 13 (ws' := [(h0, oX12 q9155 q9156 0 q9157 0 q9158 0 (-1) 0 0 q9159 0 0 q9160 0 0 0 0 0 0 0 q9161 q9162 q9163 q9164 q9165 q9166 0 q9167 q9168 q9169 q9170 q9171 q9172 q9173 0 0 0 0 0 0), (q9155, iA G 1662 (upd (upd (upd (fun _ => 0) 1 (-1)) 2 3) 3 24)), (q9156, iA G 1662 (fun _ => 0)), (q9157, iA G 240 (fun _ => 0)), (q9158, iA G 14 (fun _ => 0)), (q9159, iA G 36 (fun _ => 0)), (q9160, iA G 8 (fun _ => 0)), (q9161, iA G 54 (fun _ => 0)), (q9162, iA G 100 (fun _ => 0)), (q9163, sA G 5 (FCT K)), (q9164, iA G 100 (fun _ => 0)), (q9165, iA G 7 (fun _ => 0)), (q9166, iA G 7 (fun _ => 0)), (q9167, iA G 4 (upd (upd (upd (upd (fun _ => 0) 0 (-1)) 1 (-1)) 2 (-1)) 3 (-1))), (q9168, iA G 4 (fun _ => 0)), (q9169, iA G 160 (fun _ => 0)), (q9170, iA G 4 (fun _ => 0)), (q9171, iA G 4 (fun _ => 0)), (q9172, iA G 4 (fun _ => 0)), (q9173, iA G 30 (fun _ => 0))]) rfl (vin (by decide +kernel)) (k := 3) (by decide +kernel) (rfl) dX12_init_220 (fun H locs hP hD hS => ?_)
  refine lv_iinc (v := 4) (lv' := [(1, .int 4), (0, .ref h0)]) hx hb dX12_init_221 hl (k := 0) rfl (by decide) (by decide) rfl (fun ls hl => ?_)
  refine lv_goto (tgt := 209) hx hb dX12_init_224 (by decide) ?_
  refine lv_iload_n hx hb dX12_init_209 rfl (lv_at0 hl) ?_
  refine lv_iconst (v := 4) hx hb dX12_init_210 (by decide) ?_
  refine lv_icmp_ge (tgt := 227) hx hb dX12_init_211 (by decide) (fun _ => ?_) (fun c9 => absurd (by decide) c9)
  exact toQ hQ0 (RV hC hP hD hS [0, 1, 2, 3, 4, 5, 6, 7, 8, 10, 11, 12, 13, 14, 15, 16, 17, 18, 19, 9] (fun k9 => ([q9155, q9156, q9157, q9158, q9159, q9160, q9161, q9162, q9164, q9165, q9166, q9167, q9168, q9169, q9170, q9171, q9172, q9173, q9163] : List Nat).getD k9 0) rfl rfl (by decide) (trivial) dX12_init_227)
