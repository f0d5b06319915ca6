section WR
variable {p : Program} {l : Launch} {e : Env} {R : Room} {s : State} {m : MethodId} {args : Array Value} {below : List Frame} {meth : Method} {c : Code} {H : Heap} {locs : List Loc} {cells slots : Nat} {Q : State → Prop}
variable {pc : Nat} {ls : Array Slot} {rest : List Value} {G : GG} {ws : va_W} {A : Nat → Prop} {y0 : MethodName} {b0 : ByteArray} {mL0 : Nat} {rt0 : Option FieldType} {a : Nat} {H0 : Heap}
theorem dX11_within_0 : decode cX11_within 0 = .ok (.iload_n 0, 1) := by decide +kernel
theorem dX11_within_1 : decode cX11_within 1 = .ok (.iload_n 1, 1) := by decide +kernel
theorem dX11_within_2 : decode cX11_within 2 = .ok (.if_icmp .lt 12, 3) := by decide +kernel
theorem dX11_within_14 : decode cX11_within 14 = .ok (.iconst 0, 1) := by decide +kernel
theorem dX11_within_15 : decode cX11_within 15 = .ok (.ireturn, 1) := by decide +kernel
theorem dX11_within_5 : decode cX11_within 5 = .ok (.iload_n 0, 1) := by decide +kernel
theorem dX11_within_6 : decode cX11_within 6 = .ok (.iload_n 2, 1) := by decide +kernel
theorem dX11_within_7 : decode cX11_within 7 = .ok (.if_icmp .gt 7, 3) := by decide +kernel
theorem dX11_within_10 : decode cX11_within 10 = .ok (.iconst 1, 1) := by decide +kernel
theorem dX11_within_11 : decode cX11_within 11 = .ok (.goto 4, 3) := by decide +kernel
theorem dX12_within_0 : decode cX12_within 0 = .ok (.iload_n 0, 1) := by decide +kernel
theorem dX12_within_1 : decode cX12_within 1 = .ok (.iload_n 1, 1) := by decide +kernel
theorem dX12_within_2 : decode cX12_within 2 = .ok (.if_icmp .lt 12, 3) := by decide +kernel
theorem dX12_within_14 : decode cX12_within 14 = .ok (.iconst 0, 1) := by decide +kernel
theorem dX12_within_15 : decode cX12_within 15 = .ok (.ireturn, 1) := by decide +kernel
theorem dX12_within_5 : decode cX12_within 5 = .ok (.iload_n 0, 1) := by decide +kernel
theorem dX12_within_6 : decode cX12_within 6 = .ok (.iload_n 2, 1) := by decide +kernel
theorem dX12_within_7 : decode cX12_within 7 = .ok (.if_icmp .gt 7, 3) := by decide +kernel
theorem dX12_within_10 : decode cX12_within 10 = .ok (.iconst 1, 1) := by decide +kernel
theorem dX12_within_11 : decode cX12_within 11 = .ok (.goto 4, 3) := by decide +kernel
theorem dX11_isThing_0 : decode cX11_isThing 0 = .ok (.iload_n 0, 1) := by decide +kernel
theorem dX11_isThing_1 : decode cX11_isThing 1 = .ok (.iconst 0, 1) := by decide +kernel
theorem dX11_isThing_2 : decode cX11_isThing 2 = .ok (.bipush 7, 2) := by decide +kernel
theorem dX11_isThing_4 : decode cX11_isThing 4 = .ok (.invokestatic 83, 3) := by decide +kernel
theorem m_214 : Cond.code yX11_within cX11_within 3 (some .boolean) ∈ BW := List.mem_of_getElem? (i := 214) (by decide +kernel)
theorem m_2 : Cond.initialized RX11 ∈ BW := List.mem_of_getElem? (i := 2) (by decide +kernel)
theorem m_212 : Cond.methodLink RX11 83 yX11_within ∈ BW := List.mem_of_getElem? (i := 212) (by decide +kernel)
theorem m_213 : Cond.static yX11_within ∈ BW := List.mem_of_getElem? (i := 213) (by decide +kernel)
theorem si_X11_83 : SS RX11 83 yX11_within cX11_within 3 (some .boolean) 3 := ⟨⟨m_212, m_213, m_2, m_214⟩, ⟨by decide +kernel, by decide +kernel, by decide +kernel⟩⟩
theorem dX11_isThing_7 : decode cX11_isThing 7 = .ok (.ireturn, 1) := by decide +kernel
theorem dX11_isWay_0 : decode cX11_isWay 0 = .ok (.iload_n 0, 1) := by decide +kernel
theorem dX11_isWay_1 : decode cX11_isWay 1 = .ok (.iconst 0, 1) := by decide +kernel
theorem dX11_isWay_2 : decode cX11_isWay 2 = .ok (.iconst 2, 1) := by decide +kernel
theorem dX11_isWay_3 : decode cX11_isWay 3 = .ok (.invokestatic 83, 3) := by decide +kernel
theorem dX11_isWay_6 : decode cX11_isWay 6 = .ok (.ireturn, 1) := by decide +kernel
theorem dX11_isSheet_0 : decode cX11_isSheet 0 = .ok (.iload_n 0, 1) := by decide +kernel
theorem dX11_isSheet_1 : decode cX11_isSheet 1 = .ok (.iconst 0, 1) := by decide +kernel
theorem dX11_isSheet_2 : decode cX11_isSheet 2 = .ok (.iconst 3, 1) := by decide +kernel
theorem dX11_isSheet_3 : decode cX11_isSheet 3 = .ok (.invokestatic 83, 3) := by decide +kernel
theorem dX11_isSheet_6 : decode cX11_isSheet 6 = .ok (.ireturn, 1) := by decide +kernel
theorem dX11_isShelf_0 : decode cX11_isShelf 0 = .ok (.iload_n 0, 1) := by decide +kernel
theorem dX11_isShelf_1 : decode cX11_isShelf 1 = .ok (.iconst 0, 1) := by decide +kernel
theorem dX11_isShelf_2 : decode cX11_isShelf 2 = .ok (.iconst 3, 1) := by decide +kernel
theorem dX11_isShelf_3 : decode cX11_isShelf 3 = .ok (.invokestatic 83, 3) := by decide +kernel
theorem dX11_isShelf_6 : decode cX11_isShelf 6 = .ok (.ireturn, 1) := by decide +kernel
theorem dX11_isSort_0 : decode cX11_isSort 0 = .ok (.iload_n 0, 1) := by decide +kernel
theorem dX11_isSort_1 : decode cX11_isSort 1 = .ok (.iconst 0, 1) := by decide +kernel
theorem dX11_isSort_2 : decode cX11_isSort 2 = .ok (.iconst 4, 1) := by decide +kernel
theorem dX11_isSort_3 : decode cX11_isSort 3 = .ok (.invokestatic 83, 3) := by decide +kernel
theorem dX11_isSort_6 : decode cX11_isSort 6 = .ok (.ireturn, 1) := by decide +kernel
theorem dX12_isFour_0 : decode cX12_isFour 0 = .ok (.iload_n 0, 1) := by decide +kernel
theorem dX12_isFour_1 : decode cX12_isFour 1 = .ok (.iconst 0, 1) := by decide +kernel
theorem dX12_isFour_2 : decode cX12_isFour 2 = .ok (.iconst 3, 1) := by decide +kernel
theorem dX12_isFour_3 : decode cX12_isFour 3 = .ok (.invokestatic 84, 3) := by decide +kernel
theorem m_221 : Cond.code yX12_within cX12_within 3 (some .boolean) ∈ BW := List.mem_of_getElem? (i := 221) (by decide +kernel)
theorem m_5 : Cond.initialized RX12 ∈ BW := List.mem_of_getElem? (i := 5) (by decide +kernel)
theorem m_219 : Cond.methodLink RX12 84 yX12_within ∈ BW := List.mem_of_getElem? (i := 219) (by decide +kernel)
theorem m_220 : Cond.static yX12_within ∈ BW := List.mem_of_getElem? (i := 220) (by decide +kernel)
theorem si_X12_84 : SS RX12 84 yX12_within cX12_within 3 (some .boolean) 3 := ⟨⟨m_219, m_220, m_5, m_221⟩, ⟨by decide +kernel, by decide +kernel, by decide +kernel⟩⟩
theorem dX12_isFour_6 : decode cX12_isFour 6 = .ok (.ireturn, 1) := by decide +kernel
theorem dX8_count_0 : decode cX8_count 0 = .ok (.aload_n 0, 1) := by decide +kernel
theorem dX8_count_1 : decode cX8_count 1 = .ok (.getfield 28, 3) := by decide +kernel
theorem in_X8 : ∀ w ∈ wsX80, w ∈ BW := fun w h => by
  unfold BW
  simp only [List.mem_append]
  exact Or.inr (Or.inr (Or.inr (Or.inr (Or.inr (Or.inr (Or.inr (Or.inr (Or.inr (Or.inr (Or.inr (Or.inr (Or.inr (Or.inr (Or.inr (Or.inr (Or.inr (Or.inr (Or.inr (Or.inr (Or.inr (Or.inr (Or.inr (Or.inr (Or.inr (Or.inr (Or.inr (Or.inr (Or.inr (Or.inr (Or.inr (Or.inr (Or.inr (Or.inr (Or.inr (Or.inr (Or.inr (Or.inr (Or.inr (Or.inr (Or.inr (Or.inr (Or.inr (Or.inr (Or.inr (Or.inr (Or.inr (Or.inr (Or.inr (Or.inr (Or.inr (Or.inr (Or.inr (Or.inr (Or.inr (Or.inr (Or.inr (Or.inr (Or.inr (Or.inr (Or.inr (Or.inr (Or.inr (Or.inr (Or.inr (Or.inr (Or.inr (Or.inr (Or.inr (Or.inr (Or.inr (Or.inl h)))))))))))))))))))))))))))))))))))))))))))))))))))))))))))))))))))))))
theorem m_83 : Cond.fieldLink RX8 28 "InquiryBench$Table" "count" "I" ∈ BW := List.mem_of_getElem? (i := 83) (by decide +kernel)
theorem gf_X8_28 (hC : CX p s m meth c y0 b0 mL0 rt0 args) (hy0 : y0.cls = RX8) (hK : KK G s) (hP : va_P G.1 vwCl ws H) (q0 : Nat) {fs : List Value} {v : Value} (he : ws[q0]? = some (a, .inr (8, fs))) (hv : fs[3]? = some v) (hdg : decode b0 pc = .ok (.getfield 28, 3)) (kk : W p l e R s m args below meth c H locs cells slots Q (F0 m (pc + 3) ls (v :: rest))) : W p l e R s m args below meth c H locs cells slots Q (F0 m pc ls (.ref a :: rest)) := by
  obtain ⟨hx, hb, hr, hml, hB, hown, hlocks, hnm⟩ := hC
  rw [hy0] at hown
  exact va_get (ci := 8) (C := RX8) (T := TX8) (N := 4) hx hb hB in_X8 hown hK.1 hP q0 he rfl 3 (by decide) (hB _ m_83) (fun _ h => h) hv hdg kk
theorem dX8_count_4 : decode cX8_count 4 = .ok (.ireturn, 1) := by decide +kernel
theorem dX8_isFull_0 : decode cX8_isFull 0 = .ok (.aload_n 0, 1) := by decide +kernel
theorem dX8_isFull_1 : decode cX8_isFull 1 = .ok (.getfield 28, 3) := by decide +kernel
theorem dX8_isFull_4 : decode cX8_isFull 4 = .ok (.aload_n 0, 1) := by decide +kernel
theorem dX8_isFull_5 : decode cX8_isFull 5 = .ok (.getfield 15, 3) := by decide +kernel
theorem m_79 : Cond.fieldLink RX8 15 "InquiryBench$Table" "room" "I" ∈ BW := List.mem_of_getElem? (i := 79) (by decide +kernel)
theorem gf_X8_15 (hC : CX p s m meth c y0 b0 mL0 rt0 args) (hy0 : y0.cls = RX8) (hK : KK G s) (hP : va_P G.1 vwCl ws H) (q0 : Nat) {fs : List Value} {v : Value} (he : ws[q0]? = some (a, .inr (8, fs))) (hv : fs[0]? = some v) (hdg : decode b0 pc = .ok (.getfield 15, 3)) (kk : W p l e R s m args below meth c H locs cells slots Q (F0 m (pc + 3) ls (v :: rest))) : W p l e R s m args below meth c H locs cells slots Q (F0 m pc ls (.ref a :: rest)) := by
  obtain ⟨hx, hb, hr, hml, hB, hown, hlocks, hnm⟩ := hC
  rw [hy0] at hown
  exact va_get (ci := 8) (C := RX8) (T := TX8) (N := 4) hx hb hB in_X8 hown hK.1 hP q0 he rfl 0 (by decide) (hB _ m_79) (fun _ h => h) hv hdg kk
theorem dX8_isFull_8 : decode cX8_isFull 8 = .ok (.if_icmp .lt 7, 3) := by decide +kernel
theorem dX8_isFull_15 : decode cX8_isFull 15 = .ok (.iconst 0, 1) := by decide +kernel
theorem dX8_isFull_16 : decode cX8_isFull 16 = .ok (.ireturn, 1) := by decide +kernel
theorem dX8_isFull_11 : decode cX8_isFull 11 = .ok (.iconst 1, 1) := by decide +kernel
theorem dX8_isFull_12 : decode cX8_isFull 12 = .ok (.goto 4, 3) := by decide +kernel
end WR
/-- a row of a table -/
def Hs (row cnt : Int32) : Prop := ¬ row < 0 ∧ ¬ cnt ≤ row
theorem Hs_none (row : Int32) : ¬ Hs row 0 := by
  unfold Hs
  intro h
  exact h.2 (Int32.not_lt.mp h.1)
section WR
variable {p : Program} {l : Launch} {e : Env} {R : Room} {s : State} {m : MethodId} {args : Array Value} {below : List Frame} {meth : Method} {c : Code} {H : Heap} {locs : List Loc} {cells slots : Nat} {Q : State → Prop}
variable {pc : Nat} {ls : Array Slot} {rest : List Value} {G : GG} {ws : va_W} {A : Nat → Prop} {y0 : MethodName} {b0 : ByteArray} {mL0 : Nat} {rt0 : Option FieldType} {a : Nat} {H0 : Heap}

theorem dX8_has_0 : decode cX8_has 0 = .ok (.iload_n 1, 1) := by decide +kernel
theorem dX8_has_1 : decode cX8_has 1 = .ok (.ifCond .lt 15, 3) := by decide +kernel
theorem dX8_has_16 : decode cX8_has 16 = .ok (.iconst 0, 1) := by decide +kernel
theorem dX8_has_17 : decode cX8_has 17 = .ok (.ireturn, 1) := by decide +kernel
theorem dX8_has_4 : decode cX8_has 4 = .ok (.iload_n 1, 1) := by decide +kernel
theorem dX8_has_5 : decode cX8_has 5 = .ok (.aload_n 0, 1) := by decide +kernel
theorem dX8_has_6 : decode cX8_has 6 = .ok (.getfield 28, 3) := by decide +kernel
theorem dX8_has_9 : decode cX8_has 9 = .ok (.if_icmp .ge 7, 3) := by decide +kernel
theorem dX8_has_12 : decode cX8_has 12 = .ok (.iconst 1, 1) := by decide +kernel
theorem dX8_has_13 : decode cX8_has 13 = .ok (.goto 4, 3) := by decide +kernel
end WR
set_option maxHeartbeats 4000000 in
set_option maxRecDepth 100000 in
theorem c_within (l : Launch) (G : GG) (v : Int32) (a : Int32) (b : Int32) : MP l G yX11_within cX11_within 3 (some .boolean) 1 [.int v, .int a, .int b] [] (fun r : Int32 => (r = 1 ∧ Wi v a b) ∨ (r = 0 ∧ ¬ Wi v a b)) := by
  refine MP.start (by decide +kernel) (Nat.le_of_ble_eq_true rfl) ?_
  intro p e s m below meth c ls hC hK hP hD hl
  have hl : lv_has ls 3 [(0, .int v), (1, .int a), (2, .int b)] := hl
  obtain ⟨hx, hb, hr, hml, hB, hown, hlocks, hnm⟩ := id hC
  refine lv_iload_n hx hb dX11_within_0 rfl (lv_at hl 0 rfl) ?_
  refine lv_iload_n hx hb dX11_within_1 rfl (lv_at hl 1 rfl) ?_
  refine lv_icmp_lt (tgt := 14) hx hb dX11_within_2 (by decide) (fun c_2_1 => ?_) (fun c_2_1 => ?_)
  · refine lv_iconst (v := 0) hx hb dX11_within_14 (by decide) ?_
    exact RP (v := 0) hC (Or.inr ⟨rfl, fun h9 => h9.1 c_2_1⟩) (by decide +kernel) dX11_within_15
  · refine lv_iload_n hx hb dX11_within_5 rfl (lv_at hl 0 rfl) ?_
    refine lv_iload_n hx hb dX11_within_6 rfl (lv_at hl 2 rfl) ?_
    refine lv_icmp_gt (tgt := 14) hx hb dX11_within_7 (by decide) (fun c_7_2 => ?_) (fun c_7_2 => ?_)
    · refine lv_iconst (v := 0) hx hb dX11_within_14 (by decide) ?_
      exact RP (v := 0) hC (Or.inr ⟨rfl, fun h9 => h9.2 c_7_2⟩) (by decide +kernel) dX11_within_15
    · refine lv_iconst (v := 1) hx hb dX11_within_10 (by decide) ?_
      refine lv_goto (tgt := 15) hx hb dX11_within_11 (by decide) ?_
      exact RP (v := 1) hC (Or.inl ⟨rfl, c_2_1, c_7_2⟩) (by decide +kernel) dX11_within_15
set_option maxHeartbeats 4000000 in
set_option maxRecDepth 100000 in
theorem m_within (l : Launch) (G : GG) (v : Int32) (a : Int32) (b : Int32) : MP l G yX12_within cX12_within 3 (some .boolean) 1 [.int v, .int a, .int b] [] (fun r : Int32 => (r = 1 ∧ Wi v a b) ∨ (r = 0 ∧ ¬ Wi v a b)) := by
  refine MP.start (by decide +kernel) (Nat.le_of_ble_eq_true rfl) ?_
  intro p e s m below meth c ls hC hK hP hD hl
  have hl : lv_has ls 3 [(0, .int v), (1, .int a), (2, .int b)] := hl
  obtain ⟨hx, hb, hr, hml, hB, hown, hlocks, hnm⟩ := id hC
  refine lv_iload_n hx hb dX12_within_0 rfl (lv_at hl 0 rfl) ?_
  refine lv_iload_n hx hb dX12_within_1 rfl (lv_at hl 1 rfl) ?_
  refine lv_icmp_lt (tgt := 14) hx hb dX12_within_2 (by decide) (fun c_2_3 => ?_) (fun c_2_3 => ?_)
  · refine lv_iconst (v := 0) hx hb dX12_within_14 (by decide) ?_
    exact RP (v := 0) hC (Or.inr ⟨rfl, fun h9 => h9.1 c_2_3⟩) (by decide +kernel) dX12_within_15
  · refine lv_iload_n hx hb dX12_within_5 rfl (lv_at hl 0 rfl) ?_
    refine lv_iload_n hx hb dX12_within_6 rfl (lv_at hl 2 rfl) ?_
    refine lv_icmp_gt (tgt := 14) hx hb dX12_within_7 (by decide) (fun c_7_4 => ?_) (fun c_7_4 => ?_)
    · refine lv_iconst (v := 0) hx hb dX12_within_14 (by decide) ?_
      exact RP (v := 0) hC (Or.inr ⟨rfl, fun h9 => h9.2 c_7_4⟩) (by decide +kernel) dX12_within_15
    · refine lv_iconst (v := 1) hx hb dX12_within_10 (by decide) ?_
      refine lv_goto (tgt := 15) hx hb dX12_within_11 (by decide) ?_
      exact RP (v := 1) hC (Or.inl ⟨rfl, c_2_3, c_7_4⟩) (by decide +kernel) dX12_within_15
set_option maxHeartbeats 4000000 in
set_option maxRecDepth 100000 in
theorem c_isThing (l : Launch) (G : GG) (v : Int32) : MP l G yX11_isThing cX11_isThing 1 (some .boolean) 2 [.int v] [] (fun r : Int32 => (r = 1 ∧ Wi v 0 7) ∨ (r = 0 ∧ ¬ Wi v 0 7)) := by
  refine MP.start (by decide +kernel) (Nat.le_of_ble_eq_true rfl) ?_
  intro p e s m below meth c ls hC hK hP hD hl
  have hl : lv_has ls 1 [(0, .int v)] := hl
  obtain ⟨hx, hb, hr, hml, hB, hown, hlocks, hnm⟩ := id hC
  refine lv_iload_n hx hb dX11_isThing_0 rfl (lv_at hl 0 rfl) ?_
  refine lv_iconst (v := 0) hx hb dX11_isThing_1 (by decide) ?_
  refine lv_bipush (v := 7) hx hb dX11_isThing_2 (by decide) ?_
  refine pS hC hK hl (c_within l G v 0 7) si_X11_83 rfl rfl (Nat.le_of_ble_eq_true rfl) ⟨Nat.le_of_ble_eq_true rfl, Nat.le_of_ble_eq_true rfl⟩ ⟨by first | exact Nat.le_of_ble_eq_true rfl | exact Nat.zero_le _, by first | exact Nat.le_of_ble_eq_true rfl | exact Nat.zero_le _⟩ dX11_isThing_4 (fun r5 hr5 => ?_)
  rcases hr5 with ⟨rfl, a6⟩ | ⟨rfl, a6⟩
  · exact RP (v := 1) hC (Or.inl (⟨rfl, (by first | assumption | (simp_all; done))⟩)) (by decide +kernel) dX11_isThing_7
  · exact RP (v := 0) hC (Or.inr (⟨rfl, (by first | assumption | (simp_all; done))⟩)) (by decide +kernel) dX11_isThing_7
set_option maxHeartbeats 4000000 in
set_option maxRecDepth 100000 in
theorem c_isWay (l : Launch) (G : GG) (v : Int32) : MP l G yX11_isWay cX11_isWay 1 (some .boolean) 2 [.int v] [] (fun r : Int32 => (r = 1 ∧ Wi v 0 2) ∨ (r = 0 ∧ ¬ Wi v 0 2)) := by
  refine MP.start (by decide +kernel) (Nat.le_of_ble_eq_true rfl) ?_
  intro p e s m below meth c ls hC hK hP hD hl
  have hl : lv_has ls 1 [(0, .int v)] := hl
  obtain ⟨hx, hb, hr, hml, hB, hown, hlocks, hnm⟩ := id hC
  refine lv_iload_n hx hb dX11_isWay_0 rfl (lv_at hl 0 rfl) ?_
  refine lv_iconst (v := 0) hx hb dX11_isWay_1 (by decide) ?_
  refine lv_iconst (v := 2) hx hb dX11_isWay_2 (by decide) ?_
  refine pS hC hK hl (c_within l G v 0 2) si_X11_83 rfl rfl (Nat.le_of_ble_eq_true rfl) ⟨Nat.le_of_ble_eq_true rfl, Nat.le_of_ble_eq_true rfl⟩ ⟨by first | exact Nat.le_of_ble_eq_true rfl | exact Nat.zero_le _, by first | exact Nat.le_of_ble_eq_true rfl | exact Nat.zero_le _⟩ dX11_isWay_3 (fun r7 hr7 => ?_)
  rcases hr7 with ⟨rfl, a8⟩ | ⟨rfl, a8⟩
  · exact RP (v := 1) hC (Or.inl (⟨rfl, (by first | assumption | (simp_all; done))⟩)) (by decide +kernel) dX11_isWay_6
  · exact RP (v := 0) hC (Or.inr (⟨rfl, (by first | assumption | (simp_all; done))⟩)) (by decide +kernel) dX11_isWay_6
set_option maxHeartbeats 4000000 in
set_option maxRecDepth 100000 in
theorem c_isSheet (l : Launch) (G : GG) (v : Int32) : MP l G yX11_isSheet cX11_isSheet 1 (some .boolean) 2 [.int v] [] (fun r : Int32 => (r = 1 ∧ Wi v 0 3) ∨ (r = 0 ∧ ¬ Wi v 0 3)) := by
  refine MP.start (by decide +kernel) (Nat.le_of_ble_eq_true rfl) ?_
  intro p e s m below meth c ls hC hK hP hD hl
  have hl : lv_has ls 1 [(0, .int v)] := hl
  obtain ⟨hx, hb, hr, hml, hB, hown, hlocks, hnm⟩ := id hC
  refine lv_iload_n hx hb dX11_isSheet_0 rfl (lv_at hl 0 rfl) ?_
  refine lv_iconst (v := 0) hx hb dX11_isSheet_1 (by decide) ?_
  refine lv_iconst (v := 3) hx hb dX11_isSheet_2 (by decide) ?_
  refine pS hC hK hl (c_within l G v 0 3) si_X11_83 rfl rfl (Nat.le_of_ble_eq_true rfl) ⟨Nat.le_of_ble_eq_true rfl, Nat.le_of_ble_eq_true rfl⟩ ⟨by first | exact Nat.le_of_ble_eq_true rfl | exact Nat.zero_le _, by first | exact Nat.le_of_ble_eq_true rfl | exact Nat.zero_le _⟩ dX11_isSheet_3 (fun r9 hr9 => ?_)
  rcases hr9 with ⟨rfl, a10⟩ | ⟨rfl, a10⟩
  · exact RP (v := 1) hC (Or.inl (⟨rfl, (by first | assumption | (simp_all; done))⟩)) (by decide +kernel) dX11_isSheet_6
  · exact RP (v := 0) hC (Or.inr (⟨rfl, (by first | assumption | (simp_all; done))⟩)) (by decide +kernel) dX11_isSheet_6
set_option maxHeartbeats 4000000 in
set_option maxRecDepth 100000 in
theorem c_isShelf (l : Launch) (G : GG) (v : Int32) : MP l G yX11_isShelf cX11_isShelf 1 (some .boolean) 2 [.int v] [] (fun r : Int32 => (r = 1 ∧ Wi v 0 3) ∨ (r = 0 ∧ ¬ Wi v 0 3)) := by
  refine MP.start (by decide +kernel) (Nat.le_of_ble_eq_true rfl) ?_
  intro p e s m below meth c ls hC hK hP hD hl
  have hl : lv_has ls 1 [(0, .int v)] := hl
  obtain ⟨hx, hb, hr, hml, hB, hown, hlocks, hnm⟩ := id hC
  refine lv_iload_n hx hb dX11_isShelf_0 rfl (lv_at hl 0 rfl) ?_
  refine lv_iconst (v := 0) hx hb dX11_isShelf_1 (by decide) ?_
  refine lv_iconst (v := 3) hx hb dX11_isShelf_2 (by decide) ?_
  refine pS hC hK hl (c_within l G v 0 3) si_X11_83 rfl rfl (Nat.le_of_ble_eq_true rfl) ⟨Nat.le_of_ble_eq_true rfl, Nat.le_of_ble_eq_true rfl⟩ ⟨by first | exact Nat.le_of_ble_eq_true rfl | exact Nat.zero_le _, by first | exact Nat.le_of_ble_eq_true rfl | exact Nat.zero_le _⟩ dX11_isShelf_3 (fun r11 hr11 => ?_)
  rcases hr11 with ⟨rfl, a12⟩ | ⟨rfl, a12⟩
  · exact RP (v := 1) hC (Or.inl (⟨rfl, (by first | assumption | (simp_all; done))⟩)) (by decide +kernel) dX11_isShelf_6
  · exact RP (v := 0) hC (Or.inr (⟨rfl, (by first | assumption | (simp_all; done))⟩)) (by decide +kernel) dX11_isShelf_6
set_option maxHeartbeats 4000000 in
set_option maxRecDepth 100000 in
theorem c_isSort (l : Launch) (G : GG) (v : Int32) : MP l G yX11_isSort cX11_isSort 1 (some .boolean) 2 [.int v] [] (fun r : Int32 => (r = 1 ∧ Wi v 0 4) ∨ (r = 0 ∧ ¬ Wi v 0 4)) := by
  refine MP.start (by decide +kernel) (Nat.le_of_ble_eq_true rfl) ?_
  intro p e s m below meth c ls hC hK hP hD hl
  have hl : lv_has ls 1 [(0, .int v)] := hl
  obtain ⟨hx, hb, hr, hml, hB, hown, hlocks, hnm⟩ := id hC
  refine lv_iload_n hx hb dX11_isSort_0 rfl (lv_at hl 0 rfl) ?_
  refine lv_iconst (v := 0) hx hb dX11_isSort_1 (by decide) ?_
  refine lv_iconst (v := 4) hx hb dX11_isSort_2 (by decide) ?_
  refine pS hC hK hl (c_within l G v 0 4) si_X11_83 rfl rfl (Nat.le_of_ble_eq_true rfl) ⟨Nat.le_of_ble_eq_true rfl, Nat.le_of_ble_eq_true rfl⟩ ⟨by first | exact Nat.le_of_ble_eq_true rfl | exact Nat.zero_le _, by first | exact Nat.le_of_ble_eq_true rfl | exact Nat.zero_le _⟩ dX11_isSort_3 (fun r13 hr13 => ?_)
  rcases hr13 with ⟨rfl, a14⟩ | ⟨rfl, a14⟩
  · exact RP (v := 1) hC (Or.inl (⟨rfl, (by first | assumption | (simp_all; done))⟩)) (by decide +kernel) dX11_isSort_6
  · exact RP (v := 0) hC (Or.inr (⟨rfl, (by first | assumption | (simp_all; done))⟩)) (by decide +kernel) dX11_isSort_6
set_option maxHeartbeats 4000000 in
set_option maxRecDepth 100000 in
theorem m_isFour (l : Launch) (G : GG) (v : Int32) : MP l G yX12_isFour cX12_isFour 1 (some .boolean) 2 [.int v] [] (fun r : Int32 => (r = 1 ∧ Wi v 0 3) ∨ (r = 0 ∧ ¬ Wi v 0 3)) := by
  refine MP.start (by decide +kernel) (Nat.le_of_ble_eq_true rfl) ?_
  intro p e s m below meth c ls hC hK hP hD hl
  have hl : lv_has ls 1 [(0, .int v)] := hl
  obtain ⟨hx, hb, hr, hml, hB, hown, hlocks, hnm⟩ := id hC
  refine lv_iload_n hx hb dX12_isFour_0 rfl (lv_at hl 0 rfl) ?_
  refine lv_iconst (v := 0) hx hb dX12_isFour_1 (by decide) ?_
  refine lv_iconst (v := 3) hx hb dX12_isFour_2 (by decide) ?_
  refine pS hC hK hl (m_within l G v 0 3) si_X12_84 rfl rfl (Nat.le_of_ble_eq_true rfl) ⟨Nat.le_of_ble_eq_true rfl, Nat.le_of_ble_eq_true rfl⟩ ⟨by first | exact Nat.le_of_ble_eq_true rfl | exact Nat.zero_le _, by first | exact Nat.le_of_ble_eq_true rfl | exact Nat.zero_le _⟩ dX12_isFour_3 (fun r15 hr15 => ?_)
  rcases hr15 with ⟨rfl, a16⟩ | ⟨rfl, a16⟩
  · exact RP (v := 1) hC (Or.inl (⟨rfl, (by first | assumption | (simp_all; done))⟩)) (by decide +kernel) dX12_isFour_6
  · exact RP (v := 0) hC (Or.inr (⟨rfl, (by first | assumption | (simp_all; done))⟩)) (by decide +kernel) dX12_isFour_6
set_option maxHeartbeats 4000000 in
set_option maxRecDepth 100000 in
theorem c_T_count (l : Launch) (G : GG) (h0 : Nat) (ca : Nat) (room : Int32) (wid : Int32) (cnt : Int32) : MP l G yX8_count cX8_count 1 (some .int) 1 [.ref h0] [(h0, .inr (8, [.int room, .int wid, .ref ca, .int cnt]))] (fun r : Int32 => r = cnt) := by
  refine MP.start (by decide +kernel) (Nat.le_of_ble_eq_true rfl) ?_
  intro p e s m below meth c ls hC hK hP hD hl
  have hl : lv_has ls 1 [(0, .ref h0)] := hl
  obtain ⟨hx, hb, hr, hml, hB, hown, hlocks, hnm⟩ := id hC
  refine lv_aload_n hx hb dX8_count_0 rfl (lv_at hl 0 rfl) ?_
  refine gf_X8_28 hC rfl hK hP 0 rfl rfl dX8_count_1 ?_
  exact RP (v := cnt) hC (rfl) rfl dX8_count_4
set_option maxHeartbeats 4000000 in
set_option maxRecDepth 100000 in
theorem c_T_isFull (l : Launch) (G : GG) (h0 : Nat) (ca : Nat) (room : Int32) (wid : Int32) (cnt : Int32) : MP l G yX8_isFull cX8_isFull 1 (some .boolean) 1 [.ref h0] [(h0, .inr (8, [.int room, .int wid, .ref ca, .int cnt]))] (fun r : Int32 => (r = 1 ∧ room ≤ cnt) ∨ (r = 0 ∧ ¬ room ≤ cnt)) := by
  refine MP.start (by decide +kernel) (Nat.le_of_ble_eq_true rfl) ?_
  intro p e s m below meth c ls hC hK hP hD hl
  have hl : lv_has ls 1 [(0, .ref h0)] := hl
  obtain ⟨hx, hb, hr, hml, hB, hown, hlocks, hnm⟩ := id hC
  refine lv_aload_n hx hb dX8_isFull_0 rfl (lv_at hl 0 rfl) ?_
  refine gf_X8_28 hC rfl hK hP 0 rfl rfl dX8_isFull_1 ?_
  refine lv_aload_n hx hb dX8_isFull_4 rfl (lv_at hl 0 rfl) ?_
  refine gf_X8_15 hC rfl hK hP 0 rfl rfl dX8_isFull_5 ?_
  refine lv_icmp_lt (tgt := 15) hx hb dX8_isFull_8 (by decide) (fun c_8_17 => ?_) (fun c_8_17 => ?_)
  · refine lv_iconst (v := 0) hx hb dX8_isFull_15 (by decide) ?_
    exact RP (v := 0) hC (Or.inr (⟨rfl, (by first | assumption | (simp_all; done))⟩)) (by decide +kernel) dX8_isFull_16
  · refine lv_iconst (v := 1) hx hb dX8_isFull_11 (by decide) ?_
    refine lv_goto (tgt := 16) hx hb dX8_isFull_12 (by decide) ?_
    exact RP (v := 1) hC (Or.inl (⟨rfl, (by first | assumption | (simp_all; done))⟩)) (by decide +kernel) dX8_isFull_16
set_option maxHeartbeats 4000000 in
set_option maxRecDepth 100000 in
theorem c_T_has (l : Launch) (G : GG) (h0 : Nat) (ca : Nat) (room : Int32) (wid : Int32) (cnt : Int32) (row : Int32) : MP l G yX8_has cX8_has 2 (some .boolean) 1 [.ref h0, .int row] [(h0, .inr (8, [.int room, .int wid, .ref ca, .int cnt]))] (fun r : Int32 => (r = 1 ∧ Hs row cnt) ∨ (r = 0 ∧ ¬ Hs row cnt)) := by
  refine MP.start (by decide +kernel) (Nat.le_of_ble_eq_true rfl) ?_
  intro p e s m below meth c ls hC hK hP hD hl
  have hl : lv_has ls 2 [(0, .ref h0), (1, .int row)] := hl
  obtain ⟨hx, hb, hr, hml, hB, hown, hlocks, hnm⟩ := id hC
  refine lv_iload_n hx hb dX8_has_0 rfl (lv_at hl 1 rfl) ?_
  refine lv_if_lt (tgt := 16) hx hb dX8_has_1 (by decide) (fun c_1_18 => ?_) (fun c_1_18 => ?_)
  · refine lv_iconst (v := 0) hx hb dX8_has_16 (by decide) ?_
    exact RP (v := 0) hC (Or.inr ⟨rfl, fun h9 => h9.1 c_1_18⟩) (by decide +kernel) dX8_has_17
  · refine lv_iload_n hx hb dX8_has_4 rfl (lv_at hl 1 rfl) ?_
    refine lv_aload_n hx hb dX8_has_5 rfl (lv_at hl 0 rfl) ?_
    refine gf_X8_28 hC rfl hK hP 0 rfl rfl dX8_has_6 ?_
    refine lv_icmp_ge (tgt := 16) hx hb dX8_has_9 (by decide) (fun c_9_19 => ?_) (fun c_9_19 => ?_)
    · refine lv_iconst (v := 0) hx hb dX8_has_16 (by decide) ?_
      exact RP (v := 0) hC (Or.inr ⟨rfl, fun h9 => h9.2 c_9_19⟩) (by decide +kernel) dX8_has_17
    · refine lv_iconst (v := 1) hx hb dX8_has_12 (by decide) ?_
      refine lv_goto (tgt := 17) hx hb dX8_has_13 (by decide) ?_
      exact RP (v := 1) hC (Or.inl ⟨rfl, c_1_18, c_9_19⟩) (by decide +kernel) dX8_has_17
