section WR
variable {p : Program} {l : Launch} {e : Env} {R : Room} {s : State} {m : MethodId} {args : Array Value} {below : List Frame} {meth : Method} {c : Code} {H : Heap} {locs : List Loc} {cells slots : Nat} {Q : State → Prop}
variable {pc : Nat} {ls : Array Slot} {rest : List Value} {G : GG} {ws : va_W} {A : Nat → Prop} {y0 : MethodName} {b0 : ByteArray} {mL0 : Nat} {rt0 : Option FieldType} {a : Nat} {H0 : Heap}
theorem gX11_round_0 : (decode cX11_round 0 = .ok (.aload_n 0, 1)) ∧ (decode cX11_round 1 = .ok (.getfield 15, 3)) ∧ (decode cX11_round 4 = .ok (.getfield 286, 3)) ∧ (decode cX11_round 7 = .ok (.iload_n 1, 1)) ∧ (decode cX11_round 8 = .ok (.invokevirtual 141, 3)) ∧ (decode cX11_round 11 = .ok (.ifCond .ne 5, 3)) ∧ (decode cX11_round 14 = .ok (.iconst (-1), 1)) ∧ (decode cX11_round 15 = .ok (.ireturn, 1)) ∧ (decode cX11_round 16 = .ok (.iload_n 1, 1)) ∧ (decode cX11_round 17 = .ok (.ifCond .ne 6, 3)) := by decide +kernel
theorem gX11_round_1 : (decode cX11_round 20 = .ok (.bipush (-3), 2)) ∧ (decode cX11_round 22 = .ok (.ireturn, 1)) ∧ (decode cX11_round 23 = .ok (.aload_n 0, 1)) ∧ (decode cX11_round 24 = .ok (.getfield 65, 3)) ∧ (decode cX11_round 27 = .ok (.iload_n 1, 1)) ∧ (decode cX11_round 28 = .ok (.invokevirtual 289, 3)) ∧ (decode cX11_round 31 = .ok (.ireturn, 1)) := by decide +kernel
theorem m_285 : Cond.fieldLink RX11 65 "InquiryBench" "best" "LInquiryBench$Round;" ∈ BW := iB_BW15 _ (List.mem_of_getElem? (i := 11) rfl)
theorem gf_X11_65 (hC : CX p s m meth c y0 b0 mL0 rt0 args) (hy0 : y0.cls = RX11) (hK : KK G s) (hP : va_P G.1 vwCl ws H) (q0 : Nat) {fs : List Value} {v : Value} (he : ws[q0]? = some (a, .inr (11, fs))) (hv : fs[8]? = some v) (hdg : decode b0 pc = .ok (.getfield 65, 3)) (kk : W p l e R s m args below meth c H locs cells slots Q (F0 m (pc + 3) ls (v :: rest))) : W p l e R s m args below meth c H locs cells slots Q (F0 m pc ls (.ref a :: rest)) := by
  obtain ⟨hx, hb, hr, hml, hB, hown, hlocks, hnm⟩ := hC
  rw [hy0] at hown
  exact va_get (ci := 11) (C := RX11) (T := TX11) (N := 11) hx hb hB in_X11 hown hK.1 hP q0 he rfl 8 (by decide) (hB _ m_285) (fun _ h => h) hv hdg kk
theorem m_839 : Cond.code yX5_order cX5_order 3 (some .int) ∈ BW := iB_BW45 _ (List.mem_of_getElem? (i := 8) rfl)
theorem m_836 : Cond.methodLink RX11 289 yX5_order ∈ BW := iB_BW45 _ (List.mem_of_getElem? (i := 5) rfl)
theorem m_837 : Cond.instanceMethod yX5_order ∈ BW := iB_BW45 _ (List.mem_of_getElem? (i := 6) rfl)
theorem m_838 : Cond.selects RX5 yX5_order yX5_order ∈ BW := iB_BW45 _ (List.mem_of_getElem? (i := 7) rfl)
theorem si_X11_289 : SV RX11 RX5 289 yX5_order cX5_order 3 (some .int) 1 := ⟨⟨m_836, m_837, m_838, m_112, m_839⟩, rfl, nK_RX5.1, nK_RX5.2, pd_7⟩
theorem gX11_row_0 : (decode cX11_row 0 = .ok (.aload_n 0, 1)) ∧ (decode cX11_row 1 = .ok (.getfield 65, 3)) ∧ (decode cX11_row 4 = .ok (.getfield 292, 3)) ∧ (decode cX11_row 7 = .ok (.iload_n 1, 1)) ∧ (decode cX11_row 8 = .ok (.invokevirtual 124, 3)) ∧ (decode cX11_row 11 = .ok (.ifCond .eq 12, 3)) ∧ (decode cX11_row 14 = .ok (.iload_n 2, 1)) ∧ (decode cX11_row 15 = .ok (.iconst 0, 1)) ∧ (decode cX11_row 16 = .ok (.iconst 1, 1)) ∧ (decode cX11_row 17 = .ok (.invokestatic 83, 3)) := by decide +kernel
theorem nm_40 : Cond.fieldLinkNest RX11 292 RX5 "rows" "LInquiryBench$Table;" RX11 ∈ NestW := List.mem_of_getElem? (i := 40) rfl
theorem gf_X11_292 (hC : CX p s m meth c y0 b0 mL0 rt0 args) (hy0 : y0.cls = RX11) (hK : KK G s) (hP : va_P G.1 vwCl ws H) (q0 : Nat) {fs : List Value} {v : Value} (he : ws[q0]? = some (a, .inr (5, fs))) (hv : fs[1]? = some v) (hdg : decode b0 pc = .ok (.getfield 292, 3)) (kk : W p l e R s m args below meth c H locs cells slots Q (F0 m (pc + 3) ls (v :: rest))) : W p l e R s m args below meth c H locs cells slots Q (F0 m pc ls (.ref a :: rest)) := by
  obtain ⟨hx, hb, hr, hml, hB, hown, hlocks, hnm⟩ := hC
  rw [hy0] at hown
  exact va_getN (ci := 5) (C := RX5) (T := TX5) (N := 6) hx hb hB in_X5 hown hK.1 hP q0 he rfl 1 (by decide) (va_Nw.use rfl (hK.2.1 _ nm_40)) (fun _ h => h) hv hdg kk
theorem gX11_row_1 : (decode cX11_row 20 = .ok (.ifCond .ne 6, 3)) ∧ (decode cX11_row 23 = .ok (.bipush (-9), 2)) ∧ (decode cX11_row 25 = .ok (.ireturn, 1)) ∧ (decode cX11_row 26 = .ok (.aload_n 0, 1)) ∧ (decode cX11_row 27 = .ok (.getfield 65, 3)) ∧ (decode cX11_row 30 = .ok (.getfield 292, 3)) ∧ (decode cX11_row 33 = .ok (.iload_n 1, 1)) ∧ (decode cX11_row 34 = .ok (.iload_n 2, 1)) ∧ (decode cX11_row 35 = .ok (.invokevirtual 128, 3)) ∧ (decode cX11_row 38 = .ok (.ireturn, 1)) := by decide +kernel
theorem gX11_alterRow_0 : (decode cX11_alterRow 0 = .ok (.aload_n 0, 1)) ∧ (decode cX11_alterRow 1 = .ok (.getfield 65, 3)) ∧ (decode cX11_alterRow 4 = .ok (.getfield 292, 3)) ∧ (decode cX11_alterRow 7 = .ok (.iload_n 1, 1)) ∧ (decode cX11_alterRow 8 = .ok (.invokevirtual 124, 3)) ∧ (decode cX11_alterRow 11 = .ok (.ifCond .eq 12, 3)) ∧ (decode cX11_alterRow 14 = .ok (.iload_n 2, 1)) ∧ (decode cX11_alterRow 15 = .ok (.iconst 0, 1)) ∧ (decode cX11_alterRow 16 = .ok (.iconst 1, 1)) ∧ (decode cX11_alterRow 17 = .ok (.invokestatic 83, 3)) := by decide +kernel
theorem gX11_alterRow_1 : (decode cX11_alterRow 20 = .ok (.ifCond .ne 6, 3)) ∧ (decode cX11_alterRow 23 = .ok (.bipush (-9), 2)) ∧ (decode cX11_alterRow 25 = .ok (.ireturn, 1)) ∧ (decode cX11_alterRow 26 = .ok (.aload_n 0, 1)) ∧ (decode cX11_alterRow 27 = .ok (.getfield 65, 3)) ∧ (decode cX11_alterRow 30 = .ok (.getfield 292, 3)) ∧ (decode cX11_alterRow 33 = .ok (.iload_n 1, 1)) ∧ (decode cX11_alterRow 34 = .ok (.iload_n 2, 1)) ∧ (decode cX11_alterRow 35 = .ok (.invokevirtual 128, 3)) ∧ (decode cX11_alterRow 38 = .ok (.istore 4, 2)) := by decide +kernel
theorem gX11_alterRow_2 : (decode cX11_alterRow 40 = .ok (.aload_n 0, 1)) ∧ (decode cX11_alterRow 41 = .ok (.getfield 65, 3)) ∧ (decode cX11_alterRow 44 = .ok (.getfield 292, 3)) ∧ (decode cX11_alterRow 47 = .ok (.iload_n 1, 1)) ∧ (decode cX11_alterRow 48 = .ok (.iload_n 2, 1)) ∧ (decode cX11_alterRow 49 = .ok (.iload_n 3, 1)) ∧ (decode cX11_alterRow 50 = .ok (.invokevirtual 120, 3)) ∧ (decode cX11_alterRow 53 = .ok (.iload 4, 2)) ∧ (decode cX11_alterRow 55 = .ok (.ireturn, 1)) := by decide +kernel
theorem gX11_dropRow_0 : (decode cX11_dropRow 0 = .ok (.aload_n 0, 1)) ∧ (decode cX11_dropRow 1 = .ok (.getfield 65, 3)) ∧ (decode cX11_dropRow 4 = .ok (.getfield 292, 3)) ∧ (decode cX11_dropRow 7 = .ok (.invokevirtual 174, 3)) ∧ (decode cX11_dropRow 10 = .ok (.ifCond .ne 6, 3)) ∧ (decode cX11_dropRow 13 = .ok (.bipush (-3), 2)) ∧ (decode cX11_dropRow 15 = .ok (.ireturn, 1)) ∧ (decode cX11_dropRow 16 = .ok (.aload_n 0, 1)) ∧ (decode cX11_dropRow 17 = .ok (.getfield 65, 3)) ∧ (decode cX11_dropRow 20 = .ok (.getfield 292, 3)) := by decide +kernel
theorem gX11_dropRow_1 : (decode cX11_dropRow 23 = .ok (.aload_n 0, 1)) ∧ (decode cX11_dropRow 24 = .ok (.getfield 65, 3)) ∧ (decode cX11_dropRow 27 = .ok (.getfield 292, 3)) ∧ (decode cX11_dropRow 30 = .ok (.invokevirtual 174, 3)) ∧ (decode cX11_dropRow 33 = .ok (.iconst 1, 1)) ∧ (decode cX11_dropRow 34 = .ok (.isub, 1)) ∧ (decode cX11_dropRow 35 = .ok (.invokevirtual 295, 3)) ∧ (decode cX11_dropRow 38 = .ok (.aload_n 0, 1)) ∧ (decode cX11_dropRow 39 = .ok (.getfield 65, 3)) ∧ (decode cX11_dropRow 42 = .ok (.getfield 292, 3)) := by decide +kernel
theorem m_870 : Cond.methodLink RX11 295 yX8_cut ∈ BW := iB_BW46 _ (List.mem_of_getElem? (i := 19) rfl)
theorem si_X11_295 : SV RX11 RX8 295 yX8_cut cX8_cut 2 none 1 := ⟨⟨m_870, m_621, m_622, m_104, m_623⟩, rfl, nK_RX8.1, nK_RX8.2, pd_18⟩
theorem gX11_dropRow_2 : (decode cX11_dropRow 45 = .ok (.invokevirtual 174, 3)) ∧ (decode cX11_dropRow 48 = .ok (.ireturn, 1)) := by decide +kernel
theorem gX11_judge_0 : (decode cX11_judge 0 = .ok (.aload_n 0, 1)) ∧ (decode cX11_judge 1 = .ok (.getfield 65, 3)) ∧ (decode cX11_judge 4 = .ok (.invokevirtual 298, 3)) ∧ (decode cX11_judge 7 = .ok (.ifCond .ne 6, 3)) ∧ (decode cX11_judge 10 = .ok (.bipush (-3), 2)) ∧ (decode cX11_judge 12 = .ok (.ireturn, 1)) ∧ (decode cX11_judge 13 = .ok (.aload_n 0, 1)) ∧ (decode cX11_judge 14 = .ok (.getfield 65, 3)) ∧ (decode cX11_judge 17 = .ok (.invokevirtual 301, 3)) ∧ (decode cX11_judge 20 = .ok (.iconst 1, 1)) := by decide +kernel
theorem m_878 : Cond.code yX5_isTold cX5_isTold 1 (some .boolean) ∈ BW := iB_BW47 _ (List.mem_of_getElem? (i := 7) rfl)
theorem m_875 : Cond.methodLink RX11 298 yX5_isTold ∈ BW := iB_BW47 _ (List.mem_of_getElem? (i := 4) rfl)
theorem m_876 : Cond.instanceMethod yX5_isTold ∈ BW := iB_BW47 _ (List.mem_of_getElem? (i := 5) rfl)
theorem m_877 : Cond.selects RX5 yX5_isTold yX5_isTold ∈ BW := iB_BW47 _ (List.mem_of_getElem? (i := 6) rfl)
theorem si_X11_298 : SV RX11 RX5 298 yX5_isTold cX5_isTold 1 (some .boolean) 0 := ⟨⟨m_875, m_876, m_877, m_112, m_878⟩, rfl, nK_RX5.1, nK_RX5.2, pd_15⟩
theorem m_882 : Cond.code yX5_firstWrong cX5_firstWrong 5 (some .int) ∈ BW := iB_BW47 _ (List.mem_of_getElem? (i := 11) rfl)
theorem m_879 : Cond.methodLink RX11 301 yX5_firstWrong ∈ BW := iB_BW47 _ (List.mem_of_getElem? (i := 8) rfl)
theorem m_880 : Cond.instanceMethod yX5_firstWrong ∈ BW := iB_BW47 _ (List.mem_of_getElem? (i := 9) rfl)
theorem m_881 : Cond.selects RX5 yX5_firstWrong yX5_firstWrong ∈ BW := iB_BW47 _ (List.mem_of_getElem? (i := 10) rfl)
theorem si_X11_301 : SV RX11 RX5 301 yX5_firstWrong cX5_firstWrong 5 (some .int) 0 := ⟨⟨m_879, m_880, m_881, m_112, m_882⟩, rfl, nK_RX5.1, nK_RX5.2, pd_1⟩
theorem gX11_judge_1 : (decode cX11_judge 21 = .ok (.iadd, 1)) ∧ (decode cX11_judge 22 = .ok (.ireturn, 1)) := by decide +kernel
end WR
theorem wi_nn {x : Int32} (h : Wi x (-1) 4) (h2 : ¬ x = (-1)) : ¬ x < 0 := by
  intro h9
  apply h2
  have h1 := (Wi_iff.mp h).1
  rw [Int32.lt_iff_toInt_lt] at h9
  have e1 : (-1 : Int32).toInt = -1 := by decide
  have e0 : (0 : Int32).toInt = 0 := by decide
  apply Int32.toInt_inj.mp
  omega
section WR
variable {p : Program} {l : Launch} {e : Env} {R : Room} {s : State} {m : MethodId} {args : Array Value} {below : List Frame} {meth : Method} {c : Code} {H : Heap} {locs : List Loc} {cells slots : Nat} {Q : State → Prop}
variable {pc : Nat} {ls : Array Slot} {rest : List Value} {G : GG} {ws : va_W} {A : Nat → Prop} {y0 : MethodName} {b0 : ByteArray} {mL0 : Nat} {rt0 : Option FieldType} {a : Nat} {H0 : Heap}
end WR
def SZ (f : Nat → Int32) : Prop := ∀ i, i < 4 → ∃ k, k ≤ 40 ∧ f i = nI k
theorem SZ.set {f : Nat → Int32} {k : Nat} {v : Int32} (h : SZ f) (h0 : ¬ v < 0) (h4 : v ≤ 40) : SZ (upd f k v) := by
  intro i hi
  unfold upd
  by_cases c : i = k
  · rw [if_pos c]
    obtain ⟨j, hj, rfl⟩ := nI_of h0
    exact ⟨j, (nI_leI (b := 40) hj (by decide)).mp h4, rfl⟩
  · rw [if_neg c]; exact h i hi
theorem SZ.zero {f : Nat → Int32} {k : Nat} (h : SZ f) : SZ (upd f k 0) := h.set (by decide) (by decide)
theorem WiHc {v : Int32} {k : Nat} (hk : k < 2 ^ 31) : Wi v 0 (nI k - 1) ↔ Hs v k := by
  rw [Wi_iff]
  unfold Hs
  rw [Int32.lt_iff_toInt_lt, Int32.le_iff_toInt_le, nI_toInt hk]
  have e0 : (0 : Int32).toInt = 0 := by decide
  have e1 : (nI k - 1).toInt = (k : Int) - 1 := by
    cases k with
    | zero => decide
    | succ k => rw [nI_sub1, nI_toInt (by omega)]; omega
  rw [e0, e1]
  omega
theorem SZ.at {f : Nat → Int32} {i : Nat} {v x : Int32} (h : SZ f) (hi : i < 4) (hx : x = f i) (hv : Wi v 0 (x - 1)) : ∃ j, j < 40 ∧ v = nI j := by
  obtain ⟨k, hk, e⟩ := h i hi
  rw [hx, e, WiHc (by omega)] at hv
  obtain ⟨j, hj, e9⟩ := Hs_nat (by omega) hv
  exact ⟨j, by omega, e9⟩
def RF0 (s a : Int32) : Prop := ¬ s = (-1) ∧ s = a
def RF3 (s a : Int32) : Prop := ¬ s = (-1) ∧ ¬ s = a
/-- a value as a sheet of a sort holds it -/
noncomputable def NARW (s v : Int32) : Int32 := ifc (s = 4) (ifc (v = 0) 0 1) (ifc (s = 1) v.toInt16.toInt32 (ifc (s = 0) v.toInt8.toInt32 v))
/-- a sheet's row is wiped -/
def ZR (f g : Nat → Int32) (T n : Nat) : Prop := ∀ i, g i = if T * 40 ≤ i ∧ i < T * 40 + n then 0 else f i
theorem ZR.zero {f : Nat → Int32} {T : Nat} : ZR f f T 0 := fun i => (if_neg (by omega)).symm
theorem ZR.next {f g : Nat → Int32} {T n k : Nat} (h : ZR f g T n) (hk : k = T * 40 + n) : ZR f (upd g k 0) T (n + 1) := by
  intro i
  unfold upd
  by_cases c : i = k
  · rw [if_pos c, if_pos (by omega)]
  · rw [if_neg c, h i]
    by_cases d : T * 40 ≤ i ∧ i < T * 40 + n
    · rw [if_pos d, if_pos (by omega)]
    · rw [if_neg d, if_neg (by omega)]
def S0 (x1 x2 : Int32) : Prop := Wi x1 0 3 ∧ Wi x2 (-1) 4 ∧ x2 < 0
def S1 (x1 x2 x3 : Int32) : Prop := Wi x1 0 3 ∧ Wi x2 (-1) 4 ∧ ¬ x2 < 0 ∧ x3 ≤ 40 ∧ ¬ x3 < 0
section WR
variable {p : Program} {l : Launch} {e : Env} {R : Room} {s : State} {m : MethodId} {args : Array Value} {below : List Frame} {meth : Method} {c : Code} {H : Heap} {locs : List Loc} {cells slots : Nat} {Q : State → Prop}
variable {pc : Nat} {ls : Array Slot} {rest : List Value} {G : GG} {ws : va_W} {A : Nat → Prop} {y0 : MethodName} {b0 : ByteArray} {mL0 : Nat} {rt0 : Option FieldType} {a : Nat} {H0 : Heap}
end WR
/-- as it was outside a sheet's row -/
def ZQ (f g : Nat → Int32) (T : Nat) : Prop := ∀ i, ¬ (T * 40 ≤ i ∧ i < T * 40 + 40) → g i = f i
theorem ZQ.rf {f : Nat → Int32} {T : Nat} : ZQ f f T := fun _ _ => rfl
theorem ZR.zq {f g : Nat → Int32} {T : Nat} (h : ZR f g T 40) : ZQ f g T := fun i hi => (h i).trans (if_neg hi)
section WR
variable {p : Program} {l : Launch} {e : Env} {R : Room} {s : State} {m : MethodId} {args : Array Value} {below : List Frame} {meth : Method} {c : Code} {H : Heap} {locs : List Loc} {cells slots : Nat} {Q : State → Prop}
variable {pc : Nat} {ls : Array Slot} {rest : List Value} {G : GG} {ws : va_W} {A : Nat → Prop} {y0 : MethodName} {b0 : ByteArray} {mL0 : Nat} {rt0 : Option FieldType} {a : Nat} {H0 : Heap}
theorem gX11_sheet_0 : (decode cX11_sheet 0 = .ok (.iload_n 1, 1)) ∧ (decode cX11_sheet 1 = .ok (.invokestatic 164, 3)) ∧ (decode cX11_sheet 4 = .ok (.ifCond .eq 12, 3)) ∧ (decode cX11_sheet 7 = .ok (.iload_n 2, 1)) ∧ (decode cX11_sheet 8 = .ok (.iconst (-1), 1)) ∧ (decode cX11_sheet 9 = .ok (.iconst 4, 1)) ∧ (decode cX11_sheet 10 = .ok (.invokestatic 83, 3)) ∧ (decode cX11_sheet 13 = .ok (.ifCond .ne 5, 3)) ∧ (decode cX11_sheet 16 = .ok (.iconst (-1), 1)) ∧ (decode cX11_sheet 17 = .ok (.ireturn, 1)) := by decide +kernel
theorem m_405 : Cond.methodLink RX11 164 yX11_isSheet ∈ BW := iB_BW22 _ (List.mem_of_getElem? (i := 9) rfl)
theorem si_X11_164 : SS RX11 164 yX11_isSheet cX11_isSheet 1 (some .boolean) 1 := ⟨⟨m_405, m_406, m_102, m_407⟩, ⟨nK_RX11.1, nK_RX11.2, pd_5⟩⟩
theorem gX11_sheet_1 : (decode cX11_sheet 18 = .ok (.iload_n 2, 1)) ∧ (decode cX11_sheet 19 = .ok (.iconst (-1), 1)) ∧ (decode cX11_sheet 20 = .ok (.if_icmp .ne 13, 3)) ∧ (decode cX11_sheet 23 = .ok (.aload_n 0, 1)) ∧ (decode cX11_sheet 24 = .ok (.getfield 72, 3)) ∧ (decode cX11_sheet 27 = .ok (.iload_n 1, 1)) ∧ (decode cX11_sheet 28 = .ok (.invokevirtual 304, 3)) ∧ (decode cX11_sheet 31 = .ok (.iconst 1, 1)) ∧ (decode cX11_sheet 32 = .ok (.ireturn, 1)) ∧ (decode cX11_sheet 33 = .ok (.iload_n 3, 1)) := by decide +kernel
theorem gX11_sheet_2 : (decode cX11_sheet 34 = .ok (.bipush 40, 2)) ∧ (decode cX11_sheet 36 = .ok (.if_icmp .le 5, 3)) ∧ (decode cX11_sheet 39 = .ok (.iconst (-1), 1)) ∧ (decode cX11_sheet 40 = .ok (.ireturn, 1)) ∧ (decode cX11_sheet 41 = .ok (.iload_n 3, 1)) ∧ (decode cX11_sheet 42 = .ok (.ifCond .ge 6, 3)) ∧ (decode cX11_sheet 45 = .ok (.bipush (-14), 2)) ∧ (decode cX11_sheet 47 = .ok (.ireturn, 1)) ∧ (decode cX11_sheet 48 = .ok (.aload_n 0, 1)) ∧ (decode cX11_sheet 49 = .ok (.getfield 72, 3)) := by decide +kernel
theorem m_286 : Cond.fieldLink RX11 72 "InquiryBench" "host" "LInquiryBench$Host;" ∈ BW := iB_BW15 _ (List.mem_of_getElem? (i := 12) rfl)
theorem gf_X11_72 (hC : CX p s m meth c y0 b0 mL0 rt0 args) (hy0 : y0.cls = RX11) (hK : KK G s) (hP : va_P G.1 vwCl ws H) (q0 : Nat) {fs : List Value} {v : Value} (he : ws[q0]? = some (a, .inr (11, fs))) (hv : fs[9]? = some v) (hdg : decode b0 pc = .ok (.getfield 72, 3)) (kk : W p l e R s m args below meth c H locs cells slots Q (F0 m (pc + 3) ls (v :: rest))) : W p l e R s m args below meth c H locs cells slots Q (F0 m pc ls (.ref a :: rest)) := by
  obtain ⟨hx, hb, hr, hml, hB, hown, hlocks, hnm⟩ := hC
  rw [hy0] at hown
  exact va_get (ci := 11) (C := RX11) (T := TX11) (N := 11) hx hb hB in_X11 hown hK.1 hP q0 he rfl 9 (by decide) (hB _ m_286) (fun _ h => h) hv hdg kk
theorem gX11_sheet_3 : (decode cX11_sheet 52 = .ok (.iload_n 1, 1)) ∧ (decode cX11_sheet 53 = .ok (.iload_n 2, 1)) ∧ (decode cX11_sheet 54 = .ok (.iload_n 3, 1)) ∧ (decode cX11_sheet 55 = .ok (.invokevirtual 306, 3)) ∧ (decode cX11_sheet 58 = .ok (.iconst 1, 1)) ∧ (decode cX11_sheet 59 = .ok (.ireturn, 1)) := by decide +kernel
theorem m_895 : Cond.code yX4_lay cX4_lay 5 none ∈ BW := iB_BW48 _ (List.mem_of_getElem? (i := 4) rfl)
theorem m_892 : Cond.methodLink RX11 306 yX4_lay ∈ BW := iB_BW48 _ (List.mem_of_getElem? (i := 1) rfl)
theorem m_893 : Cond.instanceMethod yX4_lay ∈ BW := iB_BW48 _ (List.mem_of_getElem? (i := 2) rfl)
theorem m_894 : Cond.selects RX4 yX4_lay yX4_lay ∈ BW := iB_BW48 _ (List.mem_of_getElem? (i := 3) rfl)
theorem si_X11_306 : SV RX11 RX4 306 yX4_lay cX4_lay 5 none 3 := ⟨⟨m_892, m_893, m_894, m_113, m_895⟩, rfl, nK_RX4.1, nK_RX4.2, pd_4⟩
theorem m_891 : Cond.code yX4_clear cX4_clear 2 none ∈ BW := iB_BW48 _ (List.mem_of_getElem? (i := 0) rfl)
theorem m_888 : Cond.methodLink RX11 304 yX4_clear ∈ BW := iB_BW47 _ (List.mem_of_getElem? (i := 17) rfl)
theorem m_889 : Cond.instanceMethod yX4_clear ∈ BW := iB_BW47 _ (List.mem_of_getElem? (i := 18) rfl)
theorem m_890 : Cond.selects RX4 yX4_clear yX4_clear ∈ BW := iB_BW47 _ (List.mem_of_getElem? (i := 19) rfl)
theorem si_X11_304 : SV RX11 RX4 304 yX4_clear cX4_clear 2 none 1 := ⟨⟨m_888, m_889, m_890, m_113, m_891⟩, rfl, nK_RX4.1, nK_RX4.2, pd_18⟩
theorem gX11_put_0 : (decode cX11_put 0 = .ok (.iload_n 1, 1)) ∧ (decode cX11_put 1 = .ok (.invokestatic 164, 3)) ∧ (decode cX11_put 4 = .ok (.ifCond .ne 5, 3)) ∧ (decode cX11_put 7 = .ok (.iconst (-1), 1)) ∧ (decode cX11_put 8 = .ok (.ireturn, 1)) ∧ (decode cX11_put 9 = .ok (.aload_n 0, 1)) ∧ (decode cX11_put 10 = .ok (.getfield 72, 3)) ∧ (decode cX11_put 13 = .ok (.iload_n 1, 1)) ∧ (decode cX11_put 14 = .ok (.invokevirtual 309, 3)) ∧ (decode cX11_put 17 = .ok (.iconst (-1), 1)) := by decide +kernel
theorem m_900 : Cond.methodLink RX11 309 yX4_sort ∈ BW := iB_BW48 _ (List.mem_of_getElem? (i := 9) rfl)
theorem si_X11_309 : SV RX11 RX4 309 yX4_sort cX4_sort 2 (some .int) 1 := ⟨⟨m_900, m_413, m_414, m_113, m_415⟩, rfl, nK_RX4.1, nK_RX4.2, pd_7⟩
theorem gX11_put_1 : (decode cX11_put 18 = .ok (.if_icmp .ne 6, 3)) ∧ (decode cX11_put 21 = .ok (.bipush (-11), 2)) ∧ (decode cX11_put 23 = .ok (.ireturn, 1)) ∧ (decode cX11_put 24 = .ok (.iload_n 2, 1)) ∧ (decode cX11_put 25 = .ok (.iconst 0, 1)) ∧ (decode cX11_put 26 = .ok (.aload_n 0, 1)) ∧ (decode cX11_put 27 = .ok (.getfield 72, 3)) ∧ (decode cX11_put 30 = .ok (.iload_n 1, 1)) ∧ (decode cX11_put 31 = .ok (.invokevirtual 170, 3)) ∧ (decode cX11_put 34 = .ok (.iconst 1, 1)) := by decide +kernel
theorem m_416 : Cond.methodLink RX11 170 yX4_size ∈ BW := iB_BW23 _ (List.mem_of_getElem? (i := 0) rfl)
theorem si_X11_170 : SV RX11 RX4 170 yX4_size cX4_size 2 (some .int) 1 := ⟨⟨m_416, m_417, m_418, m_113, m_419⟩, rfl, nK_RX4.1, nK_RX4.2, pd_7⟩
theorem gX11_put_2 : (decode cX11_put 35 = .ok (.isub, 1)) ∧ (decode cX11_put 36 = .ok (.invokestatic 83, 3)) ∧ (decode cX11_put 39 = .ok (.ifCond .ne 6, 3)) ∧ (decode cX11_put 42 = .ok (.bipush (-12), 2)) ∧ (decode cX11_put 44 = .ok (.ireturn, 1)) ∧ (decode cX11_put 45 = .ok (.aload_n 0, 1)) ∧ (decode cX11_put 46 = .ok (.getfield 72, 3)) ∧ (decode cX11_put 49 = .ok (.iload_n 1, 1)) ∧ (decode cX11_put 50 = .ok (.iload_n 2, 1)) ∧ (decode cX11_put 51 = .ok (.iload_n 3, 1)) := by decide +kernel
theorem gX11_put_3 : (decode cX11_put 52 = .ok (.invokevirtual 312, 3)) ∧ (decode cX11_put 55 = .ok (.iconst 1, 1)) ∧ (decode cX11_put 56 = .ok (.ireturn, 1)) := by decide +kernel
theorem m_904 : Cond.code yX4_write cX4_write 5 none ∈ BW := iB_BW48 _ (List.mem_of_getElem? (i := 13) rfl)
theorem m_901 : Cond.methodLink RX11 312 yX4_write ∈ BW := iB_BW48 _ (List.mem_of_getElem? (i := 10) rfl)
theorem m_902 : Cond.instanceMethod yX4_write ∈ BW := iB_BW48 _ (List.mem_of_getElem? (i := 11) rfl)
theorem m_903 : Cond.selects RX4 yX4_write yX4_write ∈ BW := iB_BW48 _ (List.mem_of_getElem? (i := 12) rfl)
theorem si_X11_312 : SV RX11 RX4 312 yX4_write cX4_write 5 none 3 := ⟨⟨m_901, m_902, m_903, m_113, m_904⟩, rfl, nK_RX4.1, nK_RX4.2, pd_4⟩
theorem gX11_item_0 : (decode cX11_item 0 = .ok (.iload_n 1, 1)) ∧ (decode cX11_item 1 = .ok (.invokestatic 164, 3)) ∧ (decode cX11_item 4 = .ok (.ifCond .eq 10, 3)) ∧ (decode cX11_item 7 = .ok (.iload_n 2, 1)) ∧ (decode cX11_item 8 = .ok (.invokestatic 315, 3)) ∧ (decode cX11_item 11 = .ok (.ifCond .ne 5, 3)) ∧ (decode cX11_item 14 = .ok (.iconst (-1), 1)) ∧ (decode cX11_item 15 = .ok (.ireturn, 1)) ∧ (decode cX11_item 16 = .ok (.aload_n 0, 1)) ∧ (decode cX11_item 17 = .ok (.getfield 72, 3)) := by decide +kernel
theorem m_911 : Cond.code yX11_isSort cX11_isSort 1 (some .boolean) ∈ BW := iB_BW49 _ (List.mem_of_getElem? (i := 0) rfl)
theorem m_909 : Cond.methodLink RX11 315 yX11_isSort ∈ BW := iB_BW48 _ (List.mem_of_getElem? (i := 18) rfl)
theorem m_910 : Cond.static yX11_isSort ∈ BW := iB_BW48 _ (List.mem_of_getElem? (i := 19) rfl)
theorem si_X11_315 : SS RX11 315 yX11_isSort cX11_isSort 1 (some .boolean) 1 := ⟨⟨m_909, m_910, m_102, m_911⟩, ⟨nK_RX11.1, nK_RX11.2, pd_5⟩⟩
theorem gX11_item_1 : (decode cX11_item 20 = .ok (.iload_n 1, 1)) ∧ (decode cX11_item 21 = .ok (.iload_n 2, 1)) ∧ (decode cX11_item 22 = .ok (.invokevirtual 167, 3)) ∧ (decode cX11_item 25 = .ok (.istore 4, 2)) ∧ (decode cX11_item 27 = .ok (.iload 4, 2)) ∧ (decode cX11_item 29 = .ok (.ifCond .eq 6, 3)) ∧ (decode cX11_item 32 = .ok (.iload 4, 2)) ∧ (decode cX11_item 34 = .ok (.ireturn, 1)) ∧ (decode cX11_item 35 = .ok (.iload_n 3, 1)) ∧ (decode cX11_item 36 = .ok (.iconst 0, 1)) := by decide +kernel
theorem m_411 : Cond.code yX4_refusal cX4_refusal 4 (some .int) ∈ BW := iB_BW22 _ (List.mem_of_getElem? (i := 15) rfl)
theorem m_408 : Cond.methodLink RX11 167 yX4_refusal ∈ BW := iB_BW22 _ (List.mem_of_getElem? (i := 12) rfl)
theorem m_409 : Cond.instanceMethod yX4_refusal ∈ BW := iB_BW22 _ (List.mem_of_getElem? (i := 13) rfl)
theorem m_410 : Cond.selects RX4 yX4_refusal yX4_refusal ∈ BW := iB_BW22 _ (List.mem_of_getElem? (i := 14) rfl)
theorem si_X11_167 : SV RX11 RX4 167 yX4_refusal cX4_refusal 4 (some .int) 2 := ⟨⟨m_408, m_409, m_410, m_113, m_411⟩, rfl, nK_RX4.1, nK_RX4.2, pd_2⟩
theorem gX11_item_2 : (decode cX11_item 37 = .ok (.aload_n 0, 1)) ∧ (decode cX11_item 38 = .ok (.getfield 72, 3)) ∧ (decode cX11_item 41 = .ok (.iload_n 1, 1)) ∧ (decode cX11_item 42 = .ok (.invokevirtual 170, 3)) ∧ (decode cX11_item 45 = .ok (.iconst 1, 1)) ∧ (decode cX11_item 46 = .ok (.isub, 1)) ∧ (decode cX11_item 47 = .ok (.invokestatic 83, 3)) ∧ (decode cX11_item 50 = .ok (.ifCond .ne 6, 3)) ∧ (decode cX11_item 53 = .ok (.bipush (-12), 2)) ∧ (decode cX11_item 55 = .ok (.ireturn, 1)) := by decide +kernel
theorem gX11_item_3 : (decode cX11_item 56 = .ok (.aload_n 0, 1)) ∧ (decode cX11_item 57 = .ok (.getfield 72, 3)) ∧ (decode cX11_item 60 = .ok (.iload_n 1, 1)) ∧ (decode cX11_item 61 = .ok (.iload_n 3, 1)) ∧ (decode cX11_item 62 = .ok (.invokevirtual 173, 3)) ∧ (decode cX11_item 65 = .ok (.ireturn, 1)) := by decide +kernel
theorem m_423 : Cond.code yX4_at cX4_at 3 (some .int) ∈ BW := iB_BW23 _ (List.mem_of_getElem? (i := 7) rfl)
theorem m_420 : Cond.methodLink RX11 173 yX4_at ∈ BW := iB_BW23 _ (List.mem_of_getElem? (i := 4) rfl)
theorem m_421 : Cond.instanceMethod yX4_at ∈ BW := iB_BW23 _ (List.mem_of_getElem? (i := 5) rfl)
theorem m_422 : Cond.selects RX4 yX4_at yX4_at ∈ BW := iB_BW23 _ (List.mem_of_getElem? (i := 6) rfl)
theorem si_X11_173 : SV RX11 RX4 173 yX4_at cX4_at 3 (some .int) 2 := ⟨⟨m_420, m_421, m_422, m_113, m_423⟩, rfl, nK_RX4.1, nK_RX4.2, pd_2⟩
theorem gX11_stamps_0 : (decode cX11_stamps 0 = .ok (.aload_n 0, 1)) ∧ (decode cX11_stamps 1 = .ok (.getfield 15, 3)) ∧ (decode cX11_stamps 4 = .ok (.getfield 144, 3)) ∧ (decode cX11_stamps 7 = .ok (.iload_n 1, 1)) ∧ (decode cX11_stamps 8 = .ok (.invokevirtual 124, 3)) ∧ (decode cX11_stamps 11 = .ok (.ifCond .eq 21, 3)) ∧ (decode cX11_stamps 14 = .ok (.iload_n 2, 1)) ∧ (decode cX11_stamps 15 = .ok (.invokestatic 164, 3)) ∧ (decode cX11_stamps 18 = .ok (.ifCond .eq 14, 3)) ∧ (decode cX11_stamps 21 = .ok (.iload 4, 2)) := by decide +kernel
theorem gX11_stamps_1 : (decode cX11_stamps 23 = .ok (.iconst 0, 1)) ∧ (decode cX11_stamps 24 = .ok (.bipush 9, 2)) ∧ (decode cX11_stamps 26 = .ok (.invokestatic 83, 3)) ∧ (decode cX11_stamps 29 = .ok (.ifCond .ne 5, 3)) ∧ (decode cX11_stamps 32 = .ok (.iconst (-1), 1)) ∧ (decode cX11_stamps 33 = .ok (.ireturn, 1)) ∧ (decode cX11_stamps 34 = .ok (.aload_n 0, 1)) ∧ (decode cX11_stamps 35 = .ok (.getfield 72, 3)) ∧ (decode cX11_stamps 38 = .ok (.iload_n 2, 1)) ∧ (decode cX11_stamps 39 = .ok (.iconst 1, 1)) := by decide +kernel
theorem gX11_stamps_2 : (decode cX11_stamps 40 = .ok (.invokevirtual 167, 3)) ∧ (decode cX11_stamps 43 = .ok (.istore 5, 2)) ∧ (decode cX11_stamps 45 = .ok (.iload 5, 2)) ∧ (decode cX11_stamps 47 = .ok (.ifCond .eq 6, 3)) ∧ (decode cX11_stamps 50 = .ok (.iload 5, 2)) ∧ (decode cX11_stamps 52 = .ok (.ireturn, 1)) ∧ (decode cX11_stamps 53 = .ok (.iload_n 3, 1)) ∧ (decode cX11_stamps 54 = .ok (.iconst 0, 1)) ∧ (decode cX11_stamps 55 = .ok (.aload_n 0, 1)) ∧ (decode cX11_stamps 56 = .ok (.getfield 72, 3)) := by decide +kernel
theorem gX11_stamps_3 : (decode cX11_stamps 59 = .ok (.iload_n 2, 1)) ∧ (decode cX11_stamps 60 = .ok (.invokevirtual 170, 3)) ∧ (decode cX11_stamps 63 = .ok (.invokestatic 83, 3)) ∧ (decode cX11_stamps 66 = .ok (.ifCond .eq 20, 3)) ∧ (decode cX11_stamps 69 = .ok (.iconst 2, 1)) ∧ (decode cX11_stamps 70 = .ok (.iload 4, 2)) ∧ (decode cX11_stamps 72 = .ok (.imul, 1)) ∧ (decode cX11_stamps 73 = .ok (.aload_n 0, 1)) ∧ (decode cX11_stamps 74 = .ok (.getfield 72, 3)) ∧ (decode cX11_stamps 77 = .ok (.iload_n 2, 1)) := by decide +kernel
theorem gX11_stamps_4 : (decode cX11_stamps 78 = .ok (.invokevirtual 170, 3)) ∧ (decode cX11_stamps 81 = .ok (.iload_n 3, 1)) ∧ (decode cX11_stamps 82 = .ok (.isub, 1)) ∧ (decode cX11_stamps 83 = .ok (.if_icmp .le 6, 3)) ∧ (decode cX11_stamps 86 = .ok (.bipush (-12), 2)) ∧ (decode cX11_stamps 88 = .ok (.ireturn, 1)) ∧ (decode cX11_stamps 89 = .ok (.iconst 0, 1)) ∧ (decode cX11_stamps 90 = .ok (.istore 6, 2)) ∧ (decode cX11_stamps 92 = .ok (.iload 6, 2)) ∧ (decode cX11_stamps 94 = .ok (.iload 4, 2)) := by decide +kernel
theorem gX11_stamps_5 : (decode cX11_stamps 96 = .ok (.if_icmp .ge 48, 3)) ∧ (decode cX11_stamps 99 = .ok (.aload_n 0, 1)) ∧ (decode cX11_stamps 100 = .ok (.getfield 72, 3)) ∧ (decode cX11_stamps 103 = .ok (.iload_n 2, 1)) ∧ (decode cX11_stamps 104 = .ok (.iload_n 3, 1)) ∧ (decode cX11_stamps 105 = .ok (.iconst 2, 1)) ∧ (decode cX11_stamps 106 = .ok (.iload 6, 2)) ∧ (decode cX11_stamps 108 = .ok (.imul, 1)) ∧ (decode cX11_stamps 109 = .ok (.iadd, 1)) ∧ (decode cX11_stamps 110 = .ok (.invokevirtual 173, 3)) := by decide +kernel
theorem gX11_stamps_7 : (decode cX11_stamps 126 = .ok (.invokevirtual 173, 3)) ∧ (decode cX11_stamps 129 = .ok (.invokestatic 154, 3)) ∧ (decode cX11_stamps 132 = .ok (.ifCond .ne 6, 3)) ∧ (decode cX11_stamps 135 = .ok (.bipush (-4), 2)) ∧ (decode cX11_stamps 137 = .ok (.ireturn, 1)) ∧ (decode cX11_stamps 138 = .ok (.iinc 6 1, 3)) ∧ (decode cX11_stamps 141 = .ok (.goto (-49), 3)) ∧ (decode cX11_stamps 144 = .ok (.aload_n 0, 1)) ∧ (decode cX11_stamps 145 = .ok (.getfield 15, 3)) ∧ (decode cX11_stamps 148 = .ok (.getfield 157, 3)) := by decide +kernel
theorem gX11_stamps_8 : (decode cX11_stamps 151 = .ok (.invokevirtual 174, 3)) ∧ (decode cX11_stamps 154 = .ok (.iload 4, 2)) ∧ (decode cX11_stamps 156 = .ok (.iadd, 1)) ∧ (decode cX11_stamps 157 = .ok (.bipush 24, 2)) ∧ (decode cX11_stamps 159 = .ok (.if_icmp .le 6, 3)) ∧ (decode cX11_stamps 162 = .ok (.bipush (-2), 2)) ∧ (decode cX11_stamps 164 = .ok (.ireturn, 1)) ∧ (decode cX11_stamps 165 = .ok (.iconst 0, 1)) ∧ (decode cX11_stamps 166 = .ok (.istore 6, 2)) ∧ (decode cX11_stamps 168 = .ok (.iload 6, 2)) := by decide +kernel
theorem gX11_stamps_9 : (decode cX11_stamps 170 = .ok (.iload 4, 2)) ∧ (decode cX11_stamps 172 = .ok (.if_icmp .ge 48, 3)) ∧ (decode cX11_stamps 175 = .ok (.aload_n 0, 1)) ∧ (decode cX11_stamps 176 = .ok (.getfield 15, 3)) ∧ (decode cX11_stamps 179 = .ok (.iload_n 1, 1)) ∧ (decode cX11_stamps 180 = .ok (.aload_n 0, 1)) ∧ (decode cX11_stamps 181 = .ok (.getfield 72, 3)) ∧ (decode cX11_stamps 184 = .ok (.iload_n 2, 1)) ∧ (decode cX11_stamps 185 = .ok (.iload_n 3, 1)) ∧ (decode cX11_stamps 186 = .ok (.iconst 2, 1)) := by decide +kernel
theorem gX11_stamps_11 : (decode cX11_stamps 203 = .ok (.imul, 1)) ∧ (decode cX11_stamps 204 = .ok (.iadd, 1)) ∧ (decode cX11_stamps 205 = .ok (.iconst 1, 1)) ∧ (decode cX11_stamps 206 = .ok (.iadd, 1)) ∧ (decode cX11_stamps 207 = .ok (.invokevirtual 173, 3)) ∧ (decode cX11_stamps 210 = .ok (.invokevirtual 160, 3)) ∧ (decode cX11_stamps 213 = .ok (.pop, 1)) ∧ (decode cX11_stamps 214 = .ok (.iinc 6 1, 3)) ∧ (decode cX11_stamps 217 = .ok (.goto (-49), 3)) ∧ (decode cX11_stamps 220 = .ok (.aload_n 0, 1)) := by decide +kernel
theorem gX11_stamps_12 : (decode cX11_stamps 221 = .ok (.getfield 15, 3)) ∧ (decode cX11_stamps 224 = .ok (.getfield 157, 3)) ∧ (decode cX11_stamps 227 = .ok (.invokevirtual 174, 3)) ∧ (decode cX11_stamps 230 = .ok (.ireturn, 1)) := by decide +kernel
theorem gX11_stamps_10 : (decode cX11_stamps 187 = .ok (.iload 6, 2)) ∧ (decode cX11_stamps 189 = .ok (.imul, 1)) ∧ (decode cX11_stamps 190 = .ok (.iadd, 1)) ∧ (decode cX11_stamps 191 = .ok (.invokevirtual 173, 3)) ∧ (decode cX11_stamps 194 = .ok (.aload_n 0, 1)) ∧ (decode cX11_stamps 195 = .ok (.getfield 72, 3)) ∧ (decode cX11_stamps 198 = .ok (.iload_n 2, 1)) ∧ (decode cX11_stamps 199 = .ok (.iload_n 3, 1)) ∧ (decode cX11_stamps 200 = .ok (.iconst 2, 1)) ∧ (decode cX11_stamps 201 = .ok (.iload 6, 2)) := by decide +kernel
theorem gX11_stamps_6 : (decode cX11_stamps 113 = .ok (.aload_n 0, 1)) ∧ (decode cX11_stamps 114 = .ok (.getfield 72, 3)) ∧ (decode cX11_stamps 117 = .ok (.iload_n 2, 1)) ∧ (decode cX11_stamps 118 = .ok (.iload_n 3, 1)) ∧ (decode cX11_stamps 119 = .ok (.iconst 2, 1)) ∧ (decode cX11_stamps 120 = .ok (.iload 6, 2)) ∧ (decode cX11_stamps 122 = .ok (.imul, 1)) ∧ (decode cX11_stamps 123 = .ok (.iadd, 1)) ∧ (decode cX11_stamps 124 = .ok (.iconst 1, 1)) ∧ (decode cX11_stamps 125 = .ok (.iadd, 1)) := by decide +kernel
end WR
/-- what shelf answers, by the counts of papers, sayings, findings -/
noncomputable def SHX (x1 x2 x3 : Int32) (kp ks kf : Nat) : Int32 := ifc (Wi x1 0 3) (ifc (x2 = 0) (ifc (Hs x3 kp) 1 (-1)) (ifc (x2 = 1) (ifc (Hs x3 ks) 1 (-1)) (ifc (x2 = 2) (ifc (Hs x3 kf) 1 (-1)) (ifc (x2 = 3) (ifc (Wi x3 0 3) 1 (-1)) (ifc (x2 = 4) 1 (-1)))))) (-1)
theorem ifc_1 {q : Prop} {a : Int32} (h : ifc q a (-1) = 1) : q ∧ a = 1 := by
  by_cases c : q
  · rw [ifc_t c] at h; exact ⟨c, h⟩
  · rw [ifc_f c] at h; exact absurd h (by decide)
theorem SHX.one {x1 x2 x3 : Int32} {kp ks kf : Nat} (h : SHX x1 x2 x3 kp ks kf = 1) : Wi x1 0 3 ∧ (x2 = 0 ∨ x2 = 1 ∨ x2 = 2 ∨ (x2 = 3 ∧ Wi x3 0 3) ∨ x2 = 4) := by
  unfold SHX at h
  obtain ⟨h1, h⟩ := ifc_1 h
  refine ⟨h1, ?_⟩
  by_cases c0 : x2 = 0
  · exact Or.inl c0
  by_cases c1 : x2 = 1
  · exact Or.inr (Or.inl c1)
  by_cases c2 : x2 = 2
  · exact Or.inr (Or.inr (Or.inl c2))
  rw [ifc_f c0, ifc_f c1, ifc_f c2] at h
  by_cases c3 : x2 = 3
  · rw [ifc_t c3] at h
    exact Or.inr (Or.inr (Or.inr (Or.inl ⟨c3, (ifc_1 h).1⟩)))
  · rw [ifc_f c3] at h
    exact Or.inr (Or.inr (Or.inr (Or.inr (ifc_1 h).1)))
section WR
variable {p : Program} {l : Launch} {e : Env} {R : Room} {s : State} {m : MethodId} {args : Array Value} {below : List Frame} {meth : Method} {c : Code} {H : Heap} {locs : List Loc} {cells slots : Nat} {Q : State → Prop}
variable {pc : Nat} {ls : Array Slot} {rest : List Value} {G : GG} {ws : va_W} {A : Nat → Prop} {y0 : MethodName} {b0 : ByteArray} {mL0 : Nat} {rt0 : Option FieldType} {a : Nat} {H0 : Heap}
theorem gX11_shelf_0 : (decode cX11_shelf 0 = .ok (.iload_n 1, 1)) ∧ (decode cX11_shelf 1 = .ok (.invokestatic 318, 3)) ∧ (decode cX11_shelf 4 = .ok (.ifCond .ne 5, 3)) ∧ (decode cX11_shelf 7 = .ok (.iconst (-1), 1)) ∧ (decode cX11_shelf 8 = .ok (.ireturn, 1)) ∧ (decode cX11_shelf 9 = .ok (.iload_n 2, 1)) ∧ (decode cX11_shelf 10 = .ok (.tableswitch 94 0 4 #[34, 50, 66, 82, 91], 34)) ∧ (decode cX11_shelf 44 = .ok (.aload_n 0, 1)) ∧ (decode cX11_shelf 45 = .ok (.getfield 15, 3)) ∧ (decode cX11_shelf 48 = .ok (.getfield 144, 3)) := by decide +kernel
theorem m_916 : Cond.methodLink RX11 318 yX11_isShelf ∈ BW := iB_BW49 _ (List.mem_of_getElem? (i := 5) rfl)
theorem si_X11_318 : SS RX11 318 yX11_isShelf cX11_isShelf 1 (some .boolean) 1 := ⟨⟨m_916, m_917, m_102, m_918⟩, ⟨nK_RX11.1, nK_RX11.2, pd_5⟩⟩
theorem gX11_shelf_1 : (decode cX11_shelf 51 = .ok (.iload_n 3, 1)) ∧ (decode cX11_shelf 52 = .ok (.invokevirtual 124, 3)) ∧ (decode cX11_shelf 55 = .ok (.ifCond .ne 51, 3)) ∧ (decode cX11_shelf 58 = .ok (.iconst (-1), 1)) ∧ (decode cX11_shelf 59 = .ok (.ireturn, 1)) ∧ (decode cX11_shelf 60 = .ok (.aload_n 0, 1)) ∧ (decode cX11_shelf 61 = .ok (.getfield 15, 3)) ∧ (decode cX11_shelf 64 = .ok (.getfield 256, 3)) ∧ (decode cX11_shelf 67 = .ok (.iload_n 3, 1)) ∧ (decode cX11_shelf 68 = .ok (.invokevirtual 124, 3)) := by decide +kernel
theorem gX11_shelf_3 : (decode cX11_shelf 91 = .ok (.ireturn, 1)) ∧ (decode cX11_shelf 92 = .ok (.iload_n 3, 1)) ∧ (decode cX11_shelf 93 = .ok (.invokestatic 164, 3)) ∧ (decode cX11_shelf 96 = .ok (.ifCond .ne 10, 3)) ∧ (decode cX11_shelf 99 = .ok (.iconst (-1), 1)) ∧ (decode cX11_shelf 100 = .ok (.ireturn, 1)) ∧ (decode cX11_shelf 101 = .ok (.goto 5, 3)) ∧ (decode cX11_shelf 104 = .ok (.iconst (-1), 1)) ∧ (decode cX11_shelf 105 = .ok (.ireturn, 1)) ∧ (decode cX11_shelf 106 = .ok (.iload_n 2, 1)) := by decide +kernel
theorem gX11_shelf_4 : (decode cX11_shelf 107 = .ok (.iconst 3, 1)) ∧ (decode cX11_shelf 108 = .ok (.if_icmp .ne 15, 3)) ∧ (decode cX11_shelf 111 = .ok (.aload_n 0, 1)) ∧ (decode cX11_shelf 112 = .ok (.getfield 72, 3)) ∧ (decode cX11_shelf 115 = .ok (.iload_n 1, 1)) ∧ (decode cX11_shelf 116 = .ok (.iload_n 3, 1)) ∧ (decode cX11_shelf 117 = .ok (.invokevirtual 321, 3)) ∧ (decode cX11_shelf 120 = .ok (.goto 13, 3)) ∧ (decode cX11_shelf 123 = .ok (.aload_n 0, 1)) ∧ (decode cX11_shelf 124 = .ok (.getfield 72, 3)) := by decide +kernel
theorem gX11_shelf_5 : (decode cX11_shelf 127 = .ok (.iload_n 1, 1)) ∧ (decode cX11_shelf 128 = .ok (.iload_n 2, 1)) ∧ (decode cX11_shelf 129 = .ok (.iload_n 3, 1)) ∧ (decode cX11_shelf 130 = .ok (.invokevirtual 324, 3)) ∧ (decode cX11_shelf 133 = .ok (.iconst 1, 1)) ∧ (decode cX11_shelf 134 = .ok (.ireturn, 1)) := by decide +kernel
theorem m_927 : Cond.code yX4_hold cX4_hold 4 none ∈ BW := iB_BW49 _ (List.mem_of_getElem? (i := 16) rfl)
theorem m_924 : Cond.methodLink RX11 324 yX4_hold ∈ BW := iB_BW49 _ (List.mem_of_getElem? (i := 13) rfl)
theorem m_925 : Cond.instanceMethod yX4_hold ∈ BW := iB_BW49 _ (List.mem_of_getElem? (i := 14) rfl)
theorem m_926 : Cond.selects RX4 yX4_hold yX4_hold ∈ BW := iB_BW49 _ (List.mem_of_getElem? (i := 15) rfl)
theorem si_X11_324 : SV RX11 RX4 324 yX4_hold cX4_hold 4 none 3 := ⟨⟨m_924, m_925, m_926, m_113, m_927⟩, rfl, nK_RX4.1, nK_RX4.2, pd_4⟩
theorem gX11_shelf_2 : (decode cX11_shelf 71 = .ok (.ifCond .ne 35, 3)) ∧ (decode cX11_shelf 74 = .ok (.iconst (-1), 1)) ∧ (decode cX11_shelf 75 = .ok (.ireturn, 1)) ∧ (decode cX11_shelf 76 = .ok (.aload_n 0, 1)) ∧ (decode cX11_shelf 77 = .ok (.getfield 15, 3)) ∧ (decode cX11_shelf 80 = .ok (.getfield 271, 3)) ∧ (decode cX11_shelf 83 = .ok (.iload_n 3, 1)) ∧ (decode cX11_shelf 84 = .ok (.invokevirtual 124, 3)) ∧ (decode cX11_shelf 87 = .ok (.ifCond .ne 19, 3)) ∧ (decode cX11_shelf 90 = .ok (.iconst (-1), 1)) := by decide +kernel
theorem m_922 : Cond.code yX4_holdRow cX4_holdRow 3 none ∈ BW := iB_BW49 _ (List.mem_of_getElem? (i := 11) rfl)
theorem m_919 : Cond.methodLink RX11 321 yX4_holdRow ∈ BW := iB_BW49 _ (List.mem_of_getElem? (i := 8) rfl)
theorem m_920 : Cond.instanceMethod yX4_holdRow ∈ BW := iB_BW49 _ (List.mem_of_getElem? (i := 9) rfl)
theorem m_921 : Cond.selects RX4 yX4_holdRow yX4_holdRow ∈ BW := iB_BW49 _ (List.mem_of_getElem? (i := 10) rfl)
theorem si_X11_321 : SV RX11 RX4 321 yX4_holdRow cX4_holdRow 3 none 2 := ⟨⟨m_919, m_920, m_921, m_113, m_922⟩, rfl, nK_RX4.1, nK_RX4.2, pd_14⟩
theorem gX2_ran_0 : (decode cX2_ran 0 = .ok (.aload_n 0, 1)) ∧ (decode cX2_ran 1 = .ok (.getfield 19, 3)) ∧ (decode cX2_ran 4 = .ok (.ireturn, 1)) := by decide +kernel
theorem in_X2 : ∀ w ∈ wsX20, w ∈ BW := iB_wsX20
theorem m_271 : Cond.fieldLink RX2 19 "InquiryBench$Deale\x72" "ran" "I" ∈ BW := iB_BW14 _ (List.mem_of_getElem? (i := 17) rfl)
theorem gf_X2_19 (hC : CX p s m meth c y0 b0 mL0 rt0 args) (hy0 : y0.cls = RX2) (hK : KK G s) (hP : va_P G.1 vwCl ws H) (q0 : Nat) {fs : List Value} {v : Value} (he : ws[q0]? = some (a, .inr (2, fs))) (hv : fs[2]? = some v) (hdg : decode b0 pc = .ok (.getfield 19, 3)) (kk : W p l e R s m args below meth c H locs cells slots Q (F0 m (pc + 3) ls (v :: rest))) : W p l e R s m args below meth c H locs cells slots Q (F0 m pc ls (.ref a :: rest)) := by
  obtain ⟨hx, hb, hr, hml, hB, hown, hlocks, hnm⟩ := hC
  rw [hy0] at hown
  exact va_get (ci := 2) (C := RX2) (T := TX2) (N := 8) hx hb hB in_X2 hown hK.1 hP q0 he rfl 2 (by decide) (hB _ m_271) (fun _ h => h) hv hdg kk
theorem gX2_traced_0 : (decode cX2_traced 0 = .ok (.iload_n 1, 1)) ∧ (decode cX2_traced 1 = .ok (.ifCond .lt 26, 3)) ∧ (decode cX2_traced 4 = .ok (.iload_n 1, 1)) ∧ (decode cX2_traced 5 = .ok (.aload_n 0, 1)) ∧ (decode cX2_traced 6 = .ok (.getfield 19, 3)) ∧ (decode cX2_traced 9 = .ok (.if_icmp .ge 18, 3)) ∧ (decode cX2_traced 12 = .ok (.iload_n 1, 1)) ∧ (decode cX2_traced 13 = .ok (.bipush 30, 2)) ∧ (decode cX2_traced 15 = .ok (.if_icmp .ge 12, 3)) ∧ (decode cX2_traced 18 = .ok (.aload_n 0, 1)) := by decide +kernel
theorem gX2_traced_1 : (decode cX2_traced 19 = .ok (.getfield 11, 3)) ∧ (decode cX2_traced 22 = .ok (.iload_n 1, 1)) ∧ (decode cX2_traced 23 = .ok (.iaload, 1)) ∧ (decode cX2_traced 24 = .ok (.goto 5, 3)) ∧ (decode cX2_traced 27 = .ok (.bipush (-3), 2)) ∧ (decode cX2_traced 29 = .ok (.ireturn, 1)) := by decide +kernel
theorem m_270 : Cond.fieldLink RX2 11 "InquiryBench$Deale\x72" "trace" "[I" ∈ BW := iB_BW14 _ (List.mem_of_getElem? (i := 16) rfl)
theorem gf_X2_11 (hC : CX p s m meth c y0 b0 mL0 rt0 args) (hy0 : y0.cls = RX2) (hK : KK G s) (hP : va_P G.1 vwCl ws H) (q0 : Nat) {fs : List Value} {v : Value} (he : ws[q0]? = some (a, .inr (2, fs))) (hv : fs[1]? = some v) (hdg : decode b0 pc = .ok (.getfield 11, 3)) (kk : W p l e R s m args below meth c H locs cells slots Q (F0 m (pc + 3) ls (v :: rest))) : W p l e R s m args below meth c H locs cells slots Q (F0 m pc ls (.ref a :: rest)) := by
  obtain ⟨hx, hb, hr, hml, hB, hown, hlocks, hnm⟩ := hC
  rw [hy0] at hown
  exact va_get (ci := 2) (C := RX2) (T := TX2) (N := 8) hx hb hB in_X2 hown hK.1 hP q0 he rfl 1 (by decide) (hB _ m_270) (fun _ h => h) hv hdg kk
theorem gX11_trace_0 : (decode cX11_trace 0 = .ok (.iload_n 1, 1)) ∧ (decode cX11_trace 1 = .ok (.iconst 0, 1)) ∧ (decode cX11_trace 2 = .ok (.aload_n 0, 1)) ∧ (decode cX11_trace 3 = .ok (.getfield 79, 3)) ∧ (decode cX11_trace 6 = .ok (.invokevirtual 349, 3)) ∧ (decode cX11_trace 9 = .ok (.iconst 1, 1)) ∧ (decode cX11_trace 10 = .ok (.isub, 1)) ∧ (decode cX11_trace 11 = .ok (.invokestatic 83, 3)) ∧ (decode cX11_trace 14 = .ok (.ifCond .eq 14, 3)) ∧ (decode cX11_trace 17 = .ok (.aload_n 0, 1)) := by decide +kernel
theorem m_287 : Cond.fieldLink RX11 79 "InquiryBench" "deale\x72" "LInquiryBench$Dealer;" ∈ BW := iB_BW15 _ (List.mem_of_getElem? (i := 13) rfl)
theorem gf_X11_79 (hC : CX p s m meth c y0 b0 mL0 rt0 args) (hy0 : y0.cls = RX11) (hK : KK G s) (hP : va_P G.1 vwCl ws H) (q0 : Nat) {fs : List Value} {v : Value} (he : ws[q0]? = some (a, .inr (11, fs))) (hv : fs[10]? = some v) (hdg : decode b0 pc = .ok (.getfield 79, 3)) (kk : W p l e R s m args below meth c H locs cells slots Q (F0 m (pc + 3) ls (v :: rest))) : W p l e R s m args below meth c H locs cells slots Q (F0 m pc ls (.ref a :: rest)) := by
  obtain ⟨hx, hb, hr, hml, hB, hown, hlocks, hnm⟩ := hC
  rw [hy0] at hown
  exact va_get (ci := 11) (C := RX11) (T := TX11) (N := 11) hx hb hB in_X11 hown hK.1 hP q0 he rfl 10 (by decide) (hB _ m_287) (fun _ h => h) hv hdg kk
theorem m_990 : Cond.code yX2_ran cX2_ran 1 (some .int) ∈ BW := iB_BW52 _ (List.mem_of_getElem? (i := 19) rfl)
theorem m_114 : Cond.initialized RX2 ∈ BW := iB_BW6 _ (List.mem_of_getElem? (i := 12) rfl)
theorem nK_RX2 : RX2 ≠ "java/lang/invoke/MethodHandle" ∧ RX2 ≠ "java/lang/invoke/VarHandle" := ⟨by decide +kernel, by decide +kernel⟩
theorem m_987 : Cond.methodLink RX11 349 yX2_ran ∈ BW := iB_BW52 _ (List.mem_of_getElem? (i := 16) rfl)
theorem m_988 : Cond.instanceMethod yX2_ran ∈ BW := iB_BW52 _ (List.mem_of_getElem? (i := 17) rfl)
theorem m_989 : Cond.selects RX2 yX2_ran yX2_ran ∈ BW := iB_BW52 _ (List.mem_of_getElem? (i := 18) rfl)
theorem si_X11_349 : SV RX11 RX2 349 yX2_ran cX2_ran 1 (some .int) 0 := ⟨⟨m_987, m_988, m_989, m_114, m_990⟩, rfl, nK_RX2.1, nK_RX2.2, pd_1⟩
theorem gX11_trace_1 : (decode cX11_trace 18 = .ok (.getfield 79, 3)) ∧ (decode cX11_trace 21 = .ok (.iload_n 1, 1)) ∧ (decode cX11_trace 22 = .ok (.invokevirtual 352, 3)) ∧ (decode cX11_trace 25 = .ok (.goto 5, 3)) ∧ (decode cX11_trace 28 = .ok (.bipush (-3), 2)) ∧ (decode cX11_trace 30 = .ok (.ireturn, 1)) := by decide +kernel
theorem m_994 : Cond.code yX2_traced cX2_traced 2 (some .int) ∈ BW := iB_BW53 _ (List.mem_of_getElem? (i := 3) rfl)
theorem m_991 : Cond.methodLink RX11 352 yX2_traced ∈ BW := iB_BW53 _ (List.mem_of_getElem? (i := 0) rfl)
theorem m_992 : Cond.instanceMethod yX2_traced ∈ BW := iB_BW53 _ (List.mem_of_getElem? (i := 1) rfl)
theorem m_993 : Cond.selects RX2 yX2_traced yX2_traced ∈ BW := iB_BW53 _ (List.mem_of_getElem? (i := 2) rfl)
theorem si_X11_352 : SV RX11 RX2 352 yX2_traced cX2_traced 2 (some .int) 1 := ⟨⟨m_991, m_992, m_993, m_114, m_994⟩, rfl, nK_RX2.1, nK_RX2.2, pd_7⟩
theorem gX10_count_0 : (decode cX10_count 0 = .ok (.aload_n 0, 1)) ∧ (decode cX10_count 1 = .ok (.getfield 27, 3)) ∧ (decode cX10_count 4 = .ok (.ireturn, 1)) := by decide +kernel
theorem in_X10 : ∀ w ∈ wsX100, w ∈ BW := iB_wsX100
theorem m_230 : Cond.fieldLink RX10 27 "InquiryBench$Tape" "count" "I" ∈ BW := iB_BW12 _ (List.mem_of_getElem? (i := 16) rfl)
theorem gf_X10_27 (hC : CX p s m meth c y0 b0 mL0 rt0 args) (hy0 : y0.cls = RX10) (hK : KK G s) (hP : va_P G.1 vwCl ws H) (q0 : Nat) {fs : List Value} {v : Value} (he : ws[q0]? = some (a, .inr (10, fs))) (hv : fs[1]? = some v) (hdg : decode b0 pc = .ok (.getfield 27, 3)) (kk : W p l e R s m args below meth c H locs cells slots Q (F0 m (pc + 3) ls (v :: rest))) : W p l e R s m args below meth c H locs cells slots Q (F0 m pc ls (.ref a :: rest)) := by
  obtain ⟨hx, hb, hr, hml, hB, hown, hlocks, hnm⟩ := hC
  rw [hy0] at hown
  exact va_get (ci := 10) (C := RX10) (T := TX10) (N := 8) hx hb hB in_X10 hown hK.1 hP q0 he rfl 1 (by decide) (hB _ m_230) (fun _ h => h) hv hdg kk
theorem gX11_many_0 : (decode cX11_many 0 = .ok (.iload_n 1, 1)) ∧ (decode cX11_many 1 = .ok (.tableswitch 236 0 14 #[75, 83, 94, 105, 116, 127, 138, 149, 164, 175, 187, 198, 209, 220, 228], 75)) ∧ (decode cX11_many 76 = .ok (.aload_n 0, 1)) ∧ (decode cX11_many 77 = .ok (.getfield 15, 3)) ∧ (decode cX11_many 80 = .ok (.getfield 87, 3)) ∧ (decode cX11_many 83 = .ok (.ireturn, 1)) ∧ (decode cX11_many 84 = .ok (.aload_n 0, 1)) ∧ (decode cX11_many 85 = .ok (.getfield 15, 3)) ∧ (decode cX11_many 88 = .ok (.getfield 107, 3)) ∧ (decode cX11_many 91 = .ok (.invokevirtual 174, 3)) := by decide +kernel
theorem gX11_many_1 : (decode cX11_many 94 = .ok (.ireturn, 1)) ∧ (decode cX11_many 95 = .ok (.aload_n 0, 1)) ∧ (decode cX11_many 96 = .ok (.getfield 15, 3)) ∧ (decode cX11_many 99 = .ok (.getfield 144, 3)) ∧ (decode cX11_many 102 = .ok (.invokevirtual 174, 3)) ∧ (decode cX11_many 105 = .ok (.ireturn, 1)) ∧ (decode cX11_many 106 = .ok (.aload_n 0, 1)) ∧ (decode cX11_many 107 = .ok (.getfield 15, 3)) ∧ (decode cX11_many 110 = .ok (.invokevirtual 97, 3)) ∧ (decode cX11_many 113 = .ok (.invokestatic 101, 3)) := by decide +kernel
theorem gX11_many_2 : (decode cX11_many 116 = .ok (.ireturn, 1)) ∧ (decode cX11_many 117 = .ok (.aload_n 0, 1)) ∧ (decode cX11_many 118 = .ok (.getfield 15, 3)) ∧ (decode cX11_many 121 = .ok (.getfield 157, 3)) ∧ (decode cX11_many 124 = .ok (.invokevirtual 174, 3)) ∧ (decode cX11_many 127 = .ok (.ireturn, 1)) ∧ (decode cX11_many 128 = .ok (.aload_n 0, 1)) ∧ (decode cX11_many 129 = .ok (.getfield 15, 3)) ∧ (decode cX11_many 132 = .ok (.getfield 233, 3)) ∧ (decode cX11_many 135 = .ok (.invokevirtual 174, 3)) := by decide +kernel
theorem gX11_many_3 : (decode cX11_many 138 = .ok (.ireturn, 1)) ∧ (decode cX11_many 139 = .ok (.aload_n 0, 1)) ∧ (decode cX11_many 140 = .ok (.getfield 15, 3)) ∧ (decode cX11_many 143 = .ok (.getfield 256, 3)) ∧ (decode cX11_many 146 = .ok (.invokevirtual 174, 3)) ∧ (decode cX11_many 149 = .ok (.ireturn, 1)) ∧ (decode cX11_many 150 = .ok (.aload_n 0, 1)) ∧ (decode cX11_many 151 = .ok (.getfield 15, 3)) ∧ (decode cX11_many 154 = .ok (.aload_n 0, 1)) ∧ (decode cX11_many 155 = .ok (.getfield 15, 3)) := by decide +kernel
theorem gX11_many_4 : (decode cX11_many 158 = .ok (.invokevirtual 97, 3)) ∧ (decode cX11_many 161 = .ok (.invokevirtual 355, 3)) ∧ (decode cX11_many 164 = .ok (.ireturn, 1)) ∧ (decode cX11_many 165 = .ok (.aload_n 0, 1)) ∧ (decode cX11_many 166 = .ok (.getfield 15, 3)) ∧ (decode cX11_many 169 = .ok (.getfield 271, 3)) ∧ (decode cX11_many 172 = .ok (.invokevirtual 174, 3)) ∧ (decode cX11_many 175 = .ok (.ireturn, 1)) ∧ (decode cX11_many 176 = .ok (.aload_n 0, 1)) ∧ (decode cX11_many 177 = .ok (.aload_n 0, 1)) := by decide +kernel
theorem m_1002 : Cond.code yX0_countSayings cX0_countSayings 4 (some .int) ∈ BW := iB_BW53 _ (List.mem_of_getElem? (i := 11) rfl)
theorem m_999 : Cond.methodLink RX11 355 yX0_countSayings ∈ BW := iB_BW53 _ (List.mem_of_getElem? (i := 8) rfl)
theorem m_1000 : Cond.instanceMethod yX0_countSayings ∈ BW := iB_BW53 _ (List.mem_of_getElem? (i := 9) rfl)
theorem m_1001 : Cond.selects RX0 yX0_countSayings yX0_countSayings ∈ BW := iB_BW53 _ (List.mem_of_getElem? (i := 10) rfl)
theorem si_X11_355 : SV RX11 RX0 355 yX0_countSayings cX0_countSayings 4 (some .int) 1 := ⟨⟨m_999, m_1000, m_1001, m_103, m_1002⟩, rfl, nK_RX0.1, nK_RX0.2, pd_7⟩
theorem gX11_many_5 : (decode cX11_many 178 = .ok (.getfield 15, 3)) ∧ (decode cX11_many 181 = .ok (.invokevirtual 97, 3)) ∧ (decode cX11_many 184 = .ok (.invokevirtual 358, 3)) ∧ (decode cX11_many 187 = .ok (.ireturn, 1)) ∧ (decode cX11_many 188 = .ok (.aload_n 0, 1)) ∧ (decode cX11_many 189 = .ok (.getfield 15, 3)) ∧ (decode cX11_many 192 = .ok (.getfield 283, 3)) ∧ (decode cX11_many 195 = .ok (.invokevirtual 174, 3)) ∧ (decode cX11_many 198 = .ok (.ireturn, 1)) ∧ (decode cX11_many 199 = .ok (.aload_n 0, 1)) := by decide +kernel
theorem m_1005 : Cond.code yX11_countStanding cX11_countStanding 4 (some .int) ∈ BW := iB_BW53 _ (List.mem_of_getElem? (i := 14) rfl)
theorem m_1003 : Cond.methodLink RX11 358 yX11_countStanding ∈ BW := iB_BW53 _ (List.mem_of_getElem? (i := 12) rfl)
theorem m_1004 : Cond.instanceMethod yX11_countStanding ∈ BW := iB_BW53 _ (List.mem_of_getElem? (i := 13) rfl)
theorem m_47 : Cond.selects RX11 yX11_countStanding yX11_countStanding ∈ BW := iB_BW2 _ (List.mem_of_getElem? (i := 7) rfl)
theorem si_X11_358 : SV RX11 RX11 358 yX11_countStanding cX11_countStanding 4 (some .int) 1 := ⟨⟨m_1003, m_1004, m_47, m_102, m_1005⟩, rfl, nK_RX11.1, nK_RX11.2, pd_7⟩
theorem gX11_many_6 : (decode cX11_many 200 = .ok (.getfield 15, 3)) ∧ (decode cX11_many 203 = .ok (.getfield 286, 3)) ∧ (decode cX11_many 206 = .ok (.invokevirtual 174, 3)) ∧ (decode cX11_many 209 = .ok (.ireturn, 1)) ∧ (decode cX11_many 210 = .ok (.aload_n 0, 1)) ∧ (decode cX11_many 211 = .ok (.getfield 65, 3)) ∧ (decode cX11_many 214 = .ok (.getfield 292, 3)) ∧ (decode cX11_many 217 = .ok (.invokevirtual 174, 3)) ∧ (decode cX11_many 220 = .ok (.ireturn, 1)) ∧ (decode cX11_many 221 = .ok (.aload_n 0, 1)) := by decide +kernel
theorem gX11_many_7 : (decode cX11_many 222 = .ok (.getfield 58, 3)) ∧ (decode cX11_many 225 = .ok (.invokevirtual 224, 3)) ∧ (decode cX11_many 228 = .ok (.ireturn, 1)) ∧ (decode cX11_many 229 = .ok (.aload_n 0, 1)) ∧ (decode cX11_many 230 = .ok (.getfield 79, 3)) ∧ (decode cX11_many 233 = .ok (.invokevirtual 349, 3)) ∧ (decode cX11_many 236 = .ok (.ireturn, 1)) ∧ (decode cX11_many 237 = .ok (.iconst (-1), 1)) ∧ (decode cX11_many 238 = .ok (.ireturn, 1)) := by decide +kernel
theorem m_284 : Cond.fieldLink RX11 58 "InquiryBench" "tape" "LInquiryBench$Tape;" ∈ BW := iB_BW15 _ (List.mem_of_getElem? (i := 10) rfl)
theorem gf_X11_58 (hC : CX p s m meth c y0 b0 mL0 rt0 args) (hy0 : y0.cls = RX11) (hK : KK G s) (hP : va_P G.1 vwCl ws H) (q0 : Nat) {fs : List Value} {v : Value} (he : ws[q0]? = some (a, .inr (11, fs))) (hv : fs[7]? = some v) (hdg : decode b0 pc = .ok (.getfield 58, 3)) (kk : W p l e R s m args below meth c H locs cells slots Q (F0 m (pc + 3) ls (v :: rest))) : W p l e R s m args below meth c H locs cells slots Q (F0 m pc ls (.ref a :: rest)) := by
  obtain ⟨hx, hb, hr, hml, hB, hown, hlocks, hnm⟩ := hC
  rw [hy0] at hown
  exact va_get (ci := 11) (C := RX11) (T := TX11) (N := 11) hx hb hB in_X11 hown hK.1 hP q0 he rfl 7 (by decide) (hB _ m_284) (fun _ h => h) hv hdg kk
theorem m_607 : Cond.code yX10_count cX10_count 1 (some .int) ∈ BW := iB_BW33 _ (List.mem_of_getElem? (i := 7) rfl)
theorem m_111 : Cond.initialized RX10 ∈ BW := iB_BW6 _ (List.mem_of_getElem? (i := 9) rfl)
theorem nK_RX10 : RX10 ≠ "java/lang/invoke/MethodHandle" ∧ RX10 ≠ "java/lang/invoke/VarHandle" := ⟨by decide +kernel, by decide +kernel⟩
theorem m_604 : Cond.methodLink RX11 224 yX10_count ∈ BW := iB_BW33 _ (List.mem_of_getElem? (i := 4) rfl)
theorem m_605 : Cond.instanceMethod yX10_count ∈ BW := iB_BW33 _ (List.mem_of_getElem? (i := 5) rfl)
theorem m_606 : Cond.selects RX10 yX10_count yX10_count ∈ BW := iB_BW33 _ (List.mem_of_getElem? (i := 6) rfl)
theorem si_X11_224 : SV RX11 RX10 224 yX10_count cX10_count 1 (some .int) 0 := ⟨⟨m_604, m_605, m_606, m_111, m_607⟩, rfl, nK_RX10.1, nK_RX10.2, pd_1⟩
theorem sw_0_14 {x : Int32} : ¬ x = 0 → ¬ x = 1 → ¬ x = 2 → ¬ x = 3 → ¬ x = 4 → ¬ x = 5 → ¬ x = 6 → ¬ x = 7 → ¬ x = 8 → ¬ x = 9 → ¬ x = 10 → ¬ x = 11 → ¬ x = 12 → ¬ x = 13 → ¬ x = 14 →  (x.toInt < 0 ∨ 14 < x.toInt) := by
  intros
  simp only [← Int32.toInt_inj] at *
  have hk : ∀ k : Int, x.toInt = k → x.toInt = k := fun _ h => h
  have k0 : (0 : Int32).toInt = 0 := by decide
  have k1 : (1 : Int32).toInt = 1 := by decide
  have k2 : (2 : Int32).toInt = 2 := by decide
  have k3 : (3 : Int32).toInt = 3 := by decide
  have k4 : (4 : Int32).toInt = 4 := by decide
  have k5 : (5 : Int32).toInt = 5 := by decide
  have k6 : (6 : Int32).toInt = 6 := by decide
  have k7 : (7 : Int32).toInt = 7 := by decide
  have k8 : (8 : Int32).toInt = 8 := by decide
  have k9 : (9 : Int32).toInt = 9 := by decide
  have k10 : (10 : Int32).toInt = 10 := by decide
  have k11 : (11 : Int32).toInt = 11 := by decide
  have k12 : (12 : Int32).toInt = 12 := by decide
  have k13 : (13 : Int32).toInt = 13 := by decide
  have k14 : (14 : Int32).toInt = 14 := by decide
  omega
end WR
theorem rm_10_1_2 {mc ms : Nat} : 1 + 1 ≤ (RM 10 mc ms).frames ∧ 8 + (2 + 11) + 40 * 1 ≤ (RM 10 mc ms).locals := ⟨by show 1 + 1 ≤ 10; decide, by show 8 + (2 + 11) + 40 * 1 ≤ 40 * 10; decide⟩
theorem rm_10_8_3 {mc ms : Nat} : 8 + 1 ≤ (RM 10 mc ms).frames ∧ 8 + (3 + 11) + 40 * 8 ≤ (RM 10 mc ms).locals := ⟨by show 8 + 1 ≤ 10; decide, by show 8 + (3 + 11) + 40 * 8 ≤ 40 * 10; decide⟩
theorem sm_2_3_4_5_1_6_7 {a0 a1 a2 a3 a4 a5 a6 a7 : Nat × va_E} {l : va_W} : ([2, 3, 4, 5, 1, 6, 7] : List Nat).map (fun i => (a0 :: a1 :: a2 :: a3 :: a4 :: a5 :: a6 :: a7 :: l : va_W)[i]?) = ([a2, a3, a4, a5, a1, a6, a7] : va_W).map some := rfl
theorem fm_2_3_4_5_1_6_7 {a0 a1 a2 a3 a4 a5 a6 a7 : Nat × va_E} {l : va_W} : ([2, 3, 4, 5, 1, 6, 7] : List Nat).filterMap (fun i => (a0 :: a1 :: a2 :: a3 :: a4 :: a5 :: a6 :: a7 :: l : va_W)[i]?) = ([a2, a3, a4, a5, a1, a6, a7] : va_W) := rfl
theorem nd_2_3_4_5_1_6_7 : va_nd [2, 3, 4, 5, 1, 6, 7] = true := by decide
theorem dj_2_3_4_5_1_6_7__0 : ∀ i ∈ ([0] : List Nat), i ∉ ([2, 3, 4, 5, 1, 6, 7] : List Nat) := by decide
theorem dj_2__0_1 : ∀ i ∈ ([0, 1] : List Nat), i ∉ ([2] : List Nat) := by decide
theorem sm_2_3_4_1_5_6 {a0 a1 a2 a3 a4 a5 a6 : Nat × va_E} {l : va_W} : ([2, 3, 4, 1, 5, 6] : List Nat).map (fun i => (a0 :: a1 :: a2 :: a3 :: a4 :: a5 :: a6 :: l : va_W)[i]?) = ([a2, a3, a4, a1, a5, a6] : va_W).map some := rfl
theorem fm_2_3_4_1_5_6 {a0 a1 a2 a3 a4 a5 a6 : Nat × va_E} {l : va_W} : ([2, 3, 4, 1, 5, 6] : List Nat).filterMap (fun i => (a0 :: a1 :: a2 :: a3 :: a4 :: a5 :: a6 :: l : va_W)[i]?) = ([a2, a3, a4, a1, a5, a6] : va_W) := rfl
theorem nd_2_3_4_1_5_6 : va_nd [2, 3, 4, 1, 5, 6] = true := by decide
theorem rm_5_2_1 {mc ms : Nat} : 2 + 1 ≤ (RM 5 mc ms).frames ∧ 8 + (1 + 11) + 40 * 2 ≤ (RM 5 mc ms).locals := ⟨by show 2 + 1 ≤ 5; decide, by show 8 + (1 + 11) + 40 * 2 ≤ 40 * 5; decide⟩
theorem sm_1_2_3_4 {a0 a1 a2 a3 a4 : Nat × va_E} {l : va_W} : ([1, 2, 3, 4] : List Nat).map (fun i => (a0 :: a1 :: a2 :: a3 :: a4 :: l : va_W)[i]?) = ([a1, a2, a3, a4] : va_W).map some := rfl
theorem fm_1_2_3_4 {a0 a1 a2 a3 a4 : Nat × va_E} {l : va_W} : ([1, 2, 3, 4] : List Nat).filterMap (fun i => (a0 :: a1 :: a2 :: a3 :: a4 :: l : va_W)[i]?) = ([a1, a2, a3, a4] : va_W) := rfl
theorem nd_1_2_3_4 : va_nd [1, 2, 3, 4] = true := by decide
theorem dj_1_2_3_4__0 : ∀ i ∈ ([0] : List Nat), i ∉ ([1, 2, 3, 4] : List Nat) := by decide
theorem rm_5_3_2 {mc ms : Nat} : 3 + 1 ≤ (RM 5 mc ms).frames ∧ 8 + (2 + 11) + 40 * 3 ≤ (RM 5 mc ms).locals := ⟨by show 3 + 1 ≤ 5; decide, by show 8 + (2 + 11) + 40 * 3 ≤ 40 * 5; decide⟩
theorem sm_1_3 {a0 a1 a2 a3 : Nat × va_E} {l : va_W} : ([1, 3] : List Nat).map (fun i => (a0 :: a1 :: a2 :: a3 :: l : va_W)[i]?) = ([a1, a3] : va_W).map some := rfl
theorem fm_1_3 {a0 a1 a2 a3 : Nat × va_E} {l : va_W} : ([1, 3] : List Nat).filterMap (fun i => (a0 :: a1 :: a2 :: a3 :: l : va_W)[i]?) = ([a1, a3] : va_W) := rfl
theorem nd_1_3 : va_nd [1, 3] = true := by decide
theorem sm_1_2_4 {a0 a1 a2 a3 a4 : Nat × va_E} {l : va_W} : ([1, 2, 4] : List Nat).map (fun i => (a0 :: a1 :: a2 :: a3 :: a4 :: l : va_W)[i]?) = ([a1, a2, a4] : va_W).map some := rfl
theorem fm_1_2_4 {a0 a1 a2 a3 a4 : Nat × va_E} {l : va_W} : ([1, 2, 4] : List Nat).filterMap (fun i => (a0 :: a1 :: a2 :: a3 :: a4 :: l : va_W)[i]?) = ([a1, a2, a4] : va_W) := rfl
theorem nd_1_2_4 : va_nd [1, 2, 4] = true := by decide
theorem sm_0_3 {a0 a1 a2 a3 : Nat × va_E} {l : va_W} : ([0, 3] : List Nat).map (fun i => (a0 :: a1 :: a2 :: a3 :: l : va_W)[i]?) = ([a0, a3] : va_W).map some := rfl
theorem nd_0_3 : va_nd [0, 3] = true := by decide
theorem dj_1_2_4__0_3 : ∀ i ∈ ([0, 3] : List Nat), i ∉ ([1, 2, 4] : List Nat) := by decide
theorem rm_6_2_1 {mc ms : Nat} : 2 + 1 ≤ (RM 6 mc ms).frames ∧ 8 + (1 + 11) + 40 * 2 ≤ (RM 6 mc ms).locals := ⟨by show 2 + 1 ≤ 6; decide, by show 8 + (1 + 11) + 40 * 2 ≤ 40 * 6; decide⟩
theorem sm_1_4 {a0 a1 a2 a3 a4 : Nat × va_E} {l : va_W} : ([1, 4] : List Nat).map (fun i => (a0 :: a1 :: a2 :: a3 :: a4 :: l : va_W)[i]?) = ([a1, a4] : va_W).map some := rfl
theorem fm_1_4 {a0 a1 a2 a3 a4 : Nat × va_E} {l : va_W} : ([1, 4] : List Nat).filterMap (fun i => (a0 :: a1 :: a2 :: a3 :: a4 :: l : va_W)[i]?) = ([a1, a4] : va_W) := rfl
theorem nd_1_4 : va_nd [1, 4] = true := by decide
theorem sm_5_7 {a0 a1 a2 a3 a4 a5 a6 a7 : Nat × va_E} {l : va_W} : ([5, 7] : List Nat).map (fun i => (a0 :: a1 :: a2 :: a3 :: a4 :: a5 :: a6 :: a7 :: l : va_W)[i]?) = ([a5, a7] : va_W).map some := rfl
theorem fm_5_7 {a0 a1 a2 a3 a4 a5 a6 a7 : Nat × va_E} {l : va_W} : ([5, 7] : List Nat).filterMap (fun i => (a0 :: a1 :: a2 :: a3 :: a4 :: a5 :: a6 :: a7 :: l : va_W)[i]?) = ([a5, a7] : va_W) := rfl
theorem nd_5_7 : va_nd [5, 7] = true := by decide
theorem rm_5_3_3 {mc ms : Nat} : 3 + 1 ≤ (RM 5 mc ms).frames ∧ 8 + (3 + 11) + 40 * 3 ≤ (RM 5 mc ms).locals := ⟨by show 3 + 1 ≤ 5; decide, by show 8 + (3 + 11) + 40 * 3 ≤ 40 * 5; decide⟩
theorem sm_5_8 {a0 a1 a2 a3 a4 a5 a6 a7 a8 : Nat × va_E} {l : va_W} : ([5, 8] : List Nat).map (fun i => (a0 :: a1 :: a2 :: a3 :: a4 :: a5 :: a6 :: a7 :: a8 :: l : va_W)[i]?) = ([a5, a8] : va_W).map some := rfl
theorem fm_5_8 {a0 a1 a2 a3 a4 a5 a6 a7 a8 : Nat × va_E} {l : va_W} : ([5, 8] : List Nat).filterMap (fun i => (a0 :: a1 :: a2 :: a3 :: a4 :: a5 :: a6 :: a7 :: a8 :: l : va_W)[i]?) = ([a5, a8] : va_W) := rfl
theorem nd_5_8 : va_nd [5, 8] = true := by decide
theorem sm_1_3_4 {a0 a1 a2 a3 a4 : Nat × va_E} {l : va_W} : ([1, 3, 4] : List Nat).map (fun i => (a0 :: a1 :: a2 :: a3 :: a4 :: l : va_W)[i]?) = ([a1, a3, a4] : va_W).map some := rfl
theorem fm_1_3_4 {a0 a1 a2 a3 a4 : Nat × va_E} {l : va_W} : ([1, 3, 4] : List Nat).filterMap (fun i => (a0 :: a1 :: a2 :: a3 :: a4 :: l : va_W)[i]?) = ([a1, a3, a4] : va_W) := rfl
theorem nd_1_3_4 : va_nd [1, 3, 4] = true := by decide
theorem sm_0_2_5_6_7_8 {a0 a1 a2 a3 a4 a5 a6 a7 a8 : Nat × va_E} {l : va_W} : ([0, 2, 5, 6, 7, 8] : List Nat).map (fun i => (a0 :: a1 :: a2 :: a3 :: a4 :: a5 :: a6 :: a7 :: a8 :: l : va_W)[i]?) = ([a0, a2, a5, a6, a7, a8] : va_W).map some := rfl
theorem nd_0_2_5_6_7_8 : va_nd [0, 2, 5, 6, 7, 8] = true := by decide
theorem dj_1_3_4__0_2_5_6_7_8 : ∀ i ∈ ([0, 2, 5, 6, 7, 8] : List Nat), i ∉ ([1, 3, 4] : List Nat) := by decide
theorem fm_0_6_1_7_8_2_3_4_5 {a0 a1 a2 a3 a4 a5 a6 a7 a8 : Nat × va_E} {l : va_W} : ([0, 6, 1, 7, 8, 2, 3, 4, 5] : List Nat).filterMap (fun i => (a0 :: a1 :: a2 :: a3 :: a4 :: a5 :: a6 :: a7 :: a8 :: l : va_W)[i]?) = ([a0, a6, a1, a7, a8, a2, a3, a4, a5] : va_W) := rfl
theorem nd_0_6_1_7_8_2_3_4_5 : va_nd [0, 6, 1, 7, 8, 2, 3, 4, 5] = true := by decide
theorem sm_0_6_1_7_8_2_3_4_5 {a0 a1 a2 a3 a4 a5 a6 a7 a8 : Nat × va_E} {l : va_W} : ([0, 6, 1, 7, 8, 2, 3, 4, 5] : List Nat).map (fun i => (a0 :: a1 :: a2 :: a3 :: a4 :: a5 :: a6 :: a7 :: a8 :: l : va_W)[i]?) = ([a0, a6, a1, a7, a8, a2, a3, a4, a5] : va_W).map some := rfl
theorem sm_5_6_7 {a0 a1 a2 a3 a4 a5 a6 a7 : Nat × va_E} {l : va_W} : ([5, 6, 7] : List Nat).map (fun i => (a0 :: a1 :: a2 :: a3 :: a4 :: a5 :: a6 :: a7 :: l : va_W)[i]?) = ([a5, a6, a7] : va_W).map some := rfl
theorem fm_5_6_7 {a0 a1 a2 a3 a4 a5 a6 a7 : Nat × va_E} {l : va_W} : ([5, 6, 7] : List Nat).filterMap (fun i => (a0 :: a1 :: a2 :: a3 :: a4 :: a5 :: a6 :: a7 :: l : va_W)[i]?) = ([a5, a6, a7] : va_W) := rfl
theorem nd_5_6_7 : va_nd [5, 6, 7] = true := by decide
theorem sm_0_1_2_3_4_8_9_10 {a0 a1 a2 a3 a4 a5 a6 a7 a8 a9 a10 : Nat × va_E} {l : va_W} : ([0, 1, 2, 3, 4, 8, 9, 10] : List Nat).map (fun i => (a0 :: a1 :: a2 :: a3 :: a4 :: a5 :: a6 :: a7 :: a8 :: a9 :: a10 :: l : va_W)[i]?) = ([a0, a1, a2, a3, a4, a8, a9, a10] : va_W).map some := rfl
theorem nd_0_1_2_3_4_8_9_10 : va_nd [0, 1, 2, 3, 4, 8, 9, 10] = true := by decide
theorem dj_5_6_7__0_1_2_3_4_8_9_10 : ∀ i ∈ ([0, 1, 2, 3, 4, 8, 9, 10] : List Nat), i ∉ ([5, 6, 7] : List Nat) := by decide
theorem rm_5_4_3 {mc ms : Nat} : 4 + 1 ≤ (RM 5 mc ms).frames ∧ 8 + (3 + 11) + 40 * 4 ≤ (RM 5 mc ms).locals := ⟨by show 4 + 1 ≤ 5; decide, by show 8 + (3 + 11) + 40 * 4 ≤ 40 * 5; decide⟩
theorem sm_5_6_7_8_9_10 {a0 a1 a2 a3 a4 a5 a6 a7 a8 a9 a10 : Nat × va_E} {l : va_W} : ([5, 6, 7, 8, 9, 10] : List Nat).map (fun i => (a0 :: a1 :: a2 :: a3 :: a4 :: a5 :: a6 :: a7 :: a8 :: a9 :: a10 :: l : va_W)[i]?) = ([a5, a6, a7, a8, a9, a10] : va_W).map some := rfl
theorem fm_5_6_7_8_9_10 {a0 a1 a2 a3 a4 a5 a6 a7 a8 a9 a10 : Nat × va_E} {l : va_W} : ([5, 6, 7, 8, 9, 10] : List Nat).filterMap (fun i => (a0 :: a1 :: a2 :: a3 :: a4 :: a5 :: a6 :: a7 :: a8 :: a9 :: a10 :: l : va_W)[i]?) = ([a5, a6, a7, a8, a9, a10] : va_W) := rfl
theorem nd_5_6_7_8_9_10 : va_nd [5, 6, 7, 8, 9, 10] = true := by decide
theorem dj_5_6_7_8_9_10__0_1_2_3_4 : ∀ i ∈ ([0, 1, 2, 3, 4] : List Nat), i ∉ ([5, 6, 7, 8, 9, 10] : List Nat) := by decide
theorem rm_10_1_1 {mc ms : Nat} : 1 + 1 ≤ (RM 10 mc ms).frames ∧ 8 + (1 + 11) + 40 * 1 ≤ (RM 10 mc ms).locals := ⟨by show 1 + 1 ≤ 10; decide, by show 8 + (1 + 11) + 40 * 1 ≤ 40 * 10; decide⟩
theorem rm_10_3_6 {mc ms : Nat} : 3 + 1 ≤ (RM 10 mc ms).frames ∧ 8 + (6 + 11) + 40 * 3 ≤ (RM 10 mc ms).locals := ⟨by show 3 + 1 ≤ 10; decide, by show 8 + (6 + 11) + 40 * 3 ≤ 40 * 10; decide⟩
theorem sm_24 {a0 a1 a2 a3 a4 a5 a6 a7 a8 a9 a10 a11 a12 a13 a14 a15 a16 a17 a18 a19 a20 a21 a22 a23 a24 : Nat × va_E} {l : va_W} : ([24] : List Nat).map (fun i => (a0 :: a1 :: a2 :: a3 :: a4 :: a5 :: a6 :: a7 :: a8 :: a9 :: a10 :: a11 :: a12 :: a13 :: a14 :: a15 :: a16 :: a17 :: a18 :: a19 :: a20 :: a21 :: a22 :: a23 :: a24 :: l : va_W)[i]?) = ([a24] : va_W).map some := rfl
theorem fm_24 {a0 a1 a2 a3 a4 a5 a6 a7 a8 a9 a10 a11 a12 a13 a14 a15 a16 a17 a18 a19 a20 a21 a22 a23 a24 : Nat × va_E} {l : va_W} : ([24] : List Nat).filterMap (fun i => (a0 :: a1 :: a2 :: a3 :: a4 :: a5 :: a6 :: a7 :: a8 :: a9 :: a10 :: a11 :: a12 :: a13 :: a14 :: a15 :: a16 :: a17 :: a18 :: a19 :: a20 :: a21 :: a22 :: a23 :: a24 :: l : va_W)[i]?) = ([a24] : va_W) := rfl
theorem nd_24 : va_nd [24] = true := by decide
theorem sm_28 {a0 a1 a2 a3 a4 a5 a6 a7 a8 a9 a10 a11 a12 a13 a14 a15 a16 a17 a18 a19 a20 a21 a22 a23 a24 a25 a26 a27 a28 : Nat × va_E} {l : va_W} : ([28] : List Nat).map (fun i => (a0 :: a1 :: a2 :: a3 :: a4 :: a5 :: a6 :: a7 :: a8 :: a9 :: a10 :: a11 :: a12 :: a13 :: a14 :: a15 :: a16 :: a17 :: a18 :: a19 :: a20 :: a21 :: a22 :: a23 :: a24 :: a25 :: a26 :: a27 :: a28 :: l : va_W)[i]?) = ([a28] : va_W).map some := rfl
theorem fm_28 {a0 a1 a2 a3 a4 a5 a6 a7 a8 a9 a10 a11 a12 a13 a14 a15 a16 a17 a18 a19 a20 a21 a22 a23 a24 a25 a26 a27 a28 : Nat × va_E} {l : va_W} : ([28] : List Nat).filterMap (fun i => (a0 :: a1 :: a2 :: a3 :: a4 :: a5 :: a6 :: a7 :: a8 :: a9 :: a10 :: a11 :: a12 :: a13 :: a14 :: a15 :: a16 :: a17 :: a18 :: a19 :: a20 :: a21 :: a22 :: a23 :: a24 :: a25 :: a26 :: a27 :: a28 :: l : va_W)[i]?) = ([a28] : va_W) := rfl
theorem nd_28 : va_nd [28] = true := by decide
theorem rm_10_4_4 {mc ms : Nat} : 4 + 1 ≤ (RM 10 mc ms).frames ∧ 8 + (4 + 11) + 40 * 4 ≤ (RM 10 mc ms).locals := ⟨by show 4 + 1 ≤ 10; decide, by show 8 + (4 + 11) + 40 * 4 ≤ 40 * 10; decide⟩
theorem sm_13_28_29 {a0 a1 a2 a3 a4 a5 a6 a7 a8 a9 a10 a11 a12 a13 a14 a15 a16 a17 a18 a19 a20 a21 a22 a23 a24 a25 a26 a27 a28 a29 : Nat × va_E} {l : va_W} : ([13, 28, 29] : List Nat).map (fun i => (a0 :: a1 :: a2 :: a3 :: a4 :: a5 :: a6 :: a7 :: a8 :: a9 :: a10 :: a11 :: a12 :: a13 :: a14 :: a15 :: a16 :: a17 :: a18 :: a19 :: a20 :: a21 :: a22 :: a23 :: a24 :: a25 :: a26 :: a27 :: a28 :: a29 :: l : va_W)[i]?) = ([a13, a28, a29] : va_W).map some := rfl
theorem fm_13_28_29 {a0 a1 a2 a3 a4 a5 a6 a7 a8 a9 a10 a11 a12 a13 a14 a15 a16 a17 a18 a19 a20 a21 a22 a23 a24 a25 a26 a27 a28 a29 : Nat × va_E} {l : va_W} : ([13, 28, 29] : List Nat).filterMap (fun i => (a0 :: a1 :: a2 :: a3 :: a4 :: a5 :: a6 :: a7 :: a8 :: a9 :: a10 :: a11 :: a12 :: a13 :: a14 :: a15 :: a16 :: a17 :: a18 :: a19 :: a20 :: a21 :: a22 :: a23 :: a24 :: a25 :: a26 :: a27 :: a28 :: a29 :: l : va_W)[i]?) = ([a13, a28, a29] : va_W) := rfl
theorem nd_13_28_29 : va_nd [13, 28, 29] = true := by decide
theorem rm_10_8_4 {mc ms : Nat} : 8 + 1 ≤ (RM 10 mc ms).frames ∧ 8 + (4 + 11) + 40 * 8 ≤ (RM 10 mc ms).locals := ⟨by show 8 + 1 ≤ 10; decide, by show 8 + (4 + 11) + 40 * 8 ≤ 40 * 10; decide⟩
theorem sm_28_29_30_31_32_33_34_35 {a0 a1 a2 a3 a4 a5 a6 a7 a8 a9 a10 a11 a12 a13 a14 a15 a16 a17 a18 a19 a20 a21 a22 a23 a24 a25 a26 a27 a28 a29 a30 a31 a32 a33 a34 a35 : Nat × va_E} {l : va_W} : ([28, 29, 30, 31, 32, 33, 34, 35] : List Nat).map (fun i => (a0 :: a1 :: a2 :: a3 :: a4 :: a5 :: a6 :: a7 :: a8 :: a9 :: a10 :: a11 :: a12 :: a13 :: a14 :: a15 :: a16 :: a17 :: a18 :: a19 :: a20 :: a21 :: a22 :: a23 :: a24 :: a25 :: a26 :: a27 :: a28 :: a29 :: a30 :: a31 :: a32 :: a33 :: a34 :: a35 :: l : va_W)[i]?) = ([a28, a29, a30, a31, a32, a33, a34, a35] : va_W).map some := rfl
theorem nd_28_29_30_31_32_33_34_35 : va_nd [28, 29, 30, 31, 32, 33, 34, 35] = true := by decide
theorem dj_0_1_2_3_4_5_6_7_8_9_10_11_12_13_14_15_16_17_18_19_20_21_22_23_24_25_26_27__28_29_30_31_32_33_34_35 : ∀ i ∈ ([28, 29, 30, 31, 32, 33, 34, 35] : List Nat), i ∉ ([0, 1, 2, 3, 4, 5, 6, 7, 8, 9, 10, 11, 12, 13, 14, 15, 16, 17, 18, 19, 20, 21, 22, 23, 24, 25, 26, 27] : List Nat) := by decide
theorem sm_30 {a0 a1 a2 a3 a4 a5 a6 a7 a8 a9 a10 a11 a12 a13 a14 a15 a16 a17 a18 a19 a20 a21 a22 a23 a24 a25 a26 a27 a28 a29 a30 : Nat × va_E} {l : va_W} : ([30] : List Nat).map (fun i => (a0 :: a1 :: a2 :: a3 :: a4 :: a5 :: a6 :: a7 :: a8 :: a9 :: a10 :: a11 :: a12 :: a13 :: a14 :: a15 :: a16 :: a17 :: a18 :: a19 :: a20 :: a21 :: a22 :: a23 :: a24 :: a25 :: a26 :: a27 :: a28 :: a29 :: a30 :: l : va_W)[i]?) = ([a30] : va_W).map some := rfl
theorem fm_30 {a0 a1 a2 a3 a4 a5 a6 a7 a8 a9 a10 a11 a12 a13 a14 a15 a16 a17 a18 a19 a20 a21 a22 a23 a24 a25 a26 a27 a28 a29 a30 : Nat × va_E} {l : va_W} : ([30] : List Nat).filterMap (fun i => (a0 :: a1 :: a2 :: a3 :: a4 :: a5 :: a6 :: a7 :: a8 :: a9 :: a10 :: a11 :: a12 :: a13 :: a14 :: a15 :: a16 :: a17 :: a18 :: a19 :: a20 :: a21 :: a22 :: a23 :: a24 :: a25 :: a26 :: a27 :: a28 :: a29 :: a30 :: l : va_W)[i]?) = ([a30] : va_W) := rfl
theorem nd_30 : va_nd [30] = true := by decide
theorem sm_33 {a0 a1 a2 a3 a4 a5 a6 a7 a8 a9 a10 a11 a12 a13 a14 a15 a16 a17 a18 a19 a20 a21 a22 a23 a24 a25 a26 a27 a28 a29 a30 a31 a32 a33 : Nat × va_E} {l : va_W} : ([33] : List Nat).map (fun i => (a0 :: a1 :: a2 :: a3 :: a4 :: a5 :: a6 :: a7 :: a8 :: a9 :: a10 :: a11 :: a12 :: a13 :: a14 :: a15 :: a16 :: a17 :: a18 :: a19 :: a20 :: a21 :: a22 :: a23 :: a24 :: a25 :: a26 :: a27 :: a28 :: a29 :: a30 :: a31 :: a32 :: a33 :: l : va_W)[i]?) = ([a33] : va_W).map some := rfl
theorem fm_33 {a0 a1 a2 a3 a4 a5 a6 a7 a8 a9 a10 a11 a12 a13 a14 a15 a16 a17 a18 a19 a20 a21 a22 a23 a24 a25 a26 a27 a28 a29 a30 a31 a32 a33 : Nat × va_E} {l : va_W} : ([33] : List Nat).filterMap (fun i => (a0 :: a1 :: a2 :: a3 :: a4 :: a5 :: a6 :: a7 :: a8 :: a9 :: a10 :: a11 :: a12 :: a13 :: a14 :: a15 :: a16 :: a17 :: a18 :: a19 :: a20 :: a21 :: a22 :: a23 :: a24 :: a25 :: a26 :: a27 :: a28 :: a29 :: a30 :: a31 :: a32 :: a33 :: l : va_W)[i]?) = ([a33] : va_W) := rfl
theorem nd_33 : va_nd [33] = true := by decide
theorem sm_34 {a0 a1 a2 a3 a4 a5 a6 a7 a8 a9 a10 a11 a12 a13 a14 a15 a16 a17 a18 a19 a20 a21 a22 a23 a24 a25 a26 a27 a28 a29 a30 a31 a32 a33 a34 : Nat × va_E} {l : va_W} : ([34] : List Nat).map (fun i => (a0 :: a1 :: a2 :: a3 :: a4 :: a5 :: a6 :: a7 :: a8 :: a9 :: a10 :: a11 :: a12 :: a13 :: a14 :: a15 :: a16 :: a17 :: a18 :: a19 :: a20 :: a21 :: a22 :: a23 :: a24 :: a25 :: a26 :: a27 :: a28 :: a29 :: a30 :: a31 :: a32 :: a33 :: a34 :: l : va_W)[i]?) = ([a34] : va_W).map some := rfl
theorem fm_34 {a0 a1 a2 a3 a4 a5 a6 a7 a8 a9 a10 a11 a12 a13 a14 a15 a16 a17 a18 a19 a20 a21 a22 a23 a24 a25 a26 a27 a28 a29 a30 a31 a32 a33 a34 : Nat × va_E} {l : va_W} : ([34] : List Nat).filterMap (fun i => (a0 :: a1 :: a2 :: a3 :: a4 :: a5 :: a6 :: a7 :: a8 :: a9 :: a10 :: a11 :: a12 :: a13 :: a14 :: a15 :: a16 :: a17 :: a18 :: a19 :: a20 :: a21 :: a22 :: a23 :: a24 :: a25 :: a26 :: a27 :: a28 :: a29 :: a30 :: a31 :: a32 :: a33 :: a34 :: l : va_W)[i]?) = ([a34] : va_W) := rfl
theorem nd_34 : va_nd [34] = true := by decide
theorem sm_35 {a0 a1 a2 a3 a4 a5 a6 a7 a8 a9 a10 a11 a12 a13 a14 a15 a16 a17 a18 a19 a20 a21 a22 a23 a24 a25 a26 a27 a28 a29 a30 a31 a32 a33 a34 a35 : Nat × va_E} {l : va_W} : ([35] : List Nat).map (fun i => (a0 :: a1 :: a2 :: a3 :: a4 :: a5 :: a6 :: a7 :: a8 :: a9 :: a10 :: a11 :: a12 :: a13 :: a14 :: a15 :: a16 :: a17 :: a18 :: a19 :: a20 :: a21 :: a22 :: a23 :: a24 :: a25 :: a26 :: a27 :: a28 :: a29 :: a30 :: a31 :: a32 :: a33 :: a34 :: a35 :: l : va_W)[i]?) = ([a35] : va_W).map some := rfl
theorem fm_35 {a0 a1 a2 a3 a4 a5 a6 a7 a8 a9 a10 a11 a12 a13 a14 a15 a16 a17 a18 a19 a20 a21 a22 a23 a24 a25 a26 a27 a28 a29 a30 a31 a32 a33 a34 a35 : Nat × va_E} {l : va_W} : ([35] : List Nat).filterMap (fun i => (a0 :: a1 :: a2 :: a3 :: a4 :: a5 :: a6 :: a7 :: a8 :: a9 :: a10 :: a11 :: a12 :: a13 :: a14 :: a15 :: a16 :: a17 :: a18 :: a19 :: a20 :: a21 :: a22 :: a23 :: a24 :: a25 :: a26 :: a27 :: a28 :: a29 :: a30 :: a31 :: a32 :: a33 :: a34 :: a35 :: l : va_W)[i]?) = ([a35] : va_W) := rfl
theorem nd_35 : va_nd [35] = true := by decide
def K_c_T_cut (l : Launch) (G : GG) (h0 : Nat) (n9 : Int32) (R : Nat) (W : Nat) (ca : Nat) (k : Nat) : Prop := MV l G yX8_cut cX8_cut 2 1 0 0 [.ref h0, .int n9] [(h0, oX8 (nI R) (nI W) ca (nI k))] (fun u : Nat => u ≤ k) (fun u : Nat => [(h0, oX8 (nI R) (nI W) ca (nI u))])
set_option maxHeartbeats 4000000 in
set_option maxRecDepth 100000 in
theorem c_T_cut (l : Launch) (G : GG) (h0 : Nat) (n9 : Int32) (R : Nat) (W : Nat) (ca : Nat) (k : Nat) (hk : k < 2 ^ 31) : K_c_T_cut l G h0 n9 R W ca k := by
  refine MV.start (by decide +kernel) (Nat.le_of_ble_eq_true rfl) ?_
  intro p e s m below meth c A ls hC hK hP hD hS hA hl
  refine absQ (fun Q0 hQ0 => ?_)
  have hl : lv_has ls 2 [(0, .ref h0), (1, .int n9)] := hl
  refine Kan8 hC (fun hx hb hr hml hB hown hlocks hnm => ?_)
  refine lv_iload_n hx hb gX8_cut_0.1 rfl (lv_at1 hl) ?_
  refine lv_if_lt (tgt := 17) hx hb gX8_cut_0.2.1 (by decide) (fun c_1_3473 => ?_) (fun c_1_3473 => ?_)
  · refine toQ hQ0 ?_
    exact RV hC hP hD hS [0] k rfl rfl (by decide) (by omega) gX8_cut_0.2.2.2.2.2.2.2.2.2
  · refine lv_iload_n hx hb gX8_cut_0.2.2.1 rfl (lv_at1 hl) ?_
    refine lv_aload_n hx hb gX8_cut_0.2.2.2.1 rfl (lv_at0 hl) ?_
    refine gf_X8_28 hC rfl hK hP 0 rfl rfl gX8_cut_0.2.2.2.2.1 ?_
    refine lv_icmp_ge (tgt := 17) hx hb gX8_cut_0.2.2.2.2.2.1 (by decide) (fun c_9_3474 => ?_) (fun c_9_3474 => ?_)
    · refine toQ hQ0 ?_
      exact RV hC hP hD hS [0] k rfl rfl (by decide) (by omega) gX8_cut_0.2.2.2.2.2.2.2.2.2
    · obtain ⟨jn, hjn, rfl⟩ := ltN (N := k) (by omega) c_1_3473 c_9_3474
      refine lv_aload_n hx hb gX8_cut_0.2.2.2.2.2.2.1 rfl (lv_at0 hl) ?_
      refine lv_iload_n hx hb gX8_cut_0.2.2.2.2.2.2.2.1 rfl (lv_at1 hl) ?_
      refine pf_X8_28 hC rfl hK hP hD hS 0 (ws' := [(h0, oX8 (nI R) (nI W) ca (nI jn))]) rfl (Nat.le_of_ble_eq_true rfl) rfl rfl rfl gX8_cut_0.2.2.2.2.2.2.2.2.1 (fun H locs hP hD hS => ?_)
      refine toQ hQ0 ?_
      exact RV hC hP hD hS [0] jn rfl rfl (by decide) (by omega) gX8_cut_0.2.2.2.2.2.2.2.2.2
def K_p_round (l : Launch) (G : GG) (h0 : Nat) (x1 : Int32) (bb : Nat) (kk : Nat) (ikp : Int32) (sg : Nat) (do9 : Nat) (ru9 : Nat) (ta9 : Nat) (tp9 : Nat) (ro9 : Nat) (ho9 : Nat) (de9 : Nat) (bpersons : Nat) (bpapers : Nat) (bstamps : Nat) (bversions : Nat) (blines : Nat) (bsteps : Nat) (bsayings : Nat) (bfindings : Nat) (bwarnings : Nat) (bquestions : Nat) (td : Int32) (vd : Int32) (vl : Int32) (gp : Int32) (rr : Nat) (tc : Nat) (asd : Int32) (st9 : Int32) (tol : Int32) (rrc : Nat) (kr : Nat) (frr : Nat → Int32) (ftc : Nat → Int32) (bquestionsc : Nat) (kbquestions : Nat) (fbquestions : Nat → Int32) : Prop := MI l G yX11_round cX11_round 2 (some .int) 10 0 0 [.ref h0, .int x1] [(h0, oX11 bb kk ikp sg do9 ru9 ta9 tp9 ro9 ho9 de9), (bb, oX0 bpersons bpapers bstamps bversions blines bsteps bsayings bfindings bwarnings bquestions td vd vl gp), (ro9, oX5 bb rr tc asd st9 tol), (rr, oX8 7 2 rrc (nI kr)), (rrc, iA G 14 frr), (tc, iA G 128 ftc), (bquestions, oX8 7 2 bquestionsc (nI kbquestions)), (bquestionsc, iA G 14 fbquestions)] (fun (r : Int32) (u : Int32 × Int32 × Int32 × Nat × (Nat → Int32) × (Nat → Int32)) => (True) ∧ (u.2.2.2.1 ≤ 7 ∧ (u.2.2.1 = 0 ∨ u.2.2.1 = 1))) (fun u : Int32 × Int32 × Int32 × Nat × (Nat → Int32) × (Nat → Int32) => [(h0, oX11 bb kk ikp sg do9 ru9 ta9 tp9 ro9 ho9 de9), (bb, oX0 bpersons bpapers bstamps bversions blines bsteps bsayings bfindings bwarnings bquestions td vd vl gp), (ro9, oX5 bb rr tc u.1 u.2.1 u.2.2.1), (rr, oX8 7 2 rrc (nI u.2.2.2.1)), (rrc, iA G 14 u.2.2.2.2.1), (tc, iA G 128 u.2.2.2.2.2), (bquestions, oX8 7 2 bquestionsc (nI kbquestions)), (bquestionsc, iA G 14 fbquestions)])
set_option maxHeartbeats 4000000 in
set_option maxRecDepth 100000 in
theorem p_round (l : Launch) (G : GG) (h0 : Nat) (x1 : Int32) (bb : Nat) (kk : Nat) (ikp : Int32) (sg : Nat) (do9 : Nat) (ru9 : Nat) (ta9 : Nat) (tp9 : Nat) (ro9 : Nat) (ho9 : Nat) (de9 : Nat) (bpersons : Nat) (bpapers : Nat) (bstamps : Nat) (bversions : Nat) (blines : Nat) (bsteps : Nat) (bsayings : Nat) (bfindings : Nat) (bwarnings : Nat) (bquestions : Nat) (td : Int32) (vd : Int32) (vl : Int32) (gp : Int32) (rr : Nat) (tc : Nat) (asd : Int32) (st9 : Int32) (tol : Int32) (rrc : Nat) (kr : Nat) (frr : Nat → Int32) (ftc : Nat → Int32) (bquestionsc : Nat) (kbquestions : Nat) (fbquestions : Nat → Int32) (hkbquestions : kbquestions ≤ 7) (hkr : kr ≤ 7) (htol : tol = 0 ∨ tol = 1) : K_p_round l G h0 x1 bb kk ikp sg do9 ru9 ta9 tp9 ro9 ho9 de9 bpersons bpapers bstamps bversions blines bsteps bsayings bfindings bwarnings bquestions td vd vl gp rr tc asd st9 tol rrc kr frr ftc bquestionsc kbquestions fbquestions := by
  refine MI.start (by decide +kernel) (Nat.le_of_ble_eq_true rfl) ?_
  intro p e s m below meth c A ls hC hK hP hD hS hA hl
  refine absQ (fun Q0 hQ0 => ?_)
  have hl : lv_has ls 2 [(0, .ref h0), (1, .int x1)] := hl
  refine Kan8 hC (fun hx hb hr hml hB hown hlocks hnm => ?_)
  refine lv_aload_n hx hb gX11_round_0.1 rfl (lv_at0 hl) ?_
  refine gf_X11_15 hC rfl hK hP 0 rfl rfl gX11_round_0.2.1 ?_
  refine gf_X11_286 hC rfl hK hP 1 rfl rfl gX11_round_0.2.2.1 ?_
  refine lv_iload_n hx hb gX11_round_0.2.2.2.1 rfl (lv_at1 hl) ?_
  refine pV hC hK hl hP hD (c_T_hasAll l G bquestions x1 7 2 bquestionsc kbquestions (by omega)) si_X11_141 [6] sm_6 fm_6 nd_6 rfl rfl rfl rfl rfl (Nat.le_of_ble_eq_true rfl) rm_10_1_2 ⟨by first | exact Nat.le_of_ble_eq_true rfl | exact Nat.zero_le _, by first | exact Nat.le_of_ble_eq_true rfl | exact Nat.zero_le _⟩ gX11_round_0.2.2.2.2.1 (Kors (Keqa fun a3476 => ?_) (Keqa fun a3476 => ?_))
  · refine lv_if_ne (tgt := 16) hx hb gX11_round_0.2.2.2.2.2.1 (by decide) (fun _ => ?_) (fun c9 => absurd c9 (by decide))
    refine lv_iload_n hx hb gX11_round_0.2.2.2.2.2.2.2.2.1 rfl (lv_at1 hl) ?_
    refine lv_if_ne (tgt := 23) hx hb gX11_round_0.2.2.2.2.2.2.2.2.2 (by decide) (fun c_17_3477 => ?_) (fun c_17_3477 => ?_)
    · refine lv_aload_n hx hb gX11_round_1.2.2.1 rfl (lv_at0 hl) ?_
      refine gf_X11_65 hC rfl hK hP 0 rfl rfl gX11_round_1.2.2.2.1 ?_
      refine lv_iload_n hx hb gX11_round_1.2.2.2.2.1 rfl (lv_at1 hl) ?_
      refine iV (wr := [(h0, oX11 bb kk ikp sg do9 ru9 ta9 tp9 ro9 ho9 de9)]) hC hK hl hP hD hS hA (c_order l G ro9 x1 bb rr tc asd st9 tol rrc kr frr ftc bpersons bpapers bstamps bversions blines bsteps bsayings bfindings bwarnings bquestions td vd vl gp bquestionsc kbquestions fbquestions (hkr) (hkbquestions)) si_X11_289 [2, 3, 4, 5, 1, 6, 7] [0] sm_2_3_4_5_1_6_7 fm_2_3_4_5_1_6_7 nd_2_3_4_5_1_6_7 sm_0 nd_0 dj_2_3_4_5_1_6_7__0 rfl rfl rfl rfl rfl (Nat.le_of_ble_eq_true rfl) rm_10_8_3 ⟨Nat.le_of_ble_eq_true rfl, Nat.le_of_ble_eq_true rfl⟩ gX11_round_1.2.2.2.2.2.1 (fun r3478 => Ktu4 fun ja93480 nr3481 grr3482 gtc3483 => ?_)
      intro H locs hr3478 hP hD hS
      try dsimp only at hr3478
      refine Kpdr (ws := [(h0, oX11 bb kk ikp sg do9 ru9 ta9 tp9 ro9 ho9 de9), (ro9, oX5 bb rr tc (nI ja93480) td 1), (rr, oX8 7 2 rrc (nI nr3481)), (rrc, iA G 14 grr3482), (tc, iA G 128 gtc3483), (bb, oX0 bpersons bpapers bstamps bversions blines bsteps bsayings bfindings bwarnings bquestions td vd vl gp), (bquestions, oX8 7 2 bquestionsc (nI kbquestions)), (bquestionsc, iA G 14 fbquestions)]) hP hD (fun hP hD => ?_)
      obtain ⟨hr3478, w3484⟩ := hr3478
      refine toQ hQ0 ?_
      exact RI (v := r3478) hC hP hD hS [0, 5, 1, 2, 3, 4, 6, 7] (nI ja93480, td, 1, nr3481, grr3482, gtc3483) rfl rfl (by decide) (⟨trivial, by dsimp only; refine ⟨by omega, ?_⟩; first | assumption | exact Or.inr rfl⟩) rfl gX11_round_1.2.2.2.2.2.2
    · refine lv_bipush (v := (-3)) hx hb gX11_round_1.1 (by decide) ?_
      refine toQ hQ0 ?_
      exact RI (v := (-3)) hC hP hD hS [0, 1, 2, 3, 4, 5, 6, 7] (asd, st9, tol, kr, frr, ftc) rfl rfl (by decide) (⟨trivial, by dsimp only; refine ⟨by omega, ?_⟩; first | assumption | exact Or.inr rfl⟩) rfl gX11_round_1.2.1
  · refine lv_if_ne (tgt := 16) hx hb gX11_round_0.2.2.2.2.2.1 (by decide) (fun c9 => absurd (by decide) c9) (fun _ => ?_)
    refine lv_iconst (v := (-1)) hx hb gX11_round_0.2.2.2.2.2.2.1 (by decide) ?_
    refine toQ hQ0 ?_
    exact RI (v := (-1)) hC hP hD hS [0, 1, 2, 3, 4, 5, 6, 7] (asd, st9, tol, kr, frr, ftc) rfl rfl (by decide) (⟨trivial, by dsimp only; refine ⟨by omega, ?_⟩; first | assumption | exact Or.inr rfl⟩) rfl gX11_round_0.2.2.2.2.2.2.2.1
def K_p_row (l : Launch) (G : GG) (h0 : Nat) (x1 : Int32) (x2 : Int32) (bb : Nat) (kk : Nat) (ikp : Int32) (sg : Nat) (do9 : Nat) (ru9 : Nat) (ta9 : Nat) (tp9 : Nat) (ro9 : Nat) (ho9 : Nat) (de9 : Nat) (rr : Nat) (tc : Nat) (asd : Int32) (st9 : Int32) (tol : Int32) (rrc : Nat) (kr : Nat) (frr : Nat → Int32) : Prop := MP l G yX11_row cX11_row 3 (some .int) 4 [.ref h0, .int x1, .int x2] [(h0, oX11 bb kk ikp sg do9 ru9 ta9 tp9 ro9 ho9 de9), (ro9, oX5 bb rr tc asd st9 tol), (rr, oX8 7 2 rrc (nI kr)), (rrc, iA G 14 frr)] (fun r : Int32 => True)
set_option maxHeartbeats 4000000 in
set_option maxRecDepth 100000 in
theorem p_row (l : Launch) (G : GG) (h0 : Nat) (x1 : Int32) (x2 : Int32) (bb : Nat) (kk : Nat) (ikp : Int32) (sg : Nat) (do9 : Nat) (ru9 : Nat) (ta9 : Nat) (tp9 : Nat) (ro9 : Nat) (ho9 : Nat) (de9 : Nat) (rr : Nat) (tc : Nat) (asd : Int32) (st9 : Int32) (tol : Int32) (rrc : Nat) (kr : Nat) (frr : Nat → Int32) (hkr : kr ≤ 7) : K_p_row l G h0 x1 x2 bb kk ikp sg do9 ru9 ta9 tp9 ro9 ho9 de9 rr tc asd st9 tol rrc kr frr := by
  refine MP.start (by decide +kernel) (Nat.le_of_ble_eq_true rfl) ?_
  intro p e s m below meth c ls hC hK hP hD hl
  refine absQ (fun Q0 hQ0 => ?_)
  have hl : lv_has ls 3 [(0, .ref h0), (1, .int x1), (2, .int x2)] := hl
  refine Kan8 hC (fun hx hb hr hml hB hown hlocks hnm => ?_)
  refine lv_aload_n hx hb gX11_row_0.1 rfl (lv_at0 hl) ?_
  refine gf_X11_65 hC rfl hK hP 0 rfl rfl gX11_row_0.2.1 ?_
  refine gf_X11_292 hC rfl hK hP 1 rfl rfl gX11_row_0.2.2.1 ?_
  refine lv_iload_n hx hb gX11_row_0.2.2.2.1 rfl (lv_at1 hl) ?_
  refine pV hC hK hl hP hD (c_T_has l G rr x1 7 2 rrc kr) si_X11_124 [2] sm_2 fm_2 nd_2 rfl rfl rfl rfl rfl (Nat.le_of_ble_eq_true rfl) rm_4_1_2 ⟨by first | exact Nat.le_of_ble_eq_true rfl | exact Nat.zero_le _, by first | exact Nat.le_of_ble_eq_true rfl | exact Nat.zero_le _⟩ gX11_row_0.2.2.2.2.1 (Kors (Keqa fun a3486 => ?_) (Keqa fun a3486 => ?_))
  · refine lv_if_eq (tgt := 23) hx hb gX11_row_0.2.2.2.2.2.1 (by decide) (fun c9 => absurd c9 (by decide)) (fun _ => ?_)
    refine lv_iload_n hx hb gX11_row_0.2.2.2.2.2.2.1 rfl (lv_at2 hl) ?_
    refine lv_iconst (v := 0) hx hb gX11_row_0.2.2.2.2.2.2.2.1 (by decide) ?_
    refine lv_iconst (v := 1) hx hb gX11_row_0.2.2.2.2.2.2.2.2.1 (by decide) ?_
    refine pS hC hK hl (c_within l G x2 0 1) si_X11_83 rfl rfl (Nat.le_of_ble_eq_true rfl) rm_4_1_3 ⟨by first | exact Nat.le_of_ble_eq_true rfl | exact Nat.zero_le _, by first | exact Nat.le_of_ble_eq_true rfl | exact Nat.zero_le _⟩ gX11_row_0.2.2.2.2.2.2.2.2.2 (Kors (Keqa fun a3488 => ?_) (Keqa fun a3488 => ?_))
    · refine lv_if_ne (tgt := 26) hx hb gX11_row_1.1 (by decide) (fun _ => ?_) (fun c9 => absurd c9 (by decide))
      refine lv_aload_n hx hb gX11_row_1.2.2.2.1 rfl (lv_at0 hl) ?_
      refine gf_X11_65 hC rfl hK hP 0 rfl rfl gX11_row_1.2.2.2.2.1 ?_
      refine gf_X11_292 hC rfl hK hP 1 rfl rfl gX11_row_1.2.2.2.2.2.1 ?_
      refine lv_iload_n hx hb gX11_row_1.2.2.2.2.2.2.1 rfl (lv_at1 hl) ?_
      refine lv_iload_n hx hb gX11_row_1.2.2.2.2.2.2.2.1 rfl (lv_at2 hl) ?_
      refine pV hC hK hl hP hD (c_T_at l G rr x1 x2 7 2 rrc kr frr (hkr) (by omega) (by omega)) si_X11_128 [2, 3] sm_2_3 fm_2_3 nd_2_3 rfl rfl rfl rfl rfl (Nat.le_of_ble_eq_true rfl) rm_4_1_3 ⟨by first | exact Nat.le_of_ble_eq_true rfl | exact Nat.zero_le _, by first | exact Nat.le_of_ble_eq_true rfl | exact Nat.zero_le _⟩ gX11_row_1.2.2.2.2.2.2.2.2.1 (fun r3489 hr3489 => ?_)
      refine toQ hQ0 ?_
      exact RP (v := r3489) hC (trivial) rfl gX11_row_1.2.2.2.2.2.2.2.2.2
    · refine lv_if_ne (tgt := 26) hx hb gX11_row_1.1 (by decide) (fun c9 => absurd (by decide) c9) (fun _ => ?_)
      refine lv_bipush (v := (-9)) hx hb gX11_row_1.2.1 (by decide) ?_
      refine toQ hQ0 ?_
      exact RP (v := (-9)) hC (trivial) rfl gX11_row_1.2.2.1
  · refine lv_if_eq (tgt := 23) hx hb gX11_row_0.2.2.2.2.2.1 (by decide) (fun _ => ?_) (fun c9 => absurd (by decide) c9)
    refine lv_bipush (v := (-9)) hx hb gX11_row_1.2.1 (by decide) ?_
    refine toQ hQ0 ?_
    exact RP (v := (-9)) hC (trivial) rfl gX11_row_1.2.2.1
def K_p_alterRow (l : Launch) (G : GG) (h0 : Nat) (x1 : Int32) (x2 : Int32) (x3 : Int32) (bb : Nat) (kk : Nat) (ikp : Int32) (sg : Nat) (do9 : Nat) (ru9 : Nat) (ta9 : Nat) (tp9 : Nat) (ro9 : Nat) (ho9 : Nat) (de9 : Nat) (rr : Nat) (tc : Nat) (asd : Int32) (st9 : Int32) (tol : Int32) (rrc : Nat) (kr : Nat) (frr : Nat → Int32) : Prop := MI l G yX11_alterRow cX11_alterRow 5 (some .int) 4 0 0 [.ref h0, .int x1, .int x2, .int x3] [(h0, oX11 bb kk ikp sg do9 ru9 ta9 tp9 ro9 ho9 de9), (ro9, oX5 bb rr tc asd st9 tol), (rr, oX8 7 2 rrc (nI kr)), (rrc, iA G 14 frr)] (fun (r : Int32) (u : (Nat → Int32)) => (True)) (fun u : (Nat → Int32) => [(h0, oX11 bb kk ikp sg do9 ru9 ta9 tp9 ro9 ho9 de9), (ro9, oX5 bb rr tc asd st9 tol), (rr, oX8 7 2 rrc (nI kr)), (rrc, iA G 14 u)])
set_option maxHeartbeats 4000000 in
set_option maxRecDepth 100000 in
theorem p_alterRow (l : Launch) (G : GG) (h0 : Nat) (x1 : Int32) (x2 : Int32) (x3 : Int32) (bb : Nat) (kk : Nat) (ikp : Int32) (sg : Nat) (do9 : Nat) (ru9 : Nat) (ta9 : Nat) (tp9 : Nat) (ro9 : Nat) (ho9 : Nat) (de9 : Nat) (rr : Nat) (tc : Nat) (asd : Int32) (st9 : Int32) (tol : Int32) (rrc : Nat) (kr : Nat) (frr : Nat → Int32) (hkr : kr ≤ 7) : K_p_alterRow l G h0 x1 x2 x3 bb kk ikp sg do9 ru9 ta9 tp9 ro9 ho9 de9 rr tc asd st9 tol rrc kr frr := by
  refine MI.start (by decide +kernel) (Nat.le_of_ble_eq_true rfl) ?_
  intro p e s m below meth c A ls hC hK hP hD hS hA hl
  refine absQ (fun Q0 hQ0 => ?_)
  have hl : lv_has ls 5 [(0, .ref h0), (1, .int x1), (2, .int x2), (3, .int x3)] := hl
  refine Kan8 hC (fun hx hb hr hml hB hown hlocks hnm => ?_)
  refine lv_aload_n hx hb gX11_alterRow_0.1 rfl (lv_at0 hl) ?_
  refine gf_X11_65 hC rfl hK hP 0 rfl rfl gX11_alterRow_0.2.1 ?_
  refine gf_X11_292 hC rfl hK hP 1 rfl rfl gX11_alterRow_0.2.2.1 ?_
  refine lv_iload_n hx hb gX11_alterRow_0.2.2.2.1 rfl (lv_at1 hl) ?_
  refine pV hC hK hl hP hD (c_T_has l G rr x1 7 2 rrc kr) si_X11_124 [2] sm_2 fm_2 nd_2 rfl rfl rfl rfl rfl (Nat.le_of_ble_eq_true rfl) rm_4_1_2 ⟨by first | exact Nat.le_of_ble_eq_true rfl | exact Nat.zero_le _, by first | exact Nat.le_of_ble_eq_true rfl | exact Nat.zero_le _⟩ gX11_alterRow_0.2.2.2.2.1 (Kors (Keqa fun a3492 => ?_) (Keqa fun a3492 => ?_))
  · refine lv_if_eq (tgt := 23) hx hb gX11_alterRow_0.2.2.2.2.2.1 (by decide) (fun c9 => absurd c9 (by decide)) (fun _ => ?_)
    refine lv_iload_n hx hb gX11_alterRow_0.2.2.2.2.2.2.1 rfl (lv_at2 hl) ?_
    refine lv_iconst (v := 0) hx hb gX11_alterRow_0.2.2.2.2.2.2.2.1 (by decide) ?_
    refine lv_iconst (v := 1) hx hb gX11_alterRow_0.2.2.2.2.2.2.2.2.1 (by decide) ?_
    refine pS hC hK hl (c_within l G x2 0 1) si_X11_83 rfl rfl (Nat.le_of_ble_eq_true rfl) rm_4_1_3 ⟨by first | exact Nat.le_of_ble_eq_true rfl | exact Nat.zero_le _, by first | exact Nat.le_of_ble_eq_true rfl | exact Nat.zero_le _⟩ gX11_alterRow_0.2.2.2.2.2.2.2.2.2 (Kors (Keqa fun a3494 => ?_) (Keqa fun a3494 => ?_))
    · refine lv_if_ne (tgt := 26) hx hb gX11_alterRow_1.1 (by decide) (fun _ => ?_) (fun c9 => absurd c9 (by decide))
      refine lv_aload_n hx hb gX11_alterRow_1.2.2.2.1 rfl (lv_at0 hl) ?_
      refine gf_X11_65 hC rfl hK hP 0 rfl rfl gX11_alterRow_1.2.2.2.2.1 ?_
      refine gf_X11_292 hC rfl hK hP 1 rfl rfl gX11_alterRow_1.2.2.2.2.2.1 ?_
      refine lv_iload_n hx hb gX11_alterRow_1.2.2.2.2.2.2.1 rfl (lv_at1 hl) ?_
      refine lv_iload_n hx hb gX11_alterRow_1.2.2.2.2.2.2.2.1 rfl (lv_at2 hl) ?_
      refine pV hC hK hl hP hD (c_T_at l G rr x1 x2 7 2 rrc kr frr (hkr) (by omega) (by omega)) si_X11_128 [2, 3] sm_2_3 fm_2_3 nd_2_3 rfl rfl rfl rfl rfl (Nat.le_of_ble_eq_true rfl) rm_4_1_3 ⟨by first | exact Nat.le_of_ble_eq_true rfl | exact Nat.zero_le _, by first | exact Nat.le_of_ble_eq_true rfl | exact Nat.zero_le _⟩ gX11_alterRow_1.2.2.2.2.2.2.2.2.1 (fun r3495 hr3495 => ?_)
      refine lv_istore (lv' := [(4, .int r3495), (0, .ref h0), (1, .int x1), (2, .int x2), (3, .int x3)]) hx hb gX11_alterRow_1.2.2.2.2.2.2.2.2.2 hl (by decide) rfl (fun ls hl => ?_)
      refine lv_aload_n hx hb gX11_alterRow_2.1 rfl (lv_at1 hl) ?_
      refine gf_X11_65 hC rfl hK hP 0 rfl rfl gX11_alterRow_2.2.1 ?_
      refine gf_X11_292 hC rfl hK hP 1 rfl rfl gX11_alterRow_2.2.2.1 ?_
      refine lv_iload_n hx hb gX11_alterRow_2.2.2.2.1 rfl (lv_at2 hl) ?_
      refine lv_iload_n hx hb gX11_alterRow_2.2.2.2.2.1 rfl (lv_at3 hl) ?_
      refine lv_iload_n hx hb gX11_alterRow_2.2.2.2.2.2.1 rfl (lv_at4 hl) ?_
      refine vV (wr := [(h0, oX11 bb kk ikp sg do9 ru9 ta9 tp9 ro9 ho9 de9), (ro9, oX5 bb rr tc asd st9 tol)]) hC hK hl hP hD hS hA (c_T_set l G rr x1 x2 x3 7 2 rrc kr frr (hkr) (by omega) (by omega)) si_X11_120 [2, 3] [0, 1] sm_2_3 fm_2_3 nd_2_3 sm_0_1 nd_0_1 dj_2_3__0_1 rfl rfl rfl rfl rfl (Nat.le_of_ble_eq_true rfl) rm_4_1_4 ⟨Nat.le_of_ble_eq_true rfl, Nat.le_of_ble_eq_true rfl⟩ gX11_alterRow_2.2.2.2.2.2.2.1 (fun f13499 H locs hr3497 hP hD hS => ?_)
      try dsimp only at hr3497
      refine Kpdr (ws := [(h0, oX11 bb kk ikp sg do9 ru9 ta9 tp9 ro9 ho9 de9), (ro9, oX5 bb rr tc asd st9 tol), (rr, oX8 7 2 rrc (nI kr)), (rrc, iA G 14 f13499)]) hP hD (fun hP hD => ?_)
      have w3500 := hr3497
      refine lv_iload hx hb gX11_alterRow_2.2.2.2.2.2.2.2.1 (lv_at0 hl) ?_
      refine toQ hQ0 ?_
      exact RI (v := r3495) hC hP hD hS [0, 1, 2, 3] f13499 rfl rfl (by decide) (trivial) rfl gX11_alterRow_2.2.2.2.2.2.2.2.2
    · refine lv_if_ne (tgt := 26) hx hb gX11_alterRow_1.1 (by decide) (fun c9 => absurd (by decide) c9) (fun _ => ?_)
      refine lv_bipush (v := (-9)) hx hb gX11_alterRow_1.2.1 (by decide) ?_
      refine toQ hQ0 ?_
      exact RI (v := (-9)) hC hP hD hS [0, 1, 2, 3] frr rfl rfl (by decide) (trivial) rfl gX11_alterRow_1.2.2.1
  · refine lv_if_eq (tgt := 23) hx hb gX11_alterRow_0.2.2.2.2.2.1 (by decide) (fun _ => ?_) (fun c9 => absurd (by decide) c9)
    refine lv_bipush (v := (-9)) hx hb gX11_alterRow_1.2.1 (by decide) ?_
    refine toQ hQ0 ?_
    exact RI (v := (-9)) hC hP hD hS [0, 1, 2, 3] frr rfl rfl (by decide) (trivial) rfl gX11_alterRow_1.2.2.1
def K_p_dropRow (l : Launch) (G : GG) (h0 : Nat) (bb : Nat) (kk : Nat) (ikp : Int32) (sg : Nat) (do9 : Nat) (ru9 : Nat) (ta9 : Nat) (tp9 : Nat) (ro9 : Nat) (ho9 : Nat) (de9 : Nat) (rr : Nat) (tc : Nat) (asd : Int32) (st9 : Int32) (tol : Int32) (rrc : Nat) (kr : Nat) : Prop := MI l G yX11_dropRow cX11_dropRow 1 (some .int) 4 0 0 [.ref h0] [(h0, oX11 bb kk ikp sg do9 ru9 ta9 tp9 ro9 ho9 de9), (ro9, oX5 bb rr tc asd st9 tol), (rr, oX8 7 2 rrc (nI kr))] (fun (r : Int32) (u : Nat) => (True) ∧ (u ≤ 7)) (fun u : Nat => [(h0, oX11 bb kk ikp sg do9 ru9 ta9 tp9 ro9 ho9 de9), (ro9, oX5 bb rr tc asd st9 tol), (rr, oX8 7 2 rrc (nI u))])
set_option maxHeartbeats 4000000 in
set_option maxRecDepth 100000 in
theorem p_dropRow (l : Launch) (G : GG) (h0 : Nat) (bb : Nat) (kk : Nat) (ikp : Int32) (sg : Nat) (do9 : Nat) (ru9 : Nat) (ta9 : Nat) (tp9 : Nat) (ro9 : Nat) (ho9 : Nat) (de9 : Nat) (rr : Nat) (tc : Nat) (asd : Int32) (st9 : Int32) (tol : Int32) (rrc : Nat) (kr : Nat) (hkr : kr ≤ 7) : K_p_dropRow l G h0 bb kk ikp sg do9 ru9 ta9 tp9 ro9 ho9 de9 rr tc asd st9 tol rrc kr := by
  refine MI.start (by decide +kernel) (Nat.le_of_ble_eq_true rfl) ?_
  intro p e s m below meth c A ls hC hK hP hD hS hA hl
  refine absQ (fun Q0 hQ0 => ?_)
  have hl : lv_has ls 1 [(0, .ref h0)] := hl
  refine Kan8 hC (fun hx hb hr hml hB hown hlocks hnm => ?_)
  refine lv_aload_n hx hb gX11_dropRow_0.1 rfl (lv_at0 hl) ?_
  refine gf_X11_65 hC rfl hK hP 0 rfl rfl gX11_dropRow_0.2.1 ?_
  refine gf_X11_292 hC rfl hK hP 1 rfl rfl gX11_dropRow_0.2.2.1 ?_
  refine pV hC hK hl hP hD (c_T_count l G rr 7 2 rrc kr) si_X11_174 [2] sm_2 fm_2 nd_2 rfl rfl rfl rfl rfl (Nat.le_of_ble_eq_true rfl) rm_4_1_1 ⟨by first | exact Nat.le_of_ble_eq_true rfl | exact Nat.zero_le _, by first | exact Nat.le_of_ble_eq_true rfl | exact Nat.zero_le _⟩ gX11_dropRow_0.2.2.2.1 (Keqr ?_)
  refine lv_if_ne (tgt := 16) hx hb gX11_dropRow_0.2.2.2.2.1 (by decide) (fun c_10_3503 => ?_) (fun c_10_3503 => ?_)
  · refine lv_aload_n hx hb gX11_dropRow_0.2.2.2.2.2.2.2.1 rfl (lv_at0 hl) ?_
    refine gf_X11_65 hC rfl hK hP 0 rfl rfl gX11_dropRow_0.2.2.2.2.2.2.2.2.1 ?_
    refine gf_X11_292 hC rfl hK hP 1 rfl rfl gX11_dropRow_0.2.2.2.2.2.2.2.2.2 ?_
    refine lv_aload_n hx hb gX11_dropRow_1.1 rfl (lv_at0 hl) ?_
    refine gf_X11_65 hC rfl hK hP 0 rfl rfl gX11_dropRow_1.2.1 ?_
    refine gf_X11_292 hC rfl hK hP 1 rfl rfl gX11_dropRow_1.2.2.1 ?_
    refine pV hC hK hl hP hD (c_T_count l G rr 7 2 rrc kr) si_X11_174 [2] sm_2 fm_2 nd_2 rfl rfl rfl rfl rfl (Nat.le_of_ble_eq_true rfl) rm_4_1_1 ⟨by first | exact Nat.le_of_ble_eq_true rfl | exact Nat.zero_le _, by first | exact Nat.le_of_ble_eq_true rfl | exact Nat.zero_le _⟩ gX11_dropRow_1.2.2.2.1 (Keqr ?_)
    refine lv_iconst (v := 1) hx hb gX11_dropRow_1.2.2.2.2.1 (by decide) ?_
    refine lv_isub hx hb gX11_dropRow_1.2.2.2.2.2.1 ?_
    refine vV (wr := [(h0, oX11 bb kk ikp sg do9 ru9 ta9 tp9 ro9 ho9 de9), (ro9, oX5 bb rr tc asd st9 tol)]) hC hK hl hP hD hS hA (c_T_cut l G rr ((nI kr) - 1) 7 2 rrc kr (by omega)) si_X11_295 [2] [0, 1] sm_2 fm_2 nd_2 sm_0_1 nd_0_1 dj_2__0_1 rfl rfl rfl rfl rfl (Nat.le_of_ble_eq_true rfl) rm_4_1_2 ⟨Nat.le_of_ble_eq_true rfl, Nat.le_of_ble_eq_true rfl⟩ gX11_dropRow_1.2.2.2.2.2.2.1 (fun k13508 H locs hr3506 hP hD hS => ?_)
    try dsimp only at hr3506
    refine Kpdr (ws := [(h0, oX11 bb kk ikp sg do9 ru9 ta9 tp9 ro9 ho9 de9), (ro9, oX5 bb rr tc asd st9 tol), (rr, oX8 7 2 rrc (nI k13508))]) hP hD (fun hP hD => ?_)
    have w3509 := hr3506
    refine lv_aload_n hx hb gX11_dropRow_1.2.2.2.2.2.2.2.1 rfl (lv_at0 hl) ?_
    refine gf_X11_65 hC rfl hK hP 0 rfl rfl gX11_dropRow_1.2.2.2.2.2.2.2.2.1 ?_
    refine gf_X11_292 hC rfl hK hP 1 rfl rfl gX11_dropRow_1.2.2.2.2.2.2.2.2.2 ?_
    refine pV hC hK hl hP hD (c_T_count l G rr 7 2 rrc k13508) si_X11_174 [2] sm_2 fm_2 nd_2 rfl rfl rfl rfl rfl (Nat.le_of_ble_eq_true rfl) rm_4_1_1 ⟨by first | exact Nat.le_of_ble_eq_true rfl | exact Nat.zero_le _, by first | exact Nat.le_of_ble_eq_true rfl | exact Nat.zero_le _⟩ gX11_dropRow_2.1 (Keqr ?_)
    refine toQ hQ0 ?_
    exact RI (v := nI k13508) hC hP hD hS [0, 1, 2] k13508 rfl rfl (by decide) (⟨trivial, by omega⟩) rfl gX11_dropRow_2.2
  · refine lv_bipush (v := (-3)) hx hb gX11_dropRow_0.2.2.2.2.2.1 (by decide) ?_
    refine toQ hQ0 ?_
    exact RI (v := (-3)) hC hP hD hS [0, 1, 2] kr rfl rfl (by decide) (⟨trivial, by omega⟩) rfl gX11_dropRow_0.2.2.2.2.2.2.1
def K_p_judge (l : Launch) (G : GG) (h0 : Nat) (bb : Nat) (kk : Nat) (ikp : Int32) (sg : Nat) (do9 : Nat) (ru9 : Nat) (ta9 : Nat) (tp9 : Nat) (ro9 : Nat) (ho9 : Nat) (de9 : Nat) (bpersons : Nat) (bpapers : Nat) (bstamps : Nat) (bversions : Nat) (blines : Nat) (bsteps : Nat) (bsayings : Nat) (bfindings : Nat) (bwarnings : Nat) (bquestions : Nat) (td : Int32) (vd : Int32) (vl : Int32) (gp : Int32) (rr : Nat) (tc : Nat) (asd : Int32) (st9 : Int32) (tol : Int32) (rrc : Nat) (kr : Nat) (frr : Nat → Int32) (bquestionsc : Nat) (kbquestions : Nat) (fbquestions : Nat → Int32) : Prop := MP l G yX11_judge cX11_judge 1 (some .int) 6 [.ref h0] [(h0, oX11 bb kk ikp sg do9 ru9 ta9 tp9 ro9 ho9 de9), (bb, oX0 bpersons bpapers bstamps bversions blines bsteps bsayings bfindings bwarnings bquestions td vd vl gp), (ro9, oX5 bb rr tc asd st9 tol), (rr, oX8 7 2 rrc (nI kr)), (rrc, iA G 14 frr), (bquestions, oX8 7 2 bquestionsc (nI kbquestions)), (bquestionsc, iA G 14 fbquestions)] (fun r : Int32 => True)
set_option maxHeartbeats 4000000 in
set_option maxRecDepth 100000 in
theorem p_judge (l : Launch) (G : GG) (h0 : Nat) (bb : Nat) (kk : Nat) (ikp : Int32) (sg : Nat) (do9 : Nat) (ru9 : Nat) (ta9 : Nat) (tp9 : Nat) (ro9 : Nat) (ho9 : Nat) (de9 : Nat) (bpersons : Nat) (bpapers : Nat) (bstamps : Nat) (bversions : Nat) (blines : Nat) (bsteps : Nat) (bsayings : Nat) (bfindings : Nat) (bwarnings : Nat) (bquestions : Nat) (td : Int32) (vd : Int32) (vl : Int32) (gp : Int32) (rr : Nat) (tc : Nat) (asd : Int32) (st9 : Int32) (tol : Int32) (rrc : Nat) (kr : Nat) (frr : Nat → Int32) (bquestionsc : Nat) (kbquestions : Nat) (fbquestions : Nat → Int32) (hkr : kr ≤ 7) (hkbquestions : kbquestions ≤ 7) (htol : tol = 0 ∨ tol = 1) : K_p_judge l G h0 bb kk ikp sg do9 ru9 ta9 tp9 ro9 ho9 de9 bpersons bpapers bstamps bversions blines bsteps bsayings bfindings bwarnings bquestions td vd vl gp rr tc asd st9 tol rrc kr frr bquestionsc kbquestions fbquestions := by
  refine MP.start (by decide +kernel) (Nat.le_of_ble_eq_true rfl) ?_
  intro p e s m below meth c ls hC hK hP hD hl
  refine absQ (fun Q0 hQ0 => ?_)
  have hl : lv_has ls 1 [(0, .ref h0)] := hl
  refine Kan8 hC (fun hx hb hr hml hB hown hlocks hnm => ?_)
  refine lv_aload_n hx hb gX11_judge_0.1 rfl (lv_at0 hl) ?_
  refine gf_X11_65 hC rfl hK hP 0 rfl rfl gX11_judge_0.2.1 ?_
  refine pV hC hK hl hP hD (c_isTold l G ro9 bb rr tc asd st9 tol (htol)) si_X11_298 [2] sm_2 fm_2 nd_2 rfl rfl rfl rfl rfl (Nat.le_of_ble_eq_true rfl) rm_6_1_1 ⟨by first | exact Nat.le_of_ble_eq_true rfl | exact Nat.zero_le _, by first | exact Nat.le_of_ble_eq_true rfl | exact Nat.zero_le _⟩ gX11_judge_0.2.2.1 (Kors (Keqa fun a3513 => ?_) (Keqa fun a3513 => ?_))
  · refine lv_if_ne (tgt := 13) hx hb gX11_judge_0.2.2.2.1 (by decide) (fun _ => ?_) (fun c9 => absurd c9 (by decide))
    refine lv_aload_n hx hb gX11_judge_0.2.2.2.2.2.2.1 rfl (lv_at0 hl) ?_
    refine gf_X11_65 hC rfl hK hP 0 rfl rfl gX11_judge_0.2.2.2.2.2.2.2.1 ?_
    refine pV hC hK hl hP hD (c_firstWrong l G ro9 bb rr tc asd st9 tol rrc kr frr bpersons bpapers bstamps bversions blines bsteps bsayings bfindings bwarnings bquestions td vd vl gp bquestionsc kbquestions fbquestions (hkr) (hkbquestions)) si_X11_301 [2, 3, 4, 1, 5, 6] sm_2_3_4_1_5_6 fm_2_3_4_1_5_6 nd_2_3_4_1_5_6 rfl rfl rfl rfl rfl (Nat.le_of_ble_eq_true rfl) rm_6_4_5 ⟨by first | exact Nat.le_of_ble_eq_true rfl | exact Nat.zero_le _, by first | exact Nat.le_of_ble_eq_true rfl | exact Nat.zero_le _⟩ gX11_judge_0.2.2.2.2.2.2.2.2.1 (fun r3514 hr3514 => ?_)
    refine lv_iconst (v := 1) hx hb gX11_judge_0.2.2.2.2.2.2.2.2.2 (by decide) ?_
    refine lv_iadd hx hb gX11_judge_1.1 ?_
    refine toQ hQ0 ?_
    exact RP (v := r3514 + 1) hC (trivial) rfl gX11_judge_1.2
  · refine lv_if_ne (tgt := 13) hx hb gX11_judge_0.2.2.2.1 (by decide) (fun c9 => absurd (by decide) c9) (fun _ => ?_)
    refine lv_bipush (v := (-3)) hx hb gX11_judge_0.2.2.2.2.1 (by decide) ?_
    refine toQ hQ0 ?_
    exact RP (v := (-3)) hC (trivial) rfl gX11_judge_0.2.2.2.2.2.1
def K_c_clearX (l : Launch) (G : GG) (h0 : Nat) (js : Nat) (hs : Nat) (hz : Nat) (hi : Nat) (hw : Nat) (hn : Nat) (ht : Nat) (fhs : Nat → Int32) (fhz : Nat → Int32) : Prop := MV l G yX4_clear cX4_clear 2 3 0 0 [.ref h0, .int (nI js)] [(h0, oX4 hs hz hi hw hn ht), (hs, iA G 4 fhs), (hz, iA G 4 fhz)] (fun u : Unit => True) (fun u : Unit => [(h0, oX4 hs hz hi hw hn ht), (hs, iA G 4 (upd fhs js (-1))), (hz, iA G 4 (upd fhz js 0))])
set_option maxHeartbeats 4000000 in
set_option maxRecDepth 100000 in
theorem c_clearX (l : Launch) (G : GG) (h0 : Nat) (js : Nat) (hs : Nat) (hz : Nat) (hi : Nat) (hw : Nat) (hn : Nat) (ht : Nat) (fhs : Nat → Int32) (fhz : Nat → Int32) (hjs : js < 4) : K_c_clearX l G h0 js hs hz hi hw hn ht fhs fhz := by
  refine MV.start (by decide +kernel) (Nat.le_of_ble_eq_true rfl) ?_
  intro p e s m below meth c A ls hC hK hP hD hS hA hl
  refine absQ (fun Q0 hQ0 => ?_)
  have hl : lv_has ls 2 [(0, .ref h0), (1, .int (nI js))] := hl
  refine Kan8 hC (fun hx hb hr hml hB hown hlocks hnm => ?_)
  have wj1 : Wi (nI js) 0 3 := Wi_j (N := 3) rfl (by decide) (by omega)
  refine lv_iload_n hx hb gX4_clear_0.1 rfl (lv_at1 hl) ?_
  refine pSN hC hK hl (c_isSheet l G (nI js)) si_X4_30 rfl rfl (Nat.le_of_ble_eq_true rfl) rm_3_2_1 ⟨by first | exact Nat.le_of_ble_eq_true rfl | exact Nat.zero_le _, by first | exact Nat.le_of_ble_eq_true rfl | exact Nat.zero_le _⟩ gX4_clear_0.2.1 (Kors (Keqa fun a3516 => ?_) (Keqa fun a3516 => ?_))
  · refine lv_if_ne (tgt := 8) hx hb gX4_clear_0.2.2.1 (by decide) (fun _ => ?_) (fun c9 => absurd c9 (by decide))
    refine lv_aload_n hx hb gX4_clear_0.2.2.2.2.1 rfl (lv_at0 hl) ?_
    refine gf_X4_11 hC rfl hK hP 0 rfl rfl gX4_clear_0.2.2.2.2.2.1 ?_
    refine lv_iload_n hx hb gX4_clear_0.2.2.2.2.2.2.1 rfl (lv_at1 hl) ?_
    refine lv_iconst (v := (-1)) hx hb gX4_clear_0.2.2.2.2.2.2.2.1 (by decide) ?_
    refine astN hC hK hP hD hS 1 (ws' := [(h0, oX4 hs hz hi hw hn ht), (hs, iA G 4 (upd fhs js (-1))), (hz, iA G 4 fhz)]) rfl (k := js) (by omega) (Nat.le_of_ble_eq_true rfl) (rfl) gX4_clear_0.2.2.2.2.2.2.2.2.1 (fun H locs hP hD hS => ?_)
    refine lv_aload_n hx hb gX4_clear_0.2.2.2.2.2.2.2.2.2 rfl (lv_at0 hl) ?_
    refine gf_X4_15 hC rfl hK hP 0 rfl rfl gX4_clear_1.1 ?_
    refine lv_iload_n hx hb gX4_clear_1.2.1 rfl (lv_at1 hl) ?_
    refine lv_iconst (v := 0) hx hb gX4_clear_1.2.2.1 (by decide) ?_
    refine astN hC hK hP hD hS 2 (ws' := [(h0, oX4 hs hz hi hw hn ht), (hs, iA G 4 (upd fhs js (-1))), (hz, iA G 4 (upd fhz js 0))]) rfl (k := js) (by omega) (Nat.le_of_ble_eq_true rfl) (rfl) gX4_clear_1.2.2.2.1 (fun H locs hP hD hS => ?_)
    refine toQ hQ0 ?_
    exact RV hC hP hD hS [0, 1, 2] () rfl rfl (by decide) (trivial) gX4_clear_1.2.2.2.2
  · exact absurd wj1 a3516
def K_c_layX (l : Launch) (G : GG) (h0 : Nat) (js : Nat) (so : Int32) (jn : Nat) (hs : Nat) (hz : Nat) (hi : Nat) (hw : Nat) (hn : Nat) (ht : Nat) (fhs : Nat → Int32) (fhz : Nat → Int32) (fhi : Nat → Int32) : Prop := MV l G yX4_lay cX4_lay 5 3 0 0 [.ref h0, .int (nI js), .int so, .int (nI jn)] [(h0, oX4 hs hz hi hw hn ht), (hs, iA G 4 fhs), (hz, iA G 4 fhz), (hi, iA G 160 fhi)] (fun u : (Nat → Int32) => ZR fhi u js 40) (fun u : (Nat → Int32) => [(h0, oX4 hs hz hi hw hn ht), (hs, iA G 4 (upd fhs js so)), (hz, iA G 4 (upd fhz js (nI jn))), (hi, iA G 160 u)])
set_option maxHeartbeats 4000000 in
set_option maxRecDepth 100000 in
theorem c_layX (l : Launch) (G : GG) (h0 : Nat) (js : Nat) (so : Int32) (jn : Nat) (hs : Nat) (hz : Nat) (hi : Nat) (hw : Nat) (hn : Nat) (ht : Nat) (fhs : Nat → Int32) (fhz : Nat → Int32) (fhi : Nat → Int32) (hjs : js < 4) (hjn : jn ≤ 40) : K_c_layX l G h0 js so jn hs hz hi hw hn ht fhs fhz fhi := by
  refine MV.start (by decide +kernel) (Nat.le_of_ble_eq_true rfl) ?_
  intro p e s m below meth c A ls hC hK hP hD hS hA hl
  refine absQ (fun Q0 hQ0 => ?_)
  have hl : lv_has ls 5 [(0, .ref h0), (1, .int (nI js)), (2, .int so), (3, .int (nI jn))] := hl
  refine Kan8 hC (fun hx hb hr hml hB hown hlocks hnm => ?_)
  have wj1 : Wi (nI js) 0 3 := Wi_j (N := 3) rfl (by decide) (by omega)
  have wj2 : Wi (nI jn) 0 40 := Wi_j (N := 40) rfl (by decide) (by omega)
  refine lv_iload_n hx hb gX4_lay_0.1 rfl (lv_at1 hl) ?_
  refine pSN hC hK hl (c_isSheet l G (nI js)) si_X4_30 rfl rfl (Nat.le_of_ble_eq_true rfl) rm_3_2_1 ⟨by first | exact Nat.le_of_ble_eq_true rfl | exact Nat.zero_le _, by first | exact Nat.le_of_ble_eq_true rfl | exact Nat.zero_le _⟩ gX4_lay_0.2.1 (Kors (Keqa fun a3518 => ?_) (Keqa fun a3518 => ?_))
  · refine lv_if_eq (tgt := 17) hx hb gX4_lay_0.2.2.1 (by decide) (fun c9 => absurd c9 (by decide)) (fun _ => ?_)
    refine lv_iload_n hx hb gX4_lay_0.2.2.2.1 rfl (lv_at3 hl) ?_
    refine lv_iconst (v := 0) hx hb gX4_lay_0.2.2.2.2.1 (by decide) ?_
    refine lv_bipush (v := 40) hx hb gX4_lay_0.2.2.2.2.2.1 (by decide) ?_
    refine pSN hC hK hl (c_within l G (nI jn) 0 40) si_X4_34 rfl rfl (Nat.le_of_ble_eq_true rfl) rm_3_1_3 ⟨by first | exact Nat.le_of_ble_eq_true rfl | exact Nat.zero_le _, by first | exact Nat.le_of_ble_eq_true rfl | exact Nat.zero_le _⟩ gX4_lay_0.2.2.2.2.2.2.1 (Kors (Keqa fun a3520 => ?_) (Keqa fun a3520 => ?_))
    · refine lv_if_ne (tgt := 18) hx hb gX4_lay_0.2.2.2.2.2.2.2.1 (by decide) (fun _ => ?_) (fun c9 => absurd c9 (by decide))
      refine lv_aload_n hx hb gX4_lay_0.2.2.2.2.2.2.2.2.2 rfl (lv_at0 hl) ?_
      refine gf_X4_11 hC rfl hK hP 0 rfl rfl gX4_lay_1.1 ?_
      refine lv_iload_n hx hb gX4_lay_1.2.1 rfl (lv_at1 hl) ?_
      refine lv_iload_n hx hb gX4_lay_1.2.2.1 rfl (lv_at2 hl) ?_
      refine astN hC hK hP hD hS 1 (ws' := [(h0, oX4 hs hz hi hw hn ht), (hs, iA G 4 (upd fhs js so)), (hz, iA G 4 fhz), (hi, iA G 160 fhi)]) rfl (k := js) (by omega) (Nat.le_of_ble_eq_true rfl) (rfl) gX4_lay_1.2.2.2.1 (fun H locs hP hD hS => ?_)
      refine lv_aload_n hx hb gX4_lay_1.2.2.2.2.1 rfl (lv_at0 hl) ?_
      refine gf_X4_15 hC rfl hK hP 0 rfl rfl gX4_lay_1.2.2.2.2.2.1 ?_
      refine lv_iload_n hx hb gX4_lay_1.2.2.2.2.2.2.1 rfl (lv_at1 hl) ?_
      refine lv_iload_n hx hb gX4_lay_1.2.2.2.2.2.2.2.1 rfl (lv_at3 hl) ?_
      refine astN hC hK hP hD hS 2 (ws' := [(h0, oX4 hs hz hi hw hn ht), (hs, iA G 4 (upd fhs js so)), (hz, iA G 4 (upd fhz js (nI jn))), (hi, iA G 160 fhi)]) rfl (k := js) (by omega) (Nat.le_of_ble_eq_true rfl) (rfl) gX4_lay_1.2.2.2.2.2.2.2.2.1 (fun H locs hP hD hS => ?_)
      refine lv_iconst (v := 0) hx hb gX4_lay_1.2.2.2.2.2.2.2.2.2 (by decide) ?_
      refine lv_istore (lv' := [(4, .int 0), (0, .ref h0), (1, .int (nI js)), (2, .int so), (3, .int (nI jn))]) hx hb gX4_lay_2.1 hl (by decide) rfl (fun ls hl => ?_)
      have keyP : ∀ (nP kP : Nat) (vhi : Nat → Int32) (H : Heap) (locs : List Loc) (ls : Array Slot), kP + nP = 40 → (ZR fhi vhi js kP) → va_PD G A [(h0, oX4 hs hz hi hw hn ht), (hs, iA G 4 (upd fhs js so)), (hz, iA G 4 (upd fhz js (nI jn))), (hi, iA G 160 vhi)] H → va_S A s.heap H locs → lv_has ls 5 [(4, .int (nI kP)), (0, .ref h0), (1, .int (nI js)), (2, .int so), (3, .int (nI jn))] → W p l e (RM 3 0 0) s m ([.ref h0, .int (nI js), .int so, .int (nI jn)] : List Value).toArray below meth c H locs 0 0 Q0 (F0 m 35 ls []) := by
        intro nP
        induction nP with
        | zero =>
          intro kP vhi H locs ls hkP hzr hPD hS hl
          refine Kan2 hPD (fun hP hD => ?_)
          obtain rfl : 40 = kP := by omega
          have hl : lv_has ls 5 [(4, .int 40), (0, .ref h0), (1, .int (nI js)), (2, .int so), (3, .int (nI jn))] := hl
          refine lv_iload hx hb gX4_lay_2.2.1 (lv_at0 hl) ?_
          refine lv_bipush (v := 40) hx hb gX4_lay_2.2.2.1 (by decide) ?_
          refine lv_icmp_ge (tgt := 61) hx hb gX4_lay_2.2.2.2.1 (by decide) (fun _ => ?_) (fun c9 => absurd (by decide) c9)
          refine toQ hQ0 ?_
          exact RV hC hP hD hS [0, 1, 2, 3] vhi rfl rfl (by decide) (hzr) gX4_lay_3.2.2.2.2.2
        | succ nP ihP =>
          intro kP vhi H locs ls hkP hzr hPD hS hl
          refine Kan2 hPD (fun hP hD => ?_)
          refine lv_iload hx hb gX4_lay_2.2.1 (lv_at0 hl) ?_
          refine lv_bipush (v := 40) hx hb gX4_lay_2.2.2.1 (by decide) ?_
          refine lv_icmp_ge (tgt := 61) hx hb gX4_lay_2.2.2.2.1 (by decide) (fun c9 => absurd c9 (nI_ge (a := kP) (b := 40) (by omega) (by omega))) (fun _ => ?_)
          refine lv_aload_n hx hb gX4_lay_2.2.2.2.2.1 rfl (lv_at1 hl) ?_
          refine gf_X4_18 hC rfl hK hP 0 rfl rfl gX4_lay_2.2.2.2.2.2.1 ?_
          refine lv_iload_n hx hb gX4_lay_2.2.2.2.2.2.2.1 rfl (lv_at2 hl) ?_
          refine lv_bipush (v := 40) hx hb gX4_lay_2.2.2.2.2.2.2.2.1 (by decide) ?_
          refine lv_imul hx hb gX4_lay_2.2.2.2.2.2.2.2.2.1 ?_
          refine lv_iload hx hb gX4_lay_2.2.2.2.2.2.2.2.2.2 (lv_at0 hl) ?_
          refine lv_iadd hx hb gX4_lay_3.1 ?_
          refine lv_iconst (v := 0) hx hb gX4_lay_3.2.1 (by decide) ?_
          refine ast hC hK hP hD hS 3 (ws' := [(h0, oX4 hs hz hi hw hn ht), (hs, iA G 4 (upd fhs js so)), (hz, iA G 4 (upd fhz js (nI jn))), (hi, iA G 160 (upd vhi (js * 40 + kP) 0))]) rfl ((ix160 (a := js) (b := kP) (by omega) (by omega)).1) (k := js * 40 + kP) (ix160 (by omega) (by omega)).2 (rfl) gX4_lay_3.2.2.1 (fun H locs hP hD hS => ?_)
          refine lv_iinc (v := nI (kP + 1)) (lv' := [(4, .int (nI (kP + 1))), (0, .ref h0), (1, .int (nI js)), (2, .int so), (3, .int (nI jn))]) hx hb gX4_lay_3.2.2.2.1 hl (k := 0) rfl (nI_1 _) (by decide) rfl (fun ls hl => ?_)
          refine lv_goto (tgt := 35) hx hb gX4_lay_3.2.2.2.2.1 (by decide) ?_
          exact ihP (kP + 1) (upd vhi (js * 40 + kP) 0) _ _ _ (by omega) (by first | assumption | exact Or.inl rfl | exact Or.inr rfl | exact ZR.zero | exact ZR.next hzr rfl) (And.intro hP hD) hS (lv_sub hl [0, 1, 2, 3, 4] rfl)
      exact keyP 40 0 fhi _ _ _ (by omega) (by first | assumption | exact Or.inl rfl | exact Or.inr rfl | exact ZR.zero | exact ZR.next hzr rfl) (And.intro hP hD) hS (lv_sub hl [0, 1, 2, 3, 4] rfl)
    · exact absurd wj2 a3520
  · exact absurd wj1 a3518
def K_p_sheet (l : Launch) (G : GG) (h0 : Nat) (x1 : Int32) (x2 : Int32) (x3 : Int32) (bb : Nat) (kk : Nat) (ikp : Int32) (sg : Nat) (do9 : Nat) (ru9 : Nat) (ta9 : Nat) (tp9 : Nat) (ro9 : Nat) (ho9 : Nat) (de9 : Nat) (hs : Nat) (hz : Nat) (hi : Nat) (hw : Nat) (hn : Nat) (ht : Nat) (fhs : Nat → Int32) (fhz : Nat → Int32) (fhi : Nat → Int32) : Prop := MI l G yX11_sheet cX11_sheet 4 (some .int) 5 0 0 [.ref h0, .int x1, .int x2, .int x3] [(h0, oX11 bb kk ikp sg do9 ru9 ta9 tp9 ro9 ho9 de9), (ho9, oX4 hs hz hi hw hn ht), (hs, iA G 4 fhs), (hz, iA G 4 fhz), (hi, iA G 160 fhi)] (fun (r : Int32) (u : (Nat → Int32) × (Nat → Int32) × (Nat → Int32)) => (r = ifc (Wi x1 0 3) (ifc (Wi x2 (-1) 4) (ifc (x2 < 0) 1 (ifc (x3 ≤ 40) (ifc (x3 < 0) (-14) 1) (-1))) (-1)) (-1)) ∧ ((S0 x1 x2 → u.1 = upd fhs x1.toNatClampNeg x2 ∧ u.2.1 = upd fhz x1.toNatClampNeg 0 ∧ ZQ fhi u.2.2 x1.toNatClampNeg) ∧ (S1 x1 x2 x3 → u.1 = upd fhs x1.toNatClampNeg x2 ∧ u.2.1 = upd fhz x1.toNatClampNeg x3 ∧ ZR fhi u.2.2 x1.toNatClampNeg 40) ∧ (¬ S0 x1 x2 → ¬ S1 x1 x2 x3 → u.1 = fhs ∧ u.2.1 = fhz ∧ u.2.2 = fhi))) (fun u : (Nat → Int32) × (Nat → Int32) × (Nat → Int32) => [(h0, oX11 bb kk ikp sg do9 ru9 ta9 tp9 ro9 ho9 de9), (ho9, oX4 hs hz hi hw hn ht), (hs, iA G 4 u.1), (hz, iA G 4 u.2.1), (hi, iA G 160 u.2.2)])
set_option maxHeartbeats 4000000 in
set_option maxRecDepth 100000 in
theorem p_sheet (l : Launch) (G : GG) (h0 : Nat) (x1 : Int32) (x2 : Int32) (x3 : Int32) (bb : Nat) (kk : Nat) (ikp : Int32) (sg : Nat) (do9 : Nat) (ru9 : Nat) (ta9 : Nat) (tp9 : Nat) (ro9 : Nat) (ho9 : Nat) (de9 : Nat) (hs : Nat) (hz : Nat) (hi : Nat) (hw : Nat) (hn : Nat) (ht : Nat) (fhs : Nat → Int32) (fhz : Nat → Int32) (fhi : Nat → Int32) : K_p_sheet l G h0 x1 x2 x3 bb kk ikp sg do9 ru9 ta9 tp9 ro9 ho9 de9 hs hz hi hw hn ht fhs fhz fhi := by
  refine MI.start (by decide +kernel) (Nat.le_of_ble_eq_true rfl) ?_
  intro p e s m below meth c A ls hC hK hP hD hS hA hl
  refine absQ (fun Q0 hQ0 => ?_)
  have hl : lv_has ls 4 [(0, .ref h0), (1, .int x1), (2, .int x2), (3, .int x3)] := hl
  refine Kan8 hC (fun hx hb hr hml hB hown hlocks hnm => ?_)
  refine lv_iload_n hx hb gX11_sheet_0.1 rfl (lv_at1 hl) ?_
  refine pS hC hK hl (c_isSheet l G x1) si_X11_164 rfl rfl (Nat.le_of_ble_eq_true rfl) rm_5_2_1 ⟨by first | exact Nat.le_of_ble_eq_true rfl | exact Nat.zero_le _, by first | exact Nat.le_of_ble_eq_true rfl | exact Nat.zero_le _⟩ gX11_sheet_0.2.1 (Kors (Keqa fun a3522 => ?_) (Keqa fun a3522 => ?_))
  · refine lv_if_eq (tgt := 16) hx hb gX11_sheet_0.2.2.1 (by decide) (fun c9 => absurd c9 (by decide)) (fun _ => ?_)
    refine lv_iload_n hx hb gX11_sheet_0.2.2.2.1 rfl (lv_at2 hl) ?_
    refine lv_iconst (v := (-1)) hx hb gX11_sheet_0.2.2.2.2.1 (by decide) ?_
    refine lv_iconst (v := 4) hx hb gX11_sheet_0.2.2.2.2.2.1 (by decide) ?_
    refine pS hC hK hl (c_within l G x2 (-1) 4) si_X11_83 rfl rfl (Nat.le_of_ble_eq_true rfl) rm_5_1_3 ⟨by first | exact Nat.le_of_ble_eq_true rfl | exact Nat.zero_le _, by first | exact Nat.le_of_ble_eq_true rfl | exact Nat.zero_le _⟩ gX11_sheet_0.2.2.2.2.2.2.1 (Kors (Keqa fun a3524 => ?_) (Keqa fun a3524 => ?_))
    · refine lv_if_ne (tgt := 18) hx hb gX11_sheet_0.2.2.2.2.2.2.2.1 (by decide) (fun _ => ?_) (fun c9 => absurd c9 (by decide))
      obtain ⟨jt, hjt, rfl⟩ := Wi3 a3522
      refine lv_iload_n hx hb gX11_sheet_1.1 rfl (lv_at2 hl) ?_
      refine lv_iconst (v := (-1)) hx hb gX11_sheet_1.2.1 (by decide) ?_
      refine lv_icmp_ne (tgt := 33) hx hb gX11_sheet_1.2.2.1 (by decide) (fun c_20_3525 => ?_) (fun c_20_3525 => ?_)
      · refine lv_iload_n hx hb gX11_sheet_1.2.2.2.2.2.2.2.2.2 rfl (lv_at3 hl) ?_
        refine lv_bipush (v := 40) hx hb gX11_sheet_2.1 (by decide) ?_
        refine lv_icmp_le (tgt := 41) hx hb gX11_sheet_2.2.1 (by decide) (fun c_36_3526 => ?_) (fun c_36_3526 => ?_)
        · refine lv_iload_n hx hb gX11_sheet_2.2.2.2.2.1 rfl (lv_at3 hl) ?_
          refine lv_if_ge (tgt := 48) hx hb gX11_sheet_2.2.2.2.2.2.1 (by decide) (fun c_42_3527 => ?_) (fun c_42_3527 => ?_)
          · obtain ⟨jn, hjn9, rfl⟩ := nI_of (Int32.not_lt.mpr c_42_3527)
            have hjn := (nI_leI (a := jn) (b := 40) hjn9 (by decide)).mp c_36_3526
            refine lv_aload_n hx hb gX11_sheet_2.2.2.2.2.2.2.2.2.1 rfl (lv_at0 hl) ?_
            refine gf_X11_72 hC rfl hK hP 0 rfl rfl gX11_sheet_2.2.2.2.2.2.2.2.2.2 ?_
            refine lv_iload_n hx hb gX11_sheet_3.1 rfl (lv_at1 hl) ?_
            refine lv_iload_n hx hb gX11_sheet_3.2.1 rfl (lv_at2 hl) ?_
            refine lv_iload_n hx hb gX11_sheet_3.2.2.1 rfl (lv_at3 hl) ?_
            refine vV (wr := [(h0, oX11 bb kk ikp sg do9 ru9 ta9 tp9 ro9 ho9 de9)]) hC hK hl hP hD hS hA (c_layX l G ho9 jt x2 jn hs hz hi hw hn ht fhs fhz fhi (by omega) (by omega)) si_X11_306 [1, 2, 3, 4] [0] sm_1_2_3_4 fm_1_2_3_4 nd_1_2_3_4 sm_0 nd_0 dj_1_2_3_4__0 rfl rfl rfl rfl rfl (Nat.le_of_ble_eq_true rfl) rm_5_3_5 ⟨Nat.le_of_ble_eq_true rfl, Nat.le_of_ble_eq_true rfl⟩ gX11_sheet_3.2.2.2.1 (fun ghi3530 H locs hr3528 hP hD hS => ?_)
            try dsimp only at hr3528
            refine Kpdr (ws := [(h0, oX11 bb kk ikp sg do9 ru9 ta9 tp9 ro9 ho9 de9), (ho9, oX4 hs hz hi hw hn ht), (hs, iA G 4 (upd fhs jt x2)), (hz, iA G 4 (upd fhz jt (nI jn))), (hi, iA G 160 ghi3530)]) hP hD (fun hP hD => ?_)
            have w3531 := hr3528
            refine lv_iconst (v := 1) hx hb gX11_sheet_3.2.2.2.2.1 (by decide) ?_
            refine toQ hQ0 ?_
            exact RI (v := 1) hC hP hD hS [0, 1, 2, 3, 4] ((upd fhs jt x2), (upd fhz jt (nI jn)), ghi3530) rfl rfl (by decide) (⟨(by first | rfl | (simp only [ifc_t a3522, ifc_t a3524, ifc_f c_20_3525, ifc_t c_36_3526, ifc_t c_42_3527, ifc_f (q := x2 < 0) (wi_nn a3524 c_20_3525), ifc_f (q := nI jn < 0) (Int32.not_lt.mpr c_42_3527)]; done) | (simp only [ifc_t a3522, ifc_t a3524, ifc_f c_20_3525, ifc_t c_36_3526, ifc_t c_42_3527, ifc_f (q := x2 < 0) (wi_nn a3524 c_20_3525), ifc_f (q := nI jn < 0) (Int32.not_lt.mpr c_42_3527)]; rfl)), ⟨fun h9 => absurd h9.2.2 (wi_nn a3524 c_20_3525), fun _ => (by rw [nI_clamp (n := jt) (by omega)]; exact ⟨rfl, rfl, w3531⟩), fun _ h9 => absurd ⟨a3522, a3524, (wi_nn a3524 c_20_3525), c_36_3526, (Int32.not_lt.mpr c_42_3527)⟩ h9⟩⟩) rfl gX11_sheet_3.2.2.2.2.2
          · refine lv_bipush (v := (-14)) hx hb gX11_sheet_2.2.2.2.2.2.2.1 (by decide) ?_
            refine toQ hQ0 ?_
            exact RI (v := (-14)) hC hP hD hS [0, 1, 2, 3, 4] (fhs, fhz, fhi) rfl rfl (by decide) (⟨(by first | rfl | (simp only [ifc_t a3522, ifc_t a3524, ifc_f c_20_3525, ifc_t c_36_3526, ifc_f c_42_3527, ifc_f (q := x2 < 0) (wi_nn a3524 c_20_3525), ifc_t (q := x3 < 0) (Int32.not_le.mp c_42_3527)]; done) | (simp only [ifc_t a3522, ifc_t a3524, ifc_f c_20_3525, ifc_t c_36_3526, ifc_f c_42_3527, ifc_f (q := x2 < 0) (wi_nn a3524 c_20_3525), ifc_t (q := x3 < 0) (Int32.not_le.mp c_42_3527)]; rfl)), ⟨fun h9 => absurd h9.2.2 (wi_nn a3524 c_20_3525), fun h9 => absurd (Int32.not_le.mp c_42_3527) h9.2.2.2.2, fun _ _ => ⟨rfl, rfl, rfl⟩⟩⟩) rfl gX11_sheet_2.2.2.2.2.2.2.2.1
        · refine lv_iconst (v := (-1)) hx hb gX11_sheet_2.2.2.1 (by decide) ?_
          refine toQ hQ0 ?_
          exact RI (v := (-1)) hC hP hD hS [0, 1, 2, 3, 4] (fhs, fhz, fhi) rfl rfl (by decide) (⟨(by first | rfl | (simp only [ifc_t a3522, ifc_t a3524, ifc_f c_20_3525, ifc_f c_36_3526, ifc_f (q := x2 < 0) (wi_nn a3524 c_20_3525)]; done) | (simp only [ifc_t a3522, ifc_t a3524, ifc_f c_20_3525, ifc_f c_36_3526, ifc_f (q := x2 < 0) (wi_nn a3524 c_20_3525)]; rfl)), ⟨fun h9 => absurd h9.2.2 (wi_nn a3524 c_20_3525), fun h9 => absurd h9.2.2.2.1 c_36_3526, fun _ _ => ⟨rfl, rfl, rfl⟩⟩⟩) rfl gX11_sheet_2.2.2.2.1
      · refine lv_aload_n hx hb gX11_sheet_1.2.2.2.1 rfl (lv_at0 hl) ?_
        refine gf_X11_72 hC rfl hK hP 0 rfl rfl gX11_sheet_1.2.2.2.2.1 ?_
        refine lv_iload_n hx hb gX11_sheet_1.2.2.2.2.2.1 rfl (lv_at1 hl) ?_
        refine vV (wr := [(h0, oX11 bb kk ikp sg do9 ru9 ta9 tp9 ro9 ho9 de9), (hi, iA G 160 fhi)]) hC hK hl hP hD hS hA (c_clearX l G ho9 jt hs hz hi hw hn ht fhs fhz (by omega)) si_X11_304 [1, 2, 3] [0, 4] sm_1_2_3 fm_1_2_3 nd_1_2_3 sm_0_4 nd_0_4 dj_1_2_3__0_4 rfl rfl rfl rfl rfl (Nat.le_of_ble_eq_true rfl) rm_5_3_2 ⟨Nat.le_of_ble_eq_true rfl, Nat.le_of_ble_eq_true rfl⟩ gX11_sheet_1.2.2.2.2.2.2.1 (fun u3533 H locs hr3532 hP hD hS => ?_)
        refine Kpdr (ws := [(h0, oX11 bb kk ikp sg do9 ru9 ta9 tp9 ro9 ho9 de9), (hi, iA G 160 fhi), (ho9, oX4 hs hz hi hw hn ht), (hs, iA G 4 (upd fhs jt (-1))), (hz, iA G 4 (upd fhz jt 0))]) hP hD (fun hP hD => ?_)
        refine lv_iconst (v := 1) hx hb gX11_sheet_1.2.2.2.2.2.2.2.1 (by decide) ?_
        refine toQ hQ0 ?_
        exact RI (v := 1) hC hP hD hS [0, 2, 3, 4, 1] ((upd fhs jt (-1)), (upd fhz jt 0), fhi) rfl rfl (by decide) (⟨(by first | rfl | (simp only [ifc_t a3522, ifc_t a3524, ifc_t c_20_3525, ifc_t (q := x2 < 0) (by rw [c_20_3525]; decide)]; done) | (simp only [ifc_t a3522, ifc_t a3524, ifc_t c_20_3525, ifc_t (q := x2 < 0) (by rw [c_20_3525]; decide)]; rfl)), ⟨fun _ => (by rw [nI_clamp (n := jt) (by omega), c_20_3525]; exact ⟨rfl, rfl, ZQ.rf⟩), fun h9 => absurd (by rw [c_20_3525]; decide) h9.2.2.1, fun h9 _ => absurd ⟨a3522, a3524, (by rw [c_20_3525]; decide)⟩ h9⟩⟩) rfl gX11_sheet_1.2.2.2.2.2.2.2.2.1
    · refine lv_if_ne (tgt := 18) hx hb gX11_sheet_0.2.2.2.2.2.2.2.1 (by decide) (fun c9 => absurd (by decide) c9) (fun _ => ?_)
      refine lv_iconst (v := (-1)) hx hb gX11_sheet_0.2.2.2.2.2.2.2.2.1 (by decide) ?_
      refine toQ hQ0 ?_
      exact RI (v := (-1)) hC hP hD hS [0, 1, 2, 3, 4] (fhs, fhz, fhi) rfl rfl (by decide) (⟨(by first | rfl | (simp only [ifc_t a3522, ifc_f a3524]; done) | (simp only [ifc_t a3522, ifc_f a3524]; rfl)), ⟨fun h9 => absurd h9.2.1 a3524, fun h9 => absurd h9.2.1 a3524, fun _ _ => ⟨rfl, rfl, rfl⟩⟩⟩) rfl gX11_sheet_0.2.2.2.2.2.2.2.2.2
  · refine lv_if_eq (tgt := 16) hx hb gX11_sheet_0.2.2.1 (by decide) (fun _ => ?_) (fun c9 => absurd (by decide) c9)
    refine lv_iconst (v := (-1)) hx hb gX11_sheet_0.2.2.2.2.2.2.2.2.1 (by decide) ?_
    refine toQ hQ0 ?_
    exact RI (v := (-1)) hC hP hD hS [0, 1, 2, 3, 4] (fhs, fhz, fhi) rfl rfl (by decide) (⟨(by first | rfl | (simp only [ifc_f a3522]; done) | (simp only [ifc_f a3522]; rfl)), ⟨fun h9 => absurd h9.1 a3522, fun h9 => absurd h9.1 a3522, fun _ _ => ⟨rfl, rfl, rfl⟩⟩⟩) rfl gX11_sheet_0.2.2.2.2.2.2.2.2.2
def K_c_sortX (l : Launch) (G : GG) (h0 : Nat) (js : Nat) (hs : Nat) (hz : Nat) (hi : Nat) (hw : Nat) (hn : Nat) (ht : Nat) (fhs : Nat → Int32) : Prop := MP l G yX4_sort cX4_sort 2 (some .int) 3 [.ref h0, .int (nI js)] [(h0, oX4 hs hz hi hw hn ht), (hs, iA G 4 fhs)] (fun r : Int32 => r = fhs js)
set_option maxHeartbeats 4000000 in
set_option maxRecDepth 100000 in
theorem c_sortX (l : Launch) (G : GG) (h0 : Nat) (js : Nat) (hs : Nat) (hz : Nat) (hi : Nat) (hw : Nat) (hn : Nat) (ht : Nat) (fhs : Nat → Int32) (hjs : js < 4) : K_c_sortX l G h0 js hs hz hi hw hn ht fhs := by
  refine MP.start (by decide +kernel) (Nat.le_of_ble_eq_true rfl) ?_
  intro p e s m below meth c ls hC hK hP hD hl
  refine absQ (fun Q0 hQ0 => ?_)
  have hl : lv_has ls 2 [(0, .ref h0), (1, .int (nI js))] := hl
  refine Kan8 hC (fun hx hb hr hml hB hown hlocks hnm => ?_)
  have wj1 : Wi (nI js) 0 3 := Wi_j (N := 3) rfl (by decide) (by omega)
  refine lv_iload_n hx hb gX4_sort_0.1 rfl (lv_at1 hl) ?_
  refine pSN hC hK hl (c_isSheet l G (nI js)) si_X4_30 rfl rfl (Nat.le_of_ble_eq_true rfl) rm_3_2_1 ⟨by first | exact Nat.le_of_ble_eq_true rfl | exact Nat.zero_le _, by first | exact Nat.le_of_ble_eq_true rfl | exact Nat.zero_le _⟩ gX4_sort_0.2.1 (Kors (Keqa fun a3535 => ?_) (Keqa fun a3535 => ?_))
  · refine lv_if_eq (tgt := 16) hx hb gX4_sort_0.2.2.1 (by decide) (fun c9 => absurd c9 (by decide)) (fun _ => ?_)
    refine lv_aload_n hx hb gX4_sort_0.2.2.2.1 rfl (lv_at0 hl) ?_
    refine gf_X4_11 hC rfl hK hP 0 rfl rfl gX4_sort_0.2.2.2.2.1 ?_
    refine lv_iload_n hx hb gX4_sort_0.2.2.2.2.2.1 rfl (lv_at1 hl) ?_
    refine aldN hC hK hP 1 rfl (k := js) (by omega) (Nat.le_of_ble_eq_true rfl) (v := fhs js) rfl gX4_sort_0.2.2.2.2.2.2.1 ?_
    refine lv_goto (tgt := 17) hx hb gX4_sort_0.2.2.2.2.2.2.2.1 (by decide) ?_
    refine toQ hQ0 ?_
    exact RP (v := fhs js) hC (rfl) rfl gX4_sort_0.2.2.2.2.2.2.2.2.2
  · exact absurd wj1 a3535
def K_c_sizeX (l : Launch) (G : GG) (h0 : Nat) (js : Nat) (hs : Nat) (hz : Nat) (hi : Nat) (hw : Nat) (hn : Nat) (ht : Nat) (fhz : Nat → Int32) : Prop := MP l G yX4_size cX4_size 2 (some .int) 3 [.ref h0, .int (nI js)] [(h0, oX4 hs hz hi hw hn ht), (hz, iA G 4 fhz)] (fun r : Int32 => r = fhz js)
set_option maxHeartbeats 4000000 in
set_option maxRecDepth 100000 in
theorem c_sizeX (l : Launch) (G : GG) (h0 : Nat) (js : Nat) (hs : Nat) (hz : Nat) (hi : Nat) (hw : Nat) (hn : Nat) (ht : Nat) (fhz : Nat → Int32) (hjs : js < 4) : K_c_sizeX l G h0 js hs hz hi hw hn ht fhz := by
  refine MP.start (by decide +kernel) (Nat.le_of_ble_eq_true rfl) ?_
  intro p e s m below meth c ls hC hK hP hD hl
  refine absQ (fun Q0 hQ0 => ?_)
  have hl : lv_has ls 2 [(0, .ref h0), (1, .int (nI js))] := hl
  refine Kan8 hC (fun hx hb hr hml hB hown hlocks hnm => ?_)
  have wj1 : Wi (nI js) 0 3 := Wi_j (N := 3) rfl (by decide) (by omega)
  refine lv_iload_n hx hb gX4_size_0.1 rfl (lv_at1 hl) ?_
  refine pSN hC hK hl (c_isSheet l G (nI js)) si_X4_30 rfl rfl (Nat.le_of_ble_eq_true rfl) rm_3_2_1 ⟨by first | exact Nat.le_of_ble_eq_true rfl | exact Nat.zero_le _, by first | exact Nat.le_of_ble_eq_true rfl | exact Nat.zero_le _⟩ gX4_size_0.2.1 (Kors (Keqa fun a3537 => ?_) (Keqa fun a3537 => ?_))
  · refine lv_if_eq (tgt := 16) hx hb gX4_size_0.2.2.1 (by decide) (fun c9 => absurd c9 (by decide)) (fun _ => ?_)
    refine lv_aload_n hx hb gX4_size_0.2.2.2.1 rfl (lv_at0 hl) ?_
    refine gf_X4_15 hC rfl hK hP 0 rfl rfl gX4_size_0.2.2.2.2.1 ?_
    refine lv_iload_n hx hb gX4_size_0.2.2.2.2.2.1 rfl (lv_at1 hl) ?_
    refine aldN hC hK hP 1 rfl (k := js) (by omega) (Nat.le_of_ble_eq_true rfl) (v := fhz js) rfl gX4_size_0.2.2.2.2.2.2.1 ?_
    refine lv_goto (tgt := 17) hx hb gX4_size_0.2.2.2.2.2.2.2.1 (by decide) ?_
    refine toQ hQ0 ?_
    exact RP (v := fhz js) hC (rfl) rfl gX4_size_0.2.2.2.2.2.2.2.2.2
  · exact absurd wj1 a3537
def K_c_atX (l : Launch) (G : GG) (h0 : Nat) (js : Nat) (ji : Nat) (hs : Nat) (hz : Nat) (hi : Nat) (hw : Nat) (hn : Nat) (ht : Nat) (fhi : Nat → Int32) : Prop := MP l G yX4_at cX4_at 3 (some .int) 3 [.ref h0, .int (nI js), .int (nI ji)] [(h0, oX4 hs hz hi hw hn ht), (hi, iA G 160 fhi)] (fun r : Int32 => r = fhi (js * 40 + ji))
set_option maxHeartbeats 4000000 in
set_option maxRecDepth 100000 in
theorem c_atX (l : Launch) (G : GG) (h0 : Nat) (js : Nat) (ji : Nat) (hs : Nat) (hz : Nat) (hi : Nat) (hw : Nat) (hn : Nat) (ht : Nat) (fhi : Nat → Int32) (hjs : js < 4) (hji : ji < 40) : K_c_atX l G h0 js ji hs hz hi hw hn ht fhi := by
  refine MP.start (by decide +kernel) (Nat.le_of_ble_eq_true rfl) ?_
  intro p e s m below meth c ls hC hK hP hD hl
  refine absQ (fun Q0 hQ0 => ?_)
  have hl : lv_has ls 3 [(0, .ref h0), (1, .int (nI js)), (2, .int (nI ji))] := hl
  refine Kan8 hC (fun hx hb hr hml hB hown hlocks hnm => ?_)
  have wj1 : Wi (nI js) 0 3 := Wi_j (N := 3) rfl (by decide) (by omega)
  have wj2 : Wi (nI ji) 0 39 := Wi_j (N := 39) rfl (by decide) (by omega)
  refine lv_iload_n hx hb gX4_at_0.1 rfl (lv_at1 hl) ?_
  refine pSN hC hK hl (c_isSheet l G (nI js)) si_X4_30 rfl rfl (Nat.le_of_ble_eq_true rfl) rm_3_2_1 ⟨by first | exact Nat.le_of_ble_eq_true rfl | exact Nat.zero_le _, by first | exact Nat.le_of_ble_eq_true rfl | exact Nat.zero_le _⟩ gX4_at_0.2.1 (Kors (Keqa fun a3539 => ?_) (Keqa fun a3539 => ?_))
  · refine lv_if_eq (tgt := 31) hx hb gX4_at_0.2.2.1 (by decide) (fun c9 => absurd c9 (by decide)) (fun _ => ?_)
    refine lv_iload_n hx hb gX4_at_0.2.2.2.1 rfl (lv_at2 hl) ?_
    refine lv_iconst (v := 0) hx hb gX4_at_0.2.2.2.2.1 (by decide) ?_
    refine lv_bipush (v := 39) hx hb gX4_at_0.2.2.2.2.2.1 (by decide) ?_
    refine pSN hC hK hl (c_within l G (nI ji) 0 39) si_X4_34 rfl rfl (Nat.le_of_ble_eq_true rfl) rm_3_1_3 ⟨by first | exact Nat.le_of_ble_eq_true rfl | exact Nat.zero_le _, by first | exact Nat.le_of_ble_eq_true rfl | exact Nat.zero_le _⟩ gX4_at_0.2.2.2.2.2.2.1 (Kors (Keqa fun a3541 => ?_) (Keqa fun a3541 => ?_))
    · refine lv_if_eq (tgt := 31) hx hb gX4_at_0.2.2.2.2.2.2.2.1 (by decide) (fun c9 => absurd c9 (by decide)) (fun _ => ?_)
      refine lv_aload_n hx hb gX4_at_0.2.2.2.2.2.2.2.2.1 rfl (lv_at0 hl) ?_
      refine gf_X4_18 hC rfl hK hP 0 rfl rfl gX4_at_0.2.2.2.2.2.2.2.2.2 ?_
      refine lv_iload_n hx hb gX4_at_1.1 rfl (lv_at1 hl) ?_
      refine lv_bipush (v := 40) hx hb gX4_at_1.2.1 (by decide) ?_
      refine lv_imul hx hb gX4_at_1.2.2.1 ?_
      refine eqi (x1 := nI (js * 40)) (nI_mul js 40) ?_
      refine lv_iload_n hx hb gX4_at_1.2.2.2.1 rfl (lv_at2 hl) ?_
      refine lv_iadd hx hb gX4_at_1.2.2.2.2.1 ?_
      refine eqi (x1 := nI (js * 40 + ji)) (nI_add (js * 40) ji) ?_
      refine aldN hC hK hP 1 rfl (k := (js * 40 + ji)) (by omega) (Nat.le_of_ble_eq_true rfl) (v := fhi (js * 40 + ji)) rfl gX4_at_1.2.2.2.2.2.1 ?_
      refine lv_goto (tgt := 32) hx hb gX4_at_1.2.2.2.2.2.2.1 (by decide) ?_
      refine toQ hQ0 ?_
      exact RP (v := fhi (js * 40 + ji)) hC (rfl) rfl gX4_at_1.2.2.2.2.2.2.2.2
    · exact absurd wj2 a3541
  · exact absurd wj1 a3539
def K_c_writeX (l : Launch) (G : GG) (h0 : Nat) (js : Nat) (ji : Nat) (hs : Nat) (hz : Nat) (hi : Nat) (hw : Nat) (hn : Nat) (ht : Nat) (fhs : Nat → Int32) (fhi : Nat → Int32) (x3 : Int32) : Prop := MV l G yX4_write cX4_write 5 3 0 0 [.ref h0, .int (nI js), .int (nI ji), .int x3] [(h0, oX4 hs hz hi hw hn ht), (hs, iA G 4 fhs), (hi, iA G 160 fhi)] (fun u : (Nat → Int32) => ∀ i : Nat, u i = upd fhi (js * 40 + ji) (NARW (fhs js) x3) i) (fun u : (Nat → Int32) => [(h0, oX4 hs hz hi hw hn ht), (hs, iA G 4 fhs), (hi, iA G 160 u)])
set_option maxHeartbeats 4000000 in
set_option maxRecDepth 100000 in
theorem c_writeX (l : Launch) (G : GG) (h0 : Nat) (js : Nat) (ji : Nat) (hs : Nat) (hz : Nat) (hi : Nat) (hw : Nat) (hn : Nat) (ht : Nat) (fhs : Nat → Int32) (fhi : Nat → Int32) (x3 : Int32) (hjs : js < 4) (hji : ji < 40) : K_c_writeX l G h0 js ji hs hz hi hw hn ht fhs fhi x3 := by
  refine MV.start (by decide +kernel) (Nat.le_of_ble_eq_true rfl) ?_
  intro p e s m below meth c A ls hC hK hP hD hS hA hl
  refine absQ (fun Q0 hQ0 => ?_)
  have hl : lv_has ls 5 [(0, .ref h0), (1, .int (nI js)), (2, .int (nI ji)), (3, .int x3)] := hl
  refine Kan8 hC (fun hx hb hr hml hB hown hlocks hnm => ?_)
  have wj1 : Wi (nI js) 0 3 := Wi_j (N := 3) rfl (by decide) (by omega)
  have wj2 : Wi (nI ji) 0 39 := Wi_j (N := 39) rfl (by decide) (by omega)
  refine lv_iload_n hx hb gX4_write_0.1 rfl (lv_at1 hl) ?_
  refine pSN hC hK hl (c_isSheet l G (nI js)) si_X4_30 rfl rfl (Nat.le_of_ble_eq_true rfl) rm_3_2_1 ⟨by first | exact Nat.le_of_ble_eq_true rfl | exact Nat.zero_le _, by first | exact Nat.le_of_ble_eq_true rfl | exact Nat.zero_le _⟩ gX4_write_0.2.1 (Kors (Keqa fun a3543 => ?_) (Keqa fun a3543 => ?_))
  · refine lv_if_eq (tgt := 17) hx hb gX4_write_0.2.2.1 (by decide) (fun c9 => absurd c9 (by decide)) (fun _ => ?_)
    refine lv_iload_n hx hb gX4_write_0.2.2.2.1 rfl (lv_at2 hl) ?_
    refine lv_iconst (v := 0) hx hb gX4_write_0.2.2.2.2.1 (by decide) ?_
    refine lv_bipush (v := 39) hx hb gX4_write_0.2.2.2.2.2.1 (by decide) ?_
    refine pSN hC hK hl (c_within l G (nI ji) 0 39) si_X4_34 rfl rfl (Nat.le_of_ble_eq_true rfl) rm_3_1_3 ⟨by first | exact Nat.le_of_ble_eq_true rfl | exact Nat.zero_le _, by first | exact Nat.le_of_ble_eq_true rfl | exact Nat.zero_le _⟩ gX4_write_0.2.2.2.2.2.2.1 (Kors (Keqa fun a3545 => ?_) (Keqa fun a3545 => ?_))
    · refine lv_if_ne (tgt := 18) hx hb gX4_write_0.2.2.2.2.2.2.2.1 (by decide) (fun _ => ?_) (fun c9 => absurd c9 (by decide))
      refine lv_iload_n hx hb gX4_write_0.2.2.2.2.2.2.2.2.2 rfl (lv_at3 hl) ?_
      refine lv_istore (lv' := [(4, .int x3), (0, .ref h0), (1, .int (nI js)), (2, .int (nI ji)), (3, .int x3)]) hx hb gX4_write_1.1 hl (by decide) rfl (fun ls hl => ?_)
      refine lv_aload_n hx hb gX4_write_1.2.1 rfl (lv_at1 hl) ?_
      refine gf_X4_11 hC rfl hK hP 0 rfl rfl gX4_write_1.2.2.1 ?_
      refine lv_iload_n hx hb gX4_write_1.2.2.2.1 rfl (lv_at2 hl) ?_
      refine aldN hC hK hP 1 rfl (k := js) (by omega) (Nat.le_of_ble_eq_true rfl) (v := fhs js) rfl gX4_write_1.2.2.2.2.1 ?_
      refine lv_if_ne (tgt := 34) hx hb gX4_write_1.2.2.2.2.2.1 (by decide) (fun c_27_3546 => ?_) (fun c_27_3546 => ?_)
      · refine lv_aload_n hx hb gX4_write_1.2.2.2.2.2.2.2.2.2 rfl (lv_at1 hl) ?_
        refine gf_X4_11 hC rfl hK hP 0 rfl rfl gX4_write_2.1 ?_
        refine lv_iload_n hx hb gX4_write_2.2.1 rfl (lv_at2 hl) ?_
        refine aldN hC hK hP 1 rfl (k := js) (by omega) (Nat.le_of_ble_eq_true rfl) (v := fhs js) rfl gX4_write_2.2.2.1 ?_
        refine lv_iconst (v := 1) hx hb gX4_write_2.2.2.2.1 (by decide) ?_
        refine lv_icmp_ne (tgt := 48) hx hb gX4_write_2.2.2.2.2.1 (by decide) (fun c_41_3547 => ?_) (fun c_41_3547 => ?_)
        · refine lv_aload_n hx hb gX4_write_2.2.2.2.2.2.2.2.2.1 rfl (lv_at1 hl) ?_
          refine gf_X4_11 hC rfl hK hP 0 rfl rfl gX4_write_2.2.2.2.2.2.2.2.2.2 ?_
          refine lv_iload_n hx hb gX4_write_3.1 rfl (lv_at2 hl) ?_
          refine aldN hC hK hP 1 rfl (k := js) (by omega) (Nat.le_of_ble_eq_true rfl) (v := fhs js) rfl gX4_write_3.2.1 ?_
          refine lv_iconst (v := 4) hx hb gX4_write_3.2.2.1 (by decide) ?_
          refine lv_icmp_ne (tgt := 69) hx hb gX4_write_3.2.2.2.1 (by decide) (fun c_55_3548 => ?_) (fun c_55_3548 => ?_)
          · refine lv_aload_n hx hb gX4_write_4.1 rfl (lv_at1 hl) ?_
            refine gf_X4_18 hC rfl hK hP 0 rfl rfl gX4_write_4.2.1 ?_
            refine lv_iload_n hx hb gX4_write_4.2.2.1 rfl (lv_at2 hl) ?_
            refine lv_bipush (v := 40) hx hb gX4_write_4.2.2.2.1 (by decide) ?_
            refine lv_imul hx hb gX4_write_4.2.2.2.2.1 ?_
            refine eqi (x1 := nI (js * 40)) (nI_mul js 40) ?_
            refine lv_iload_n hx hb gX4_write_4.2.2.2.2.2.1 rfl (lv_at3 hl) ?_
            refine lv_iadd hx hb gX4_write_4.2.2.2.2.2.2.1 ?_
            refine eqi (x1 := nI (js * 40 + ji)) (nI_add (js * 40) ji) ?_
            refine lv_iload hx hb gX4_write_4.2.2.2.2.2.2.2.1 (lv_at0 hl) ?_
            refine astN hC hK hP hD hS 2 (ws' := [(h0, oX4 hs hz hi hw hn ht), (hs, iA G 4 fhs), (hi, iA G 160 (upd fhi (js * 40 + ji) x3))]) rfl (k := (js * 40 + ji)) (by omega) (Nat.le_of_ble_eq_true rfl) (rfl) gX4_write_4.2.2.2.2.2.2.2.2.1 (fun H locs hP hD hS => ?_)
            refine toQ hQ0 ?_
            exact RV hC hP hD hS [0, 1, 2] (upd fhi (js * 40 + ji) x3) rfl rfl (by decide) ((fun i => congrArg (fun z9 => upd fhi (js * 40 + ji) z9 i) (show x3 = NARW (fhs js) x3 from by unfold NARW; simp only [ifc_t hjs, ifc_t hji, ifc_t a3543, ifc_t a3545, ifc_f c_27_3546, ifc_f c_41_3547, ifc_f c_55_3548]))) gX4_write_4.2.2.2.2.2.2.2.2.2
          · refine lv_iload_n hx hb gX4_write_3.2.2.2.2.1 rfl (lv_at4 hl) ?_
            refine lv_if_eq (tgt := 66) hx hb gX4_write_3.2.2.2.2.2.1 (by decide) (fun c_59_3549 => ?_) (fun c_59_3549 => ?_)
            · refine lv_iconst (v := 0) hx hb gX4_write_3.2.2.2.2.2.2.2.2.1 (by decide) ?_
              refine lv_istore (lv' := [(4, .int 0), (0, .ref h0), (1, .int (nI js)), (2, .int (nI ji)), (3, .int x3)]) hx hb gX4_write_3.2.2.2.2.2.2.2.2.2 hl (by decide) rfl (fun ls hl => ?_)
              refine lv_aload_n hx hb gX4_write_4.1 rfl (lv_at1 hl) ?_
              refine gf_X4_18 hC rfl hK hP 0 rfl rfl gX4_write_4.2.1 ?_
              refine lv_iload_n hx hb gX4_write_4.2.2.1 rfl (lv_at2 hl) ?_
              refine lv_bipush (v := 40) hx hb gX4_write_4.2.2.2.1 (by decide) ?_
              refine lv_imul hx hb gX4_write_4.2.2.2.2.1 ?_
              refine eqi (x1 := nI (js * 40)) (nI_mul js 40) ?_
              refine lv_iload_n hx hb gX4_write_4.2.2.2.2.2.1 rfl (lv_at3 hl) ?_
              refine lv_iadd hx hb gX4_write_4.2.2.2.2.2.2.1 ?_
              refine eqi (x1 := nI (js * 40 + ji)) (nI_add (js * 40) ji) ?_
              refine lv_iload hx hb gX4_write_4.2.2.2.2.2.2.2.1 (lv_at0 hl) ?_
              refine astN hC hK hP hD hS 2 (ws' := [(h0, oX4 hs hz hi hw hn ht), (hs, iA G 4 fhs), (hi, iA G 160 (upd fhi (js * 40 + ji) 0))]) rfl (k := (js * 40 + ji)) (by omega) (Nat.le_of_ble_eq_true rfl) (rfl) gX4_write_4.2.2.2.2.2.2.2.2.1 (fun H locs hP hD hS => ?_)
              refine toQ hQ0 ?_
              exact RV hC hP hD hS [0, 1, 2] (upd fhi (js * 40 + ji) 0) rfl rfl (by decide) ((fun i => congrArg (fun z9 => upd fhi (js * 40 + ji) z9 i) (show 0 = NARW (fhs js) x3 from by unfold NARW; simp only [ifc_t hjs, ifc_t hji, ifc_t a3543, ifc_t a3545, ifc_f c_27_3546, ifc_f c_41_3547, ifc_t c_55_3548, ifc_t c_59_3549]))) gX4_write_4.2.2.2.2.2.2.2.2.2
            · refine lv_iconst (v := 1) hx hb gX4_write_3.2.2.2.2.2.2.1 (by decide) ?_
              refine lv_goto (tgt := 67) hx hb gX4_write_3.2.2.2.2.2.2.2.1 (by decide) ?_
              refine lv_istore (lv' := [(4, .int 1), (0, .ref h0), (1, .int (nI js)), (2, .int (nI ji)), (3, .int x3)]) hx hb gX4_write_3.2.2.2.2.2.2.2.2.2 hl (by decide) rfl (fun ls hl => ?_)
              refine lv_aload_n hx hb gX4_write_4.1 rfl (lv_at1 hl) ?_
              refine gf_X4_18 hC rfl hK hP 0 rfl rfl gX4_write_4.2.1 ?_
              refine lv_iload_n hx hb gX4_write_4.2.2.1 rfl (lv_at2 hl) ?_
              refine lv_bipush (v := 40) hx hb gX4_write_4.2.2.2.1 (by decide) ?_
              refine lv_imul hx hb gX4_write_4.2.2.2.2.1 ?_
              refine eqi (x1 := nI (js * 40)) (nI_mul js 40) ?_
              refine lv_iload_n hx hb gX4_write_4.2.2.2.2.2.1 rfl (lv_at3 hl) ?_
              refine lv_iadd hx hb gX4_write_4.2.2.2.2.2.2.1 ?_
              refine eqi (x1 := nI (js * 40 + ji)) (nI_add (js * 40) ji) ?_
              refine lv_iload hx hb gX4_write_4.2.2.2.2.2.2.2.1 (lv_at0 hl) ?_
              refine astN hC hK hP hD hS 2 (ws' := [(h0, oX4 hs hz hi hw hn ht), (hs, iA G 4 fhs), (hi, iA G 160 (upd fhi (js * 40 + ji) 1))]) rfl (k := (js * 40 + ji)) (by omega) (Nat.le_of_ble_eq_true rfl) (rfl) gX4_write_4.2.2.2.2.2.2.2.2.1 (fun H locs hP hD hS => ?_)
              refine toQ hQ0 ?_
              exact RV hC hP hD hS [0, 1, 2] (upd fhi (js * 40 + ji) 1) rfl rfl (by decide) ((fun i => congrArg (fun z9 => upd fhi (js * 40 + ji) z9 i) (show 1 = NARW (fhs js) x3 from by unfold NARW; simp only [ifc_t hjs, ifc_t hji, ifc_t a3543, ifc_t a3545, ifc_f c_27_3546, ifc_f c_41_3547, ifc_t c_55_3548, ifc_f c_59_3549]))) gX4_write_4.2.2.2.2.2.2.2.2.2
        · refine lv_iload_n hx hb gX4_write_2.2.2.2.2.2.1 rfl (lv_at4 hl) ?_
          refine lv_i2s hx hb gX4_write_2.2.2.2.2.2.2.1 rfl ?_
          refine lv_istore (lv' := [(4, .int (x3.toInt16.toInt32)), (0, .ref h0), (1, .int (nI js)), (2, .int (nI ji)), (3, .int x3)]) hx hb gX4_write_2.2.2.2.2.2.2.2.1 hl (by decide) rfl (fun ls hl => ?_)
          refine lv_aload_n hx hb gX4_write_2.2.2.2.2.2.2.2.2.1 rfl (lv_at1 hl) ?_
          refine gf_X4_11 hC rfl hK hP 0 rfl rfl gX4_write_2.2.2.2.2.2.2.2.2.2 ?_
          refine lv_iload_n hx hb gX4_write_3.1 rfl (lv_at2 hl) ?_
          refine aldN hC hK hP 1 rfl (k := js) (by omega) (Nat.le_of_ble_eq_true rfl) (v := fhs js) rfl gX4_write_3.2.1 ?_
          refine lv_iconst (v := 4) hx hb gX4_write_3.2.2.1 (by decide) ?_
          refine lv_icmp_ne (tgt := 69) hx hb gX4_write_3.2.2.2.1 (by decide) (fun c_55_3550 => ?_) (fun c_55_3550 => ?_)
          · refine lv_aload_n hx hb gX4_write_4.1 rfl (lv_at1 hl) ?_
            refine gf_X4_18 hC rfl hK hP 0 rfl rfl gX4_write_4.2.1 ?_
            refine lv_iload_n hx hb gX4_write_4.2.2.1 rfl (lv_at2 hl) ?_
            refine lv_bipush (v := 40) hx hb gX4_write_4.2.2.2.1 (by decide) ?_
            refine lv_imul hx hb gX4_write_4.2.2.2.2.1 ?_
            refine eqi (x1 := nI (js * 40)) (nI_mul js 40) ?_
            refine lv_iload_n hx hb gX4_write_4.2.2.2.2.2.1 rfl (lv_at3 hl) ?_
            refine lv_iadd hx hb gX4_write_4.2.2.2.2.2.2.1 ?_
            refine eqi (x1 := nI (js * 40 + ji)) (nI_add (js * 40) ji) ?_
            refine lv_iload hx hb gX4_write_4.2.2.2.2.2.2.2.1 (lv_at0 hl) ?_
            refine astN hC hK hP hD hS 2 (ws' := [(h0, oX4 hs hz hi hw hn ht), (hs, iA G 4 fhs), (hi, iA G 160 (upd fhi (js * 40 + ji) x3.toInt16.toInt32))]) rfl (k := (js * 40 + ji)) (by omega) (Nat.le_of_ble_eq_true rfl) (rfl) gX4_write_4.2.2.2.2.2.2.2.2.1 (fun H locs hP hD hS => ?_)
            refine toQ hQ0 ?_
            exact RV hC hP hD hS [0, 1, 2] (upd fhi (js * 40 + ji) x3.toInt16.toInt32) rfl rfl (by decide) ((fun i => congrArg (fun z9 => upd fhi (js * 40 + ji) z9 i) (show x3.toInt16.toInt32 = NARW (fhs js) x3 from by unfold NARW; simp only [ifc_t hjs, ifc_t hji, ifc_t a3543, ifc_t a3545, ifc_f c_27_3546, ifc_t c_41_3547, ifc_f c_55_3550]))) gX4_write_4.2.2.2.2.2.2.2.2.2
          · refine lv_iload_n hx hb gX4_write_3.2.2.2.2.1 rfl (lv_at4 hl) ?_
            refine lv_if_eq (tgt := 66) hx hb gX4_write_3.2.2.2.2.2.1 (by decide) (fun c_59_3551 => ?_) (fun c_59_3551 => ?_)
            · refine lv_iconst (v := 0) hx hb gX4_write_3.2.2.2.2.2.2.2.2.1 (by decide) ?_
              refine lv_istore (lv' := [(4, .int 0), (0, .ref h0), (1, .int (nI js)), (2, .int (nI ji)), (3, .int x3)]) hx hb gX4_write_3.2.2.2.2.2.2.2.2.2 hl (by decide) rfl (fun ls hl => ?_)
              refine lv_aload_n hx hb gX4_write_4.1 rfl (lv_at1 hl) ?_
              refine gf_X4_18 hC rfl hK hP 0 rfl rfl gX4_write_4.2.1 ?_
              refine lv_iload_n hx hb gX4_write_4.2.2.1 rfl (lv_at2 hl) ?_
              refine lv_bipush (v := 40) hx hb gX4_write_4.2.2.2.1 (by decide) ?_
              refine lv_imul hx hb gX4_write_4.2.2.2.2.1 ?_
              refine eqi (x1 := nI (js * 40)) (nI_mul js 40) ?_
              refine lv_iload_n hx hb gX4_write_4.2.2.2.2.2.1 rfl (lv_at3 hl) ?_
              refine lv_iadd hx hb gX4_write_4.2.2.2.2.2.2.1 ?_
              refine eqi (x1 := nI (js * 40 + ji)) (nI_add (js * 40) ji) ?_
              refine lv_iload hx hb gX4_write_4.2.2.2.2.2.2.2.1 (lv_at0 hl) ?_
              refine astN hC hK hP hD hS 2 (ws' := [(h0, oX4 hs hz hi hw hn ht), (hs, iA G 4 fhs), (hi, iA G 160 (upd fhi (js * 40 + ji) 0))]) rfl (k := (js * 40 + ji)) (by omega) (Nat.le_of_ble_eq_true rfl) (rfl) gX4_write_4.2.2.2.2.2.2.2.2.1 (fun H locs hP hD hS => ?_)
              refine toQ hQ0 ?_
              exact RV hC hP hD hS [0, 1, 2] (upd fhi (js * 40 + ji) 0) rfl rfl (by decide) ((fun i => congrArg (fun z9 => upd fhi (js * 40 + ji) z9 i) (show 0 = NARW (fhs js) x3 from by unfold NARW; simp only [ifc_t hjs, ifc_t hji, ifc_t a3543, ifc_t a3545, ifc_f c_27_3546, ifc_t c_41_3547, ifc_t c_55_3550, ifc_t c_59_3551]))) gX4_write_4.2.2.2.2.2.2.2.2.2
            · refine lv_iconst (v := 1) hx hb gX4_write_3.2.2.2.2.2.2.1 (by decide) ?_
              refine lv_goto (tgt := 67) hx hb gX4_write_3.2.2.2.2.2.2.2.1 (by decide) ?_
              refine lv_istore (lv' := [(4, .int 1), (0, .ref h0), (1, .int (nI js)), (2, .int (nI ji)), (3, .int x3)]) hx hb gX4_write_3.2.2.2.2.2.2.2.2.2 hl (by decide) rfl (fun ls hl => ?_)
              refine lv_aload_n hx hb gX4_write_4.1 rfl (lv_at1 hl) ?_
              refine gf_X4_18 hC rfl hK hP 0 rfl rfl gX4_write_4.2.1 ?_
              refine lv_iload_n hx hb gX4_write_4.2.2.1 rfl (lv_at2 hl) ?_
              refine lv_bipush (v := 40) hx hb gX4_write_4.2.2.2.1 (by decide) ?_
              refine lv_imul hx hb gX4_write_4.2.2.2.2.1 ?_
              refine eqi (x1 := nI (js * 40)) (nI_mul js 40) ?_
              refine lv_iload_n hx hb gX4_write_4.2.2.2.2.2.1 rfl (lv_at3 hl) ?_
              refine lv_iadd hx hb gX4_write_4.2.2.2.2.2.2.1 ?_
              refine eqi (x1 := nI (js * 40 + ji)) (nI_add (js * 40) ji) ?_
              refine lv_iload hx hb gX4_write_4.2.2.2.2.2.2.2.1 (lv_at0 hl) ?_
              refine astN hC hK hP hD hS 2 (ws' := [(h0, oX4 hs hz hi hw hn ht), (hs, iA G 4 fhs), (hi, iA G 160 (upd fhi (js * 40 + ji) 1))]) rfl (k := (js * 40 + ji)) (by omega) (Nat.le_of_ble_eq_true rfl) (rfl) gX4_write_4.2.2.2.2.2.2.2.2.1 (fun H locs hP hD hS => ?_)
              refine toQ hQ0 ?_
              exact RV hC hP hD hS [0, 1, 2] (upd fhi (js * 40 + ji) 1) rfl rfl (by decide) ((fun i => congrArg (fun z9 => upd fhi (js * 40 + ji) z9 i) (show 1 = NARW (fhs js) x3 from by unfold NARW; simp only [ifc_t hjs, ifc_t hji, ifc_t a3543, ifc_t a3545, ifc_f c_27_3546, ifc_t c_41_3547, ifc_t c_55_3550, ifc_f c_59_3551]))) gX4_write_4.2.2.2.2.2.2.2.2.2
      · refine lv_iload_n hx hb gX4_write_1.2.2.2.2.2.2.1 rfl (lv_at4 hl) ?_
        refine lv_i2b hx hb gX4_write_1.2.2.2.2.2.2.2.1 rfl ?_
        refine lv_istore (lv' := [(4, .int (x3.toInt8.toInt32)), (0, .ref h0), (1, .int (nI js)), (2, .int (nI ji)), (3, .int x3)]) hx hb gX4_write_1.2.2.2.2.2.2.2.2.1 hl (by decide) rfl (fun ls hl => ?_)
        refine lv_aload_n hx hb gX4_write_1.2.2.2.2.2.2.2.2.2 rfl (lv_at1 hl) ?_
        refine gf_X4_11 hC rfl hK hP 0 rfl rfl gX4_write_2.1 ?_
        refine lv_iload_n hx hb gX4_write_2.2.1 rfl (lv_at2 hl) ?_
        refine aldN hC hK hP 1 rfl (k := js) (by omega) (Nat.le_of_ble_eq_true rfl) (v := fhs js) rfl gX4_write_2.2.2.1 ?_
        refine lv_iconst (v := 1) hx hb gX4_write_2.2.2.2.1 (by decide) ?_
        refine lv_icmp_ne (tgt := 48) hx hb gX4_write_2.2.2.2.2.1 (by decide) (fun c_41_3552 => ?_) (fun c_41_3552 => ?_)
        · refine lv_aload_n hx hb gX4_write_2.2.2.2.2.2.2.2.2.1 rfl (lv_at1 hl) ?_
          refine gf_X4_11 hC rfl hK hP 0 rfl rfl gX4_write_2.2.2.2.2.2.2.2.2.2 ?_
          refine lv_iload_n hx hb gX4_write_3.1 rfl (lv_at2 hl) ?_
          refine aldN hC hK hP 1 rfl (k := js) (by omega) (Nat.le_of_ble_eq_true rfl) (v := fhs js) rfl gX4_write_3.2.1 ?_
          refine lv_iconst (v := 4) hx hb gX4_write_3.2.2.1 (by decide) ?_
          refine lv_icmp_ne (tgt := 69) hx hb gX4_write_3.2.2.2.1 (by decide) (fun c_55_3553 => ?_) (fun c_55_3553 => ?_)
          · refine lv_aload_n hx hb gX4_write_4.1 rfl (lv_at1 hl) ?_
            refine gf_X4_18 hC rfl hK hP 0 rfl rfl gX4_write_4.2.1 ?_
            refine lv_iload_n hx hb gX4_write_4.2.2.1 rfl (lv_at2 hl) ?_
            refine lv_bipush (v := 40) hx hb gX4_write_4.2.2.2.1 (by decide) ?_
            refine lv_imul hx hb gX4_write_4.2.2.2.2.1 ?_
            refine eqi (x1 := nI (js * 40)) (nI_mul js 40) ?_
            refine lv_iload_n hx hb gX4_write_4.2.2.2.2.2.1 rfl (lv_at3 hl) ?_
            refine lv_iadd hx hb gX4_write_4.2.2.2.2.2.2.1 ?_
            refine eqi (x1 := nI (js * 40 + ji)) (nI_add (js * 40) ji) ?_
            refine lv_iload hx hb gX4_write_4.2.2.2.2.2.2.2.1 (lv_at0 hl) ?_
            refine astN hC hK hP hD hS 2 (ws' := [(h0, oX4 hs hz hi hw hn ht), (hs, iA G 4 fhs), (hi, iA G 160 (upd fhi (js * 40 + ji) x3.toInt8.toInt32))]) rfl (k := (js * 40 + ji)) (by omega) (Nat.le_of_ble_eq_true rfl) (rfl) gX4_write_4.2.2.2.2.2.2.2.2.1 (fun H locs hP hD hS => ?_)
            refine toQ hQ0 ?_
            exact RV hC hP hD hS [0, 1, 2] (upd fhi (js * 40 + ji) x3.toInt8.toInt32) rfl rfl (by decide) ((fun i => congrArg (fun z9 => upd fhi (js * 40 + ji) z9 i) (show x3.toInt8.toInt32 = NARW (fhs js) x3 from by unfold NARW; simp only [ifc_t hjs, ifc_t hji, ifc_t a3543, ifc_t a3545, ifc_t c_27_3546, ifc_f c_41_3552, ifc_f c_55_3553]))) gX4_write_4.2.2.2.2.2.2.2.2.2
          · refine lv_iload_n hx hb gX4_write_3.2.2.2.2.1 rfl (lv_at4 hl) ?_
            refine lv_if_eq (tgt := 66) hx hb gX4_write_3.2.2.2.2.2.1 (by decide) (fun c_59_3554 => ?_) (fun c_59_3554 => ?_)
            · refine lv_iconst (v := 0) hx hb gX4_write_3.2.2.2.2.2.2.2.2.1 (by decide) ?_
              refine lv_istore (lv' := [(4, .int 0), (0, .ref h0), (1, .int (nI js)), (2, .int (nI ji)), (3, .int x3)]) hx hb gX4_write_3.2.2.2.2.2.2.2.2.2 hl (by decide) rfl (fun ls hl => ?_)
              refine lv_aload_n hx hb gX4_write_4.1 rfl (lv_at1 hl) ?_
              refine gf_X4_18 hC rfl hK hP 0 rfl rfl gX4_write_4.2.1 ?_
              refine lv_iload_n hx hb gX4_write_4.2.2.1 rfl (lv_at2 hl) ?_
              refine lv_bipush (v := 40) hx hb gX4_write_4.2.2.2.1 (by decide) ?_
              refine lv_imul hx hb gX4_write_4.2.2.2.2.1 ?_
              refine eqi (x1 := nI (js * 40)) (nI_mul js 40) ?_
              refine lv_iload_n hx hb gX4_write_4.2.2.2.2.2.1 rfl (lv_at3 hl) ?_
              refine lv_iadd hx hb gX4_write_4.2.2.2.2.2.2.1 ?_
              refine eqi (x1 := nI (js * 40 + ji)) (nI_add (js * 40) ji) ?_
              refine lv_iload hx hb gX4_write_4.2.2.2.2.2.2.2.1 (lv_at0 hl) ?_
              refine astN hC hK hP hD hS 2 (ws' := [(h0, oX4 hs hz hi hw hn ht), (hs, iA G 4 fhs), (hi, iA G 160 (upd fhi (js * 40 + ji) 0))]) rfl (k := (js * 40 + ji)) (by omega) (Nat.le_of_ble_eq_true rfl) (rfl) gX4_write_4.2.2.2.2.2.2.2.2.1 (fun H locs hP hD hS => ?_)
              refine toQ hQ0 ?_
              exact RV hC hP hD hS [0, 1, 2] (upd fhi (js * 40 + ji) 0) rfl rfl (by decide) ((fun i => congrArg (fun z9 => upd fhi (js * 40 + ji) z9 i) (show 0 = NARW (fhs js) x3 from by unfold NARW; simp only [ifc_t hjs, ifc_t hji, ifc_t a3543, ifc_t a3545, ifc_t c_27_3546, ifc_f c_41_3552, ifc_t c_55_3553, ifc_t c_59_3554]))) gX4_write_4.2.2.2.2.2.2.2.2.2
            · refine lv_iconst (v := 1) hx hb gX4_write_3.2.2.2.2.2.2.1 (by decide) ?_
              refine lv_goto (tgt := 67) hx hb gX4_write_3.2.2.2.2.2.2.2.1 (by decide) ?_
              refine lv_istore (lv' := [(4, .int 1), (0, .ref h0), (1, .int (nI js)), (2, .int (nI ji)), (3, .int x3)]) hx hb gX4_write_3.2.2.2.2.2.2.2.2.2 hl (by decide) rfl (fun ls hl => ?_)
              refine lv_aload_n hx hb gX4_write_4.1 rfl (lv_at1 hl) ?_
              refine gf_X4_18 hC rfl hK hP 0 rfl rfl gX4_write_4.2.1 ?_
              refine lv_iload_n hx hb gX4_write_4.2.2.1 rfl (lv_at2 hl) ?_
              refine lv_bipush (v := 40) hx hb gX4_write_4.2.2.2.1 (by decide) ?_
              refine lv_imul hx hb gX4_write_4.2.2.2.2.1 ?_
              refine eqi (x1 := nI (js * 40)) (nI_mul js 40) ?_
              refine lv_iload_n hx hb gX4_write_4.2.2.2.2.2.1 rfl (lv_at3 hl) ?_
              refine lv_iadd hx hb gX4_write_4.2.2.2.2.2.2.1 ?_
              refine eqi (x1 := nI (js * 40 + ji)) (nI_add (js * 40) ji) ?_
              refine lv_iload hx hb gX4_write_4.2.2.2.2.2.2.2.1 (lv_at0 hl) ?_
              refine astN hC hK hP hD hS 2 (ws' := [(h0, oX4 hs hz hi hw hn ht), (hs, iA G 4 fhs), (hi, iA G 160 (upd fhi (js * 40 + ji) 1))]) rfl (k := (js * 40 + ji)) (by omega) (Nat.le_of_ble_eq_true rfl) (rfl) gX4_write_4.2.2.2.2.2.2.2.2.1 (fun H locs hP hD hS => ?_)
              refine toQ hQ0 ?_
              exact RV hC hP hD hS [0, 1, 2] (upd fhi (js * 40 + ji) 1) rfl rfl (by decide) ((fun i => congrArg (fun z9 => upd fhi (js * 40 + ji) z9 i) (show 1 = NARW (fhs js) x3 from by unfold NARW; simp only [ifc_t hjs, ifc_t hji, ifc_t a3543, ifc_t a3545, ifc_t c_27_3546, ifc_f c_41_3552, ifc_t c_55_3553, ifc_f c_59_3554]))) gX4_write_4.2.2.2.2.2.2.2.2.2
        · refine lv_iload_n hx hb gX4_write_2.2.2.2.2.2.1 rfl (lv_at4 hl) ?_
          refine lv_i2s hx hb gX4_write_2.2.2.2.2.2.2.1 rfl ?_
          refine lv_istore (lv' := [(4, .int (x3.toInt16.toInt32)), (0, .ref h0), (1, .int (nI js)), (2, .int (nI ji)), (3, .int x3)]) hx hb gX4_write_2.2.2.2.2.2.2.2.1 hl (by decide) rfl (fun ls hl => ?_)
          refine lv_aload_n hx hb gX4_write_2.2.2.2.2.2.2.2.2.1 rfl (lv_at1 hl) ?_
          refine gf_X4_11 hC rfl hK hP 0 rfl rfl gX4_write_2.2.2.2.2.2.2.2.2.2 ?_
          refine lv_iload_n hx hb gX4_write_3.1 rfl (lv_at2 hl) ?_
          refine aldN hC hK hP 1 rfl (k := js) (by omega) (Nat.le_of_ble_eq_true rfl) (v := fhs js) rfl gX4_write_3.2.1 ?_
          refine lv_iconst (v := 4) hx hb gX4_write_3.2.2.1 (by decide) ?_
          refine lv_icmp_ne (tgt := 69) hx hb gX4_write_3.2.2.2.1 (by decide) (fun c_55_3555 => ?_) (fun c_55_3555 => ?_)
          · refine lv_aload_n hx hb gX4_write_4.1 rfl (lv_at1 hl) ?_
            refine gf_X4_18 hC rfl hK hP 0 rfl rfl gX4_write_4.2.1 ?_
            refine lv_iload_n hx hb gX4_write_4.2.2.1 rfl (lv_at2 hl) ?_
            refine lv_bipush (v := 40) hx hb gX4_write_4.2.2.2.1 (by decide) ?_
            refine lv_imul hx hb gX4_write_4.2.2.2.2.1 ?_
            refine eqi (x1 := nI (js * 40)) (nI_mul js 40) ?_
            refine lv_iload_n hx hb gX4_write_4.2.2.2.2.2.1 rfl (lv_at3 hl) ?_
            refine lv_iadd hx hb gX4_write_4.2.2.2.2.2.2.1 ?_
            refine eqi (x1 := nI (js * 40 + ji)) (nI_add (js * 40) ji) ?_
            refine lv_iload hx hb gX4_write_4.2.2.2.2.2.2.2.1 (lv_at0 hl) ?_
            refine astN hC hK hP hD hS 2 (ws' := [(h0, oX4 hs hz hi hw hn ht), (hs, iA G 4 fhs), (hi, iA G 160 (upd fhi (js * 40 + ji) x3.toInt16.toInt32))]) rfl (k := (js * 40 + ji)) (by omega) (Nat.le_of_ble_eq_true rfl) (rfl) gX4_write_4.2.2.2.2.2.2.2.2.1 (fun H locs hP hD hS => ?_)
            refine toQ hQ0 ?_
            exact RV hC hP hD hS [0, 1, 2] (upd fhi (js * 40 + ji) x3.toInt16.toInt32) rfl rfl (by decide) ((fun i => congrArg (fun z9 => upd fhi (js * 40 + ji) z9 i) (show x3.toInt16.toInt32 = NARW (fhs js) x3 from by unfold NARW; simp only [ifc_t hjs, ifc_t hji, ifc_t a3543, ifc_t a3545, ifc_t c_27_3546, ifc_t c_41_3552, ifc_f c_55_3555]))) gX4_write_4.2.2.2.2.2.2.2.2.2
          · refine lv_iload_n hx hb gX4_write_3.2.2.2.2.1 rfl (lv_at4 hl) ?_
            refine lv_if_eq (tgt := 66) hx hb gX4_write_3.2.2.2.2.2.1 (by decide) (fun c_59_3556 => ?_) (fun c_59_3556 => ?_)
            · refine lv_iconst (v := 0) hx hb gX4_write_3.2.2.2.2.2.2.2.2.1 (by decide) ?_
              refine lv_istore (lv' := [(4, .int 0), (0, .ref h0), (1, .int (nI js)), (2, .int (nI ji)), (3, .int x3)]) hx hb gX4_write_3.2.2.2.2.2.2.2.2.2 hl (by decide) rfl (fun ls hl => ?_)
              refine lv_aload_n hx hb gX4_write_4.1 rfl (lv_at1 hl) ?_
              refine gf_X4_18 hC rfl hK hP 0 rfl rfl gX4_write_4.2.1 ?_
              refine lv_iload_n hx hb gX4_write_4.2.2.1 rfl (lv_at2 hl) ?_
              refine lv_bipush (v := 40) hx hb gX4_write_4.2.2.2.1 (by decide) ?_
              refine lv_imul hx hb gX4_write_4.2.2.2.2.1 ?_
              refine eqi (x1 := nI (js * 40)) (nI_mul js 40) ?_
              refine lv_iload_n hx hb gX4_write_4.2.2.2.2.2.1 rfl (lv_at3 hl) ?_
              refine lv_iadd hx hb gX4_write_4.2.2.2.2.2.2.1 ?_
              refine eqi (x1 := nI (js * 40 + ji)) (nI_add (js * 40) ji) ?_
              refine lv_iload hx hb gX4_write_4.2.2.2.2.2.2.2.1 (lv_at0 hl) ?_
              refine astN hC hK hP hD hS 2 (ws' := [(h0, oX4 hs hz hi hw hn ht), (hs, iA G 4 fhs), (hi, iA G 160 (upd fhi (js * 40 + ji) 0))]) rfl (k := (js * 40 + ji)) (by omega) (Nat.le_of_ble_eq_true rfl) (rfl) gX4_write_4.2.2.2.2.2.2.2.2.1 (fun H locs hP hD hS => ?_)
              refine toQ hQ0 ?_
              exact RV hC hP hD hS [0, 1, 2] (upd fhi (js * 40 + ji) 0) rfl rfl (by decide) ((fun i => congrArg (fun z9 => upd fhi (js * 40 + ji) z9 i) (show 0 = NARW (fhs js) x3 from by unfold NARW; simp only [ifc_t hjs, ifc_t hji, ifc_t a3543, ifc_t a3545, ifc_t c_27_3546, ifc_t c_41_3552, ifc_t c_55_3555, ifc_t c_59_3556]))) gX4_write_4.2.2.2.2.2.2.2.2.2
            · refine lv_iconst (v := 1) hx hb gX4_write_3.2.2.2.2.2.2.1 (by decide) ?_
              refine lv_goto (tgt := 67) hx hb gX4_write_3.2.2.2.2.2.2.2.1 (by decide) ?_
              refine lv_istore (lv' := [(4, .int 1), (0, .ref h0), (1, .int (nI js)), (2, .int (nI ji)), (3, .int x3)]) hx hb gX4_write_3.2.2.2.2.2.2.2.2.2 hl (by decide) rfl (fun ls hl => ?_)
              refine lv_aload_n hx hb gX4_write_4.1 rfl (lv_at1 hl) ?_
              refine gf_X4_18 hC rfl hK hP 0 rfl rfl gX4_write_4.2.1 ?_
              refine lv_iload_n hx hb gX4_write_4.2.2.1 rfl (lv_at2 hl) ?_
              refine lv_bipush (v := 40) hx hb gX4_write_4.2.2.2.1 (by decide) ?_
              refine lv_imul hx hb gX4_write_4.2.2.2.2.1 ?_
              refine eqi (x1 := nI (js * 40)) (nI_mul js 40) ?_
              refine lv_iload_n hx hb gX4_write_4.2.2.2.2.2.1 rfl (lv_at3 hl) ?_
              refine lv_iadd hx hb gX4_write_4.2.2.2.2.2.2.1 ?_
              refine eqi (x1 := nI (js * 40 + ji)) (nI_add (js * 40) ji) ?_
              refine lv_iload hx hb gX4_write_4.2.2.2.2.2.2.2.1 (lv_at0 hl) ?_
              refine astN hC hK hP hD hS 2 (ws' := [(h0, oX4 hs hz hi hw hn ht), (hs, iA G 4 fhs), (hi, iA G 160 (upd fhi (js * 40 + ji) 1))]) rfl (k := (js * 40 + ji)) (by omega) (Nat.le_of_ble_eq_true rfl) (rfl) gX4_write_4.2.2.2.2.2.2.2.2.1 (fun H locs hP hD hS => ?_)
              refine toQ hQ0 ?_
              exact RV hC hP hD hS [0, 1, 2] (upd fhi (js * 40 + ji) 1) rfl rfl (by decide) ((fun i => congrArg (fun z9 => upd fhi (js * 40 + ji) z9 i) (show 1 = NARW (fhs js) x3 from by unfold NARW; simp only [ifc_t hjs, ifc_t hji, ifc_t a3543, ifc_t a3545, ifc_t c_27_3546, ifc_t c_41_3552, ifc_t c_55_3555, ifc_f c_59_3556]))) gX4_write_4.2.2.2.2.2.2.2.2.2
    · exact absurd wj2 a3545
  · exact absurd wj1 a3543
def K_c_refX (l : Launch) (G : GG) (h0 : Nat) (js : Nat) (hs : Nat) (hz : Nat) (hi : Nat) (hw : Nat) (hn : Nat) (ht : Nat) (fhs : Nat → Int32) (as9 : Int32) : Prop := MP l G yX4_refusal cX4_refusal 4 (some .int) 4 [.ref h0, .int (nI js), .int as9] [(h0, oX4 hs hz hi hw hn ht), (hs, iA G 4 fhs)] (fun r : Int32 => (r = (-11) ∧ fhs js = (-1)) ∨ (r = 0 ∧ RF0 (fhs js) as9) ∨ (r = (-13) ∧ RF3 (fhs js) as9))
set_option maxHeartbeats 4000000 in
set_option maxRecDepth 100000 in
theorem c_refX (l : Launch) (G : GG) (h0 : Nat) (js : Nat) (hs : Nat) (hz : Nat) (hi : Nat) (hw : Nat) (hn : Nat) (ht : Nat) (fhs : Nat → Int32) (as9 : Int32) (hjs : js < 4) : K_c_refX l G h0 js hs hz hi hw hn ht fhs as9 := by
  refine MP.start (by decide +kernel) (Nat.le_of_ble_eq_true rfl) ?_
  intro p e s m below meth c ls hC hK hP hD hl
  refine absQ (fun Q0 hQ0 => ?_)
  have hl : lv_has ls 4 [(0, .ref h0), (1, .int (nI js)), (2, .int as9)] := hl
  refine Kan8 hC (fun hx hb hr hml hB hown hlocks hnm => ?_)
  refine lv_aload_n hx hb gX4_refusal_0.1 rfl (lv_at0 hl) ?_
  refine lv_iload_n hx hb gX4_refusal_0.2.1 rfl (lv_at1 hl) ?_
  refine pV hC hK hl hP hD (c_sortX l G h0 js hs hz hi hw hn ht fhs (hjs)) si_X4_38 [0, 1] sm_0_1 fm_0_1 nd_0_1 rfl rfl rfl rfl rfl (Nat.le_of_ble_eq_true rfl) rm_4_3_2 ⟨by first | exact Nat.le_of_ble_eq_true rfl | exact Nat.zero_le _, by first | exact Nat.le_of_ble_eq_true rfl | exact Nat.zero_le _⟩ gX4_refusal_0.2.2.1 (Keqr ?_)
  refine lv_istore_n (lv' := [(3, .int (fhs js)), (0, .ref h0), (1, .int (nI js)), (2, .int as9)]) hx hb gX4_refusal_0.2.2.2.1 rfl hl (by decide) rfl (fun ls hl => ?_)
  refine lv_iload_n hx hb gX4_refusal_0.2.2.2.2.1 rfl (lv_at0 hl) ?_
  refine lv_iconst (v := (-1)) hx hb gX4_refusal_0.2.2.2.2.2.1 (by decide) ?_
  refine lv_icmp_ne (tgt := 14) hx hb gX4_refusal_0.2.2.2.2.2.2.1 (by decide) (fun c_8_3559 => ?_) (fun c_8_3559 => ?_)
  · refine lv_iload_n hx hb gX4_refusal_0.2.2.2.2.2.2.2.2.2 rfl (lv_at0 hl) ?_
    refine lv_iload_n hx hb gX4_refusal_1.1 rfl (lv_at3 hl) ?_
    refine lv_icmp_ne (tgt := 23) hx hb gX4_refusal_1.2.1 (by decide) (fun c_16_3560 => ?_) (fun c_16_3560 => ?_)
    · refine lv_bipush (v := (-13)) hx hb gX4_refusal_1.2.2.2.2.1 (by decide) ?_
      refine toQ hQ0 ?_
      exact RP (v := (-13)) hC (Or.inr (Or.inr ⟨rfl, ⟨c_8_3559, c_16_3560⟩⟩)) rfl gX4_refusal_1.2.2.2.2.2
    · refine lv_iconst (v := 0) hx hb gX4_refusal_1.2.2.1 (by decide) ?_
      refine lv_goto (tgt := 25) hx hb gX4_refusal_1.2.2.2.1 (by decide) ?_
      refine toQ hQ0 ?_
      exact RP (v := 0) hC (Or.inr (Or.inl ⟨rfl, ⟨c_8_3559, c_16_3560⟩⟩)) rfl gX4_refusal_1.2.2.2.2.2
  · refine lv_bipush (v := (-11)) hx hb gX4_refusal_0.2.2.2.2.2.2.2.1 (by decide) ?_
    refine toQ hQ0 ?_
    exact RP (v := (-11)) hC (Or.inl ⟨rfl, c_8_3559⟩) rfl gX4_refusal_0.2.2.2.2.2.2.2.2.1
def K_p_put (l : Launch) (G : GG) (h0 : Nat) (x1 : Int32) (x2 : Int32) (x3 : Int32) (bb : Nat) (kk : Nat) (ikp : Int32) (sg : Nat) (do9 : Nat) (ru9 : Nat) (ta9 : Nat) (tp9 : Nat) (ro9 : Nat) (ho9 : Nat) (de9 : Nat) (hs : Nat) (hz : Nat) (hi : Nat) (hw : Nat) (hn : Nat) (ht : Nat) (fhs : Nat → Int32) (fhz : Nat → Int32) (fhi : Nat → Int32) : Prop := MI l G yX11_put cX11_put 4 (some .int) 5 0 0 [.ref h0, .int x1, .int x2, .int x3] [(h0, oX11 bb kk ikp sg do9 ru9 ta9 tp9 ro9 ho9 de9), (ho9, oX4 hs hz hi hw hn ht), (hs, iA G 4 fhs), (hz, iA G 4 fhz), (hi, iA G 160 fhi)] (fun (r : Int32) (u : (Nat → Int32)) => (r = ifc (Wi x1 0 3) (ifc (fhs x1.toNatClampNeg = (-1)) (-11) (ifc (Wi x2 0 (fhz x1.toNatClampNeg - 1)) 1 (-12))) (-1)) ∧ (∀ i : Nat, u i = ifc (Wi x1 0 3) (ifc (fhs x1.toNatClampNeg = (-1)) (fhi i) (ifc (Wi x2 0 (fhz x1.toNatClampNeg - 1)) (upd fhi (x1.toNatClampNeg * 40 + x2.toNatClampNeg) (NARW (fhs x1.toNatClampNeg) x3) i) (fhi i))) (fhi i))) (fun u : (Nat → Int32) => [(h0, oX11 bb kk ikp sg do9 ru9 ta9 tp9 ro9 ho9 de9), (ho9, oX4 hs hz hi hw hn ht), (hs, iA G 4 fhs), (hz, iA G 4 fhz), (hi, iA G 160 u)])
set_option maxHeartbeats 4000000 in
set_option maxRecDepth 100000 in
theorem p_put (l : Launch) (G : GG) (h0 : Nat) (x1 : Int32) (x2 : Int32) (x3 : Int32) (bb : Nat) (kk : Nat) (ikp : Int32) (sg : Nat) (do9 : Nat) (ru9 : Nat) (ta9 : Nat) (tp9 : Nat) (ro9 : Nat) (ho9 : Nat) (de9 : Nat) (hs : Nat) (hz : Nat) (hi : Nat) (hw : Nat) (hn : Nat) (ht : Nat) (fhs : Nat → Int32) (fhz : Nat → Int32) (fhi : Nat → Int32) (hZ : SZ fhz) : K_p_put l G h0 x1 x2 x3 bb kk ikp sg do9 ru9 ta9 tp9 ro9 ho9 de9 hs hz hi hw hn ht fhs fhz fhi := by
  refine MI.start (by decide +kernel) (Nat.le_of_ble_eq_true rfl) ?_
  intro p e s m below meth c A ls hC hK hP hD hS hA hl
  refine absQ (fun Q0 hQ0 => ?_)
  have hl : lv_has ls 4 [(0, .ref h0), (1, .int x1), (2, .int x2), (3, .int x3)] := hl
  refine Kan8 hC (fun hx hb hr hml hB hown hlocks hnm => ?_)
  refine lv_iload_n hx hb gX11_put_0.1 rfl (lv_at1 hl) ?_
  refine pS hC hK hl (c_isSheet l G x1) si_X11_164 rfl rfl (Nat.le_of_ble_eq_true rfl) rm_5_2_1 ⟨by first | exact Nat.le_of_ble_eq_true rfl | exact Nat.zero_le _, by first | exact Nat.le_of_ble_eq_true rfl | exact Nat.zero_le _⟩ gX11_put_0.2.1 (Kors (Keqa fun a3562 => ?_) (Keqa fun a3562 => ?_))
  · refine lv_if_ne (tgt := 9) hx hb gX11_put_0.2.2.1 (by decide) (fun _ => ?_) (fun c9 => absurd c9 (by decide))
    obtain ⟨jt, hjt, rfl⟩ := Wi3 a3562
    refine lv_aload_n hx hb gX11_put_0.2.2.2.2.2.1 rfl (lv_at0 hl) ?_
    refine gf_X11_72 hC rfl hK hP 0 rfl rfl gX11_put_0.2.2.2.2.2.2.1 ?_
    refine lv_iload_n hx hb gX11_put_0.2.2.2.2.2.2.2.1 rfl (lv_at1 hl) ?_
    refine pV hC hK hl hP hD (c_sortX l G ho9 jt hs hz hi hw hn ht fhs (by omega)) si_X11_309 [1, 2] sm_1_2 fm_1_2 nd_1_2 rfl rfl rfl rfl rfl (Nat.le_of_ble_eq_true rfl) rm_5_3_2 ⟨by first | exact Nat.le_of_ble_eq_true rfl | exact Nat.zero_le _, by first | exact Nat.le_of_ble_eq_true rfl | exact Nat.zero_le _⟩ gX11_put_0.2.2.2.2.2.2.2.2.1 (Keqr ?_)
    refine lv_iconst (v := (-1)) hx hb gX11_put_0.2.2.2.2.2.2.2.2.2 (by decide) ?_
    refine lv_icmp_ne (tgt := 24) hx hb gX11_put_1.1 (by decide) (fun c_18_3565 => ?_) (fun c_18_3565 => ?_)
    · refine lv_iload_n hx hb gX11_put_1.2.2.2.1 rfl (lv_at2 hl) ?_
      refine lv_iconst (v := 0) hx hb gX11_put_1.2.2.2.2.1 (by decide) ?_
      refine lv_aload_n hx hb gX11_put_1.2.2.2.2.2.1 rfl (lv_at0 hl) ?_
      refine gf_X11_72 hC rfl hK hP 0 rfl rfl gX11_put_1.2.2.2.2.2.2.1 ?_
      refine lv_iload_n hx hb gX11_put_1.2.2.2.2.2.2.2.1 rfl (lv_at1 hl) ?_
      refine pV hC hK hl hP hD (c_sizeX l G ho9 jt hs hz hi hw hn ht fhz (by omega)) si_X11_170 [1, 3] sm_1_3 fm_1_3 nd_1_3 rfl rfl rfl rfl rfl (Nat.le_of_ble_eq_true rfl) rm_5_3_2 ⟨by first | exact Nat.le_of_ble_eq_true rfl | exact Nat.zero_le _, by first | exact Nat.le_of_ble_eq_true rfl | exact Nat.zero_le _⟩ gX11_put_1.2.2.2.2.2.2.2.2.1 (Keqr ?_)
      refine lv_iconst (v := 1) hx hb gX11_put_1.2.2.2.2.2.2.2.2.2 (by decide) ?_
      refine lv_isub hx hb gX11_put_2.1 ?_
      refine pS hC hK hl (c_within l G x2 0 ((fhz jt) - 1)) si_X11_83 rfl rfl (Nat.le_of_ble_eq_true rfl) rm_5_1_3 ⟨by first | exact Nat.le_of_ble_eq_true rfl | exact Nat.zero_le _, by first | exact Nat.le_of_ble_eq_true rfl | exact Nat.zero_le _⟩ gX11_put_2.2.1 (Kors (Keqa fun a3569 => ?_) (Keqa fun a3569 => ?_))
      · refine lv_if_ne (tgt := 45) hx hb gX11_put_2.2.2.1 (by decide) (fun _ => ?_) (fun c9 => absurd c9 (by decide))
        obtain ⟨ji, hji, rfl⟩ := SZ.at hZ (i := jt) (by omega) rfl a3569
        refine lv_aload_n hx hb gX11_put_2.2.2.2.2.2.1 rfl (lv_at0 hl) ?_
        refine gf_X11_72 hC rfl hK hP 0 rfl rfl gX11_put_2.2.2.2.2.2.2.1 ?_
        refine lv_iload_n hx hb gX11_put_2.2.2.2.2.2.2.2.1 rfl (lv_at1 hl) ?_
        refine lv_iload_n hx hb gX11_put_2.2.2.2.2.2.2.2.2.1 rfl (lv_at2 hl) ?_
        refine lv_iload_n hx hb gX11_put_2.2.2.2.2.2.2.2.2.2 rfl (lv_at3 hl) ?_
        refine vV (wr := [(h0, oX11 bb kk ikp sg do9 ru9 ta9 tp9 ro9 ho9 de9), (hz, iA G 4 fhz)]) hC hK hl hP hD hS hA (c_writeX l G ho9 jt ji hs hz hi hw hn ht fhs fhi x3 (by omega) (by omega)) si_X11_312 [1, 2, 4] [0, 3] sm_1_2_4 fm_1_2_4 nd_1_2_4 sm_0_3 nd_0_3 dj_1_2_4__0_3 rfl rfl rfl rfl rfl (Nat.le_of_ble_eq_true rfl) rm_5_3_5 ⟨Nat.le_of_ble_eq_true rfl, Nat.le_of_ble_eq_true rfl⟩ gX11_put_3.1 (fun ghi3572 H locs hr3570 hP hD hS => ?_)
        try dsimp only at hr3570
        refine Kpdr (ws := [(h0, oX11 bb kk ikp sg do9 ru9 ta9 tp9 ro9 ho9 de9), (hz, iA G 4 fhz), (ho9, oX4 hs hz hi hw hn ht), (hs, iA G 4 fhs), (hi, iA G 160 ghi3572)]) hP hD (fun hP hD => ?_)
        have w3573 := hr3570
        refine lv_iconst (v := 1) hx hb gX11_put_3.2.1 (by decide) ?_
        refine toQ hQ0 ?_
        exact RI (v := 1) hC hP hD hS [0, 2, 3, 1, 4] ghi3572 rfl rfl (by decide) (⟨(by first | rfl | (simp only [nI_clamp (n := jt) (by omega), nI_clamp (n := ji) (by omega), ifc_t hZ, ifc_t a3562, ifc_f c_18_3565, ifc_t a3569]; done) | (simp only [nI_clamp (n := jt) (by omega), nI_clamp (n := ji) (by omega), ifc_t hZ, ifc_t a3562, ifc_f c_18_3565, ifc_t a3569]; rfl)), (fun i => by rw [w3573 i]; first | rfl | (simp only [nI_clamp (n := jt) (by omega), nI_clamp (n := ji) (by omega), ifc_t hZ, ifc_t a3562, ifc_f c_18_3565, ifc_t a3569]; done) | (simp only [nI_clamp (n := jt) (by omega), nI_clamp (n := ji) (by omega), ifc_t hZ, ifc_t a3562, ifc_f c_18_3565, ifc_t a3569]; rfl))⟩) rfl gX11_put_3.2.2
      · refine lv_if_ne (tgt := 45) hx hb gX11_put_2.2.2.1 (by decide) (fun c9 => absurd (by decide) c9) (fun _ => ?_)
        refine lv_bipush (v := (-12)) hx hb gX11_put_2.2.2.2.1 (by decide) ?_
        refine toQ hQ0 ?_
        exact RI (v := (-12)) hC hP hD hS [0, 1, 2, 3, 4] fhi rfl rfl (by decide) (⟨(by first | rfl | (simp only [nI_clamp (n := jt) (by omega), ifc_t hZ, ifc_t a3562, ifc_f c_18_3565, ifc_f a3569]; done) | (simp only [nI_clamp (n := jt) (by omega), ifc_t hZ, ifc_t a3562, ifc_f c_18_3565, ifc_f a3569]; rfl)), (fun i => by skip; first | rfl | (simp only [nI_clamp (n := jt) (by omega), ifc_t hZ, ifc_t a3562, ifc_f c_18_3565, ifc_f a3569]; done) | (simp only [nI_clamp (n := jt) (by omega), ifc_t hZ, ifc_t a3562, ifc_f c_18_3565, ifc_f a3569]; rfl))⟩) rfl gX11_put_2.2.2.2.2.1
    · refine lv_bipush (v := (-11)) hx hb gX11_put_1.2.1 (by decide) ?_
      refine toQ hQ0 ?_
      exact RI (v := (-11)) hC hP hD hS [0, 1, 2, 3, 4] fhi rfl rfl (by decide) (⟨(by first | rfl | (simp only [nI_clamp (n := jt) (by omega), ifc_t hZ, ifc_t a3562, ifc_t c_18_3565]; done) | (simp only [nI_clamp (n := jt) (by omega), ifc_t hZ, ifc_t a3562, ifc_t c_18_3565]; rfl)), (fun i => by skip; first | rfl | (simp only [nI_clamp (n := jt) (by omega), ifc_t hZ, ifc_t a3562, ifc_t c_18_3565]; done) | (simp only [nI_clamp (n := jt) (by omega), ifc_t hZ, ifc_t a3562, ifc_t c_18_3565]; rfl))⟩) rfl gX11_put_1.2.2.1
  · refine lv_if_ne (tgt := 9) hx hb gX11_put_0.2.2.1 (by decide) (fun c9 => absurd (by decide) c9) (fun _ => ?_)
    refine lv_iconst (v := (-1)) hx hb gX11_put_0.2.2.2.1 (by decide) ?_
    refine toQ hQ0 ?_
    exact RI (v := (-1)) hC hP hD hS [0, 1, 2, 3, 4] fhi rfl rfl (by decide) (⟨(by first | rfl | (simp only [ifc_t hZ, ifc_f a3562]; done) | (simp only [ifc_t hZ, ifc_f a3562]; rfl)), (fun i => by skip; first | rfl | (simp only [ifc_t hZ, ifc_f a3562]; done) | (simp only [ifc_t hZ, ifc_f a3562]; rfl))⟩) rfl gX11_put_0.2.2.2.2.1
def K_p_item (l : Launch) (G : GG) (h0 : Nat) (x1 : Int32) (x2 : Int32) (x3 : Int32) (bb : Nat) (kk : Nat) (ikp : Int32) (sg : Nat) (do9 : Nat) (ru9 : Nat) (ta9 : Nat) (tp9 : Nat) (ro9 : Nat) (ho9 : Nat) (de9 : Nat) (hs : Nat) (hz : Nat) (hi : Nat) (hw : Nat) (hn : Nat) (ht : Nat) (fhs : Nat → Int32) (fhz : Nat → Int32) (fhi : Nat → Int32) : Prop := MP l G yX11_item cX11_item 5 (some .int) 6 [.ref h0, .int x1, .int x2, .int x3] [(h0, oX11 bb kk ikp sg do9 ru9 ta9 tp9 ro9 ho9 de9), (ho9, oX4 hs hz hi hw hn ht), (hs, iA G 4 fhs), (hz, iA G 4 fhz), (hi, iA G 160 fhi)] (fun r : Int32 => r = ifc (Wi x1 0 3) (ifc (Wi x2 0 4) (ifc (fhs x1.toNatClampNeg = (-1)) (-11) (ifc (fhs x1.toNatClampNeg = x2) (ifc (Wi x3 0 (fhz x1.toNatClampNeg - 1)) (fhi (x1.toNatClampNeg * 40 + x3.toNatClampNeg)) (-12)) (-13))) (-1)) (-1))
set_option maxHeartbeats 4000000 in
set_option maxRecDepth 100000 in
theorem p_item (l : Launch) (G : GG) (h0 : Nat) (x1 : Int32) (x2 : Int32) (x3 : Int32) (bb : Nat) (kk : Nat) (ikp : Int32) (sg : Nat) (do9 : Nat) (ru9 : Nat) (ta9 : Nat) (tp9 : Nat) (ro9 : Nat) (ho9 : Nat) (de9 : Nat) (hs : Nat) (hz : Nat) (hi : Nat) (hw : Nat) (hn : Nat) (ht : Nat) (fhs : Nat → Int32) (fhz : Nat → Int32) (fhi : Nat → Int32) (hZ : SZ fhz) : K_p_item l G h0 x1 x2 x3 bb kk ikp sg do9 ru9 ta9 tp9 ro9 ho9 de9 hs hz hi hw hn ht fhs fhz fhi := by
  refine MP.start (by decide +kernel) (Nat.le_of_ble_eq_true rfl) ?_
  intro p e s m below meth c ls hC hK hP hD hl
  refine absQ (fun Q0 hQ0 => ?_)
  have hl : lv_has ls 5 [(0, .ref h0), (1, .int x1), (2, .int x2), (3, .int x3)] := hl
  refine Kan8 hC (fun hx hb hr hml hB hown hlocks hnm => ?_)
  refine lv_iload_n hx hb gX11_item_0.1 rfl (lv_at1 hl) ?_
  refine pS hC hK hl (c_isSheet l G x1) si_X11_164 rfl rfl (Nat.le_of_ble_eq_true rfl) rm_6_2_1 ⟨by first | exact Nat.le_of_ble_eq_true rfl | exact Nat.zero_le _, by first | exact Nat.le_of_ble_eq_true rfl | exact Nat.zero_le _⟩ gX11_item_0.2.1 (Kors (Keqa fun a3575 => ?_) (Keqa fun a3575 => ?_))
  · refine lv_if_eq (tgt := 14) hx hb gX11_item_0.2.2.1 (by decide) (fun c9 => absurd c9 (by decide)) (fun _ => ?_)
    refine lv_iload_n hx hb gX11_item_0.2.2.2.1 rfl (lv_at2 hl) ?_
    refine pS hC hK hl (c_isSort l G x2) si_X11_315 rfl rfl (Nat.le_of_ble_eq_true rfl) rm_6_2_1 ⟨by first | exact Nat.le_of_ble_eq_true rfl | exact Nat.zero_le _, by first | exact Nat.le_of_ble_eq_true rfl | exact Nat.zero_le _⟩ gX11_item_0.2.2.2.2.1 (Kors (Keqa fun a3577 => ?_) (Keqa fun a3577 => ?_))
    · refine lv_if_ne (tgt := 16) hx hb gX11_item_0.2.2.2.2.2.1 (by decide) (fun _ => ?_) (fun c9 => absurd c9 (by decide))
      obtain ⟨jt, hjt, rfl⟩ := Wi3 a3575
      refine lv_aload_n hx hb gX11_item_0.2.2.2.2.2.2.2.2.1 rfl (lv_at0 hl) ?_
      refine gf_X11_72 hC rfl hK hP 0 rfl rfl gX11_item_0.2.2.2.2.2.2.2.2.2 ?_
      refine lv_iload_n hx hb gX11_item_1.1 rfl (lv_at1 hl) ?_
      refine lv_iload_n hx hb gX11_item_1.2.1 rfl (lv_at2 hl) ?_
      refine pV hC hK hl hP hD (c_refX l G ho9 jt hs hz hi hw hn ht fhs x2 (by omega)) si_X11_167 [1, 2] sm_1_2 fm_1_2 nd_1_2 rfl rfl rfl rfl rfl (Nat.le_of_ble_eq_true rfl) rm_6_4_4 ⟨by first | exact Nat.le_of_ble_eq_true rfl | exact Nat.zero_le _, by first | exact Nat.le_of_ble_eq_true rfl | exact Nat.zero_le _⟩ gX11_item_1.2.2.1 (Kors (Keqa fun a3579 => ?_) (Kors (Keqa fun a3579 => ?_) (Keqa fun a3579 => ?_)))
      · refine lv_istore (lv' := [(4, .int (-11)), (0, .ref h0), (1, .int (nI jt)), (2, .int x2), (3, .int x3)]) hx hb gX11_item_1.2.2.2.1 hl (by decide) rfl (fun ls hl => ?_)
        refine lv_iload hx hb gX11_item_1.2.2.2.2.1 (lv_at0 hl) ?_
        refine lv_if_eq (tgt := 35) hx hb gX11_item_1.2.2.2.2.2.1 (by decide) (fun c9 => absurd c9 (by decide)) (fun _ => ?_)
        refine lv_iload hx hb gX11_item_1.2.2.2.2.2.2.1 (lv_at0 hl) ?_
        refine toQ hQ0 ?_
        exact RP (v := (-11)) hC ((by first | rfl | (simp only [nI_clamp (n := jt) (by omega), ifc_t hZ, ifc_t a3575, ifc_t a3577, ifc_t a3579]; done) | (simp only [nI_clamp (n := jt) (by omega), ifc_t hZ, ifc_t a3575, ifc_t a3577, ifc_t a3579]; rfl))) rfl gX11_item_1.2.2.2.2.2.2.2.1
      · refine lv_istore (lv' := [(4, .int 0), (0, .ref h0), (1, .int (nI jt)), (2, .int x2), (3, .int x3)]) hx hb gX11_item_1.2.2.2.1 hl (by decide) rfl (fun ls hl => ?_)
        refine lv_iload hx hb gX11_item_1.2.2.2.2.1 (lv_at0 hl) ?_
        refine lv_if_eq (tgt := 35) hx hb gX11_item_1.2.2.2.2.2.1 (by decide) (fun _ => ?_) (fun c9 => absurd (by decide) c9)
        refine lv_iload_n hx hb gX11_item_1.2.2.2.2.2.2.2.2.1 rfl (lv_at4 hl) ?_
        refine lv_iconst (v := 0) hx hb gX11_item_1.2.2.2.2.2.2.2.2.2 (by decide) ?_
        refine lv_aload_n hx hb gX11_item_2.1 rfl (lv_at1 hl) ?_
        refine gf_X11_72 hC rfl hK hP 0 rfl rfl gX11_item_2.2.1 ?_
        refine lv_iload_n hx hb gX11_item_2.2.2.1 rfl (lv_at2 hl) ?_
        refine pV hC hK hl hP hD (c_sizeX l G ho9 jt hs hz hi hw hn ht fhz (by omega)) si_X11_170 [1, 3] sm_1_3 fm_1_3 nd_1_3 rfl rfl rfl rfl rfl (Nat.le_of_ble_eq_true rfl) rm_6_3_2 ⟨by first | exact Nat.le_of_ble_eq_true rfl | exact Nat.zero_le _, by first | exact Nat.le_of_ble_eq_true rfl | exact Nat.zero_le _⟩ gX11_item_2.2.2.2.1 (Keqr ?_)
        refine lv_iconst (v := 1) hx hb gX11_item_2.2.2.2.2.1 (by decide) ?_
        refine lv_isub hx hb gX11_item_2.2.2.2.2.2.1 ?_
        refine pS hC hK hl (c_within l G x3 0 ((fhz jt) - 1)) si_X11_83 rfl rfl (Nat.le_of_ble_eq_true rfl) rm_6_1_3 ⟨by first | exact Nat.le_of_ble_eq_true rfl | exact Nat.zero_le _, by first | exact Nat.le_of_ble_eq_true rfl | exact Nat.zero_le _⟩ gX11_item_2.2.2.2.2.2.2.1 (Kors (Keqa fun a3583 => ?_) (Keqa fun a3583 => ?_))
        · refine lv_if_ne (tgt := 56) hx hb gX11_item_2.2.2.2.2.2.2.2.1 (by decide) (fun _ => ?_) (fun c9 => absurd c9 (by decide))
          obtain ⟨ji, hji, rfl⟩ := SZ.at hZ (i := jt) (by omega) rfl a3583
          refine lv_aload_n hx hb gX11_item_3.1 rfl (lv_at1 hl) ?_
          refine gf_X11_72 hC rfl hK hP 0 rfl rfl gX11_item_3.2.1 ?_
          refine lv_iload_n hx hb gX11_item_3.2.2.1 rfl (lv_at2 hl) ?_
          refine lv_iload_n hx hb gX11_item_3.2.2.2.1 rfl (lv_at4 hl) ?_
          refine pV hC hK hl hP hD (c_atX l G ho9 jt ji hs hz hi hw hn ht fhi (by omega) (by omega)) si_X11_173 [1, 4] sm_1_4 fm_1_4 nd_1_4 rfl rfl rfl rfl rfl (Nat.le_of_ble_eq_true rfl) rm_6_3_3 ⟨by first | exact Nat.le_of_ble_eq_true rfl | exact Nat.zero_le _, by first | exact Nat.le_of_ble_eq_true rfl | exact Nat.zero_le _⟩ gX11_item_3.2.2.2.2.1 (Keqr ?_)
          refine toQ hQ0 ?_
          exact RP (v := fhi (jt * 40 + ji)) hC ((by first | rfl | (simp only [nI_clamp (n := jt) (by omega), nI_clamp (n := ji) (by omega), ifc_t hZ, ifc_t a3575, ifc_t a3577, ifc_t a3579, ifc_t a3583, ifc_f a3579.1, ifc_t a3579.2]; done) | (simp only [nI_clamp (n := jt) (by omega), nI_clamp (n := ji) (by omega), ifc_t hZ, ifc_t a3575, ifc_t a3577, ifc_t a3579, ifc_t a3583, ifc_f a3579.1, ifc_t a3579.2]; rfl))) rfl gX11_item_3.2.2.2.2.2
        · refine lv_if_ne (tgt := 56) hx hb gX11_item_2.2.2.2.2.2.2.2.1 (by decide) (fun c9 => absurd (by decide) c9) (fun _ => ?_)
          refine lv_bipush (v := (-12)) hx hb gX11_item_2.2.2.2.2.2.2.2.2.1 (by decide) ?_
          refine toQ hQ0 ?_
          exact RP (v := (-12)) hC ((by first | rfl | (simp only [nI_clamp (n := jt) (by omega), ifc_t hZ, ifc_t a3575, ifc_t a3577, ifc_t a3579, ifc_f a3583, ifc_f a3579.1, ifc_t a3579.2]; done) | (simp only [nI_clamp (n := jt) (by omega), ifc_t hZ, ifc_t a3575, ifc_t a3577, ifc_t a3579, ifc_f a3583, ifc_f a3579.1, ifc_t a3579.2]; rfl))) rfl gX11_item_2.2.2.2.2.2.2.2.2.2
      · refine lv_istore (lv' := [(4, .int (-13)), (0, .ref h0), (1, .int (nI jt)), (2, .int x2), (3, .int x3)]) hx hb gX11_item_1.2.2.2.1 hl (by decide) rfl (fun ls hl => ?_)
        refine lv_iload hx hb gX11_item_1.2.2.2.2.1 (lv_at0 hl) ?_
        refine lv_if_eq (tgt := 35) hx hb gX11_item_1.2.2.2.2.2.1 (by decide) (fun c9 => absurd c9 (by decide)) (fun _ => ?_)
        refine lv_iload hx hb gX11_item_1.2.2.2.2.2.2.1 (lv_at0 hl) ?_
        refine toQ hQ0 ?_
        exact RP (v := (-13)) hC ((by first | rfl | (simp only [nI_clamp (n := jt) (by omega), ifc_t hZ, ifc_t a3575, ifc_t a3577, ifc_t a3579, ifc_f a3579.1, ifc_f a3579.2]; done) | (simp only [nI_clamp (n := jt) (by omega), ifc_t hZ, ifc_t a3575, ifc_t a3577, ifc_t a3579, ifc_f a3579.1, ifc_f a3579.2]; rfl))) rfl gX11_item_1.2.2.2.2.2.2.2.1
    · refine lv_if_ne (tgt := 16) hx hb gX11_item_0.2.2.2.2.2.1 (by decide) (fun c9 => absurd (by decide) c9) (fun _ => ?_)
      refine lv_iconst (v := (-1)) hx hb gX11_item_0.2.2.2.2.2.2.1 (by decide) ?_
      refine toQ hQ0 ?_
      exact RP (v := (-1)) hC ((by first | rfl | (simp only [ifc_t hZ, ifc_t a3575, ifc_f a3577]; done) | (simp only [ifc_t hZ, ifc_t a3575, ifc_f a3577]; rfl))) rfl gX11_item_0.2.2.2.2.2.2.2.1
  · refine lv_if_eq (tgt := 14) hx hb gX11_item_0.2.2.1 (by decide) (fun _ => ?_) (fun c9 => absurd (by decide) c9)
    refine lv_iconst (v := (-1)) hx hb gX11_item_0.2.2.2.2.2.2.1 (by decide) ?_
    refine toQ hQ0 ?_
    exact RP (v := (-1)) hC ((by first | rfl | (simp only [ifc_t hZ, ifc_f a3575]; done) | (simp only [ifc_t hZ, ifc_f a3575]; rfl))) rfl gX11_item_0.2.2.2.2.2.2.2.1
def K_p_stamps (l : Launch) (G : GG) (h0 : Nat) (x1 : Int32) (x2 : Int32) (x3 : Int32) (x4 : Int32) (bb : Nat) (kk : Nat) (ikp : Int32) (sg : Nat) (do9 : Nat) (ru9 : Nat) (ta9 : Nat) (tp9 : Nat) (ro9 : Nat) (ho9 : Nat) (de9 : Nat) (bpersons : Nat) (bpapers : Nat) (bstamps : Nat) (bversions : Nat) (blines : Nat) (bsteps : Nat) (bsayings : Nat) (bfindings : Nat) (bwarnings : Nat) (bquestions : Nat) (td : Int32) (vd : Int32) (vl : Int32) (gp : Int32) (bpapersc : Nat) (kbpapers : Nat) (bstampsc : Nat) (kbstamps : Nat) (fbstamps : Nat → Int32) (hs : Nat) (hz : Nat) (hi : Nat) (hw : Nat) (hn : Nat) (ht : Nat) (fhs : Nat → Int32) (fhz : Nat → Int32) (fhi : Nat → Int32) : Prop := MI l G yX11_stamps cX11_stamps 7 (some .int) 5 0 0 [.ref h0, .int x1, .int x2, .int x3, .int x4] [(h0, oX11 bb kk ikp sg do9 ru9 ta9 tp9 ro9 ho9 de9), (bb, oX0 bpersons bpapers bstamps bversions blines bsteps bsayings bfindings bwarnings bquestions td vd vl gp), (bpapers, oX8 12 6 bpapersc (nI kbpapers)), (bstamps, oX8 24 3 bstampsc (nI kbstamps)), (bstampsc, iA G 72 fbstamps), (ho9, oX4 hs hz hi hw hn ht), (hs, iA G 4 fhs), (hz, iA G 4 fhz), (hi, iA G 160 fhi)] (fun (r : Int32) (u : Nat × (Nat → Int32)) => (r = STA x1 x2 x3 x4 kbpapers kbstamps fhs fhz fhi) ∧ (u.1 ≤ 24 ∧ nI u.1 = STK (STA x1 x2 x3 x4 kbpapers kbstamps fhs fhz fhi) kbstamps ∧ ∀ i : Nat, u.2 i = ifc (STA x1 x2 x3 x4 kbpapers kbstamps fhs fhz fhi < 0) (fbstamps i) (APS fbstamps kbstamps x1 fhi (x2.toNatClampNeg * 40) x3.toNatClampNeg x4.toNatClampNeg i))) (fun u : Nat × (Nat → Int32) => [(h0, oX11 bb kk ikp sg do9 ru9 ta9 tp9 ro9 ho9 de9), (bb, oX0 bpersons bpapers bstamps bversions blines bsteps bsayings bfindings bwarnings bquestions td vd vl gp), (bpapers, oX8 12 6 bpapersc (nI kbpapers)), (bstamps, oX8 24 3 bstampsc (nI u.1)), (bstampsc, iA G 72 u.2), (ho9, oX4 hs hz hi hw hn ht), (hs, iA G 4 fhs), (hz, iA G 4 fhz), (hi, iA G 160 fhi)])
set_option maxHeartbeats 4000000 in
set_option maxRecDepth 100000 in
theorem p_stamps (l : Launch) (G : GG) (h0 : Nat) (x1 : Int32) (x2 : Int32) (x3 : Int32) (x4 : Int32) (bb : Nat) (kk : Nat) (ikp : Int32) (sg : Nat) (do9 : Nat) (ru9 : Nat) (ta9 : Nat) (tp9 : Nat) (ro9 : Nat) (ho9 : Nat) (de9 : Nat) (bpersons : Nat) (bpapers : Nat) (bstamps : Nat) (bversions : Nat) (blines : Nat) (bsteps : Nat) (bsayings : Nat) (bfindings : Nat) (bwarnings : Nat) (bquestions : Nat) (td : Int32) (vd : Int32) (vl : Int32) (gp : Int32) (bpapersc : Nat) (kbpapers : Nat) (bstampsc : Nat) (kbstamps : Nat) (fbstamps : Nat → Int32) (hs : Nat) (hz : Nat) (hi : Nat) (hw : Nat) (hn : Nat) (ht : Nat) (fhs : Nat → Int32) (fhz : Nat → Int32) (fhi : Nat → Int32) (hkbpapers : kbpapers ≤ 12) (hkbstamps : kbstamps ≤ 24) (hZ : SZ fhz) (hO : SOK fhs) : K_p_stamps l G h0 x1 x2 x3 x4 bb kk ikp sg do9 ru9 ta9 tp9 ro9 ho9 de9 bpersons bpapers bstamps bversions blines bsteps bsayings bfindings bwarnings bquestions td vd vl gp bpapersc kbpapers bstampsc kbstamps fbstamps hs hz hi hw hn ht fhs fhz fhi := by
  refine MI.start (by decide +kernel) (Nat.le_of_ble_eq_true rfl) ?_
  intro p e s m below meth c A ls hC hK hP hD hS hA hl
  refine absQ (fun Q0 hQ0 => ?_)
  have hl : lv_has ls 7 [(0, .ref h0), (1, .int x1), (2, .int x2), (3, .int x3), (4, .int x4)] := hl
  refine Kan8 hC (fun hx hb hr hml hB hown hlocks hnm => ?_)
  refine lv_aload_n hx hb gX11_stamps_0.1 rfl (lv_at0 hl) ?_
  refine gf_X11_15 hC rfl hK hP 0 rfl rfl gX11_stamps_0.2.1 ?_
  refine gf_X11_144 hC rfl hK hP 1 rfl rfl gX11_stamps_0.2.2.1 ?_
  refine lv_iload_n hx hb gX11_stamps_0.2.2.2.1 rfl (lv_at1 hl) ?_
  refine pV hC hK hl hP hD (c_T_has l G bpapers x1 12 6 bpapersc kbpapers) si_X11_124 [2] sm_2 fm_2 nd_2 rfl rfl rfl rfl rfl (Nat.le_of_ble_eq_true rfl) rm_5_1_2 ⟨by first | exact Nat.le_of_ble_eq_true rfl | exact Nat.zero_le _, by first | exact Nat.le_of_ble_eq_true rfl | exact Nat.zero_le _⟩ gX11_stamps_0.2.2.2.2.1 (Kors (Keqa fun a3587 => ?_) (Keqa fun a3587 => ?_))
  · refine lv_if_eq (tgt := 32) hx hb gX11_stamps_0.2.2.2.2.2.1 (by decide) (fun c9 => absurd c9 (by decide)) (fun _ => ?_)
    refine lv_iload_n hx hb gX11_stamps_0.2.2.2.2.2.2.1 rfl (lv_at2 hl) ?_
    refine pS hC hK hl (c_isSheet l G x2) si_X11_164 rfl rfl (Nat.le_of_ble_eq_true rfl) rm_5_2_1 ⟨by first | exact Nat.le_of_ble_eq_true rfl | exact Nat.zero_le _, by first | exact Nat.le_of_ble_eq_true rfl | exact Nat.zero_le _⟩ gX11_stamps_0.2.2.2.2.2.2.2.1 (Kors (Keqa fun a3589 => ?_) (Keqa fun a3589 => ?_))
    · refine lv_if_eq (tgt := 32) hx hb gX11_stamps_0.2.2.2.2.2.2.2.2.1 (by decide) (fun c9 => absurd c9 (by decide)) (fun _ => ?_)
      refine lv_iload hx hb gX11_stamps_0.2.2.2.2.2.2.2.2.2 (lv_at4 hl) ?_
      refine lv_iconst (v := 0) hx hb gX11_stamps_1.1 (by decide) ?_
      refine lv_bipush (v := 9) hx hb gX11_stamps_1.2.1 (by decide) ?_
      refine pS hC hK hl (c_within l G x4 0 9) si_X11_83 rfl rfl (Nat.le_of_ble_eq_true rfl) rm_5_1_3 ⟨by first | exact Nat.le_of_ble_eq_true rfl | exact Nat.zero_le _, by first | exact Nat.le_of_ble_eq_true rfl | exact Nat.zero_le _⟩ gX11_stamps_1.2.2.1 (Kors (Keqa fun a3591 => ?_) (Keqa fun a3591 => ?_))
      · refine lv_if_ne (tgt := 34) hx hb gX11_stamps_1.2.2.2.1 (by decide) (fun _ => ?_) (fun c9 => absurd c9 (by decide))
        obtain ⟨jn, hjn, rfl⟩ := Wi_nat (N := 9) (by decide) a3591
        obtain ⟨jt, hjt, rfl⟩ := Wi3 a3589
        refine lv_aload_n hx hb gX11_stamps_1.2.2.2.2.2.2.1 rfl (lv_at0 hl) ?_
        refine gf_X11_72 hC rfl hK hP 0 rfl rfl gX11_stamps_1.2.2.2.2.2.2.2.1 ?_
        refine lv_iload_n hx hb gX11_stamps_1.2.2.2.2.2.2.2.2.1 rfl (lv_at2 hl) ?_
        refine lv_iconst (v := 1) hx hb gX11_stamps_1.2.2.2.2.2.2.2.2.2 (by decide) ?_
        refine pV hC hK hl hP hD (c_refX l G ho9 jt hs hz hi hw hn ht fhs 1 (by omega)) si_X11_167 [5, 6] sm_5_6 fm_5_6 nd_5_6 rfl rfl rfl rfl rfl (Nat.le_of_ble_eq_true rfl) rm_5_4_4 ⟨by first | exact Nat.le_of_ble_eq_true rfl | exact Nat.zero_le _, by first | exact Nat.le_of_ble_eq_true rfl | exact Nat.zero_le _⟩ gX11_stamps_2.1 (Kors (Keqa fun a3593 => ?_) (Kors (Keqa fun a3593 => ?_) (Keqa fun a3593 => ?_)))
        · refine lv_istore (lv' := [(5, .int (-11)), (0, .ref h0), (1, .int x1), (2, .int (nI jt)), (3, .int x3), (4, .int (nI jn))]) hx hb gX11_stamps_2.2.1 hl (by decide) rfl (fun ls hl => ?_)
          refine lv_iload hx hb gX11_stamps_2.2.2.1 (lv_at0 hl) ?_
          refine lv_if_eq (tgt := 53) hx hb gX11_stamps_2.2.2.2.1 (by decide) (fun c9 => absurd c9 (by decide)) (fun _ => ?_)
          refine lv_iload hx hb gX11_stamps_2.2.2.2.2.1 (lv_at0 hl) ?_
          have hA9 : STA x1 (nI jt) x3 (nI jn) kbpapers kbstamps fhs fhz fhi = (-11) := by unfold STA; first | (simp only [nI_clamp (n := jt) (by omega), nI_clamp (n := jn) (by omega), ifc_t hkbpapers, ifc_t hkbstamps, ifc_t hZ, ifc_t hO, ifc_t a3587, ifc_t a3589, ifc_t a3591, ifc_t a3593, ifc_t (q := fhs jt < 0) (by rw [a3593]; decide)]; done) | (simp only [nI_clamp (n := jt) (by omega), nI_clamp (n := jn) (by omega), ifc_t hkbpapers, ifc_t hkbstamps, ifc_t hZ, ifc_t hO, ifc_t a3587, ifc_t a3589, ifc_t a3591, ifc_t a3593, ifc_t (q := fhs jt < 0) (by rw [a3593]; decide)]; rfl)
          refine toQ hQ0 ?_
          exact RI (v := (-11)) hC hP hD hS [0, 1, 2, 3, 4, 5, 6, 7, 8] (kbstamps, fbstamps) rfl rfl (by decide) (⟨hA9.symm, ⟨by omega, (by unfold STK; rw [hA9]; exact (ifc_t (by decide)).symm), fun i => (by rw [hA9]; exact (ifc_t (by decide)).symm)⟩⟩) rfl gX11_stamps_2.2.2.2.2.2.1
        · refine lv_istore (lv' := [(5, .int 0), (0, .ref h0), (1, .int x1), (2, .int (nI jt)), (3, .int x3), (4, .int (nI jn))]) hx hb gX11_stamps_2.2.1 hl (by decide) rfl (fun ls hl => ?_)
          refine lv_iload hx hb gX11_stamps_2.2.2.1 (lv_at0 hl) ?_
          refine lv_if_eq (tgt := 53) hx hb gX11_stamps_2.2.2.2.1 (by decide) (fun _ => ?_) (fun c9 => absurd (by decide) c9)
          refine lv_iload_n hx hb gX11_stamps_2.2.2.2.2.2.2.1 rfl (lv_at4 hl) ?_
          refine lv_iconst (v := 0) hx hb gX11_stamps_2.2.2.2.2.2.2.2.1 (by decide) ?_
          refine lv_aload_n hx hb gX11_stamps_2.2.2.2.2.2.2.2.2.1 rfl (lv_at1 hl) ?_
          refine gf_X11_72 hC rfl hK hP 0 rfl rfl gX11_stamps_2.2.2.2.2.2.2.2.2.2 ?_
          refine lv_iload_n hx hb gX11_stamps_3.1 rfl (lv_at3 hl) ?_
          refine pV hC hK hl hP hD (c_sizeX l G ho9 jt hs hz hi hw hn ht fhz (by omega)) si_X11_170 [5, 7] sm_5_7 fm_5_7 nd_5_7 rfl rfl rfl rfl rfl (Nat.le_of_ble_eq_true rfl) rm_5_3_2 ⟨by first | exact Nat.le_of_ble_eq_true rfl | exact Nat.zero_le _, by first | exact Nat.le_of_ble_eq_true rfl | exact Nat.zero_le _⟩ gX11_stamps_3.2.1 (Keqr ?_)
          refine pS hC hK hl (c_within l G x3 0 (fhz jt)) si_X11_83 rfl rfl (Nat.le_of_ble_eq_true rfl) rm_5_1_3 ⟨by first | exact Nat.le_of_ble_eq_true rfl | exact Nat.zero_le _, by first | exact Nat.le_of_ble_eq_true rfl | exact Nat.zero_le _⟩ gX11_stamps_3.2.2.1 (Kors (Keqa fun a3597 => ?_) (Keqa fun a3597 => ?_))
          · refine lv_if_eq (tgt := 86) hx hb gX11_stamps_3.2.2.2.1 (by decide) (fun c9 => absurd c9 (by decide)) (fun _ => ?_)
            obtain ⟨jz, hjz, ejz⟩ := hZ jt (by omega)
            have hwz : Wi x3 0 (nI jz) := ejz ▸ a3597
            obtain ⟨ji, hji, rfl⟩ := Wi_nat (N := jz) (by omega) hwz
            refine lv_iconst (v := 2) hx hb gX11_stamps_3.2.2.2.2.1 (by decide) ?_
            refine lv_iload hx hb gX11_stamps_3.2.2.2.2.2.1 (lv_at5 hl) ?_
            refine lv_imul hx hb gX11_stamps_3.2.2.2.2.2.2.1 ?_
            refine eqi (x1 := nI (2 * jn)) (nI_mul 2 jn) ?_
            refine lv_aload_n hx hb gX11_stamps_3.2.2.2.2.2.2.2.1 rfl (lv_at1 hl) ?_
            refine gf_X11_72 hC rfl hK hP 0 rfl rfl gX11_stamps_3.2.2.2.2.2.2.2.2.1 ?_
            refine lv_iload_n hx hb gX11_stamps_3.2.2.2.2.2.2.2.2.2 rfl (lv_at3 hl) ?_
            refine pV hC hK hl hP hD (c_sizeX l G ho9 jt hs hz hi hw hn ht fhz (by omega)) si_X11_170 [5, 7] sm_5_7 fm_5_7 nd_5_7 rfl rfl rfl rfl rfl (Nat.le_of_ble_eq_true rfl) rm_5_3_2 ⟨by first | exact Nat.le_of_ble_eq_true rfl | exact Nat.zero_le _, by first | exact Nat.le_of_ble_eq_true rfl | exact Nat.zero_le _⟩ gX11_stamps_4.1 (Keqr ?_)
            refine lv_iload_n hx hb gX11_stamps_4.2.1 rfl (lv_at4 hl) ?_
            refine lv_isub hx hb gX11_stamps_4.2.2.1 ?_
            refine eqi (x1 := nI (jz - ji)) ((congrArg (fun z9 => z9 - nI ji) ejz).trans (nI_subN (by omega))) ?_
            refine lv_icmp_le (tgt := 89) hx hb gX11_stamps_4.2.2.2.1 (by decide) (fun c_83_3600 => ?_) (fun c_83_3600 => ?_)
            · have hfit9 : 2 * jn ≤ jz - ji := (nI_leI (by omega) (by omega)).mp c_83_3600
              refine lv_iconst (v := 0) hx hb gX11_stamps_4.2.2.2.2.2.2.1 (by decide) ?_
              refine lv_istore (lv' := [(6, .int 0), (5, .int 0), (0, .ref h0), (1, .int x1), (2, .int (nI jt)), (3, .int (nI ji)), (4, .int (nI jn))]) hx hb gX11_stamps_4.2.2.2.2.2.2.2.1 hl (by decide) rfl (fun ls hl => ?_)
              have keyA : ∀ (nA kA : Nat) (H : Heap) (locs : List Loc) (ls : Array Slot), kA + nA = jn → (ALS fhi (jt * 40) ji kA) → va_PD G A [(h0, oX11 bb kk ikp sg do9 ru9 ta9 tp9 ro9 ho9 de9), (bb, oX0 bpersons bpapers bstamps bversions blines bsteps bsayings bfindings bwarnings bquestions td vd vl gp), (bpapers, oX8 12 6 bpapersc (nI kbpapers)), (bstamps, oX8 24 3 bstampsc (nI kbstamps)), (bstampsc, iA G 72 fbstamps), (ho9, oX4 hs hz hi hw hn ht), (hs, iA G 4 fhs), (hz, iA G 4 fhz), (hi, iA G 160 fhi)] H → va_S A s.heap H locs → lv_has ls 7 [(6, .int (nI kA)), (0, .ref h0), (1, .int x1), (2, .int (nI jt)), (3, .int (nI ji)), (4, .int (nI jn))] → W p l e (RM 5 0 0) s m ([.ref h0, .int x1, .int (nI jt), .int (nI ji), .int (nI jn)] : List Value).toArray below meth c H locs 0 0 Q0 (F0 m 92 ls []) := by
                intro nA
                induction nA with
                | zero =>
                  intro kA H locs ls hkA hals hPD hS hl
                  refine Kan2 hPD (fun hP hD => ?_)
                  obtain rfl : jn = kA := by omega
                  have hl : lv_has ls 7 [(6, .int (nI jn)), (0, .ref h0), (1, .int x1), (2, .int (nI jt)), (3, .int (nI ji)), (4, .int (nI jn))] := hl
                  refine lv_iload hx hb gX11_stamps_4.2.2.2.2.2.2.2.2.1 (lv_at0 hl) ?_
                  refine lv_iload hx hb gX11_stamps_4.2.2.2.2.2.2.2.2.2 (lv_at5 hl) ?_
                  refine lv_icmp_ge (tgt := 144) hx hb gX11_stamps_5.1 (by decide) (fun _ => ?_) (fun c9 => absurd (Int32.le_refl _) c9)
                  refine lv_aload_n hx hb gX11_stamps_7.2.2.2.2.2.2.2.1 rfl (lv_at1 hl) ?_
                  refine gf_X11_15 hC rfl hK hP 0 rfl rfl gX11_stamps_7.2.2.2.2.2.2.2.2.1 ?_
                  refine gf_X11_157 hC rfl hK hP 1 rfl rfl gX11_stamps_7.2.2.2.2.2.2.2.2.2 ?_
                  refine pV hC hK hl hP hD (c_T_count l G bstamps 24 3 bstampsc kbstamps) si_X11_174 [3] sm_3 fm_3 nd_3 rfl rfl rfl rfl rfl (Nat.le_of_ble_eq_true rfl) rm_5_1_1 ⟨by first | exact Nat.le_of_ble_eq_true rfl | exact Nat.zero_le _, by first | exact Nat.le_of_ble_eq_true rfl | exact Nat.zero_le _⟩ gX11_stamps_8.1 (Keqr ?_)
                  refine lv_iload hx hb gX11_stamps_8.2.1 (lv_at5 hl) ?_
                  refine lv_iadd hx hb gX11_stamps_8.2.2.1 ?_
                  refine eqi (x1 := nI (kbstamps + jn)) (nI_add kbstamps jn) ?_
                  refine lv_bipush (v := 24) hx hb gX11_stamps_8.2.2.2.1 (by decide) ?_
                  refine lv_icmp_le (tgt := 165) hx hb gX11_stamps_8.2.2.2.2.1 (by decide) (fun c_159_3603 => ?_) (fun c_159_3603 => ?_)
                  · have h24 : kbstamps + jn ≤ 24 := ge_nat (k := 24) (by omega) (by decide) c_159_3603
                    refine lv_iconst (v := 0) hx hb gX11_stamps_8.2.2.2.2.2.2.2.1 (by decide) ?_
                    refine lv_istore (lv' := [(6, .int 0), (0, .ref h0), (1, .int x1), (2, .int (nI jt)), (3, .int (nI ji)), (4, .int (nI jn))]) hx hb gX11_stamps_8.2.2.2.2.2.2.2.2.1 hl (by decide) rfl (fun ls hl => ?_)
                    have keyB : ∀ (nB kB : Nat) (vst : Nat → Int32) (H : Heap) (locs : List Loc) (ls : Array Slot), kB + nB = jn → (vst = APS fbstamps kbstamps x1 fhi (jt * 40) ji kB) → va_PD G A [(h0, oX11 bb kk ikp sg do9 ru9 ta9 tp9 ro9 ho9 de9), (bb, oX0 bpersons bpapers bstamps bversions blines bsteps bsayings bfindings bwarnings bquestions td vd vl gp), (bpapers, oX8 12 6 bpapersc (nI kbpapers)), (bstamps, oX8 24 3 bstampsc (nI (kbstamps + kB))), (bstampsc, iA G 72 vst), (ho9, oX4 hs hz hi hw hn ht), (hs, iA G 4 fhs), (hz, iA G 4 fhz), (hi, iA G 160 fhi)] H → va_S A s.heap H locs → lv_has ls 7 [(6, .int (nI kB)), (0, .ref h0), (1, .int x1), (2, .int (nI jt)), (3, .int (nI ji)), (4, .int (nI jn))] → W p l e (RM 5 0 0) s m ([.ref h0, .int x1, .int (nI jt), .int (nI ji), .int (nI jn)] : List Value).toArray below meth c H locs 0 0 Q0 (F0 m 168 ls []) := by
                      intro nB
                      induction nB with
                      | zero =>
                        intro kB vst H locs ls hkB haps hPD hS hl
                        refine Kan2 hPD (fun hP hD => ?_)
                        obtain rfl : jn = kB := by omega
                        refine Kpdr (ws := [(h0, oX11 bb kk ikp sg do9 ru9 ta9 tp9 ro9 ho9 de9), (bb, oX0 bpersons bpapers bstamps bversions blines bsteps bsayings bfindings bwarnings bquestions td vd vl gp), (bpapers, oX8 12 6 bpapersc (nI kbpapers)), (bstamps, oX8 24 3 bstampsc (nI (kbstamps + jn))), (bstampsc, iA G 72 vst), (ho9, oX4 hs hz hi hw hn ht), (hs, iA G 4 fhs), (hz, iA G 4 fhz), (hi, iA G 160 fhi)]) hP hD (fun hP hD => ?_)
                        have hl : lv_has ls 7 [(6, .int (nI jn)), (0, .ref h0), (1, .int x1), (2, .int (nI jt)), (3, .int (nI ji)), (4, .int (nI jn))] := hl
                        refine lv_iload hx hb gX11_stamps_8.2.2.2.2.2.2.2.2.2 (lv_at0 hl) ?_
                        refine lv_iload hx hb gX11_stamps_9.1 (lv_at5 hl) ?_
                        refine lv_icmp_ge (tgt := 220) hx hb gX11_stamps_9.2.1 (by decide) (fun _ => ?_) (fun c9 => absurd (Int32.le_refl _) c9)
                        refine lv_aload_n hx hb gX11_stamps_11.2.2.2.2.2.2.2.2.2 rfl (lv_at1 hl) ?_
                        refine gf_X11_15 hC rfl hK hP 0 rfl rfl gX11_stamps_12.1 ?_
                        refine gf_X11_157 hC rfl hK hP 1 rfl rfl gX11_stamps_12.2.1 ?_
                        refine pV hC hK hl hP hD (c_T_count l G bstamps 24 3 bstampsc (kbstamps + jn)) si_X11_174 [3] sm_3 fm_3 nd_3 rfl rfl rfl rfl rfl (Nat.le_of_ble_eq_true rfl) rm_5_1_1 ⟨by first | exact Nat.le_of_ble_eq_true rfl | exact Nat.zero_le _, by first | exact Nat.le_of_ble_eq_true rfl | exact Nat.zero_le _⟩ gX11_stamps_12.2.2.1 (Keqr ?_)
                        have hA9 : STA x1 (nI jt) (nI ji) (nI jn) kbpapers kbstamps fhs fhz fhi = nI (kbstamps + jn) := by unfold STA; first | (simp only [nI_clamp (n := jt) (by omega), nI_clamp (n := ji) (by omega), nI_clamp (n := jn) (by omega), ifc_t hkbpapers, ifc_t hkbstamps, ifc_t hZ, ifc_t hO, ifc_t a3587, ifc_t a3589, ifc_t a3591, ifc_t a3593, ifc_t a3597, ifc_t c_83_3600, ifc_t c_159_3603, ifc_f (q := fhs jt < 0) (wi_nn (hO jt (by omega)) a3593.1), ifc_t (q := fhs jt = 1) a3593.2, ifc_f (q := OUTS (nI ji) (fhz jt) (nI jn)) (by rw [ejz, OUTS.iff (by omega) (by omega) (by omega)]; omega), ifc_t (q := ALS fhi (jt * 40) ji jn) hals, ifc_f (q := 24 < kbstamps + jn) (by omega)]; done) | (simp only [nI_clamp (n := jt) (by omega), nI_clamp (n := ji) (by omega), nI_clamp (n := jn) (by omega), ifc_t hkbpapers, ifc_t hkbstamps, ifc_t hZ, ifc_t hO, ifc_t a3587, ifc_t a3589, ifc_t a3591, ifc_t a3593, ifc_t a3597, ifc_t c_83_3600, ifc_t c_159_3603, ifc_f (q := fhs jt < 0) (wi_nn (hO jt (by omega)) a3593.1), ifc_t (q := fhs jt = 1) a3593.2, ifc_f (q := OUTS (nI ji) (fhz jt) (nI jn)) (by rw [ejz, OUTS.iff (by omega) (by omega) (by omega)]; omega), ifc_t (q := ALS fhi (jt * 40) ji jn) hals, ifc_f (q := 24 < kbstamps + jn) (by omega)]; rfl)
                        refine toQ hQ0 ?_
                        exact RI (v := nI (kbstamps + jn)) hC hP hD hS [0, 1, 2, 3, 4, 5, 6, 7, 8] ((kbstamps + jn), vst) rfl rfl (by decide) (⟨hA9.symm, ⟨by omega, (by unfold STK; rw [hA9]; exact (ifc_f (nI_nn (by omega))).symm), fun i => (by rw [hA9, ifc_f (nI_nn (by omega)), nI_clamp (n := jt) (by omega), nI_clamp (n := ji) (by omega), nI_clamp (n := jn) (by omega)]; exact congrFun haps i)⟩⟩) rfl gX11_stamps_12.2.2.2
                      | succ nB ihB =>
                        intro kB vst H locs ls hkB haps hPD hS hl
                        refine Kan2 hPD (fun hP hD => ?_)
                        refine lv_iload hx hb gX11_stamps_8.2.2.2.2.2.2.2.2.2 (lv_at0 hl) ?_
                        refine lv_iload hx hb gX11_stamps_9.1 (lv_at5 hl) ?_
                        refine lv_icmp_ge (tgt := 220) hx hb gX11_stamps_9.2.1 (by decide) (fun c9 => absurd c9 (nI_ge (a := kB) (b := jn) (by omega) (by omega))) (fun _ => ?_)
                        refine lv_aload_n hx hb gX11_stamps_9.2.2.1 rfl (lv_at1 hl) ?_
                        refine gf_X11_15 hC rfl hK hP 0 rfl rfl gX11_stamps_9.2.2.2.1 ?_
                        refine lv_iload_n hx hb gX11_stamps_9.2.2.2.2.1 rfl (lv_at2 hl) ?_
                        refine lv_aload_n hx hb gX11_stamps_9.2.2.2.2.2.1 rfl (lv_at1 hl) ?_
                        refine gf_X11_72 hC rfl hK hP 0 rfl rfl gX11_stamps_9.2.2.2.2.2.2.1 ?_
                        refine lv_iload_n hx hb gX11_stamps_9.2.2.2.2.2.2.2.1 rfl (lv_at3 hl) ?_
                        refine lv_iload_n hx hb gX11_stamps_9.2.2.2.2.2.2.2.2.1 rfl (lv_at4 hl) ?_
                        refine lv_iconst (v := 2) hx hb gX11_stamps_9.2.2.2.2.2.2.2.2.2 (by decide) ?_
                        refine lv_iload hx hb gX11_stamps_10.1 (lv_at0 hl) ?_
                        refine lv_imul hx hb gX11_stamps_10.2.1 ?_
                        refine eqi (x1 := nI (2 * kB)) (nI_mul 2 kB) ?_
                        refine lv_iadd hx hb gX11_stamps_10.2.2.1 ?_
                        refine eqi (x1 := nI (ji + 2 * kB)) (nI_add ji (2 * kB)) ?_
                        refine pV hC hK hl hP hD (c_atX l G ho9 jt (ji + 2 * kB) hs hz hi hw hn ht fhi (by omega) (by omega)) si_X11_173 [5, 8] sm_5_8 fm_5_8 nd_5_8 rfl rfl rfl rfl rfl (Nat.le_of_ble_eq_true rfl) rm_5_3_3 ⟨by first | exact Nat.le_of_ble_eq_true rfl | exact Nat.zero_le _, by first | exact Nat.le_of_ble_eq_true rfl | exact Nat.zero_le _⟩ gX11_stamps_10.2.2.2.1 (Keqr ?_)
                        refine lv_aload_n hx hb gX11_stamps_10.2.2.2.2.1 rfl (lv_at1 hl) ?_
                        refine gf_X11_72 hC rfl hK hP 0 rfl rfl gX11_stamps_10.2.2.2.2.2.1 ?_
                        refine lv_iload_n hx hb gX11_stamps_10.2.2.2.2.2.2.1 rfl (lv_at3 hl) ?_
                        refine lv_iload_n hx hb gX11_stamps_10.2.2.2.2.2.2.2.1 rfl (lv_at4 hl) ?_
                        refine lv_iconst (v := 2) hx hb gX11_stamps_10.2.2.2.2.2.2.2.2.1 (by decide) ?_
                        refine lv_iload hx hb gX11_stamps_10.2.2.2.2.2.2.2.2.2 (lv_at0 hl) ?_
                        refine lv_imul hx hb gX11_stamps_11.1 ?_
                        refine eqi (x1 := nI (2 * kB)) (nI_mul 2 kB) ?_
                        refine lv_iadd hx hb gX11_stamps_11.2.1 ?_
                        refine eqi (x1 := nI (ji + 2 * kB)) (nI_add ji (2 * kB)) ?_
                        refine lv_iconst (v := 1) hx hb gX11_stamps_11.2.2.1 (by decide) ?_
                        refine lv_iadd hx hb gX11_stamps_11.2.2.2.1 ?_
                        refine eqi (x1 := nI (ji + 2 * kB + 1)) (nI_add (ji + 2 * kB) 1) ?_
                        refine pV hC hK hl hP hD (c_atX l G ho9 jt (ji + 2 * kB + 1) hs hz hi hw hn ht fhi (by omega) (by omega)) si_X11_173 [5, 8] sm_5_8 fm_5_8 nd_5_8 rfl rfl rfl rfl rfl (Nat.le_of_ble_eq_true rfl) rm_5_3_3 ⟨by first | exact Nat.le_of_ble_eq_true rfl | exact Nat.zero_le _, by first | exact Nat.le_of_ble_eq_true rfl | exact Nat.zero_le _⟩ gX11_stamps_11.2.2.2.2.1 (Keqr ?_)
                        refine iV (wr := [(h0, oX11 bb kk ikp sg do9 ru9 ta9 tp9 ro9 ho9 de9), (bpapers, oX8 12 6 bpapersc (nI kbpapers)), (ho9, oX4 hs hz hi hw hn ht), (hs, iA G 4 fhs), (hz, iA G 4 fhz), (hi, iA G 160 fhi)]) hC hK hl hP hD hS hA (c_addStampX l G bb x1 (fhi (jt * 40 + (ji + 2 * kB))) (fhi (jt * 40 + (ji + 2 * kB + 1))) bpersons bpapers bstamps bversions blines bsteps bsayings bfindings bwarnings bquestions td vd vl gp bstampsc (kbstamps + kB) vst (by omega)) si_X11_160 [1, 3, 4] [0, 2, 5, 6, 7, 8] sm_1_3_4 fm_1_3_4 nd_1_3_4 sm_0_2_5_6_7_8 nd_0_2_5_6_7_8 dj_1_3_4__0_2_5_6_7_8 rfl rfl rfl rfl rfl (Nat.le_of_ble_eq_true rfl) rm_5_3_5 ⟨Nat.le_of_ble_eq_true rfl, Nat.le_of_ble_eq_true rfl⟩ gX11_stamps_11.2.2.2.2.2.1 (fun r3610 f93612 H locs hr3610 hP hD hS => ?_)
                        try dsimp only at hr3610
                        refine Kpdr (ws := [(h0, oX11 bb kk ikp sg do9 ru9 ta9 tp9 ro9 ho9 de9), (bpapers, oX8 12 6 bpapersc (nI kbpapers)), (ho9, oX4 hs hz hi hw hn ht), (hs, iA G 4 fhs), (hz, iA G 4 fhz), (hi, iA G 160 fhi), (bb, oX0 bpersons bpapers bstamps bversions blines bsteps bsayings bfindings bwarnings bquestions td vd vl gp), (bstamps, oX8 24 3 bstampsc (nI ((kbstamps + kB) + 1))), (bstampsc, iA G 72 f93612)]) hP hD (fun hP hD => ?_)
                        obtain ⟨hr3610, w3613⟩ := hr3610
                        obtain rfl := hr3610
                        refine lv_pop hx hb gX11_stamps_11.2.2.2.2.2.2.1 rfl ?_
                        refine lv_iinc (v := nI (kB + 1)) (lv' := [(6, .int (nI (kB + 1))), (0, .ref h0), (1, .int x1), (2, .int (nI jt)), (3, .int (nI ji)), (4, .int (nI jn))]) hx hb gX11_stamps_11.2.2.2.2.2.2.2.1 hl (k := 0) rfl (nI_1 _) (by decide) rfl (fun ls hl => ?_)
                        refine lv_goto (tgt := 168) hx hb gX11_stamps_11.2.2.2.2.2.2.2.2.1 (by decide) ?_
                        refine Kpds (ws' := [(h0, oX11 bb kk ikp sg do9 ru9 ta9 tp9 ro9 ho9 de9), (bb, oX0 bpersons bpapers bstamps bversions blines bsteps bsayings bfindings bwarnings bquestions td vd vl gp), (bpapers, oX8 12 6 bpapersc (nI kbpapers)), (bstamps, oX8 24 3 bstampsc (nI ((kbstamps + kB) + 1))), (bstampsc, iA G 72 f93612), (ho9, oX4 hs hz hi hw hn ht), (hs, iA G 4 fhs), (hz, iA G 4 fhz), (hi, iA G 160 fhi)]) hP hD [0, 6, 1, 7, 8, 2, 3, 4, 5] fm_0_6_1_7_8_2_3_4_5 nd_0_6_1_7_8_2_3_4_5 sm_0_6_1_7_8_2_3_4_5 (fun hP hD => ?_)
                        have hst9 : f93612 = APS fbstamps kbstamps x1 fhi (jt * 40) ji (kB + 1) := funext fun i => (w3613 i).trans (by rw [haps]; first | done | rfl)
                        exact ihB (kB + 1) f93612 _ _ _ (by omega) (by first | assumption | exact Or.inl rfl | exact Or.inr rfl | exact rfl) (And.intro hP hD) hS (lv_sub hl [0, 1, 2, 3, 4, 5] rfl)
                    exact keyB jn 0 fbstamps _ _ _ (by omega) (by first | assumption | exact Or.inl rfl | exact Or.inr rfl | exact rfl) (And.intro hP hD) hS (lv_sub hl [0, 1, 2, 3, 4, 5] rfl)
                  · refine lv_bipush (v := (-2)) hx hb gX11_stamps_8.2.2.2.2.2.1 (by decide) ?_
                    have hA9 : STA x1 (nI jt) (nI ji) (nI jn) kbpapers kbstamps fhs fhz fhi = (-2) := by unfold STA; first | (simp only [nI_clamp (n := jt) (by omega), nI_clamp (n := ji) (by omega), nI_clamp (n := jn) (by omega), ifc_t hkbpapers, ifc_t hkbstamps, ifc_t hZ, ifc_t hO, ifc_t a3587, ifc_t a3589, ifc_t a3591, ifc_t a3593, ifc_t a3597, ifc_t c_83_3600, ifc_f c_159_3603, ifc_f (q := fhs jt < 0) (wi_nn (hO jt (by omega)) a3593.1), ifc_t (q := fhs jt = 1) a3593.2, ifc_f (q := OUTS (nI ji) (fhz jt) (nI jn)) (by rw [ejz, OUTS.iff (by omega) (by omega) (by omega)]; omega), ifc_t (q := ALS fhi (jt * 40) ji jn) hals, ifc_t (q := 24 < kbstamps + jn) (by have h9 : ¬ kbstamps + jn ≤ 24 := fun h8 => c_159_3603 ((nI_leI (a := kbstamps + jn) (b := 24) (by omega) (by decide)).mpr h8); omega)]; done) | (simp only [nI_clamp (n := jt) (by omega), nI_clamp (n := ji) (by omega), nI_clamp (n := jn) (by omega), ifc_t hkbpapers, ifc_t hkbstamps, ifc_t hZ, ifc_t hO, ifc_t a3587, ifc_t a3589, ifc_t a3591, ifc_t a3593, ifc_t a3597, ifc_t c_83_3600, ifc_f c_159_3603, ifc_f (q := fhs jt < 0) (wi_nn (hO jt (by omega)) a3593.1), ifc_t (q := fhs jt = 1) a3593.2, ifc_f (q := OUTS (nI ji) (fhz jt) (nI jn)) (by rw [ejz, OUTS.iff (by omega) (by omega) (by omega)]; omega), ifc_t (q := ALS fhi (jt * 40) ji jn) hals, ifc_t (q := 24 < kbstamps + jn) (by have h9 : ¬ kbstamps + jn ≤ 24 := fun h8 => c_159_3603 ((nI_leI (a := kbstamps + jn) (b := 24) (by omega) (by decide)).mpr h8); omega)]; rfl)
                    refine toQ hQ0 ?_
                    exact RI (v := (-2)) hC hP hD hS [0, 1, 2, 3, 4, 5, 6, 7, 8] (kbstamps, fbstamps) rfl rfl (by decide) (⟨hA9.symm, ⟨by omega, (by unfold STK; rw [hA9]; exact (ifc_t (by decide)).symm), fun i => (by rw [hA9]; exact (ifc_t (by decide)).symm)⟩⟩) rfl gX11_stamps_8.2.2.2.2.2.2.1
                | succ nA ihA =>
                  intro kA H locs ls hkA hals hPD hS hl
                  refine Kan2 hPD (fun hP hD => ?_)
                  refine lv_iload hx hb gX11_stamps_4.2.2.2.2.2.2.2.2.1 (lv_at0 hl) ?_
                  refine lv_iload hx hb gX11_stamps_4.2.2.2.2.2.2.2.2.2 (lv_at5 hl) ?_
                  refine lv_icmp_ge (tgt := 144) hx hb gX11_stamps_5.1 (by decide) (fun c9 => absurd c9 (nI_ge (a := kA) (b := jn) (by omega) (by omega))) (fun _ => ?_)
                  refine lv_aload_n hx hb gX11_stamps_5.2.1 rfl (lv_at1 hl) ?_
                  refine gf_X11_72 hC rfl hK hP 0 rfl rfl gX11_stamps_5.2.2.1 ?_
                  refine lv_iload_n hx hb gX11_stamps_5.2.2.2.1 rfl (lv_at3 hl) ?_
                  refine lv_iload_n hx hb gX11_stamps_5.2.2.2.2.1 rfl (lv_at4 hl) ?_
                  refine lv_iconst (v := 2) hx hb gX11_stamps_5.2.2.2.2.2.1 (by decide) ?_
                  refine lv_iload hx hb gX11_stamps_5.2.2.2.2.2.2.1 (lv_at0 hl) ?_
                  refine lv_imul hx hb gX11_stamps_5.2.2.2.2.2.2.2.1 ?_
                  refine eqi (x1 := nI (2 * kA)) (nI_mul 2 kA) ?_
                  refine lv_iadd hx hb gX11_stamps_5.2.2.2.2.2.2.2.2.1 ?_
                  refine eqi (x1 := nI (ji + 2 * kA)) (nI_add ji (2 * kA)) ?_
                  refine pV hC hK hl hP hD (c_atX l G ho9 jt (ji + 2 * kA) hs hz hi hw hn ht fhi (by omega) (by omega)) si_X11_173 [5, 8] sm_5_8 fm_5_8 nd_5_8 rfl rfl rfl rfl rfl (Nat.le_of_ble_eq_true rfl) rm_5_3_3 ⟨by first | exact Nat.le_of_ble_eq_true rfl | exact Nat.zero_le _, by first | exact Nat.le_of_ble_eq_true rfl | exact Nat.zero_le _⟩ gX11_stamps_5.2.2.2.2.2.2.2.2.2 (Keqr ?_)
                  refine lv_aload_n hx hb gX11_stamps_6.1 rfl (lv_at1 hl) ?_
                  refine gf_X11_72 hC rfl hK hP 0 rfl rfl gX11_stamps_6.2.1 ?_
                  refine lv_iload_n hx hb gX11_stamps_6.2.2.1 rfl (lv_at3 hl) ?_
                  refine lv_iload_n hx hb gX11_stamps_6.2.2.2.1 rfl (lv_at4 hl) ?_
                  refine lv_iconst (v := 2) hx hb gX11_stamps_6.2.2.2.2.1 (by decide) ?_
                  refine lv_iload hx hb gX11_stamps_6.2.2.2.2.2.1 (lv_at0 hl) ?_
                  refine lv_imul hx hb gX11_stamps_6.2.2.2.2.2.2.1 ?_
                  refine eqi (x1 := nI (2 * kA)) (nI_mul 2 kA) ?_
                  refine lv_iadd hx hb gX11_stamps_6.2.2.2.2.2.2.2.1 ?_
                  refine eqi (x1 := nI (ji + 2 * kA)) (nI_add ji (2 * kA)) ?_
                  refine lv_iconst (v := 1) hx hb gX11_stamps_6.2.2.2.2.2.2.2.2.1 (by decide) ?_
                  refine lv_iadd hx hb gX11_stamps_6.2.2.2.2.2.2.2.2.2 ?_
                  refine eqi (x1 := nI (ji + 2 * kA + 1)) (nI_add (ji + 2 * kA) 1) ?_
                  refine pV hC hK hl hP hD (c_atX l G ho9 jt (ji + 2 * kA + 1) hs hz hi hw hn ht fhi (by omega) (by omega)) si_X11_173 [5, 8] sm_5_8 fm_5_8 nd_5_8 rfl rfl rfl rfl rfl (Nat.le_of_ble_eq_true rfl) rm_5_3_3 ⟨by first | exact Nat.le_of_ble_eq_true rfl | exact Nat.zero_le _, by first | exact Nat.le_of_ble_eq_true rfl | exact Nat.zero_le _⟩ gX11_stamps_7.1 (Keqr ?_)
                  refine pS hC hK hl (c_isStamp l G (fhi (jt * 40 + (ji + 2 * kA))) (fhi (jt * 40 + (ji + 2 * kA + 1)))) si_X11_154 rfl rfl (Nat.le_of_ble_eq_true rfl) rm_5_2_2 ⟨by first | exact Nat.le_of_ble_eq_true rfl | exact Nat.zero_le _, by first | exact Nat.le_of_ble_eq_true rfl | exact Nat.zero_le _⟩ gX11_stamps_7.2.1 (Kors (Keqa fun a3620 => ?_) (Keqa fun a3620 => ?_))
                  · refine lv_if_ne (tgt := 138) hx hb gX11_stamps_7.2.2.1 (by decide) (fun _ => ?_) (fun c9 => absurd c9 (by decide))
                    refine lv_iinc (v := nI (kA + 1)) (lv' := [(6, .int (nI (kA + 1))), (0, .ref h0), (1, .int x1), (2, .int (nI jt)), (3, .int (nI ji)), (4, .int (nI jn))]) hx hb gX11_stamps_7.2.2.2.2.2.1 hl (k := 0) rfl (nI_1 _) (by decide) rfl (fun ls hl => ?_)
                    refine lv_goto (tgt := 92) hx hb gX11_stamps_7.2.2.2.2.2.2.1 (by decide) ?_
                    have hst9 : ALS fhi (jt * 40) ji (kA + 1) := ALS.next hals a3620
                    exact ihA (kA + 1) _ _ _ (by omega) (by first | assumption | exact Or.inl rfl | exact Or.inr rfl | exact ALS.zero) (And.intro hP hD) hS (lv_sub hl [0, 1, 2, 3, 4, 5] rfl)
                  · refine lv_if_ne (tgt := 138) hx hb gX11_stamps_7.2.2.1 (by decide) (fun c9 => absurd (by decide) c9) (fun _ => ?_)
                    refine lv_bipush (v := (-4)) hx hb gX11_stamps_7.2.2.2.1 (by decide) ?_
                    have hA9 : STA x1 (nI jt) (nI ji) (nI jn) kbpapers kbstamps fhs fhz fhi = (-4) := by unfold STA; first | (simp only [nI_clamp (n := jt) (by omega), nI_clamp (n := ji) (by omega), nI_clamp (n := jn) (by omega), ifc_t hkbpapers, ifc_t hkbstamps, ifc_t hZ, ifc_t hO, ifc_t a3587, ifc_t a3589, ifc_t a3591, ifc_t a3593, ifc_t a3597, ifc_t c_83_3600, ifc_f a3620, ifc_f (q := fhs jt < 0) (wi_nn (hO jt (by omega)) a3593.1), ifc_t (q := fhs jt = 1) a3593.2, ifc_f (q := OUTS (nI ji) (fhz jt) (nI jn)) (by rw [ejz, OUTS.iff (by omega) (by omega) (by omega)]; omega), ifc_f (q := ALS fhi (jt * 40) ji jn) (fun h9 => a3620 (h9 kA (by omega)))]; done) | (simp only [nI_clamp (n := jt) (by omega), nI_clamp (n := ji) (by omega), nI_clamp (n := jn) (by omega), ifc_t hkbpapers, ifc_t hkbstamps, ifc_t hZ, ifc_t hO, ifc_t a3587, ifc_t a3589, ifc_t a3591, ifc_t a3593, ifc_t a3597, ifc_t c_83_3600, ifc_f a3620, ifc_f (q := fhs jt < 0) (wi_nn (hO jt (by omega)) a3593.1), ifc_t (q := fhs jt = 1) a3593.2, ifc_f (q := OUTS (nI ji) (fhz jt) (nI jn)) (by rw [ejz, OUTS.iff (by omega) (by omega) (by omega)]; omega), ifc_f (q := ALS fhi (jt * 40) ji jn) (fun h9 => a3620 (h9 kA (by omega)))]; rfl)
                    refine toQ hQ0 ?_
                    exact RI (v := (-4)) hC hP hD hS [0, 1, 2, 3, 4, 5, 6, 7, 8] (kbstamps, fbstamps) rfl rfl (by decide) (⟨hA9.symm, ⟨by omega, (by unfold STK; rw [hA9]; exact (ifc_t (by decide)).symm), fun i => (by rw [hA9]; exact (ifc_t (by decide)).symm)⟩⟩) rfl gX11_stamps_7.2.2.2.2.1
              exact keyA jn 0 _ _ _ (by omega) (by first | assumption | exact Or.inl rfl | exact Or.inr rfl | exact ALS.zero) (And.intro hP hD) hS (lv_sub hl [0, 2, 3, 4, 5, 6] rfl)
            · refine lv_bipush (v := (-12)) hx hb gX11_stamps_4.2.2.2.2.1 (by decide) ?_
              have hA9 : STA x1 (nI jt) (nI ji) (nI jn) kbpapers kbstamps fhs fhz fhi = (-12) := by unfold STA; first | (simp only [nI_clamp (n := jt) (by omega), nI_clamp (n := ji) (by omega), nI_clamp (n := jn) (by omega), ifc_t hkbpapers, ifc_t hkbstamps, ifc_t hZ, ifc_t hO, ifc_t a3587, ifc_t a3589, ifc_t a3591, ifc_t a3593, ifc_t a3597, ifc_f c_83_3600, ifc_f (q := fhs jt < 0) (wi_nn (hO jt (by omega)) a3593.1), ifc_t (q := fhs jt = 1) a3593.2, ifc_t (q := OUTS (nI ji) (fhz jt) (nI jn)) (by rw [ejz, OUTS.iff (by omega) (by omega) (by omega)]; have h9 : ¬ 2 * jn ≤ jz - ji := fun h8 => c_83_3600 ((nI_leI (by omega) (by omega)).mpr h8); omega)]; done) | (simp only [nI_clamp (n := jt) (by omega), nI_clamp (n := ji) (by omega), nI_clamp (n := jn) (by omega), ifc_t hkbpapers, ifc_t hkbstamps, ifc_t hZ, ifc_t hO, ifc_t a3587, ifc_t a3589, ifc_t a3591, ifc_t a3593, ifc_t a3597, ifc_f c_83_3600, ifc_f (q := fhs jt < 0) (wi_nn (hO jt (by omega)) a3593.1), ifc_t (q := fhs jt = 1) a3593.2, ifc_t (q := OUTS (nI ji) (fhz jt) (nI jn)) (by rw [ejz, OUTS.iff (by omega) (by omega) (by omega)]; have h9 : ¬ 2 * jn ≤ jz - ji := fun h8 => c_83_3600 ((nI_leI (by omega) (by omega)).mpr h8); omega)]; rfl)
              refine toQ hQ0 ?_
              exact RI (v := (-12)) hC hP hD hS [0, 1, 2, 3, 4, 5, 6, 7, 8] (kbstamps, fbstamps) rfl rfl (by decide) (⟨hA9.symm, ⟨by omega, (by unfold STK; rw [hA9]; exact (ifc_t (by decide)).symm), fun i => (by rw [hA9]; exact (ifc_t (by decide)).symm)⟩⟩) rfl gX11_stamps_4.2.2.2.2.2.1
          · refine lv_if_eq (tgt := 86) hx hb gX11_stamps_3.2.2.2.1 (by decide) (fun _ => ?_) (fun c9 => absurd (by decide) c9)
            refine lv_bipush (v := (-12)) hx hb gX11_stamps_4.2.2.2.2.1 (by decide) ?_
            have hA9 : STA x1 (nI jt) x3 (nI jn) kbpapers kbstamps fhs fhz fhi = (-12) := by unfold STA; first | (simp only [nI_clamp (n := jt) (by omega), nI_clamp (n := jn) (by omega), ifc_t hkbpapers, ifc_t hkbstamps, ifc_t hZ, ifc_t hO, ifc_t a3587, ifc_t a3589, ifc_t a3591, ifc_t a3593, ifc_f a3597, ifc_f (q := fhs jt < 0) (wi_nn (hO jt (by omega)) a3593.1), ifc_t (q := fhs jt = 1) a3593.2, ifc_t (q := OUTS x3 (fhz jt) (nI jn)) (OUTS.w (by omega) a3597)]; done) | (simp only [nI_clamp (n := jt) (by omega), nI_clamp (n := jn) (by omega), ifc_t hkbpapers, ifc_t hkbstamps, ifc_t hZ, ifc_t hO, ifc_t a3587, ifc_t a3589, ifc_t a3591, ifc_t a3593, ifc_f a3597, ifc_f (q := fhs jt < 0) (wi_nn (hO jt (by omega)) a3593.1), ifc_t (q := fhs jt = 1) a3593.2, ifc_t (q := OUTS x3 (fhz jt) (nI jn)) (OUTS.w (by omega) a3597)]; rfl)
            refine toQ hQ0 ?_
            exact RI (v := (-12)) hC hP hD hS [0, 1, 2, 3, 4, 5, 6, 7, 8] (kbstamps, fbstamps) rfl rfl (by decide) (⟨hA9.symm, ⟨by omega, (by unfold STK; rw [hA9]; exact (ifc_t (by decide)).symm), fun i => (by rw [hA9]; exact (ifc_t (by decide)).symm)⟩⟩) rfl gX11_stamps_4.2.2.2.2.2.1
        · refine lv_istore (lv' := [(5, .int (-13)), (0, .ref h0), (1, .int x1), (2, .int (nI jt)), (3, .int x3), (4, .int (nI jn))]) hx hb gX11_stamps_2.2.1 hl (by decide) rfl (fun ls hl => ?_)
          refine lv_iload hx hb gX11_stamps_2.2.2.1 (lv_at0 hl) ?_
          refine lv_if_eq (tgt := 53) hx hb gX11_stamps_2.2.2.2.1 (by decide) (fun c9 => absurd c9 (by decide)) (fun _ => ?_)
          refine lv_iload hx hb gX11_stamps_2.2.2.2.2.1 (lv_at0 hl) ?_
          have hA9 : STA x1 (nI jt) x3 (nI jn) kbpapers kbstamps fhs fhz fhi = (-13) := by unfold STA; first | (simp only [nI_clamp (n := jt) (by omega), nI_clamp (n := jn) (by omega), ifc_t hkbpapers, ifc_t hkbstamps, ifc_t hZ, ifc_t hO, ifc_t a3587, ifc_t a3589, ifc_t a3591, ifc_t a3593, ifc_f (q := fhs jt < 0) (wi_nn (hO jt (by omega)) a3593.1), ifc_f (q := fhs jt = 1) a3593.2]; done) | (simp only [nI_clamp (n := jt) (by omega), nI_clamp (n := jn) (by omega), ifc_t hkbpapers, ifc_t hkbstamps, ifc_t hZ, ifc_t hO, ifc_t a3587, ifc_t a3589, ifc_t a3591, ifc_t a3593, ifc_f (q := fhs jt < 0) (wi_nn (hO jt (by omega)) a3593.1), ifc_f (q := fhs jt = 1) a3593.2]; rfl)
          refine toQ hQ0 ?_
          exact RI (v := (-13)) hC hP hD hS [0, 1, 2, 3, 4, 5, 6, 7, 8] (kbstamps, fbstamps) rfl rfl (by decide) (⟨hA9.symm, ⟨by omega, (by unfold STK; rw [hA9]; exact (ifc_t (by decide)).symm), fun i => (by rw [hA9]; exact (ifc_t (by decide)).symm)⟩⟩) rfl gX11_stamps_2.2.2.2.2.2.1
      · refine lv_if_ne (tgt := 34) hx hb gX11_stamps_1.2.2.2.1 (by decide) (fun c9 => absurd (by decide) c9) (fun _ => ?_)
        refine lv_iconst (v := (-1)) hx hb gX11_stamps_1.2.2.2.2.1 (by decide) ?_
        have hA9 : STA x1 x2 x3 x4 kbpapers kbstamps fhs fhz fhi = (-1) := by unfold STA; first | (simp only [ifc_t hkbpapers, ifc_t hkbstamps, ifc_t hZ, ifc_t hO, ifc_t a3587, ifc_t a3589, ifc_f a3591]; done) | (simp only [ifc_t hkbpapers, ifc_t hkbstamps, ifc_t hZ, ifc_t hO, ifc_t a3587, ifc_t a3589, ifc_f a3591]; rfl)
        refine toQ hQ0 ?_
        exact RI (v := (-1)) hC hP hD hS [0, 1, 2, 3, 4, 5, 6, 7, 8] (kbstamps, fbstamps) rfl rfl (by decide) (⟨hA9.symm, ⟨by omega, (by unfold STK; rw [hA9]; exact (ifc_t (by decide)).symm), fun i => (by rw [hA9]; exact (ifc_t (by decide)).symm)⟩⟩) rfl gX11_stamps_1.2.2.2.2.2.1
    · refine lv_if_eq (tgt := 32) hx hb gX11_stamps_0.2.2.2.2.2.2.2.2.1 (by decide) (fun _ => ?_) (fun c9 => absurd (by decide) c9)
      refine lv_iconst (v := (-1)) hx hb gX11_stamps_1.2.2.2.2.1 (by decide) ?_
      have hA9 : STA x1 x2 x3 x4 kbpapers kbstamps fhs fhz fhi = (-1) := by unfold STA; first | (simp only [ifc_t hkbpapers, ifc_t hkbstamps, ifc_t hZ, ifc_t hO, ifc_t a3587, ifc_f a3589]; done) | (simp only [ifc_t hkbpapers, ifc_t hkbstamps, ifc_t hZ, ifc_t hO, ifc_t a3587, ifc_f a3589]; rfl)
      refine toQ hQ0 ?_
      exact RI (v := (-1)) hC hP hD hS [0, 1, 2, 3, 4, 5, 6, 7, 8] (kbstamps, fbstamps) rfl rfl (by decide) (⟨hA9.symm, ⟨by omega, (by unfold STK; rw [hA9]; exact (ifc_t (by decide)).symm), fun i => (by rw [hA9]; exact (ifc_t (by decide)).symm)⟩⟩) rfl gX11_stamps_1.2.2.2.2.2.1
  · refine lv_if_eq (tgt := 32) hx hb gX11_stamps_0.2.2.2.2.2.1 (by decide) (fun _ => ?_) (fun c9 => absurd (by decide) c9)
    refine lv_iconst (v := (-1)) hx hb gX11_stamps_1.2.2.2.2.1 (by decide) ?_
    have hA9 : STA x1 x2 x3 x4 kbpapers kbstamps fhs fhz fhi = (-1) := by unfold STA; first | (simp only [ifc_t hkbpapers, ifc_t hkbstamps, ifc_t hZ, ifc_t hO, ifc_f a3587]; done) | (simp only [ifc_t hkbpapers, ifc_t hkbstamps, ifc_t hZ, ifc_t hO, ifc_f a3587]; rfl)
    refine toQ hQ0 ?_
    exact RI (v := (-1)) hC hP hD hS [0, 1, 2, 3, 4, 5, 6, 7, 8] (kbstamps, fbstamps) rfl rfl (by decide) (⟨hA9.symm, ⟨by omega, (by unfold STK; rw [hA9]; exact (ifc_t (by decide)).symm), fun i => (by rw [hA9]; exact (ifc_t (by decide)).symm)⟩⟩) rfl gX11_stamps_1.2.2.2.2.2.1
def K_c_holdX (l : Launch) (G : GG) (h0 : Nat) (js : Nat) (hs : Nat) (hz : Nat) (hi : Nat) (hw : Nat) (hn : Nat) (ht : Nat) (fhw : Nat → Int32) (fhn : Nat → Int32) (wh : Int32) (nn : Int32) : Prop := MV l G yX4_hold cX4_hold 4 3 0 0 [.ref h0, .int (nI js), .int wh, .int nn] [(h0, oX4 hs hz hi hw hn ht), (hw, iA G 4 fhw), (hn, iA G 4 fhn)] (fun u : Unit => True) (fun u : Unit => [(h0, oX4 hs hz hi hw hn ht), (hw, iA G 4 (upd fhw js wh)), (hn, iA G 4 (upd fhn js nn))])
set_option maxHeartbeats 4000000 in
set_option maxRecDepth 100000 in
theorem c_holdX (l : Launch) (G : GG) (h0 : Nat) (js : Nat) (hs : Nat) (hz : Nat) (hi : Nat) (hw : Nat) (hn : Nat) (ht : Nat) (fhw : Nat → Int32) (fhn : Nat → Int32) (wh : Int32) (nn : Int32) (hjs : js < 4) : K_c_holdX l G h0 js hs hz hi hw hn ht fhw fhn wh nn := by
  refine MV.start (by decide +kernel) (Nat.le_of_ble_eq_true rfl) ?_
  intro p e s m below meth c A ls hC hK hP hD hS hA hl
  refine absQ (fun Q0 hQ0 => ?_)
  have hl : lv_has ls 4 [(0, .ref h0), (1, .int (nI js)), (2, .int wh), (3, .int nn)] := hl
  refine Kan8 hC (fun hx hb hr hml hB hown hlocks hnm => ?_)
  have wj1 : Wi (nI js) 0 3 := Wi_j (N := 3) rfl (by decide) (by omega)
  refine lv_iload_n hx hb gX4_hold_0.1 rfl (lv_at1 hl) ?_
  refine pSN hC hK hl (c_isShelf l G (nI js)) si_X4_41 rfl rfl (Nat.le_of_ble_eq_true rfl) rm_3_2_1 ⟨by first | exact Nat.le_of_ble_eq_true rfl | exact Nat.zero_le _, by first | exact Nat.le_of_ble_eq_true rfl | exact Nat.zero_le _⟩ gX4_hold_0.2.1 (Kors (Keqa fun a3622 => ?_) (Keqa fun a3622 => ?_))
  · refine lv_if_ne (tgt := 8) hx hb gX4_hold_0.2.2.1 (by decide) (fun _ => ?_) (fun c9 => absurd c9 (by decide))
    refine lv_aload_n hx hb gX4_hold_0.2.2.2.2.1 rfl (lv_at0 hl) ?_
    refine gf_X4_21 hC rfl hK hP 0 rfl rfl gX4_hold_0.2.2.2.2.2.1 ?_
    refine lv_iload_n hx hb gX4_hold_0.2.2.2.2.2.2.1 rfl (lv_at1 hl) ?_
    refine lv_iload_n hx hb gX4_hold_0.2.2.2.2.2.2.2.1 rfl (lv_at2 hl) ?_
    refine astN hC hK hP hD hS 1 (ws' := [(h0, oX4 hs hz hi hw hn ht), (hw, iA G 4 (upd fhw js wh)), (hn, iA G 4 fhn)]) rfl (k := js) (by omega) (Nat.le_of_ble_eq_true rfl) (rfl) gX4_hold_0.2.2.2.2.2.2.2.2.1 (fun H locs hP hD hS => ?_)
    refine lv_aload_n hx hb gX4_hold_0.2.2.2.2.2.2.2.2.2 rfl (lv_at0 hl) ?_
    refine gf_X4_24 hC rfl hK hP 0 rfl rfl gX4_hold_1.1 ?_
    refine lv_iload_n hx hb gX4_hold_1.2.1 rfl (lv_at1 hl) ?_
    refine lv_iload_n hx hb gX4_hold_1.2.2.1 rfl (lv_at3 hl) ?_
    refine astN hC hK hP hD hS 2 (ws' := [(h0, oX4 hs hz hi hw hn ht), (hw, iA G 4 (upd fhw js wh)), (hn, iA G 4 (upd fhn js nn))]) rfl (k := js) (by omega) (Nat.le_of_ble_eq_true rfl) (rfl) gX4_hold_1.2.2.2.1 (fun H locs hP hD hS => ?_)
    refine toQ hQ0 ?_
    exact RV hC hP hD hS [0, 1, 2] () rfl rfl (by decide) (trivial) gX4_hold_1.2.2.2.2
  · exact absurd wj1 a3622
def K_c_holdRowX (l : Launch) (G : GG) (h0 : Nat) (js : Nat) (ju : Nat) (hs : Nat) (hz : Nat) (hi : Nat) (hw : Nat) (hn : Nat) (ht : Nat) (fhw : Nat → Int32) (fhn : Nat → Int32) (fht : Nat → Int32) (fhs : Nat → Int32) (fhz : Nat → Int32) : Prop := MV l G yX4_holdRow cX4_holdRow 3 4 0 0 [.ref h0, .int (nI js), .int (nI ju)] [(h0, oX4 hs hz hi hw hn ht), (hw, iA G 4 fhw), (hn, iA G 4 fhn), (ht, iA G 4 fht), (hs, iA G 4 fhs), (hz, iA G 4 fhz)] (fun u : (Nat → Int32) => u = upd fhw js (ifc (fhs ju = (-1)) 4 3)) (fun u : (Nat → Int32) => [(h0, oX4 hs hz hi hw hn ht), (hw, iA G 4 u), (hn, iA G 4 (upd fhn js (fhz ju))), (ht, iA G 4 (upd fht js (fhs ju))), (hs, iA G 4 fhs), (hz, iA G 4 fhz)])
set_option maxHeartbeats 4000000 in
set_option maxRecDepth 100000 in
theorem c_holdRowX (l : Launch) (G : GG) (h0 : Nat) (js : Nat) (ju : Nat) (hs : Nat) (hz : Nat) (hi : Nat) (hw : Nat) (hn : Nat) (ht : Nat) (fhw : Nat → Int32) (fhn : Nat → Int32) (fht : Nat → Int32) (fhs : Nat → Int32) (fhz : Nat → Int32) (hjs : js < 4) (hju : ju < 4) : K_c_holdRowX l G h0 js ju hs hz hi hw hn ht fhw fhn fht fhs fhz := by
  refine MV.start (by decide +kernel) (Nat.le_of_ble_eq_true rfl) ?_
  intro p e s m below meth c A ls hC hK hP hD hS hA hl
  refine absQ (fun Q0 hQ0 => ?_)
  have hl : lv_has ls 3 [(0, .ref h0), (1, .int (nI js)), (2, .int (nI ju))] := hl
  refine Kan8 hC (fun hx hb hr hml hB hown hlocks hnm => ?_)
  have wj1 : Wi (nI js) 0 3 := Wi_j (N := 3) rfl (by decide) (by omega)
  refine lv_iload_n hx hb gX4_holdRow_0.1 rfl (lv_at1 hl) ?_
  refine pSN hC hK hl (c_isShelf l G (nI js)) si_X4_41 rfl rfl (Nat.le_of_ble_eq_true rfl) rm_4_2_1 ⟨by first | exact Nat.le_of_ble_eq_true rfl | exact Nat.zero_le _, by first | exact Nat.le_of_ble_eq_true rfl | exact Nat.zero_le _⟩ gX4_holdRow_0.2.1 (Kors (Keqa fun a3624 => ?_) (Keqa fun a3624 => ?_))
  · refine lv_if_ne (tgt := 8) hx hb gX4_holdRow_0.2.2.1 (by decide) (fun _ => ?_) (fun c9 => absurd c9 (by decide))
    refine lv_aload_n hx hb gX4_holdRow_0.2.2.2.2.1 rfl (lv_at0 hl) ?_
    refine gf_X4_21 hC rfl hK hP 0 rfl rfl gX4_holdRow_0.2.2.2.2.2.1 ?_
    refine lv_iload_n hx hb gX4_holdRow_0.2.2.2.2.2.2.1 rfl (lv_at1 hl) ?_
    refine lv_aload_n hx hb gX4_holdRow_0.2.2.2.2.2.2.2.1 rfl (lv_at0 hl) ?_
    refine lv_iload_n hx hb gX4_holdRow_0.2.2.2.2.2.2.2.2.1 rfl (lv_at2 hl) ?_
    refine pV hC hK hl hP hD (c_sortX l G h0 ju hs hz hi hw hn ht fhs (hju)) si_X4_38 [0, 4] sm_0_4 fm_0_4 nd_0_4 rfl rfl rfl rfl rfl (Nat.le_of_ble_eq_true rfl) rm_4_3_2 ⟨by first | exact Nat.le_of_ble_eq_true rfl | exact Nat.zero_le _, by first | exact Nat.le_of_ble_eq_true rfl | exact Nat.zero_le _⟩ gX4_holdRow_0.2.2.2.2.2.2.2.2.2 (Keqr ?_)
    refine lv_iconst (v := (-1)) hx hb gX4_holdRow_1.1 (by decide) ?_
    refine lv_icmp_ne (tgt := 26) hx hb gX4_holdRow_1.2.1 (by decide) (fun c_19_3627 => ?_) (fun c_19_3627 => ?_)
    · refine lv_iconst (v := 3) hx hb gX4_holdRow_1.2.2.2.2.1 (by decide) ?_
      refine astN hC hK hP hD hS 1 (ws' := [(h0, oX4 hs hz hi hw hn ht), (hw, iA G 4 (upd fhw js 3)), (hn, iA G 4 fhn), (ht, iA G 4 fht), (hs, iA G 4 fhs), (hz, iA G 4 fhz)]) rfl (k := js) (by omega) (Nat.le_of_ble_eq_true rfl) (rfl) gX4_holdRow_1.2.2.2.2.2.1 (fun H locs hP hD hS => ?_)
      refine lv_aload_n hx hb gX4_holdRow_1.2.2.2.2.2.2.1 rfl (lv_at0 hl) ?_
      refine gf_X4_24 hC rfl hK hP 0 rfl rfl gX4_holdRow_1.2.2.2.2.2.2.2.1 ?_
      refine lv_iload_n hx hb gX4_holdRow_1.2.2.2.2.2.2.2.2.1 rfl (lv_at1 hl) ?_
      refine lv_aload_n hx hb gX4_holdRow_1.2.2.2.2.2.2.2.2.2 rfl (lv_at0 hl) ?_
      refine lv_iload_n hx hb gX4_holdRow_2.1 rfl (lv_at2 hl) ?_
      refine pV hC hK hl hP hD (c_sizeX l G h0 ju hs hz hi hw hn ht fhz (hju)) si_X4_44 [0, 5] sm_0_5 fm_0_5 nd_0_5 rfl rfl rfl rfl rfl (Nat.le_of_ble_eq_true rfl) rm_4_3_2 ⟨by first | exact Nat.le_of_ble_eq_true rfl | exact Nat.zero_le _, by first | exact Nat.le_of_ble_eq_true rfl | exact Nat.zero_le _⟩ gX4_holdRow_2.2.1 (Keqr ?_)
      refine astN hC hK hP hD hS 2 (ws' := [(h0, oX4 hs hz hi hw hn ht), (hw, iA G 4 (upd fhw js 3)), (hn, iA G 4 (upd fhn js (fhz ju))), (ht, iA G 4 fht), (hs, iA G 4 fhs), (hz, iA G 4 fhz)]) rfl (k := js) (by omega) (Nat.le_of_ble_eq_true rfl) (rfl) gX4_holdRow_2.2.2.1 (fun H locs hP hD hS => ?_)
      refine lv_aload_n hx hb gX4_holdRow_2.2.2.2.1 rfl (lv_at0 hl) ?_
      refine gf_X4_27 hC rfl hK hP 0 rfl rfl gX4_holdRow_2.2.2.2.2.1 ?_
      refine lv_iload_n hx hb gX4_holdRow_2.2.2.2.2.2.1 rfl (lv_at1 hl) ?_
      refine lv_aload_n hx hb gX4_holdRow_2.2.2.2.2.2.2.1 rfl (lv_at0 hl) ?_
      refine lv_iload_n hx hb gX4_holdRow_2.2.2.2.2.2.2.2.1 rfl (lv_at2 hl) ?_
      refine pV hC hK hl hP hD (c_sortX l G h0 ju hs hz hi hw hn ht fhs (hju)) si_X4_38 [0, 4] sm_0_4 fm_0_4 nd_0_4 rfl rfl rfl rfl rfl (Nat.le_of_ble_eq_true rfl) rm_4_3_2 ⟨by first | exact Nat.le_of_ble_eq_true rfl | exact Nat.zero_le _, by first | exact Nat.le_of_ble_eq_true rfl | exact Nat.zero_le _⟩ gX4_holdRow_2.2.2.2.2.2.2.2.2.1 (Keqr ?_)
      refine astN hC hK hP hD hS 3 (ws' := [(h0, oX4 hs hz hi hw hn ht), (hw, iA G 4 (upd fhw js 3)), (hn, iA G 4 (upd fhn js (fhz ju))), (ht, iA G 4 (upd fht js (fhs ju))), (hs, iA G 4 fhs), (hz, iA G 4 fhz)]) rfl (k := js) (by omega) (Nat.le_of_ble_eq_true rfl) (rfl) gX4_holdRow_2.2.2.2.2.2.2.2.2.2 (fun H locs hP hD hS => ?_)
      refine toQ hQ0 ?_
      exact RV hC hP hD hS [0, 1, 2, 3, 4, 5] (upd fhw js 3) rfl rfl (by decide) (congrArg (upd fhw js) (ifc_f c_19_3627).symm) gX4_holdRow_3
    · refine lv_iconst (v := 4) hx hb gX4_holdRow_1.2.2.1 (by decide) ?_
      refine lv_goto (tgt := 27) hx hb gX4_holdRow_1.2.2.2.1 (by decide) ?_
      refine astN hC hK hP hD hS 1 (ws' := [(h0, oX4 hs hz hi hw hn ht), (hw, iA G 4 (upd fhw js 4)), (hn, iA G 4 fhn), (ht, iA G 4 fht), (hs, iA G 4 fhs), (hz, iA G 4 fhz)]) rfl (k := js) (by omega) (Nat.le_of_ble_eq_true rfl) (rfl) gX4_holdRow_1.2.2.2.2.2.1 (fun H locs hP hD hS => ?_)
      refine lv_aload_n hx hb gX4_holdRow_1.2.2.2.2.2.2.1 rfl (lv_at0 hl) ?_
      refine gf_X4_24 hC rfl hK hP 0 rfl rfl gX4_holdRow_1.2.2.2.2.2.2.2.1 ?_
      refine lv_iload_n hx hb gX4_holdRow_1.2.2.2.2.2.2.2.2.1 rfl (lv_at1 hl) ?_
      refine lv_aload_n hx hb gX4_holdRow_1.2.2.2.2.2.2.2.2.2 rfl (lv_at0 hl) ?_
      refine lv_iload_n hx hb gX4_holdRow_2.1 rfl (lv_at2 hl) ?_
      refine pV hC hK hl hP hD (c_sizeX l G h0 ju hs hz hi hw hn ht fhz (hju)) si_X4_44 [0, 5] sm_0_5 fm_0_5 nd_0_5 rfl rfl rfl rfl rfl (Nat.le_of_ble_eq_true rfl) rm_4_3_2 ⟨by first | exact Nat.le_of_ble_eq_true rfl | exact Nat.zero_le _, by first | exact Nat.le_of_ble_eq_true rfl | exact Nat.zero_le _⟩ gX4_holdRow_2.2.1 (Keqr ?_)
      refine astN hC hK hP hD hS 2 (ws' := [(h0, oX4 hs hz hi hw hn ht), (hw, iA G 4 (upd fhw js 4)), (hn, iA G 4 (upd fhn js (fhz ju))), (ht, iA G 4 fht), (hs, iA G 4 fhs), (hz, iA G 4 fhz)]) rfl (k := js) (by omega) (Nat.le_of_ble_eq_true rfl) (rfl) gX4_holdRow_2.2.2.1 (fun H locs hP hD hS => ?_)
      refine lv_aload_n hx hb gX4_holdRow_2.2.2.2.1 rfl (lv_at0 hl) ?_
      refine gf_X4_27 hC rfl hK hP 0 rfl rfl gX4_holdRow_2.2.2.2.2.1 ?_
      refine lv_iload_n hx hb gX4_holdRow_2.2.2.2.2.2.1 rfl (lv_at1 hl) ?_
      refine lv_aload_n hx hb gX4_holdRow_2.2.2.2.2.2.2.1 rfl (lv_at0 hl) ?_
      refine lv_iload_n hx hb gX4_holdRow_2.2.2.2.2.2.2.2.1 rfl (lv_at2 hl) ?_
      refine pV hC hK hl hP hD (c_sortX l G h0 ju hs hz hi hw hn ht fhs (hju)) si_X4_38 [0, 4] sm_0_4 fm_0_4 nd_0_4 rfl rfl rfl rfl rfl (Nat.le_of_ble_eq_true rfl) rm_4_3_2 ⟨by first | exact Nat.le_of_ble_eq_true rfl | exact Nat.zero_le _, by first | exact Nat.le_of_ble_eq_true rfl | exact Nat.zero_le _⟩ gX4_holdRow_2.2.2.2.2.2.2.2.2.1 (Keqr ?_)
      refine astN hC hK hP hD hS 3 (ws' := [(h0, oX4 hs hz hi hw hn ht), (hw, iA G 4 (upd fhw js 4)), (hn, iA G 4 (upd fhn js (fhz ju))), (ht, iA G 4 (upd fht js (fhs ju))), (hs, iA G 4 fhs), (hz, iA G 4 fhz)]) rfl (k := js) (by omega) (Nat.le_of_ble_eq_true rfl) (rfl) gX4_holdRow_2.2.2.2.2.2.2.2.2.2 (fun H locs hP hD hS => ?_)
      refine toQ hQ0 ?_
      exact RV hC hP hD hS [0, 1, 2, 3, 4, 5] (upd fhw js 4) rfl rfl (by decide) (congrArg (upd fhw js) (ifc_t c_19_3627).symm) gX4_holdRow_3
  · exact absurd wj1 a3624
def K_p_shelf (l : Launch) (G : GG) (h0 : Nat) (x1 : Int32) (x2 : Int32) (x3 : Int32) (bb : Nat) (kk : Nat) (ikp : Int32) (sg : Nat) (do9 : Nat) (ru9 : Nat) (ta9 : Nat) (tp9 : Nat) (ro9 : Nat) (ho9 : Nat) (de9 : Nat) (bpersons : Nat) (bpapers : Nat) (bstamps : Nat) (bversions : Nat) (blines : Nat) (bsteps : Nat) (bsayings : Nat) (bfindings : Nat) (bwarnings : Nat) (bquestions : Nat) (td : Int32) (vd : Int32) (vl : Int32) (gp : Int32) (bpapersc : Nat) (kbpapers : Nat) (bsayingsc : Nat) (kbsayings : Nat) (bfindingsc : Nat) (kbfindings : Nat) (hs : Nat) (hz : Nat) (hi : Nat) (hw : Nat) (hn : Nat) (ht : Nat) (fhw : Nat → Int32) (fhn : Nat → Int32) (fht : Nat → Int32) (fhs : Nat → Int32) (fhz : Nat → Int32) : Prop := MI l G yX11_shelf cX11_shelf 4 (some .int) 5 0 0 [.ref h0, .int x1, .int x2, .int x3] [(h0, oX11 bb kk ikp sg do9 ru9 ta9 tp9 ro9 ho9 de9), (bb, oX0 bpersons bpapers bstamps bversions blines bsteps bsayings bfindings bwarnings bquestions td vd vl gp), (bpapers, oX8 12 6 bpapersc (nI kbpapers)), (bsayings, oX8 16 8 bsayingsc (nI kbsayings)), (bfindings, oX8 12 4 bfindingsc (nI kbfindings)), (ho9, oX4 hs hz hi hw hn ht), (hw, iA G 4 fhw), (hn, iA G 4 fhn), (ht, iA G 4 fht), (hs, iA G 4 fhs), (hz, iA G 4 fhz)] (fun (r : Int32) (u : (Nat → Int32) × (Nat → Int32) × (Nat → Int32)) => (r = SHX x1 x2 x3 kbpapers kbsayings kbfindings) ∧ ((SHX x1 x2 x3 kbpapers kbsayings kbfindings = 1 → (x2 = 3 → u.1 = upd fhw x1.toNatClampNeg (ifc (fhs x3.toNatClampNeg = (-1)) 4 3) ∧ u.2.1 = upd fhn x1.toNatClampNeg (fhz x3.toNatClampNeg) ∧ u.2.2 = upd fht x1.toNatClampNeg (fhs x3.toNatClampNeg)) ∧ (¬ x2 = 3 → u.1 = upd fhw x1.toNatClampNeg x2 ∧ u.2.1 = upd fhn x1.toNatClampNeg x3 ∧ u.2.2 = fht)) ∧ (¬ SHX x1 x2 x3 kbpapers kbsayings kbfindings = 1 → u.1 = fhw ∧ u.2.1 = fhn ∧ u.2.2 = fht))) (fun u : (Nat → Int32) × (Nat → Int32) × (Nat → Int32) => [(h0, oX11 bb kk ikp sg do9 ru9 ta9 tp9 ro9 ho9 de9), (bb, oX0 bpersons bpapers bstamps bversions blines bsteps bsayings bfindings bwarnings bquestions td vd vl gp), (bpapers, oX8 12 6 bpapersc (nI kbpapers)), (bsayings, oX8 16 8 bsayingsc (nI kbsayings)), (bfindings, oX8 12 4 bfindingsc (nI kbfindings)), (ho9, oX4 hs hz hi hw hn ht), (hw, iA G 4 u.1), (hn, iA G 4 u.2.1), (ht, iA G 4 u.2.2), (hs, iA G 4 fhs), (hz, iA G 4 fhz)])
set_option maxHeartbeats 4000000 in
set_option maxRecDepth 100000 in
theorem p_shelf (l : Launch) (G : GG) (h0 : Nat) (x1 : Int32) (x2 : Int32) (x3 : Int32) (bb : Nat) (kk : Nat) (ikp : Int32) (sg : Nat) (do9 : Nat) (ru9 : Nat) (ta9 : Nat) (tp9 : Nat) (ro9 : Nat) (ho9 : Nat) (de9 : Nat) (bpersons : Nat) (bpapers : Nat) (bstamps : Nat) (bversions : Nat) (blines : Nat) (bsteps : Nat) (bsayings : Nat) (bfindings : Nat) (bwarnings : Nat) (bquestions : Nat) (td : Int32) (vd : Int32) (vl : Int32) (gp : Int32) (bpapersc : Nat) (kbpapers : Nat) (bsayingsc : Nat) (kbsayings : Nat) (bfindingsc : Nat) (kbfindings : Nat) (hs : Nat) (hz : Nat) (hi : Nat) (hw : Nat) (hn : Nat) (ht : Nat) (fhw : Nat → Int32) (fhn : Nat → Int32) (fht : Nat → Int32) (fhs : Nat → Int32) (fhz : Nat → Int32) : K_p_shelf l G h0 x1 x2 x3 bb kk ikp sg do9 ru9 ta9 tp9 ro9 ho9 de9 bpersons bpapers bstamps bversions blines bsteps bsayings bfindings bwarnings bquestions td vd vl gp bpapersc kbpapers bsayingsc kbsayings bfindingsc kbfindings hs hz hi hw hn ht fhw fhn fht fhs fhz := by
  refine MI.start (by decide +kernel) (Nat.le_of_ble_eq_true rfl) ?_
  intro p e s m below meth c A ls hC hK hP hD hS hA hl
  refine absQ (fun Q0 hQ0 => ?_)
  have hl : lv_has ls 4 [(0, .ref h0), (1, .int x1), (2, .int x2), (3, .int x3)] := hl
  refine Kan8 hC (fun hx hb hr hml hB hown hlocks hnm => ?_)
  refine lv_iload_n hx hb gX11_shelf_0.1 rfl (lv_at1 hl) ?_
  refine pS hC hK hl (c_isShelf l G x1) si_X11_318 rfl rfl (Nat.le_of_ble_eq_true rfl) rm_5_2_1 ⟨by first | exact Nat.le_of_ble_eq_true rfl | exact Nat.zero_le _, by first | exact Nat.le_of_ble_eq_true rfl | exact Nat.zero_le _⟩ gX11_shelf_0.2.1 (Kors (Keqa fun a3637 => ?_) (Keqa fun a3637 => ?_))
  · refine lv_if_ne (tgt := 9) hx hb gX11_shelf_0.2.2.1 (by decide) (fun _ => ?_) (fun c9 => absurd c9 (by decide))
    obtain ⟨js, hjs, rfl⟩ := Wi3 a3637
    refine lv_iload_n hx hb gX11_shelf_0.2.2.2.2.2.1 rfl (lv_at2 hl) ?_
    by_cases c_10_3638 : x2 = 0
    · refine lv_tableIn (tgt := 44) hx hb gX11_shelf_0.2.2.2.2.2.2.1 (by rw [c_10_3638]; decide) (by rw [c_10_3638]; decide) (by rw [c_10_3638]; rfl) (by decide) ?_
      refine lv_aload_n hx hb gX11_shelf_0.2.2.2.2.2.2.2.1 rfl (lv_at0 hl) ?_
      refine gf_X11_15 hC rfl hK hP 0 rfl rfl gX11_shelf_0.2.2.2.2.2.2.2.2.1 ?_
      refine gf_X11_144 hC rfl hK hP 1 rfl rfl gX11_shelf_0.2.2.2.2.2.2.2.2.2 ?_
      refine lv_iload_n hx hb gX11_shelf_1.1 rfl (lv_at3 hl) ?_
      refine pV hC hK hl hP hD (c_T_has l G bpapers x3 12 6 bpapersc kbpapers) si_X11_124 [2] sm_2 fm_2 nd_2 rfl rfl rfl rfl rfl (Nat.le_of_ble_eq_true rfl) rm_5_1_2 ⟨by first | exact Nat.le_of_ble_eq_true rfl | exact Nat.zero_le _, by first | exact Nat.le_of_ble_eq_true rfl | exact Nat.zero_le _⟩ gX11_shelf_1.2.1 (Kors (Keqa fun a3640 => ?_) (Keqa fun a3640 => ?_))
      · refine lv_if_ne (tgt := 106) hx hb gX11_shelf_1.2.2.1 (by decide) (fun _ => ?_) (fun c9 => absurd c9 (by decide))
        refine lv_iload_n hx hb gX11_shelf_3.2.2.2.2.2.2.2.2.2 rfl (lv_at2 hl) ?_
        refine lv_iconst (v := 3) hx hb gX11_shelf_4.1 (by decide) ?_
        refine lv_icmp_ne (tgt := 123) hx hb gX11_shelf_4.2.1 (by decide) (fun _ => ?_) (fun c9 => absurd c9 ((by rw [c_10_3638]; decide)))
        refine lv_aload_n hx hb gX11_shelf_4.2.2.2.2.2.2.2.2.1 rfl (lv_at0 hl) ?_
        refine gf_X11_72 hC rfl hK hP 0 rfl rfl gX11_shelf_4.2.2.2.2.2.2.2.2.2 ?_
        refine lv_iload_n hx hb gX11_shelf_5.1 rfl (lv_at1 hl) ?_
        refine lv_iload_n hx hb gX11_shelf_5.2.1 rfl (lv_at2 hl) ?_
        refine lv_iload_n hx hb gX11_shelf_5.2.2.1 rfl (lv_at3 hl) ?_
        refine vV (wr := [(h0, oX11 bb kk ikp sg do9 ru9 ta9 tp9 ro9 ho9 de9), (bb, oX0 bpersons bpapers bstamps bversions blines bsteps bsayings bfindings bwarnings bquestions td vd vl gp), (bpapers, oX8 12 6 bpapersc (nI kbpapers)), (bsayings, oX8 16 8 bsayingsc (nI kbsayings)), (bfindings, oX8 12 4 bfindingsc (nI kbfindings)), (ht, iA G 4 fht), (hs, iA G 4 fhs), (hz, iA G 4 fhz)]) hC hK hl hP hD hS hA (c_holdX l G ho9 js hs hz hi hw hn ht fhw fhn x2 x3 (by omega)) si_X11_324 [5, 6, 7] [0, 1, 2, 3, 4, 8, 9, 10] sm_5_6_7 fm_5_6_7 nd_5_6_7 sm_0_1_2_3_4_8_9_10 nd_0_1_2_3_4_8_9_10 dj_5_6_7__0_1_2_3_4_8_9_10 rfl rfl rfl rfl rfl (Nat.le_of_ble_eq_true rfl) rm_5_3_4 ⟨Nat.le_of_ble_eq_true rfl, Nat.le_of_ble_eq_true rfl⟩ gX11_shelf_5.2.2.2.1 (fun u3642 H locs hr3641 hP hD hS => ?_)
        refine Kpdr (ws := [(h0, oX11 bb kk ikp sg do9 ru9 ta9 tp9 ro9 ho9 de9), (bb, oX0 bpersons bpapers bstamps bversions blines bsteps bsayings bfindings bwarnings bquestions td vd vl gp), (bpapers, oX8 12 6 bpapersc (nI kbpapers)), (bsayings, oX8 16 8 bsayingsc (nI kbsayings)), (bfindings, oX8 12 4 bfindingsc (nI kbfindings)), (ht, iA G 4 fht), (hs, iA G 4 fhs), (hz, iA G 4 fhz), (ho9, oX4 hs hz hi hw hn ht), (hw, iA G 4 (upd fhw js x2)), (hn, iA G 4 (upd fhn js x3))]) hP hD (fun hP hD => ?_)
        refine lv_iconst (v := 1) hx hb gX11_shelf_5.2.2.2.2.1 (by decide) ?_
        refine toQ hQ0 ?_
        exact RI (v := 1) hC hP hD hS [0, 1, 2, 3, 4, 8, 9, 10, 5, 6, 7] ((upd fhw js x2), (upd fhn js x3), fht) rfl rfl (by decide) (⟨(by unfold SHX; first | rfl | (simp only [ifc_t a3637, ifc_t c_10_3638, ifc_t a3640]; done) | (simp only [ifc_t a3637, ifc_t c_10_3638, ifc_t a3640]; rfl)), ⟨fun _ => ⟨fun h9 => absurd h9 (by rw [c_10_3638]; decide), fun _ => (by rw [nI_clamp (n := js) (by omega)]; exact ⟨rfl, rfl, rfl⟩)⟩, fun h9 => absurd (by unfold SHX; simp only [ifc_t a3637, ifc_t c_10_3638, ifc_t a3640]) h9⟩⟩) rfl gX11_shelf_5.2.2.2.2.2
      · refine lv_if_ne (tgt := 106) hx hb gX11_shelf_1.2.2.1 (by decide) (fun c9 => absurd (by decide) c9) (fun _ => ?_)
        refine lv_iconst (v := (-1)) hx hb gX11_shelf_1.2.2.2.1 (by decide) ?_
        refine toQ hQ0 ?_
        exact RI (v := (-1)) hC hP hD hS [0, 1, 2, 3, 4, 5, 6, 7, 8, 9, 10] (fhw, fhn, fht) rfl rfl (by decide) (⟨(by unfold SHX; first | rfl | (simp only [ifc_t a3637, ifc_t c_10_3638, ifc_f a3640]; done) | (simp only [ifc_t a3637, ifc_t c_10_3638, ifc_f a3640]; rfl)), ⟨fun h9 => absurd ((show SHX (nI js) x2 x3 kbpapers kbsayings kbfindings = (-1) from by unfold SHX; simp only [ifc_t a3637, ifc_t c_10_3638, ifc_f a3640]).symm.trans h9) (by decide), fun _ => ⟨rfl, rfl, rfl⟩⟩⟩) rfl gX11_shelf_1.2.2.2.2.1
    by_cases c_10_3643 : x2 = 1
    · refine lv_tableIn (tgt := 60) hx hb gX11_shelf_0.2.2.2.2.2.2.1 (by rw [c_10_3643]; decide) (by rw [c_10_3643]; decide) (by rw [c_10_3643]; rfl) (by decide) ?_
      refine lv_aload_n hx hb gX11_shelf_1.2.2.2.2.2.1 rfl (lv_at0 hl) ?_
      refine gf_X11_15 hC rfl hK hP 0 rfl rfl gX11_shelf_1.2.2.2.2.2.2.1 ?_
      refine gf_X11_256 hC rfl hK hP 1 rfl rfl gX11_shelf_1.2.2.2.2.2.2.2.1 ?_
      refine lv_iload_n hx hb gX11_shelf_1.2.2.2.2.2.2.2.2.1 rfl (lv_at3 hl) ?_
      refine pV hC hK hl hP hD (c_T_has l G bsayings x3 16 8 bsayingsc kbsayings) si_X11_124 [3] sm_3 fm_3 nd_3 rfl rfl rfl rfl rfl (Nat.le_of_ble_eq_true rfl) rm_5_1_2 ⟨by first | exact Nat.le_of_ble_eq_true rfl | exact Nat.zero_le _, by first | exact Nat.le_of_ble_eq_true rfl | exact Nat.zero_le _⟩ gX11_shelf_1.2.2.2.2.2.2.2.2.2 (Kors (Keqa fun a3645 => ?_) (Keqa fun a3645 => ?_))
      · refine lv_if_ne (tgt := 106) hx hb gX11_shelf_2.1 (by decide) (fun _ => ?_) (fun c9 => absurd c9 (by decide))
        refine lv_iload_n hx hb gX11_shelf_3.2.2.2.2.2.2.2.2.2 rfl (lv_at2 hl) ?_
        refine lv_iconst (v := 3) hx hb gX11_shelf_4.1 (by decide) ?_
        refine lv_icmp_ne (tgt := 123) hx hb gX11_shelf_4.2.1 (by decide) (fun _ => ?_) (fun c9 => absurd c9 ((by rw [c_10_3643]; decide)))
        refine lv_aload_n hx hb gX11_shelf_4.2.2.2.2.2.2.2.2.1 rfl (lv_at0 hl) ?_
        refine gf_X11_72 hC rfl hK hP 0 rfl rfl gX11_shelf_4.2.2.2.2.2.2.2.2.2 ?_
        refine lv_iload_n hx hb gX11_shelf_5.1 rfl (lv_at1 hl) ?_
        refine lv_iload_n hx hb gX11_shelf_5.2.1 rfl (lv_at2 hl) ?_
        refine lv_iload_n hx hb gX11_shelf_5.2.2.1 rfl (lv_at3 hl) ?_
        refine vV (wr := [(h0, oX11 bb kk ikp sg do9 ru9 ta9 tp9 ro9 ho9 de9), (bb, oX0 bpersons bpapers bstamps bversions blines bsteps bsayings bfindings bwarnings bquestions td vd vl gp), (bpapers, oX8 12 6 bpapersc (nI kbpapers)), (bsayings, oX8 16 8 bsayingsc (nI kbsayings)), (bfindings, oX8 12 4 bfindingsc (nI kbfindings)), (ht, iA G 4 fht), (hs, iA G 4 fhs), (hz, iA G 4 fhz)]) hC hK hl hP hD hS hA (c_holdX l G ho9 js hs hz hi hw hn ht fhw fhn x2 x3 (by omega)) si_X11_324 [5, 6, 7] [0, 1, 2, 3, 4, 8, 9, 10] sm_5_6_7 fm_5_6_7 nd_5_6_7 sm_0_1_2_3_4_8_9_10 nd_0_1_2_3_4_8_9_10 dj_5_6_7__0_1_2_3_4_8_9_10 rfl rfl rfl rfl rfl (Nat.le_of_ble_eq_true rfl) rm_5_3_4 ⟨Nat.le_of_ble_eq_true rfl, Nat.le_of_ble_eq_true rfl⟩ gX11_shelf_5.2.2.2.1 (fun u3647 H locs hr3646 hP hD hS => ?_)
        refine Kpdr (ws := [(h0, oX11 bb kk ikp sg do9 ru9 ta9 tp9 ro9 ho9 de9), (bb, oX0 bpersons bpapers bstamps bversions blines bsteps bsayings bfindings bwarnings bquestions td vd vl gp), (bpapers, oX8 12 6 bpapersc (nI kbpapers)), (bsayings, oX8 16 8 bsayingsc (nI kbsayings)), (bfindings, oX8 12 4 bfindingsc (nI kbfindings)), (ht, iA G 4 fht), (hs, iA G 4 fhs), (hz, iA G 4 fhz), (ho9, oX4 hs hz hi hw hn ht), (hw, iA G 4 (upd fhw js x2)), (hn, iA G 4 (upd fhn js x3))]) hP hD (fun hP hD => ?_)
        refine lv_iconst (v := 1) hx hb gX11_shelf_5.2.2.2.2.1 (by decide) ?_
        refine toQ hQ0 ?_
        exact RI (v := 1) hC hP hD hS [0, 1, 2, 3, 4, 8, 9, 10, 5, 6, 7] ((upd fhw js x2), (upd fhn js x3), fht) rfl rfl (by decide) (⟨(by unfold SHX; first | rfl | (simp only [ifc_t a3637, ifc_f c_10_3638, ifc_t c_10_3643, ifc_t a3645]; done) | (simp only [ifc_t a3637, ifc_f c_10_3638, ifc_t c_10_3643, ifc_t a3645]; rfl)), ⟨fun _ => ⟨fun h9 => absurd h9 (by rw [c_10_3643]; decide), fun _ => (by rw [nI_clamp (n := js) (by omega)]; exact ⟨rfl, rfl, rfl⟩)⟩, fun h9 => absurd (by unfold SHX; simp only [ifc_t a3637, ifc_f c_10_3638, ifc_t c_10_3643, ifc_t a3645]) h9⟩⟩) rfl gX11_shelf_5.2.2.2.2.2
      · refine lv_if_ne (tgt := 106) hx hb gX11_shelf_2.1 (by decide) (fun c9 => absurd (by decide) c9) (fun _ => ?_)
        refine lv_iconst (v := (-1)) hx hb gX11_shelf_2.2.1 (by decide) ?_
        refine toQ hQ0 ?_
        exact RI (v := (-1)) hC hP hD hS [0, 1, 2, 3, 4, 5, 6, 7, 8, 9, 10] (fhw, fhn, fht) rfl rfl (by decide) (⟨(by unfold SHX; first | rfl | (simp only [ifc_t a3637, ifc_f c_10_3638, ifc_t c_10_3643, ifc_f a3645]; done) | (simp only [ifc_t a3637, ifc_f c_10_3638, ifc_t c_10_3643, ifc_f a3645]; rfl)), ⟨fun h9 => absurd ((show SHX (nI js) x2 x3 kbpapers kbsayings kbfindings = (-1) from by unfold SHX; simp only [ifc_t a3637, ifc_f c_10_3638, ifc_t c_10_3643, ifc_f a3645]).symm.trans h9) (by decide), fun _ => ⟨rfl, rfl, rfl⟩⟩⟩) rfl gX11_shelf_2.2.2.1
    by_cases c_10_3648 : x2 = 2
    · refine lv_tableIn (tgt := 76) hx hb gX11_shelf_0.2.2.2.2.2.2.1 (by rw [c_10_3648]; decide) (by rw [c_10_3648]; decide) (by rw [c_10_3648]; rfl) (by decide) ?_
      refine lv_aload_n hx hb gX11_shelf_2.2.2.2.1 rfl (lv_at0 hl) ?_
      refine gf_X11_15 hC rfl hK hP 0 rfl rfl gX11_shelf_2.2.2.2.2.1 ?_
      refine gf_X11_271 hC rfl hK hP 1 rfl rfl gX11_shelf_2.2.2.2.2.2.1 ?_
      refine lv_iload_n hx hb gX11_shelf_2.2.2.2.2.2.2.1 rfl (lv_at3 hl) ?_
      refine pV hC hK hl hP hD (c_T_has l G bfindings x3 12 4 bfindingsc kbfindings) si_X11_124 [4] sm_4 fm_4 nd_4 rfl rfl rfl rfl rfl (Nat.le_of_ble_eq_true rfl) rm_5_1_2 ⟨by first | exact Nat.le_of_ble_eq_true rfl | exact Nat.zero_le _, by first | exact Nat.le_of_ble_eq_true rfl | exact Nat.zero_le _⟩ gX11_shelf_2.2.2.2.2.2.2.2.1 (Kors (Keqa fun a3650 => ?_) (Keqa fun a3650 => ?_))
      · refine lv_if_ne (tgt := 106) hx hb gX11_shelf_2.2.2.2.2.2.2.2.2.1 (by decide) (fun _ => ?_) (fun c9 => absurd c9 (by decide))
        refine lv_iload_n hx hb gX11_shelf_3.2.2.2.2.2.2.2.2.2 rfl (lv_at2 hl) ?_
        refine lv_iconst (v := 3) hx hb gX11_shelf_4.1 (by decide) ?_
        refine lv_icmp_ne (tgt := 123) hx hb gX11_shelf_4.2.1 (by decide) (fun _ => ?_) (fun c9 => absurd c9 ((by rw [c_10_3648]; decide)))
        refine lv_aload_n hx hb gX11_shelf_4.2.2.2.2.2.2.2.2.1 rfl (lv_at0 hl) ?_
        refine gf_X11_72 hC rfl hK hP 0 rfl rfl gX11_shelf_4.2.2.2.2.2.2.2.2.2 ?_
        refine lv_iload_n hx hb gX11_shelf_5.1 rfl (lv_at1 hl) ?_
        refine lv_iload_n hx hb gX11_shelf_5.2.1 rfl (lv_at2 hl) ?_
        refine lv_iload_n hx hb gX11_shelf_5.2.2.1 rfl (lv_at3 hl) ?_
        refine vV (wr := [(h0, oX11 bb kk ikp sg do9 ru9 ta9 tp9 ro9 ho9 de9), (bb, oX0 bpersons bpapers bstamps bversions blines bsteps bsayings bfindings bwarnings bquestions td vd vl gp), (bpapers, oX8 12 6 bpapersc (nI kbpapers)), (bsayings, oX8 16 8 bsayingsc (nI kbsayings)), (bfindings, oX8 12 4 bfindingsc (nI kbfindings)), (ht, iA G 4 fht), (hs, iA G 4 fhs), (hz, iA G 4 fhz)]) hC hK hl hP hD hS hA (c_holdX l G ho9 js hs hz hi hw hn ht fhw fhn x2 x3 (by omega)) si_X11_324 [5, 6, 7] [0, 1, 2, 3, 4, 8, 9, 10] sm_5_6_7 fm_5_6_7 nd_5_6_7 sm_0_1_2_3_4_8_9_10 nd_0_1_2_3_4_8_9_10 dj_5_6_7__0_1_2_3_4_8_9_10 rfl rfl rfl rfl rfl (Nat.le_of_ble_eq_true rfl) rm_5_3_4 ⟨Nat.le_of_ble_eq_true rfl, Nat.le_of_ble_eq_true rfl⟩ gX11_shelf_5.2.2.2.1 (fun u3652 H locs hr3651 hP hD hS => ?_)
        refine Kpdr (ws := [(h0, oX11 bb kk ikp sg do9 ru9 ta9 tp9 ro9 ho9 de9), (bb, oX0 bpersons bpapers bstamps bversions blines bsteps bsayings bfindings bwarnings bquestions td vd vl gp), (bpapers, oX8 12 6 bpapersc (nI kbpapers)), (bsayings, oX8 16 8 bsayingsc (nI kbsayings)), (bfindings, oX8 12 4 bfindingsc (nI kbfindings)), (ht, iA G 4 fht), (hs, iA G 4 fhs), (hz, iA G 4 fhz), (ho9, oX4 hs hz hi hw hn ht), (hw, iA G 4 (upd fhw js x2)), (hn, iA G 4 (upd fhn js x3))]) hP hD (fun hP hD => ?_)
        refine lv_iconst (v := 1) hx hb gX11_shelf_5.2.2.2.2.1 (by decide) ?_
        refine toQ hQ0 ?_
        exact RI (v := 1) hC hP hD hS [0, 1, 2, 3, 4, 8, 9, 10, 5, 6, 7] ((upd fhw js x2), (upd fhn js x3), fht) rfl rfl (by decide) (⟨(by unfold SHX; first | rfl | (simp only [ifc_t a3637, ifc_f c_10_3638, ifc_f c_10_3643, ifc_t c_10_3648, ifc_t a3650]; done) | (simp only [ifc_t a3637, ifc_f c_10_3638, ifc_f c_10_3643, ifc_t c_10_3648, ifc_t a3650]; rfl)), ⟨fun _ => ⟨fun h9 => absurd h9 (by rw [c_10_3648]; decide), fun _ => (by rw [nI_clamp (n := js) (by omega)]; exact ⟨rfl, rfl, rfl⟩)⟩, fun h9 => absurd (by unfold SHX; simp only [ifc_t a3637, ifc_f c_10_3638, ifc_f c_10_3643, ifc_t c_10_3648, ifc_t a3650]) h9⟩⟩) rfl gX11_shelf_5.2.2.2.2.2
      · refine lv_if_ne (tgt := 106) hx hb gX11_shelf_2.2.2.2.2.2.2.2.2.1 (by decide) (fun c9 => absurd (by decide) c9) (fun _ => ?_)
        refine lv_iconst (v := (-1)) hx hb gX11_shelf_2.2.2.2.2.2.2.2.2.2 (by decide) ?_
        refine toQ hQ0 ?_
        exact RI (v := (-1)) hC hP hD hS [0, 1, 2, 3, 4, 5, 6, 7, 8, 9, 10] (fhw, fhn, fht) rfl rfl (by decide) (⟨(by unfold SHX; first | rfl | (simp only [ifc_t a3637, ifc_f c_10_3638, ifc_f c_10_3643, ifc_t c_10_3648, ifc_f a3650]; done) | (simp only [ifc_t a3637, ifc_f c_10_3638, ifc_f c_10_3643, ifc_t c_10_3648, ifc_f a3650]; rfl)), ⟨fun h9 => absurd ((show SHX (nI js) x2 x3 kbpapers kbsayings kbfindings = (-1) from by unfold SHX; simp only [ifc_t a3637, ifc_f c_10_3638, ifc_f c_10_3643, ifc_t c_10_3648, ifc_f a3650]).symm.trans h9) (by decide), fun _ => ⟨rfl, rfl, rfl⟩⟩⟩) rfl gX11_shelf_3.1
    by_cases c_10_3653 : x2 = 3
    · refine lv_tableIn (tgt := 92) hx hb gX11_shelf_0.2.2.2.2.2.2.1 (by rw [c_10_3653]; decide) (by rw [c_10_3653]; decide) (by rw [c_10_3653]; rfl) (by decide) ?_
      refine lv_iload_n hx hb gX11_shelf_3.2.1 rfl (lv_at3 hl) ?_
      refine pS hC hK hl (c_isSheet l G x3) si_X11_164 rfl rfl (Nat.le_of_ble_eq_true rfl) rm_5_2_1 ⟨by first | exact Nat.le_of_ble_eq_true rfl | exact Nat.zero_le _, by first | exact Nat.le_of_ble_eq_true rfl | exact Nat.zero_le _⟩ gX11_shelf_3.2.2.1 (Kors (Keqa fun a3655 => ?_) (Keqa fun a3655 => ?_))
      · refine lv_if_ne (tgt := 106) hx hb gX11_shelf_3.2.2.2.1 (by decide) (fun _ => ?_) (fun c9 => absurd c9 (by decide))
        obtain ⟨ju, hju, rfl⟩ := Wi3 a3655
        refine lv_iload_n hx hb gX11_shelf_3.2.2.2.2.2.2.2.2.2 rfl (lv_at2 hl) ?_
        refine lv_iconst (v := 3) hx hb gX11_shelf_4.1 (by decide) ?_
        refine lv_icmp_ne (tgt := 123) hx hb gX11_shelf_4.2.1 (by decide) (fun c9 => absurd (c_10_3653) c9) (fun _ => ?_)
        refine lv_aload_n hx hb gX11_shelf_4.2.2.1 rfl (lv_at0 hl) ?_
        refine gf_X11_72 hC rfl hK hP 0 rfl rfl gX11_shelf_4.2.2.2.1 ?_
        refine lv_iload_n hx hb gX11_shelf_4.2.2.2.2.1 rfl (lv_at1 hl) ?_
        refine lv_iload_n hx hb gX11_shelf_4.2.2.2.2.2.1 rfl (lv_at3 hl) ?_
        refine vV (wr := [(h0, oX11 bb kk ikp sg do9 ru9 ta9 tp9 ro9 ho9 de9), (bb, oX0 bpersons bpapers bstamps bversions blines bsteps bsayings bfindings bwarnings bquestions td vd vl gp), (bpapers, oX8 12 6 bpapersc (nI kbpapers)), (bsayings, oX8 16 8 bsayingsc (nI kbsayings)), (bfindings, oX8 12 4 bfindingsc (nI kbfindings))]) hC hK hl hP hD hS hA (c_holdRowX l G ho9 js ju hs hz hi hw hn ht fhw fhn fht fhs fhz (by omega) (by omega)) si_X11_321 [5, 6, 7, 8, 9, 10] [0, 1, 2, 3, 4] sm_5_6_7_8_9_10 fm_5_6_7_8_9_10 nd_5_6_7_8_9_10 sm_0_1_2_3_4 nd_0_1_2_3_4 dj_5_6_7_8_9_10__0_1_2_3_4 rfl rfl rfl rfl rfl (Nat.le_of_ble_eq_true rfl) rm_5_4_3 ⟨Nat.le_of_ble_eq_true rfl, Nat.le_of_ble_eq_true rfl⟩ gX11_shelf_4.2.2.2.2.2.2.1 (fun ghw3658 H locs hr3656 hP hD hS => ?_)
        try dsimp only at hr3656
        refine Kpdr (ws := [(h0, oX11 bb kk ikp sg do9 ru9 ta9 tp9 ro9 ho9 de9), (bb, oX0 bpersons bpapers bstamps bversions blines bsteps bsayings bfindings bwarnings bquestions td vd vl gp), (bpapers, oX8 12 6 bpapersc (nI kbpapers)), (bsayings, oX8 16 8 bsayingsc (nI kbsayings)), (bfindings, oX8 12 4 bfindingsc (nI kbfindings)), (ho9, oX4 hs hz hi hw hn ht), (hw, iA G 4 ghw3658), (hn, iA G 4 (upd fhn js (fhz ju))), (ht, iA G 4 (upd fht js (fhs ju))), (hs, iA G 4 fhs), (hz, iA G 4 fhz)]) hP hD (fun hP hD => ?_)
        have w3659 := hr3656
        refine lv_goto (tgt := 133) hx hb gX11_shelf_4.2.2.2.2.2.2.2.1 (by decide) ?_
        refine lv_iconst (v := 1) hx hb gX11_shelf_5.2.2.2.2.1 (by decide) ?_
        refine toQ hQ0 ?_
        exact RI (v := 1) hC hP hD hS [0, 1, 2, 3, 4, 5, 6, 7, 8, 9, 10] (ghw3658, (upd fhn js (fhz ju)), (upd fht js (fhs ju))) rfl rfl (by decide) (⟨(by unfold SHX; first | rfl | (simp only [ifc_t a3637, ifc_f c_10_3638, ifc_f c_10_3643, ifc_f c_10_3648, ifc_t c_10_3653, ifc_t a3655]; done) | (simp only [ifc_t a3637, ifc_f c_10_3638, ifc_f c_10_3643, ifc_f c_10_3648, ifc_t c_10_3653, ifc_t a3655]; rfl)), ⟨fun _ => ⟨fun _ => (by rw [nI_clamp (n := js) (by omega), nI_clamp (n := ju) (by omega)]; exact ⟨w3659, rfl, rfl⟩), fun h9 => absurd c_10_3653 h9⟩, fun h9 => absurd (by unfold SHX; simp only [ifc_t a3637, ifc_f c_10_3638, ifc_f c_10_3643, ifc_f c_10_3648, ifc_t c_10_3653, ifc_t a3655]) h9⟩⟩) rfl gX11_shelf_5.2.2.2.2.2
      · refine lv_if_ne (tgt := 106) hx hb gX11_shelf_3.2.2.2.1 (by decide) (fun c9 => absurd (by decide) c9) (fun _ => ?_)
        refine lv_iconst (v := (-1)) hx hb gX11_shelf_3.2.2.2.2.1 (by decide) ?_
        refine toQ hQ0 ?_
        exact RI (v := (-1)) hC hP hD hS [0, 1, 2, 3, 4, 5, 6, 7, 8, 9, 10] (fhw, fhn, fht) rfl rfl (by decide) (⟨(by unfold SHX; first | rfl | (simp only [ifc_t a3637, ifc_f c_10_3638, ifc_f c_10_3643, ifc_f c_10_3648, ifc_t c_10_3653, ifc_f a3655]; done) | (simp only [ifc_t a3637, ifc_f c_10_3638, ifc_f c_10_3643, ifc_f c_10_3648, ifc_t c_10_3653, ifc_f a3655]; rfl)), ⟨fun h9 => absurd ((show SHX (nI js) x2 x3 kbpapers kbsayings kbfindings = (-1) from by unfold SHX; simp only [ifc_t a3637, ifc_f c_10_3638, ifc_f c_10_3643, ifc_f c_10_3648, ifc_t c_10_3653, ifc_f a3655]).symm.trans h9) (by decide), fun _ => ⟨rfl, rfl, rfl⟩⟩⟩) rfl gX11_shelf_3.2.2.2.2.2.1
    by_cases c_10_3660 : x2 = 4
    · refine lv_tableIn (tgt := 101) hx hb gX11_shelf_0.2.2.2.2.2.2.1 (by rw [c_10_3660]; decide) (by rw [c_10_3660]; decide) (by rw [c_10_3660]; rfl) (by decide) ?_
      refine lv_goto (tgt := 106) hx hb gX11_shelf_3.2.2.2.2.2.2.1 (by decide) ?_
      refine lv_iload_n hx hb gX11_shelf_3.2.2.2.2.2.2.2.2.2 rfl (lv_at2 hl) ?_
      refine lv_iconst (v := 3) hx hb gX11_shelf_4.1 (by decide) ?_
      refine lv_icmp_ne (tgt := 123) hx hb gX11_shelf_4.2.1 (by decide) (fun _ => ?_) (fun c9 => absurd c9 (c_10_3653))
      refine lv_aload_n hx hb gX11_shelf_4.2.2.2.2.2.2.2.2.1 rfl (lv_at0 hl) ?_
      refine gf_X11_72 hC rfl hK hP 0 rfl rfl gX11_shelf_4.2.2.2.2.2.2.2.2.2 ?_
      refine lv_iload_n hx hb gX11_shelf_5.1 rfl (lv_at1 hl) ?_
      refine lv_iload_n hx hb gX11_shelf_5.2.1 rfl (lv_at2 hl) ?_
      refine lv_iload_n hx hb gX11_shelf_5.2.2.1 rfl (lv_at3 hl) ?_
      refine vV (wr := [(h0, oX11 bb kk ikp sg do9 ru9 ta9 tp9 ro9 ho9 de9), (bb, oX0 bpersons bpapers bstamps bversions blines bsteps bsayings bfindings bwarnings bquestions td vd vl gp), (bpapers, oX8 12 6 bpapersc (nI kbpapers)), (bsayings, oX8 16 8 bsayingsc (nI kbsayings)), (bfindings, oX8 12 4 bfindingsc (nI kbfindings)), (ht, iA G 4 fht), (hs, iA G 4 fhs), (hz, iA G 4 fhz)]) hC hK hl hP hD hS hA (c_holdX l G ho9 js hs hz hi hw hn ht fhw fhn x2 x3 (by omega)) si_X11_324 [5, 6, 7] [0, 1, 2, 3, 4, 8, 9, 10] sm_5_6_7 fm_5_6_7 nd_5_6_7 sm_0_1_2_3_4_8_9_10 nd_0_1_2_3_4_8_9_10 dj_5_6_7__0_1_2_3_4_8_9_10 rfl rfl rfl rfl rfl (Nat.le_of_ble_eq_true rfl) rm_5_3_4 ⟨Nat.le_of_ble_eq_true rfl, Nat.le_of_ble_eq_true rfl⟩ gX11_shelf_5.2.2.2.1 (fun u3662 H locs hr3661 hP hD hS => ?_)
      refine Kpdr (ws := [(h0, oX11 bb kk ikp sg do9 ru9 ta9 tp9 ro9 ho9 de9), (bb, oX0 bpersons bpapers bstamps bversions blines bsteps bsayings bfindings bwarnings bquestions td vd vl gp), (bpapers, oX8 12 6 bpapersc (nI kbpapers)), (bsayings, oX8 16 8 bsayingsc (nI kbsayings)), (bfindings, oX8 12 4 bfindingsc (nI kbfindings)), (ht, iA G 4 fht), (hs, iA G 4 fhs), (hz, iA G 4 fhz), (ho9, oX4 hs hz hi hw hn ht), (hw, iA G 4 (upd fhw js x2)), (hn, iA G 4 (upd fhn js x3))]) hP hD (fun hP hD => ?_)
      refine lv_iconst (v := 1) hx hb gX11_shelf_5.2.2.2.2.1 (by decide) ?_
      refine toQ hQ0 ?_
      exact RI (v := 1) hC hP hD hS [0, 1, 2, 3, 4, 8, 9, 10, 5, 6, 7] ((upd fhw js x2), (upd fhn js x3), fht) rfl rfl (by decide) (⟨(by unfold SHX; first | rfl | (simp only [ifc_t a3637, ifc_f c_10_3638, ifc_f c_10_3643, ifc_f c_10_3648, ifc_f c_10_3653, ifc_t c_10_3660]; done) | (simp only [ifc_t a3637, ifc_f c_10_3638, ifc_f c_10_3643, ifc_f c_10_3648, ifc_f c_10_3653, ifc_t c_10_3660]; rfl)), ⟨fun _ => ⟨fun h9 => absurd h9 c_10_3653, fun _ => (by rw [nI_clamp (n := js) (by omega)]; exact ⟨rfl, rfl, rfl⟩)⟩, fun h9 => absurd (by unfold SHX; simp only [ifc_t a3637, ifc_f c_10_3638, ifc_f c_10_3643, ifc_f c_10_3648, ifc_f c_10_3653, ifc_t c_10_3660]) h9⟩⟩) rfl gX11_shelf_5.2.2.2.2.2
    refine lv_tableOut (tgt := 104) hx hb gX11_shelf_0.2.2.2.2.2.2.1 (by have q9 := sw_0_4 (x := x2); simp only [c_10_3638, c_10_3643, c_10_3648, c_10_3653, c_10_3660, not_false_eq_true, true_implies] at q9; exact q9) (by decide) ?_
    refine lv_iconst (v := (-1)) hx hb gX11_shelf_3.2.2.2.2.2.2.2.1 (by decide) ?_
    refine toQ hQ0 ?_
    exact RI (v := (-1)) hC hP hD hS [0, 1, 2, 3, 4, 5, 6, 7, 8, 9, 10] (fhw, fhn, fht) rfl rfl (by decide) (⟨(by unfold SHX; first | rfl | (simp only [ifc_t a3637, ifc_f c_10_3638, ifc_f c_10_3643, ifc_f c_10_3648, ifc_f c_10_3653, ifc_f c_10_3660]; done) | (simp only [ifc_t a3637, ifc_f c_10_3638, ifc_f c_10_3643, ifc_f c_10_3648, ifc_f c_10_3653, ifc_f c_10_3660]; rfl)), ⟨fun h9 => absurd ((show SHX (nI js) x2 x3 kbpapers kbsayings kbfindings = (-1) from by unfold SHX; simp only [ifc_t a3637, ifc_f c_10_3638, ifc_f c_10_3643, ifc_f c_10_3648, ifc_f c_10_3653, ifc_f c_10_3660]).symm.trans h9) (by decide), fun _ => ⟨rfl, rfl, rfl⟩⟩⟩) rfl gX11_shelf_3.2.2.2.2.2.2.2.2.1
  · refine lv_if_ne (tgt := 9) hx hb gX11_shelf_0.2.2.1 (by decide) (fun c9 => absurd (by decide) c9) (fun _ => ?_)
    refine lv_iconst (v := (-1)) hx hb gX11_shelf_0.2.2.2.1 (by decide) ?_
    refine toQ hQ0 ?_
    exact RI (v := (-1)) hC hP hD hS [0, 1, 2, 3, 4, 5, 6, 7, 8, 9, 10] (fhw, fhn, fht) rfl rfl (by decide) (⟨(by unfold SHX; first | rfl | (simp only [ifc_f a3637]; done) | (simp only [ifc_f a3637]; rfl)), ⟨fun h9 => absurd ((show SHX x1 x2 x3 kbpapers kbsayings kbfindings = (-1) from by unfold SHX; simp only [ifc_f a3637]).symm.trans h9) (by decide), fun _ => ⟨rfl, rfl, rfl⟩⟩⟩) rfl gX11_shelf_0.2.2.2.2.1
def K_c_ran (l : Launch) (G : GG) (h0 : Nat) (bb : Nat) (tr9 : Nat) (jr : Nat) (dk : Int32) (dn : Int32) (dp : Int32) (da : Int32) (dq : Int32) : Prop := MP l G yX2_ran cX2_ran 1 (some .int) 1 [.ref h0] [(h0, oX2 bb tr9 (nI jr) dk dn dp da dq)] (fun r : Int32 => r = nI jr)
set_option maxHeartbeats 4000000 in
set_option maxRecDepth 100000 in
theorem c_ran (l : Launch) (G : GG) (h0 : Nat) (bb : Nat) (tr9 : Nat) (jr : Nat) (dk : Int32) (dn : Int32) (dp : Int32) (da : Int32) (dq : Int32) : K_c_ran l G h0 bb tr9 jr dk dn dp da dq := by
  refine MP.start (by decide +kernel) (Nat.le_of_ble_eq_true rfl) ?_
  intro p e s m below meth c ls hC hK hP hD hl
  refine absQ (fun Q0 hQ0 => ?_)
  have hl : lv_has ls 1 [(0, .ref h0)] := hl
  refine Kan8 hC (fun hx hb hr hml hB hown hlocks hnm => ?_)
  refine lv_aload_n hx hb gX2_ran_0.1 rfl (lv_at0 hl) ?_
  refine gf_X2_19 hC rfl hK hP 0 rfl rfl gX2_ran_0.2.1 ?_
  refine toQ hQ0 ?_
  exact RP (v := nI jr) hC (rfl) rfl gX2_ran_0.2.2
def K_c_traced (l : Launch) (G : GG) (h0 : Nat) (i : Int32) (bb : Nat) (tr9 : Nat) (jr : Nat) (dk : Int32) (dn : Int32) (dp : Int32) (da : Int32) (dq : Int32) (ftr : Nat → Int32) : Prop := MP l G yX2_traced cX2_traced 2 (some .int) 1 [.ref h0, .int i] [(h0, oX2 bb tr9 (nI jr) dk dn dp da dq), (tr9, iA G 30 ftr)] (fun r : Int32 => True)
set_option maxHeartbeats 4000000 in
set_option maxRecDepth 100000 in
theorem c_traced (l : Launch) (G : GG) (h0 : Nat) (i : Int32) (bb : Nat) (tr9 : Nat) (jr : Nat) (dk : Int32) (dn : Int32) (dp : Int32) (da : Int32) (dq : Int32) (ftr : Nat → Int32) (hjr : jr ≤ 30) : K_c_traced l G h0 i bb tr9 jr dk dn dp da dq ftr := by
  refine MP.start (by decide +kernel) (Nat.le_of_ble_eq_true rfl) ?_
  intro p e s m below meth c ls hC hK hP hD hl
  refine absQ (fun Q0 hQ0 => ?_)
  have hl : lv_has ls 2 [(0, .ref h0), (1, .int i)] := hl
  refine Kan8 hC (fun hx hb hr hml hB hown hlocks hnm => ?_)
  refine lv_iload_n hx hb gX2_traced_0.1 rfl (lv_at1 hl) ?_
  refine lv_if_lt (tgt := 27) hx hb gX2_traced_0.2.1 (by decide) (fun c_1_3663 => ?_) (fun c_1_3663 => ?_)
  · refine lv_bipush (v := (-3)) hx hb gX2_traced_1.2.2.2.2.1 (by decide) ?_
    refine toQ hQ0 ?_
    exact RP (v := (-3)) hC (trivial) rfl gX2_traced_1.2.2.2.2.2
  · refine lv_iload_n hx hb gX2_traced_0.2.2.1 rfl (lv_at1 hl) ?_
    refine lv_aload_n hx hb gX2_traced_0.2.2.2.1 rfl (lv_at0 hl) ?_
    refine gf_X2_19 hC rfl hK hP 0 rfl rfl gX2_traced_0.2.2.2.2.1 ?_
    refine lv_icmp_ge (tgt := 27) hx hb gX2_traced_0.2.2.2.2.2.1 (by decide) (fun c_9_3664 => ?_) (fun c_9_3664 => ?_)
    · refine lv_bipush (v := (-3)) hx hb gX2_traced_1.2.2.2.2.1 (by decide) ?_
      refine toQ hQ0 ?_
      exact RP (v := (-3)) hC (trivial) rfl gX2_traced_1.2.2.2.2.2
    · refine lv_iload_n hx hb gX2_traced_0.2.2.2.2.2.2.1 rfl (lv_at1 hl) ?_
      refine lv_bipush (v := 30) hx hb gX2_traced_0.2.2.2.2.2.2.2.1 (by decide) ?_
      refine lv_icmp_ge (tgt := 27) hx hb gX2_traced_0.2.2.2.2.2.2.2.2.1 (by decide) (fun c_15_3665 => ?_) (fun c_15_3665 => ?_)
      · refine lv_bipush (v := (-3)) hx hb gX2_traced_1.2.2.2.2.1 (by decide) ?_
        refine toQ hQ0 ?_
        exact RP (v := (-3)) hC (trivial) rfl gX2_traced_1.2.2.2.2.2
      · obtain ⟨ji, hji, rfl⟩ := ltN (N := 30) (by decide) c_1_3663 c_15_3665
        refine lv_aload_n hx hb gX2_traced_0.2.2.2.2.2.2.2.2.2 rfl (lv_at0 hl) ?_
        refine gf_X2_11 hC rfl hK hP 0 rfl rfl gX2_traced_1.1 ?_
        refine lv_iload_n hx hb gX2_traced_1.2.1 rfl (lv_at1 hl) ?_
        refine aldN hC hK hP 1 rfl (k := ji) (by omega) (Nat.le_of_ble_eq_true rfl) (v := ftr ji) rfl gX2_traced_1.2.2.1 ?_
        refine lv_topi (fun x3666 ex3666 => ?_)
        refine lv_goto (tgt := 29) hx hb gX2_traced_1.2.2.2.1 (by decide) ?_
        refine toQ hQ0 ?_
        exact RP (v := x3666) hC (trivial) rfl gX2_traced_1.2.2.2.2.2
def K_c_tracedX (l : Launch) (G : GG) (h0 : Nat) (ji : Nat) (bb : Nat) (tr9 : Nat) (jr : Nat) (dk : Int32) (dn : Int32) (dp : Int32) (da : Int32) (dq : Int32) (ftr : Nat → Int32) : Prop := MP l G yX2_traced cX2_traced 2 (some .int) 1 [.ref h0, .int (nI ji)] [(h0, oX2 bb tr9 (nI jr) dk dn dp da dq), (tr9, iA G 30 ftr)] (fun r : Int32 => r = ftr ji)
set_option maxHeartbeats 4000000 in
set_option maxRecDepth 100000 in
theorem c_tracedX (l : Launch) (G : GG) (h0 : Nat) (ji : Nat) (bb : Nat) (tr9 : Nat) (jr : Nat) (dk : Int32) (dn : Int32) (dp : Int32) (da : Int32) (dq : Int32) (ftr : Nat → Int32) (hji : ji < jr) (hjr : jr ≤ 30) : K_c_tracedX l G h0 ji bb tr9 jr dk dn dp da dq ftr := by
  refine MP.start (by decide +kernel) (Nat.le_of_ble_eq_true rfl) ?_
  intro p e s m below meth c ls hC hK hP hD hl
  refine absQ (fun Q0 hQ0 => ?_)
  have hl : lv_has ls 2 [(0, .ref h0), (1, .int (nI ji))] := hl
  refine Kan8 hC (fun hx hb hr hml hB hown hlocks hnm => ?_)
  refine lv_iload_n hx hb gX2_traced_0.1 rfl (lv_at1 hl) ?_
  refine lv_if_lt (tgt := 27) hx hb gX2_traced_0.2.1 (by decide) (fun c9 => absurd c9 ((nI_nn (by omega)))) (fun _ => ?_)
  refine lv_iload_n hx hb gX2_traced_0.2.2.1 rfl (lv_at1 hl) ?_
  refine lv_aload_n hx hb gX2_traced_0.2.2.2.1 rfl (lv_at0 hl) ?_
  refine gf_X2_19 hC rfl hK hP 0 rfl rfl gX2_traced_0.2.2.2.2.1 ?_
  refine lv_icmp_ge (tgt := 27) hx hb gX2_traced_0.2.2.2.2.2.1 (by decide) (fun c9 => absurd c9 ((nI_ge (a := ji) (b := jr) (by omega) (by omega)))) (fun _ => ?_)
  refine lv_iload_n hx hb gX2_traced_0.2.2.2.2.2.2.1 rfl (lv_at1 hl) ?_
  refine lv_bipush (v := 30) hx hb gX2_traced_0.2.2.2.2.2.2.2.1 (by decide) ?_
  refine lv_icmp_ge (tgt := 27) hx hb gX2_traced_0.2.2.2.2.2.2.2.2.1 (by decide) (fun c9 => absurd c9 ((nI_ge (a := ji) (b := 30) (by omega) (by omega)))) (fun _ => ?_)
  refine lv_aload_n hx hb gX2_traced_0.2.2.2.2.2.2.2.2.2 rfl (lv_at0 hl) ?_
  refine gf_X2_11 hC rfl hK hP 0 rfl rfl gX2_traced_1.1 ?_
  refine lv_iload_n hx hb gX2_traced_1.2.1 rfl (lv_at1 hl) ?_
  refine aldN hC hK hP 1 rfl (k := ji) (by omega) (Nat.le_of_ble_eq_true rfl) (v := ftr ji) rfl gX2_traced_1.2.2.1 ?_
  refine lv_goto (tgt := 29) hx hb gX2_traced_1.2.2.2.1 (by decide) ?_
  refine toQ hQ0 ?_
  exact RP (v := ftr ji) hC (rfl) rfl gX2_traced_1.2.2.2.2.2
def K_p_trace (l : Launch) (G : GG) (h0 : Nat) (x1 : Int32) (bb : Nat) (kk : Nat) (ikp : Int32) (sg : Nat) (do9 : Nat) (ru9 : Nat) (ta9 : Nat) (tp9 : Nat) (ro9 : Nat) (ho9 : Nat) (de9 : Nat) (tr9 : Nat) (jr : Nat) (dk : Int32) (dn : Int32) (dp : Int32) (da : Int32) (dq : Int32) (ftr : Nat → Int32) : Prop := MP l G yX11_trace cX11_trace 2 (some .int) 4 [.ref h0, .int x1] [(h0, oX11 bb kk ikp sg do9 ru9 ta9 tp9 ro9 ho9 de9), (de9, oX2 bb tr9 (nI jr) dk dn dp da dq), (tr9, iA G 30 ftr)] (fun r : Int32 => r = ifc (Hs x1 jr) (ftr x1.toNatClampNeg) (-3))
set_option maxHeartbeats 4000000 in
set_option maxRecDepth 100000 in
theorem p_trace (l : Launch) (G : GG) (h0 : Nat) (x1 : Int32) (bb : Nat) (kk : Nat) (ikp : Int32) (sg : Nat) (do9 : Nat) (ru9 : Nat) (ta9 : Nat) (tp9 : Nat) (ro9 : Nat) (ho9 : Nat) (de9 : Nat) (tr9 : Nat) (jr : Nat) (dk : Int32) (dn : Int32) (dp : Int32) (da : Int32) (dq : Int32) (ftr : Nat → Int32) (hjr : jr ≤ 30) : K_p_trace l G h0 x1 bb kk ikp sg do9 ru9 ta9 tp9 ro9 ho9 de9 tr9 jr dk dn dp da dq ftr := by
  refine MP.start (by decide +kernel) (Nat.le_of_ble_eq_true rfl) ?_
  intro p e s m below meth c ls hC hK hP hD hl
  refine absQ (fun Q0 hQ0 => ?_)
  have hl : lv_has ls 2 [(0, .ref h0), (1, .int x1)] := hl
  refine Kan8 hC (fun hx hb hr hml hB hown hlocks hnm => ?_)
  refine lv_iload_n hx hb gX11_trace_0.1 rfl (lv_at1 hl) ?_
  refine lv_iconst (v := 0) hx hb gX11_trace_0.2.1 (by decide) ?_
  refine lv_aload_n hx hb gX11_trace_0.2.2.1 rfl (lv_at0 hl) ?_
  refine gf_X11_79 hC rfl hK hP 0 rfl rfl gX11_trace_0.2.2.2.1 ?_
  refine pV hC hK hl hP hD (c_ran l G de9 bb tr9 jr dk dn dp da dq) si_X11_349 [1] sm_1 fm_1 nd_1 rfl rfl rfl rfl rfl (Nat.le_of_ble_eq_true rfl) rm_4_1_1 ⟨by first | exact Nat.le_of_ble_eq_true rfl | exact Nat.zero_le _, by first | exact Nat.le_of_ble_eq_true rfl | exact Nat.zero_le _⟩ gX11_trace_0.2.2.2.2.1 (Keqr ?_)
  refine lv_iconst (v := 1) hx hb gX11_trace_0.2.2.2.2.2.1 (by decide) ?_
  refine lv_isub hx hb gX11_trace_0.2.2.2.2.2.2.1 ?_
  refine pS hC hK hl (c_within l G x1 0 ((nI jr) - 1)) si_X11_83 rfl rfl (Nat.le_of_ble_eq_true rfl) rm_4_1_3 ⟨by first | exact Nat.le_of_ble_eq_true rfl | exact Nat.zero_le _, by first | exact Nat.le_of_ble_eq_true rfl | exact Nat.zero_le _⟩ gX11_trace_0.2.2.2.2.2.2.2.1 (Kors (Keqa fun a3670 => ?_) (Keqa fun a3670 => ?_))
  · refine lv_if_eq (tgt := 28) hx hb gX11_trace_0.2.2.2.2.2.2.2.2.1 (by decide) (fun c9 => absurd c9 (by decide)) (fun _ => ?_)
    obtain ⟨ji, hji, rfl⟩ := Hs_nat (by omega) ((WiHc (by omega)).mp a3670)
    refine lv_aload_n hx hb gX11_trace_0.2.2.2.2.2.2.2.2.2 rfl (lv_at0 hl) ?_
    refine gf_X11_79 hC rfl hK hP 0 rfl rfl gX11_trace_1.1 ?_
    refine lv_iload_n hx hb gX11_trace_1.2.1 rfl (lv_at1 hl) ?_
    refine pV hC hK hl hP hD (c_tracedX l G de9 ji bb tr9 jr dk dn dp da dq ftr (by omega) (hjr)) si_X11_352 [1, 2] sm_1_2 fm_1_2 nd_1_2 rfl rfl rfl rfl rfl (Nat.le_of_ble_eq_true rfl) rm_4_1_2 ⟨by first | exact Nat.le_of_ble_eq_true rfl | exact Nat.zero_le _, by first | exact Nat.le_of_ble_eq_true rfl | exact Nat.zero_le _⟩ gX11_trace_1.2.2.1 (Keqr ?_)
    refine lv_goto (tgt := 30) hx hb gX11_trace_1.2.2.2.1 (by decide) ?_
    refine toQ hQ0 ?_
    exact RP (v := ftr ji) hC ((by simp only [nI_clamp (n := ji) (by omega), ifc_t (q := Hs (nI ji) jr) ((WiHc (by omega)).mp a3670)])) rfl gX11_trace_1.2.2.2.2.2
  · refine lv_if_eq (tgt := 28) hx hb gX11_trace_0.2.2.2.2.2.2.2.2.1 (by decide) (fun _ => ?_) (fun c9 => absurd (by decide) c9)
    refine lv_bipush (v := (-3)) hx hb gX11_trace_1.2.2.2.2.1 (by decide) ?_
    refine toQ hQ0 ?_
    exact RP (v := (-3)) hC ((by simp only [ifc_f (q := Hs x1 jr) (fun h9 => a3670 ((WiHc (by omega)).mpr h9))])) rfl gX11_trace_1.2.2.2.2.2
def K_c_tcount (l : Launch) (G : GG) (h0 : Nat) (tby : Nat) (kt : Nat) (tln : Nat) (tsp : Nat) (tkd : Int32) (ts9 : Int32) (tn9 : Int32) (tf9 : Int32) : Prop := MP l G yX10_count cX10_count 1 (some .int) 1 [.ref h0] [(h0, oX10 tby (nI kt) tln tsp tkd ts9 tn9 tf9)] (fun r : Int32 => r = nI kt)
set_option maxHeartbeats 4000000 in
set_option maxRecDepth 100000 in
theorem c_tcount (l : Launch) (G : GG) (h0 : Nat) (tby : Nat) (kt : Nat) (tln : Nat) (tsp : Nat) (tkd : Int32) (ts9 : Int32) (tn9 : Int32) (tf9 : Int32) : K_c_tcount l G h0 tby kt tln tsp tkd ts9 tn9 tf9 := by
  refine MP.start (by decide +kernel) (Nat.le_of_ble_eq_true rfl) ?_
  intro p e s m below meth c ls hC hK hP hD hl
  refine absQ (fun Q0 hQ0 => ?_)
  have hl : lv_has ls 1 [(0, .ref h0)] := hl
  refine Kan8 hC (fun hx hb hr hml hB hown hlocks hnm => ?_)
  refine lv_aload_n hx hb gX10_count_0.1 rfl (lv_at0 hl) ?_
  refine gf_X10_27 hC rfl hK hP 0 rfl rfl gX10_count_0.2.1 ?_
  refine toQ hQ0 ?_
  exact RP (v := nI kt) hC (rfl) rfl gX10_count_0.2.2
def K_p_many (l : Launch) (G : GG) (h0 : Nat) (x1 : Int32) (bb : Nat) (kk : Nat) (ikp : Int32) (sg : Nat) (do9 : Nat) (ru9 : Nat) (ta9 : Nat) (tp9 : Nat) (ro9 : Nat) (ho9 : Nat) (de9 : Nat) (clk : Nat) (fi : Nat) (la : Nat) (ml : Nat) (mm : Nat) (sl : Nat) (sm : Nat) (cl : Int32) (clm : Nat) (fclm : Nat → Int32) (ffi : Nat → Int32) (fla : Nat → Int32) (fml : Nat → Int32) (fmm : Nat → Int32) (fsl : Nat → Int32) (fsm : Nat → Int32) (fc : Nat) (sh : Nat) (r1 : Int32) (rc : Int32) (rh : Int32) (ffc : Nat → Int32) (fsh : Nat → Int32) (bpersons : Nat) (bpapers : Nat) (bstamps : Nat) (bversions : Nat) (blines : Nat) (bsteps : Nat) (bsayings : Nat) (bfindings : Nat) (bwarnings : Nat) (bquestions : Nat) (td : Int32) (vd : Int32) (vl : Int32) (gp : Int32) (bversionsc : Nat) (kbversions : Nat) (fbversions : Nat → Int32) (bpersonsc : Nat) (kbpersons : Nat) (fbpersons : Nat → Int32) (bpapersc : Nat) (kbpapers : Nat) (fbpapers : Nat → Int32) (blinesc : Nat) (kblines : Nat) (fblines : Nat → Int32) (bstepsc : Nat) (kbsteps : Nat) (fbsteps : Nat → Int32) (bstampsc : Nat) (kbstamps : Nat) (fbstamps : Nat → Int32) (bfindingsc : Nat) (kbfindings : Nat) (fbfindings : Nat → Int32) (bsayingsc : Nat) (kbsayings : Nat) (fbsayings : Nat → Int32) (bwarningsc : Nat) (kbwarnings : Nat) (bquestionsc : Nat) (kbquestions : Nat) (rr : Nat) (tc : Nat) (asd : Int32) (st9 : Int32) (tol : Int32) (rrc : Nat) (kr : Nat) (tby : Nat) (kt : Nat) (tln : Nat) (tsp : Nat) (tkd : Int32) (ts9 : Int32) (tn9 : Int32) (tf9 : Int32) (tr9 : Nat) (jr : Nat) (dk : Int32) (dn : Int32) (dp : Int32) (da : Int32) (dq : Int32) : Prop := MI l G yX11_many cX11_many 2 (some .int) 10 0 0 [.ref h0, .int x1] [(h0, oX11 bb kk ikp sg do9 ru9 ta9 tp9 ro9 ho9 de9), (sg, oX7 bb clk fi la ml mm sl sm cl), (clk, oX1 clm), (clm, iA G 36 fclm), (fi, iA G 12 ffi), (la, iA G 12 fla), (ml, iA G 12 fml), (mm, iA G 12 fmm), (sl, iA G 12 fsl), (sm, iA G 12 fsm), (ru9, oX6 bb sg fc sh r1 rc rh), (fc, iA G 5 ffc), (sh, iA G 8 fsh), (bb, oX0 bpersons bpapers bstamps bversions blines bsteps bsayings bfindings bwarnings bquestions td vd vl gp), (bversions, oX8 8 3 bversionsc (nI kbversions)), (bversionsc, iA G 24 fbversions), (bpersons, oX8 10 2 bpersonsc (nI kbpersons)), (bpersonsc, iA G 20 fbpersons), (bpapers, oX8 12 6 bpapersc (nI kbpapers)), (bpapersc, iA G 72 fbpapers), (blines, oX8 72 7 blinesc (nI kblines)), (blinesc, iA G 504 fblines), (bsteps, oX8 960 1 bstepsc (nI kbsteps)), (bstepsc, iA G 960 fbsteps), (bstamps, oX8 24 3 bstampsc (nI kbstamps)), (bstampsc, iA G 72 fbstamps), (bfindings, oX8 12 4 bfindingsc (nI kbfindings)), (bfindingsc, iA G 48 fbfindings), (bsayings, oX8 16 8 bsayingsc (nI kbsayings)), (bsayingsc, iA G 128 fbsayings), (bwarnings, oX8 16 3 bwarningsc (nI kbwarnings)), (bquestions, oX8 7 2 bquestionsc (nI kbquestions)), (ro9, oX5 bb rr tc asd st9 tol), (rr, oX8 7 2 rrc (nI kr)), (tp9, oX10 tby (nI kt) tln tsp tkd ts9 tn9 tf9), (de9, oX2 bb tr9 (nI jr) dk dn dp da dq)] (fun (r : Int32) (u : Int32 × (Nat → Int32) × (Nat → Int32) × (Nat → Int32) × (Nat → Int32) × (Nat → Int32) × (Nat → Int32) × (Nat → Int32) × Int32 × Int32 × Int32 × (Nat → Int32) × (Nat → Int32)) => (True) ∧ (u.1 = 0 ∨ u.1 = 1)) (fun u : Int32 × (Nat → Int32) × (Nat → Int32) × (Nat → Int32) × (Nat → Int32) × (Nat → Int32) × (Nat → Int32) × (Nat → Int32) × Int32 × Int32 × Int32 × (Nat → Int32) × (Nat → Int32) => [(h0, oX11 bb kk ikp sg do9 ru9 ta9 tp9 ro9 ho9 de9), (sg, oX7 bb clk fi la ml mm sl sm u.1), (clk, oX1 clm), (clm, iA G 36 u.2.1), (fi, iA G 12 u.2.2.1), (la, iA G 12 u.2.2.2.1), (ml, iA G 12 u.2.2.2.2.1), (mm, iA G 12 u.2.2.2.2.2.1), (sl, iA G 12 u.2.2.2.2.2.2.1), (sm, iA G 12 u.2.2.2.2.2.2.2.1), (ru9, oX6 bb sg fc sh u.2.2.2.2.2.2.2.2.1 u.2.2.2.2.2.2.2.2.2.1 u.2.2.2.2.2.2.2.2.2.2.1), (fc, iA G 5 u.2.2.2.2.2.2.2.2.2.2.2.1), (sh, iA G 8 u.2.2.2.2.2.2.2.2.2.2.2.2), (bb, oX0 bpersons bpapers bstamps bversions blines bsteps bsayings bfindings bwarnings bquestions td vd vl gp), (bversions, oX8 8 3 bversionsc (nI kbversions)), (bversionsc, iA G 24 fbversions), (bpersons, oX8 10 2 bpersonsc (nI kbpersons)), (bpersonsc, iA G 20 fbpersons), (bpapers, oX8 12 6 bpapersc (nI kbpapers)), (bpapersc, iA G 72 fbpapers), (blines, oX8 72 7 blinesc (nI kblines)), (blinesc, iA G 504 fblines), (bsteps, oX8 960 1 bstepsc (nI kbsteps)), (bstepsc, iA G 960 fbsteps), (bstamps, oX8 24 3 bstampsc (nI kbstamps)), (bstampsc, iA G 72 fbstamps), (bfindings, oX8 12 4 bfindingsc (nI kbfindings)), (bfindingsc, iA G 48 fbfindings), (bsayings, oX8 16 8 bsayingsc (nI kbsayings)), (bsayingsc, iA G 128 fbsayings), (bwarnings, oX8 16 3 bwarningsc (nI kbwarnings)), (bquestions, oX8 7 2 bquestionsc (nI kbquestions)), (ro9, oX5 bb rr tc asd st9 tol), (rr, oX8 7 2 rrc (nI kr)), (tp9, oX10 tby (nI kt) tln tsp tkd ts9 tn9 tf9), (de9, oX2 bb tr9 (nI jr) dk dn dp da dq)])
set_option maxHeartbeats 4000000 in
set_option maxRecDepth 100000 in
theorem p_many (l : Launch) (G : GG) (h0 : Nat) (x1 : Int32) (bb : Nat) (kk : Nat) (ikp : Int32) (sg : Nat) (do9 : Nat) (ru9 : Nat) (ta9 : Nat) (tp9 : Nat) (ro9 : Nat) (ho9 : Nat) (de9 : Nat) (clk : Nat) (fi : Nat) (la : Nat) (ml : Nat) (mm : Nat) (sl : Nat) (sm : Nat) (cl : Int32) (clm : Nat) (fclm : Nat → Int32) (ffi : Nat → Int32) (fla : Nat → Int32) (fml : Nat → Int32) (fmm : Nat → Int32) (fsl : Nat → Int32) (fsm : Nat → Int32) (fc : Nat) (sh : Nat) (r1 : Int32) (rc : Int32) (rh : Int32) (ffc : Nat → Int32) (fsh : Nat → Int32) (bpersons : Nat) (bpapers : Nat) (bstamps : Nat) (bversions : Nat) (blines : Nat) (bsteps : Nat) (bsayings : Nat) (bfindings : Nat) (bwarnings : Nat) (bquestions : Nat) (td : Int32) (vd : Int32) (vl : Int32) (gp : Int32) (bversionsc : Nat) (kbversions : Nat) (fbversions : Nat → Int32) (bpersonsc : Nat) (kbpersons : Nat) (fbpersons : Nat → Int32) (bpapersc : Nat) (kbpapers : Nat) (fbpapers : Nat → Int32) (blinesc : Nat) (kblines : Nat) (fblines : Nat → Int32) (bstepsc : Nat) (kbsteps : Nat) (fbsteps : Nat → Int32) (bstampsc : Nat) (kbstamps : Nat) (fbstamps : Nat → Int32) (bfindingsc : Nat) (kbfindings : Nat) (fbfindings : Nat → Int32) (bsayingsc : Nat) (kbsayings : Nat) (fbsayings : Nat → Int32) (bwarningsc : Nat) (kbwarnings : Nat) (bquestionsc : Nat) (kbquestions : Nat) (rr : Nat) (tc : Nat) (asd : Int32) (st9 : Int32) (tol : Int32) (rrc : Nat) (kr : Nat) (tby : Nat) (kt : Nat) (tln : Nat) (tsp : Nat) (tkd : Int32) (ts9 : Int32) (tn9 : Int32) (tf9 : Int32) (tr9 : Nat) (jr : Nat) (dk : Int32) (dn : Int32) (dp : Int32) (da : Int32) (dq : Int32) (hkbversions : kbversions ≤ 8) (hkbpersons : kbpersons ≤ 10) (hkbpapers : kbpapers ≤ 12) (hkblines : kblines ≤ 72) (hkbsteps : kbsteps ≤ 960) (hkbstamps : kbstamps ≤ 24) (hkbfindings : kbfindings ≤ 12) (hkbsayings : kbsayings ≤ 16) (hcl : cl = 0 ∨ cl = 1) : K_p_many l G h0 x1 bb kk ikp sg do9 ru9 ta9 tp9 ro9 ho9 de9 clk fi la ml mm sl sm cl clm fclm ffi fla fml fmm fsl fsm fc sh r1 rc rh ffc fsh bpersons bpapers bstamps bversions blines bsteps bsayings bfindings bwarnings bquestions td vd vl gp bversionsc kbversions fbversions bpersonsc kbpersons fbpersons bpapersc kbpapers fbpapers blinesc kblines fblines bstepsc kbsteps fbsteps bstampsc kbstamps fbstamps bfindingsc kbfindings fbfindings bsayingsc kbsayings fbsayings bwarningsc kbwarnings bquestionsc kbquestions rr tc asd st9 tol rrc kr tby kt tln tsp tkd ts9 tn9 tf9 tr9 jr dk dn dp da dq := by
  refine MI.start (by decide +kernel) (Nat.le_of_ble_eq_true rfl) ?_
  intro p e s m below meth c A ls hC hK hP hD hS hA hl
  refine absQ (fun Q0 hQ0 => ?_)
  have hl : lv_has ls 2 [(0, .ref h0), (1, .int x1)] := hl
  refine Kan8 hC (fun hx hb hr hml hB hown hlocks hnm => ?_)
  refine lv_iload_n hx hb gX11_many_0.1 rfl (lv_at1 hl) ?_
  by_cases c_1_3673 : x1 = 0
  · refine lv_tableIn (tgt := 76) hx hb gX11_many_0.2.1 (by rw [c_1_3673]; decide) (by rw [c_1_3673]; decide) (by rw [c_1_3673]; rfl) (by decide) ?_
    refine lv_aload_n hx hb gX11_many_0.2.2.1 rfl (lv_at0 hl) ?_
    refine gf_X11_15 hC rfl hK hP 0 rfl rfl gX11_many_0.2.2.2.1 ?_
    refine gf_X11_87 hC rfl hK hP 13 rfl rfl gX11_many_0.2.2.2.2.1 ?_
    refine toQ hQ0 ?_
    exact RI (v := td) hC hP hD hS [0, 1, 2, 3, 4, 5, 6, 7, 8, 9, 10, 11, 12, 13, 14, 15, 16, 17, 18, 19, 20, 21, 22, 23, 24, 25, 26, 27, 28, 29, 30, 31, 32, 33, 34, 35] (cl, fclm, ffi, fla, fml, fmm, fsl, fsm, r1, rc, rh, ffc, fsh) rfl rfl (by decide) (⟨trivial, hcl⟩) rfl gX11_many_0.2.2.2.2.2.1
  by_cases c_1_3674 : x1 = 1
  · refine lv_tableIn (tgt := 84) hx hb gX11_many_0.2.1 (by rw [c_1_3674]; decide) (by rw [c_1_3674]; decide) (by rw [c_1_3674]; rfl) (by decide) ?_
    refine lv_aload_n hx hb gX11_many_0.2.2.2.2.2.2.1 rfl (lv_at0 hl) ?_
    refine gf_X11_15 hC rfl hK hP 0 rfl rfl gX11_many_0.2.2.2.2.2.2.2.1 ?_
    refine gf_X11_107 hC rfl hK hP 13 rfl rfl gX11_many_0.2.2.2.2.2.2.2.2.1 ?_
    refine pV hC hK hl hP hD (c_T_count l G bpersons 10 2 bpersonsc kbpersons) si_X11_174 [16] sm_16 fm_16 nd_16 rfl rfl rfl rfl rfl (Nat.le_of_ble_eq_true rfl) rm_10_1_1 ⟨by first | exact Nat.le_of_ble_eq_true rfl | exact Nat.zero_le _, by first | exact Nat.le_of_ble_eq_true rfl | exact Nat.zero_le _⟩ gX11_many_0.2.2.2.2.2.2.2.2.2 (Keqr ?_)
    refine toQ hQ0 ?_
    exact RI (v := nI kbpersons) hC hP hD hS [0, 1, 2, 3, 4, 5, 6, 7, 8, 9, 10, 11, 12, 13, 14, 15, 16, 17, 18, 19, 20, 21, 22, 23, 24, 25, 26, 27, 28, 29, 30, 31, 32, 33, 34, 35] (cl, fclm, ffi, fla, fml, fmm, fsl, fsm, r1, rc, rh, ffc, fsh) rfl rfl (by decide) (⟨trivial, hcl⟩) rfl gX11_many_1.1
  by_cases c_1_3677 : x1 = 2
  · refine lv_tableIn (tgt := 95) hx hb gX11_many_0.2.1 (by rw [c_1_3677]; decide) (by rw [c_1_3677]; decide) (by rw [c_1_3677]; rfl) (by decide) ?_
    refine lv_aload_n hx hb gX11_many_1.2.1 rfl (lv_at0 hl) ?_
    refine gf_X11_15 hC rfl hK hP 0 rfl rfl gX11_many_1.2.2.1 ?_
    refine gf_X11_144 hC rfl hK hP 13 rfl rfl gX11_many_1.2.2.2.1 ?_
    refine pV hC hK hl hP hD (c_T_count l G bpapers 12 6 bpapersc kbpapers) si_X11_174 [18] sm_18 fm_18 nd_18 rfl rfl rfl rfl rfl (Nat.le_of_ble_eq_true rfl) rm_10_1_1 ⟨by first | exact Nat.le_of_ble_eq_true rfl | exact Nat.zero_le _, by first | exact Nat.le_of_ble_eq_true rfl | exact Nat.zero_le _⟩ gX11_many_1.2.2.2.2.1 (Keqr ?_)
    refine toQ hQ0 ?_
    exact RI (v := nI kbpapers) hC hP hD hS [0, 1, 2, 3, 4, 5, 6, 7, 8, 9, 10, 11, 12, 13, 14, 15, 16, 17, 18, 19, 20, 21, 22, 23, 24, 25, 26, 27, 28, 29, 30, 31, 32, 33, 34, 35] (cl, fclm, ffi, fla, fml, fmm, fsl, fsm, r1, rc, rh, ffc, fsh) rfl rfl (by decide) (⟨trivial, hcl⟩) rfl gX11_many_1.2.2.2.2.2.1
  by_cases c_1_3680 : x1 = 3
  · refine lv_tableIn (tgt := 106) hx hb gX11_many_0.2.1 (by rw [c_1_3680]; decide) (by rw [c_1_3680]; decide) (by rw [c_1_3680]; rfl) (by decide) ?_
    refine lv_aload_n hx hb gX11_many_1.2.2.2.2.2.2.1 rfl (lv_at0 hl) ?_
    refine gf_X11_15 hC rfl hK hP 0 rfl rfl gX11_many_1.2.2.2.2.2.2.2.1 ?_
    refine pV hC hK hl hP hD (c_inView l G bb bpersons bpapers bstamps bversions blines bsteps bsayings bfindings bwarnings bquestions td vd vl gp bpapersc kbpapers fbpapers (hkbpapers)) si_X11_97 [13, 18, 19] sm_13_18_19 fm_13_18_19 nd_13_18_19 rfl rfl rfl rfl rfl (Nat.le_of_ble_eq_true rfl) rm_10_3_6 ⟨by first | exact Nat.le_of_ble_eq_true rfl | exact Nat.zero_le _, by first | exact Nat.le_of_ble_eq_true rfl | exact Nat.zero_le _⟩ gX11_many_1.2.2.2.2.2.2.2.2.1 (fun r3681 hr3681 => ?_)
    refine pS hC hK hl (c_bitCount l G r3681) si_X11_101 rfl rfl (Nat.le_of_ble_eq_true rfl) rm_10_1_1 ⟨by first | exact Nat.le_of_ble_eq_true rfl | exact Nat.zero_le _, by first | exact Nat.le_of_ble_eq_true rfl | exact Nat.zero_le _⟩ gX11_many_1.2.2.2.2.2.2.2.2.2 (fun r3682 hr3682 => ?_)
    refine toQ hQ0 ?_
    exact RI (v := r3682) hC hP hD hS [0, 1, 2, 3, 4, 5, 6, 7, 8, 9, 10, 11, 12, 13, 14, 15, 16, 17, 18, 19, 20, 21, 22, 23, 24, 25, 26, 27, 28, 29, 30, 31, 32, 33, 34, 35] (cl, fclm, ffi, fla, fml, fmm, fsl, fsm, r1, rc, rh, ffc, fsh) rfl rfl (by decide) (⟨trivial, hcl⟩) rfl gX11_many_2.1
  by_cases c_1_3683 : x1 = 4
  · refine lv_tableIn (tgt := 117) hx hb gX11_many_0.2.1 (by rw [c_1_3683]; decide) (by rw [c_1_3683]; decide) (by rw [c_1_3683]; rfl) (by decide) ?_
    refine lv_aload_n hx hb gX11_many_2.2.1 rfl (lv_at0 hl) ?_
    refine gf_X11_15 hC rfl hK hP 0 rfl rfl gX11_many_2.2.2.1 ?_
    refine gf_X11_157 hC rfl hK hP 13 rfl rfl gX11_many_2.2.2.2.1 ?_
    refine pV hC hK hl hP hD (c_T_count l G bstamps 24 3 bstampsc kbstamps) si_X11_174 [24] sm_24 fm_24 nd_24 rfl rfl rfl rfl rfl (Nat.le_of_ble_eq_true rfl) rm_10_1_1 ⟨by first | exact Nat.le_of_ble_eq_true rfl | exact Nat.zero_le _, by first | exact Nat.le_of_ble_eq_true rfl | exact Nat.zero_le _⟩ gX11_many_2.2.2.2.2.1 (Keqr ?_)
    refine toQ hQ0 ?_
    exact RI (v := nI kbstamps) hC hP hD hS [0, 1, 2, 3, 4, 5, 6, 7, 8, 9, 10, 11, 12, 13, 14, 15, 16, 17, 18, 19, 20, 21, 22, 23, 24, 25, 26, 27, 28, 29, 30, 31, 32, 33, 34, 35] (cl, fclm, ffi, fla, fml, fmm, fsl, fsm, r1, rc, rh, ffc, fsh) rfl rfl (by decide) (⟨trivial, hcl⟩) rfl gX11_many_2.2.2.2.2.2.1
  by_cases c_1_3686 : x1 = 5
  · refine lv_tableIn (tgt := 128) hx hb gX11_many_0.2.1 (by rw [c_1_3686]; decide) (by rw [c_1_3686]; decide) (by rw [c_1_3686]; rfl) (by decide) ?_
    refine lv_aload_n hx hb gX11_many_2.2.2.2.2.2.2.1 rfl (lv_at0 hl) ?_
    refine gf_X11_15 hC rfl hK hP 0 rfl rfl gX11_many_2.2.2.2.2.2.2.2.1 ?_
    refine gf_X11_233 hC rfl hK hP 13 rfl rfl gX11_many_2.2.2.2.2.2.2.2.2.1 ?_
    refine pV hC hK hl hP hD (c_T_count l G bversions 8 3 bversionsc kbversions) si_X11_174 [14] sm_14 fm_14 nd_14 rfl rfl rfl rfl rfl (Nat.le_of_ble_eq_true rfl) rm_10_1_1 ⟨by first | exact Nat.le_of_ble_eq_true rfl | exact Nat.zero_le _, by first | exact Nat.le_of_ble_eq_true rfl | exact Nat.zero_le _⟩ gX11_many_2.2.2.2.2.2.2.2.2.2 (Keqr ?_)
    refine toQ hQ0 ?_
    exact RI (v := nI kbversions) hC hP hD hS [0, 1, 2, 3, 4, 5, 6, 7, 8, 9, 10, 11, 12, 13, 14, 15, 16, 17, 18, 19, 20, 21, 22, 23, 24, 25, 26, 27, 28, 29, 30, 31, 32, 33, 34, 35] (cl, fclm, ffi, fla, fml, fmm, fsl, fsm, r1, rc, rh, ffc, fsh) rfl rfl (by decide) (⟨trivial, hcl⟩) rfl gX11_many_3.1
  by_cases c_1_3689 : x1 = 6
  · refine lv_tableIn (tgt := 139) hx hb gX11_many_0.2.1 (by rw [c_1_3689]; decide) (by rw [c_1_3689]; decide) (by rw [c_1_3689]; rfl) (by decide) ?_
    refine lv_aload_n hx hb gX11_many_3.2.1 rfl (lv_at0 hl) ?_
    refine gf_X11_15 hC rfl hK hP 0 rfl rfl gX11_many_3.2.2.1 ?_
    refine gf_X11_256 hC rfl hK hP 13 rfl rfl gX11_many_3.2.2.2.1 ?_
    refine pV hC hK hl hP hD (c_T_count l G bsayings 16 8 bsayingsc kbsayings) si_X11_174 [28] sm_28 fm_28 nd_28 rfl rfl rfl rfl rfl (Nat.le_of_ble_eq_true rfl) rm_10_1_1 ⟨by first | exact Nat.le_of_ble_eq_true rfl | exact Nat.zero_le _, by first | exact Nat.le_of_ble_eq_true rfl | exact Nat.zero_le _⟩ gX11_many_3.2.2.2.2.1 (Keqr ?_)
    refine toQ hQ0 ?_
    exact RI (v := nI kbsayings) hC hP hD hS [0, 1, 2, 3, 4, 5, 6, 7, 8, 9, 10, 11, 12, 13, 14, 15, 16, 17, 18, 19, 20, 21, 22, 23, 24, 25, 26, 27, 28, 29, 30, 31, 32, 33, 34, 35] (cl, fclm, ffi, fla, fml, fmm, fsl, fsm, r1, rc, rh, ffc, fsh) rfl rfl (by decide) (⟨trivial, hcl⟩) rfl gX11_many_3.2.2.2.2.2.1
  by_cases c_1_3692 : x1 = 7
  · refine lv_tableIn (tgt := 150) hx hb gX11_many_0.2.1 (by rw [c_1_3692]; decide) (by rw [c_1_3692]; decide) (by rw [c_1_3692]; rfl) (by decide) ?_
    refine lv_aload_n hx hb gX11_many_3.2.2.2.2.2.2.1 rfl (lv_at0 hl) ?_
    refine gf_X11_15 hC rfl hK hP 0 rfl rfl gX11_many_3.2.2.2.2.2.2.2.1 ?_
    refine lv_aload_n hx hb gX11_many_3.2.2.2.2.2.2.2.2.1 rfl (lv_at0 hl) ?_
    refine gf_X11_15 hC rfl hK hP 0 rfl rfl gX11_many_3.2.2.2.2.2.2.2.2.2 ?_
    refine pV hC hK hl hP hD (c_inView l G bb bpersons bpapers bstamps bversions blines bsteps bsayings bfindings bwarnings bquestions td vd vl gp bpapersc kbpapers fbpapers (hkbpapers)) si_X11_97 [13, 18, 19] sm_13_18_19 fm_13_18_19 nd_13_18_19 rfl rfl rfl rfl rfl (Nat.le_of_ble_eq_true rfl) rm_10_3_6 ⟨by first | exact Nat.le_of_ble_eq_true rfl | exact Nat.zero_le _, by first | exact Nat.le_of_ble_eq_true rfl | exact Nat.zero_le _⟩ gX11_many_4.1 (fun r3693 hr3693 => ?_)
    refine pV hC hK hl hP hD (c_countSayings l G bb r3693 bpersons bpapers bstamps bversions blines bsteps bsayings bfindings bwarnings bquestions td vd vl gp bsayingsc kbsayings fbsayings (hkbsayings)) si_X11_355 [13, 28, 29] sm_13_28_29 fm_13_28_29 nd_13_28_29 rfl rfl rfl rfl rfl (Nat.le_of_ble_eq_true rfl) rm_10_4_4 ⟨by first | exact Nat.le_of_ble_eq_true rfl | exact Nat.zero_le _, by first | exact Nat.le_of_ble_eq_true rfl | exact Nat.zero_le _⟩ gX11_many_4.2.1 (fun r3694 hr3694 => ?_)
    refine toQ hQ0 ?_
    exact RI (v := r3694) hC hP hD hS [0, 1, 2, 3, 4, 5, 6, 7, 8, 9, 10, 11, 12, 13, 14, 15, 16, 17, 18, 19, 20, 21, 22, 23, 24, 25, 26, 27, 28, 29, 30, 31, 32, 33, 34, 35] (cl, fclm, ffi, fla, fml, fmm, fsl, fsm, r1, rc, rh, ffc, fsh) rfl rfl (by decide) (⟨trivial, hcl⟩) rfl gX11_many_4.2.2.1
  by_cases c_1_3695 : x1 = 8
  · refine lv_tableIn (tgt := 165) hx hb gX11_many_0.2.1 (by rw [c_1_3695]; decide) (by rw [c_1_3695]; decide) (by rw [c_1_3695]; rfl) (by decide) ?_
    refine lv_aload_n hx hb gX11_many_4.2.2.2.1 rfl (lv_at0 hl) ?_
    refine gf_X11_15 hC rfl hK hP 0 rfl rfl gX11_many_4.2.2.2.2.1 ?_
    refine gf_X11_271 hC rfl hK hP 13 rfl rfl gX11_many_4.2.2.2.2.2.1 ?_
    refine pV hC hK hl hP hD (c_T_count l G bfindings 12 4 bfindingsc kbfindings) si_X11_174 [26] sm_26 fm_26 nd_26 rfl rfl rfl rfl rfl (Nat.le_of_ble_eq_true rfl) rm_10_1_1 ⟨by first | exact Nat.le_of_ble_eq_true rfl | exact Nat.zero_le _, by first | exact Nat.le_of_ble_eq_true rfl | exact Nat.zero_le _⟩ gX11_many_4.2.2.2.2.2.2.1 (Keqr ?_)
    refine toQ hQ0 ?_
    exact RI (v := nI kbfindings) hC hP hD hS [0, 1, 2, 3, 4, 5, 6, 7, 8, 9, 10, 11, 12, 13, 14, 15, 16, 17, 18, 19, 20, 21, 22, 23, 24, 25, 26, 27, 28, 29, 30, 31, 32, 33, 34, 35] (cl, fclm, ffi, fla, fml, fmm, fsl, fsm, r1, rc, rh, ffc, fsh) rfl rfl (by decide) (⟨trivial, hcl⟩) rfl gX11_many_4.2.2.2.2.2.2.2.1
  by_cases c_1_3698 : x1 = 9
  · refine lv_tableIn (tgt := 176) hx hb gX11_many_0.2.1 (by rw [c_1_3698]; decide) (by rw [c_1_3698]; decide) (by rw [c_1_3698]; rfl) (by decide) ?_
    refine lv_aload_n hx hb gX11_many_4.2.2.2.2.2.2.2.2.1 rfl (lv_at0 hl) ?_
    refine lv_aload_n hx hb gX11_many_4.2.2.2.2.2.2.2.2.2 rfl (lv_at0 hl) ?_
    refine gf_X11_15 hC rfl hK hP 0 rfl rfl gX11_many_5.1 ?_
    refine pV hC hK hl hP hD (c_inView l G bb bpersons bpapers bstamps bversions blines bsteps bsayings bfindings bwarnings bquestions td vd vl gp bpapersc kbpapers fbpapers (hkbpapers)) si_X11_97 [13, 18, 19] sm_13_18_19 fm_13_18_19 nd_13_18_19 rfl rfl rfl rfl rfl (Nat.le_of_ble_eq_true rfl) rm_10_3_6 ⟨by first | exact Nat.le_of_ble_eq_true rfl | exact Nat.zero_le _, by first | exact Nat.le_of_ble_eq_true rfl | exact Nat.zero_le _⟩ gX11_many_5.2.1 (fun r3699 hr3699 => ?_)
    refine iV (wr := [(bsayings, oX8 16 8 bsayingsc (nI kbsayings)), (bsayingsc, iA G 128 fbsayings), (bwarnings, oX8 16 3 bwarningsc (nI kbwarnings)), (bquestions, oX8 7 2 bquestionsc (nI kbquestions)), (ro9, oX5 bb rr tc asd st9 tol), (rr, oX8 7 2 rrc (nI kr)), (tp9, oX10 tby (nI kt) tln tsp tkd ts9 tn9 tf9), (de9, oX2 bb tr9 (nI jr) dk dn dp da dq)]) hC hK hl hP hD hS hA (c_countStanding l G h0 r3699 bb kk ikp sg do9 ru9 ta9 tp9 ro9 ho9 de9 clk fi la ml mm sl sm cl clm fclm ffi fla fml fmm fsl fsm fc sh r1 rc rh ffc fsh bpersons bpapers bstamps bversions blines bsteps bsayings bfindings bwarnings bquestions td vd vl gp bversionsc kbversions fbversions bpersonsc kbpersons fbpersons bpapersc kbpapers fbpapers blinesc kblines fblines bstepsc kbsteps fbsteps bstampsc kbstamps fbstamps bfindingsc kbfindings fbfindings (hkbversions) (hkbpersons) (hkbpapers) (hkblines) (hkbsteps) (hkbstamps) (hkbfindings) (hcl)) si_X11_358 [0, 1, 2, 3, 4, 5, 6, 7, 8, 9, 10, 11, 12, 13, 14, 15, 16, 17, 18, 19, 20, 21, 22, 23, 24, 25, 26, 27] [28, 29, 30, 31, 32, 33, 34, 35] sm_0_1_2_3_4_5_6_7_8_9_10_11_12_13_14_15_16_17_18_19_20_21_22_23_24_25_26_27 fm_0_1_2_3_4_5_6_7_8_9_10_11_12_13_14_15_16_17_18_19_20_21_22_23_24_25_26_27 nd_0_1_2_3_4_5_6_7_8_9_10_11_12_13_14_15_16_17_18_19_20_21_22_23_24_25_26_27 sm_28_29_30_31_32_33_34_35 nd_28_29_30_31_32_33_34_35 dj_0_1_2_3_4_5_6_7_8_9_10_11_12_13_14_15_16_17_18_19_20_21_22_23_24_25_26_27__28_29_30_31_32_33_34_35 rfl rfl rfl rfl rfl (Nat.le_of_ble_eq_true rfl) rm_10_8_4 ⟨Nat.le_of_ble_eq_true rfl, Nat.le_of_ble_eq_true rfl⟩ gX11_many_5.2.2.1 (fun r3700 => Ktu13 fun cl13702 gclm3703 gfi3704 gla3705 gml3706 gmm3707 gsl3708 gsm3709 r113710 rc13711 rh13712 gfc3713 gsh3714 => ?_)
    intro H locs hr3700 hP hD hS
    try dsimp only at hr3700
    refine Kpdr (ws := [(bsayings, oX8 16 8 bsayingsc (nI kbsayings)), (bsayingsc, iA G 128 fbsayings), (bwarnings, oX8 16 3 bwarningsc (nI kbwarnings)), (bquestions, oX8 7 2 bquestionsc (nI kbquestions)), (ro9, oX5 bb rr tc asd st9 tol), (rr, oX8 7 2 rrc (nI kr)), (tp9, oX10 tby (nI kt) tln tsp tkd ts9 tn9 tf9), (de9, oX2 bb tr9 (nI jr) dk dn dp da dq), (h0, oX11 bb kk ikp sg do9 ru9 ta9 tp9 ro9 ho9 de9), (sg, oX7 bb clk fi la ml mm sl sm cl13702), (clk, oX1 clm), (clm, iA G 36 gclm3703), (fi, iA G 12 gfi3704), (la, iA G 12 gla3705), (ml, iA G 12 gml3706), (mm, iA G 12 gmm3707), (sl, iA G 12 gsl3708), (sm, iA G 12 gsm3709), (ru9, oX6 bb sg fc sh r113710 rc13711 rh13712), (fc, iA G 5 gfc3713), (sh, iA G 8 gsh3714), (bb, oX0 bpersons bpapers bstamps bversions blines bsteps bsayings bfindings bwarnings bquestions td vd vl gp), (bversions, oX8 8 3 bversionsc (nI kbversions)), (bversionsc, iA G 24 fbversions), (bpersons, oX8 10 2 bpersonsc (nI kbpersons)), (bpersonsc, iA G 20 fbpersons), (bpapers, oX8 12 6 bpapersc (nI kbpapers)), (bpapersc, iA G 72 fbpapers), (blines, oX8 72 7 blinesc (nI kblines)), (blinesc, iA G 504 fblines), (bsteps, oX8 960 1 bstepsc (nI kbsteps)), (bstepsc, iA G 960 fbsteps), (bstamps, oX8 24 3 bstampsc (nI kbstamps)), (bstampsc, iA G 72 fbstamps), (bfindings, oX8 12 4 bfindingsc (nI kbfindings)), (bfindingsc, iA G 48 fbfindings)]) hP hD (fun hP hD => ?_)
    obtain ⟨hr3700, w3715⟩ := hr3700
    refine toQ hQ0 ?_
    exact RI (v := r3700) hC hP hD hS [8, 9, 10, 11, 12, 13, 14, 15, 16, 17, 18, 19, 20, 21, 22, 23, 24, 25, 26, 27, 28, 29, 30, 31, 32, 33, 34, 35, 0, 1, 2, 3, 4, 5, 6, 7] (cl13702, gclm3703, gfi3704, gla3705, gml3706, gmm3707, gsl3708, gsm3709, r113710, rc13711, rh13712, gfc3713, gsh3714) rfl rfl (by decide) (⟨trivial, w3715⟩) rfl gX11_many_5.2.2.2.1
  by_cases c_1_3716 : x1 = 10
  · refine lv_tableIn (tgt := 188) hx hb gX11_many_0.2.1 (by rw [c_1_3716]; decide) (by rw [c_1_3716]; decide) (by rw [c_1_3716]; rfl) (by decide) ?_
    refine lv_aload_n hx hb gX11_many_5.2.2.2.2.1 rfl (lv_at0 hl) ?_
    refine gf_X11_15 hC rfl hK hP 0 rfl rfl gX11_many_5.2.2.2.2.2.1 ?_
    refine gf_X11_283 hC rfl hK hP 13 rfl rfl gX11_many_5.2.2.2.2.2.2.1 ?_
    refine pV hC hK hl hP hD (c_T_count l G bwarnings 16 3 bwarningsc kbwarnings) si_X11_174 [30] sm_30 fm_30 nd_30 rfl rfl rfl rfl rfl (Nat.le_of_ble_eq_true rfl) rm_10_1_1 ⟨by first | exact Nat.le_of_ble_eq_true rfl | exact Nat.zero_le _, by first | exact Nat.le_of_ble_eq_true rfl | exact Nat.zero_le _⟩ gX11_many_5.2.2.2.2.2.2.2.1 (Keqr ?_)
    refine toQ hQ0 ?_
    exact RI (v := nI kbwarnings) hC hP hD hS [0, 1, 2, 3, 4, 5, 6, 7, 8, 9, 10, 11, 12, 13, 14, 15, 16, 17, 18, 19, 20, 21, 22, 23, 24, 25, 26, 27, 28, 29, 30, 31, 32, 33, 34, 35] (cl, fclm, ffi, fla, fml, fmm, fsl, fsm, r1, rc, rh, ffc, fsh) rfl rfl (by decide) (⟨trivial, hcl⟩) rfl gX11_many_5.2.2.2.2.2.2.2.2.1
  by_cases c_1_3719 : x1 = 11
  · refine lv_tableIn (tgt := 199) hx hb gX11_many_0.2.1 (by rw [c_1_3719]; decide) (by rw [c_1_3719]; decide) (by rw [c_1_3719]; rfl) (by decide) ?_
    refine lv_aload_n hx hb gX11_many_5.2.2.2.2.2.2.2.2.2 rfl (lv_at0 hl) ?_
    refine gf_X11_15 hC rfl hK hP 0 rfl rfl gX11_many_6.1 ?_
    refine gf_X11_286 hC rfl hK hP 13 rfl rfl gX11_many_6.2.1 ?_
    refine pV hC hK hl hP hD (c_T_count l G bquestions 7 2 bquestionsc kbquestions) si_X11_174 [31] sm_31 fm_31 nd_31 rfl rfl rfl rfl rfl (Nat.le_of_ble_eq_true rfl) rm_10_1_1 ⟨by first | exact Nat.le_of_ble_eq_true rfl | exact Nat.zero_le _, by first | exact Nat.le_of_ble_eq_true rfl | exact Nat.zero_le _⟩ gX11_many_6.2.2.1 (Keqr ?_)
    refine toQ hQ0 ?_
    exact RI (v := nI kbquestions) hC hP hD hS [0, 1, 2, 3, 4, 5, 6, 7, 8, 9, 10, 11, 12, 13, 14, 15, 16, 17, 18, 19, 20, 21, 22, 23, 24, 25, 26, 27, 28, 29, 30, 31, 32, 33, 34, 35] (cl, fclm, ffi, fla, fml, fmm, fsl, fsm, r1, rc, rh, ffc, fsh) rfl rfl (by decide) (⟨trivial, hcl⟩) rfl gX11_many_6.2.2.2.1
  by_cases c_1_3722 : x1 = 12
  · refine lv_tableIn (tgt := 210) hx hb gX11_many_0.2.1 (by rw [c_1_3722]; decide) (by rw [c_1_3722]; decide) (by rw [c_1_3722]; rfl) (by decide) ?_
    refine lv_aload_n hx hb gX11_many_6.2.2.2.2.1 rfl (lv_at0 hl) ?_
    refine gf_X11_65 hC rfl hK hP 0 rfl rfl gX11_many_6.2.2.2.2.2.1 ?_
    refine gf_X11_292 hC rfl hK hP 32 rfl rfl gX11_many_6.2.2.2.2.2.2.1 ?_
    refine pV hC hK hl hP hD (c_T_count l G rr 7 2 rrc kr) si_X11_174 [33] sm_33 fm_33 nd_33 rfl rfl rfl rfl rfl (Nat.le_of_ble_eq_true rfl) rm_10_1_1 ⟨by first | exact Nat.le_of_ble_eq_true rfl | exact Nat.zero_le _, by first | exact Nat.le_of_ble_eq_true rfl | exact Nat.zero_le _⟩ gX11_many_6.2.2.2.2.2.2.2.1 (Keqr ?_)
    refine toQ hQ0 ?_
    exact RI (v := nI kr) hC hP hD hS [0, 1, 2, 3, 4, 5, 6, 7, 8, 9, 10, 11, 12, 13, 14, 15, 16, 17, 18, 19, 20, 21, 22, 23, 24, 25, 26, 27, 28, 29, 30, 31, 32, 33, 34, 35] (cl, fclm, ffi, fla, fml, fmm, fsl, fsm, r1, rc, rh, ffc, fsh) rfl rfl (by decide) (⟨trivial, hcl⟩) rfl gX11_many_6.2.2.2.2.2.2.2.2.1
  by_cases c_1_3725 : x1 = 13
  · refine lv_tableIn (tgt := 221) hx hb gX11_many_0.2.1 (by rw [c_1_3725]; decide) (by rw [c_1_3725]; decide) (by rw [c_1_3725]; rfl) (by decide) ?_
    refine lv_aload_n hx hb gX11_many_6.2.2.2.2.2.2.2.2.2 rfl (lv_at0 hl) ?_
    refine gf_X11_58 hC rfl hK hP 0 rfl rfl gX11_many_7.1 ?_
    refine pV hC hK hl hP hD (c_tcount l G tp9 tby kt tln tsp tkd ts9 tn9 tf9) si_X11_224 [34] sm_34 fm_34 nd_34 rfl rfl rfl rfl rfl (Nat.le_of_ble_eq_true rfl) rm_10_1_1 ⟨by first | exact Nat.le_of_ble_eq_true rfl | exact Nat.zero_le _, by first | exact Nat.le_of_ble_eq_true rfl | exact Nat.zero_le _⟩ gX11_many_7.2.1 (Keqr ?_)
    refine toQ hQ0 ?_
    exact RI (v := nI kt) hC hP hD hS [0, 1, 2, 3, 4, 5, 6, 7, 8, 9, 10, 11, 12, 13, 14, 15, 16, 17, 18, 19, 20, 21, 22, 23, 24, 25, 26, 27, 28, 29, 30, 31, 32, 33, 34, 35] (cl, fclm, ffi, fla, fml, fmm, fsl, fsm, r1, rc, rh, ffc, fsh) rfl rfl (by decide) (⟨trivial, hcl⟩) rfl gX11_many_7.2.2.1
  by_cases c_1_3728 : x1 = 14
  · refine lv_tableIn (tgt := 229) hx hb gX11_many_0.2.1 (by rw [c_1_3728]; decide) (by rw [c_1_3728]; decide) (by rw [c_1_3728]; rfl) (by decide) ?_
    refine lv_aload_n hx hb gX11_many_7.2.2.2.1 rfl (lv_at0 hl) ?_
    refine gf_X11_79 hC rfl hK hP 0 rfl rfl gX11_many_7.2.2.2.2.1 ?_
    refine pV hC hK hl hP hD (c_ran l G de9 bb tr9 jr dk dn dp da dq) si_X11_349 [35] sm_35 fm_35 nd_35 rfl rfl rfl rfl rfl (Nat.le_of_ble_eq_true rfl) rm_10_1_1 ⟨by first | exact Nat.le_of_ble_eq_true rfl | exact Nat.zero_le _, by first | exact Nat.le_of_ble_eq_true rfl | exact Nat.zero_le _⟩ gX11_many_7.2.2.2.2.2.1 (Keqr ?_)
    refine toQ hQ0 ?_
    exact RI (v := nI jr) hC hP hD hS [0, 1, 2, 3, 4, 5, 6, 7, 8, 9, 10, 11, 12, 13, 14, 15, 16, 17, 18, 19, 20, 21, 22, 23, 24, 25, 26, 27, 28, 29, 30, 31, 32, 33, 34, 35] (cl, fclm, ffi, fla, fml, fmm, fsl, fsm, r1, rc, rh, ffc, fsh) rfl rfl (by decide) (⟨trivial, hcl⟩) rfl gX11_many_7.2.2.2.2.2.2.1
  refine lv_tableOut (tgt := 237) hx hb gX11_many_0.2.1 (by have q9 := sw_0_14 (x := x1); simp only [c_1_3673, c_1_3674, c_1_3677, c_1_3680, c_1_3683, c_1_3686, c_1_3689, c_1_3692, c_1_3695, c_1_3698, c_1_3716, c_1_3719, c_1_3722, c_1_3725, c_1_3728, not_false_eq_true, true_implies] at q9; exact q9) (by decide) ?_
  refine lv_iconst (v := (-1)) hx hb gX11_many_7.2.2.2.2.2.2.2.1 (by decide) ?_
  refine toQ hQ0 ?_
  exact RI (v := (-1)) hC hP hD hS [0, 1, 2, 3, 4, 5, 6, 7, 8, 9, 10, 11, 12, 13, 14, 15, 16, 17, 18, 19, 20, 21, 22, 23, 24, 25, 26, 27, 28, 29, 30, 31, 32, 33, 34, 35] (cl, fclm, ffi, fla, fml, fmm, fsl, fsm, r1, rc, rh, ffc, fsh) rfl rfl (by decide) (⟨trivial, hcl⟩) rfl gX11_many_7.2.2.2.2.2.2.2.2
