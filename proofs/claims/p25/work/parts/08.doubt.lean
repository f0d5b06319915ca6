section WR
variable {p : Program} {l : Launch} {e : Env} {R : Room} {s : State} {m : MethodId} {args : Array Value} {below : List Frame} {meth : Method} {c : Code} {H : Heap} {locs : List Loc} {cells slots : Nat} {Q : State → Prop}
variable {pc : Nat} {ls : Array Slot} {rest : List Value} {G : GG} {ws : va_W} {A : Nat → Prop} {y0 : MethodName} {b0 : ByteArray} {mL0 : Nat} {rt0 : Option FieldType} {a : Nat} {H0 : Heap}
end WR
theorem nI_dec (j : Nat) : nI j + Int32.ofInt (-1) = nI j - 1 := by
  rw [Int32.sub_eq_add_neg]
  rfl
section WR
variable {p : Program} {l : Launch} {e : Env} {R : Room} {s : State} {m : MethodId} {args : Array Value} {below : List Frame} {meth : Method} {c : Code} {H : Heap} {locs : List Loc} {cells slots : Nat} {Q : State → Prop}
variable {pc : Nat} {ls : Array Slot} {rest : List Value} {G : GG} {ws : va_W} {A : Nat → Prop} {y0 : MethodName} {b0 : ByteArray} {mL0 : Nat} {rt0 : Option FieldType} {a : Nat} {H0 : Heap}
theorem dX3_isRight_0 : decode cX3_isRight 0 = .ok (.iconst (-1), 1) := by decide +kernel
theorem dX3_isRight_1 : decode cX3_isRight 1 = .ok (.istore_n 3, 1) := by decide +kernel
theorem dX3_isRight_2 : decode cX3_isRight 2 = .ok (.iconst 0, 1) := by decide +kernel
theorem dX3_isRight_3 : decode cX3_isRight 3 = .ok (.istore 4, 2) := by decide +kernel
theorem dX3_isRight_5 : decode cX3_isRight 5 = .ok (.iload 4, 2) := by decide +kernel
theorem dX3_isRight_7 : decode cX3_isRight 7 = .ok (.aload_n 0, 1) := by decide +kernel
theorem dX3_isRight_8 : decode cX3_isRight 8 = .ok (.getfield 17, 3) := by decide +kernel
theorem in_X3 : ∀ w ∈ wsX30, w ∈ BW := iB_wsX30
theorem m_191 : Cond.fieldLink RX3 17 "InquiryBench$Doubt" "book" "LInquiryBench$Book;" ∈ BW := iB_BW10 _ (List.mem_of_getElem? (i := 9) rfl)
theorem gf_X3_17 (hC : CX p s m meth c y0 b0 mL0 rt0 args) (hy0 : y0.cls = RX3) (hK : KK G s) (hP : va_P G.1 vwCl ws H) (q0 : Nat) {fs : List Value} {v : Value} (he : ws[q0]? = some (a, .inr (3, fs))) (hv : fs[0]? = some v) (hdg : decode b0 pc = .ok (.getfield 17, 3)) (kk : W p l e R s m args below meth c H locs cells slots Q (F0 m (pc + 3) ls (v :: rest))) : W p l e R s m args below meth c H locs cells slots Q (F0 m pc ls (.ref a :: rest)) := by
  obtain ⟨hx, hb, hr, hml, hB, hown, hlocks, hnm⟩ := hC
  rw [hy0] at hown
  exact va_get (ci := 3) (C := RX3) (T := TX3) (N := 5) hx hb hB in_X3 hown hK.1 hP q0 he rfl 0 (by decide) (hB _ m_191) (fun _ h => h) hv hdg kk
theorem dX3_isRight_11 : decode cX3_isRight 11 = .ok (.getfield 70, 3) := by decide +kernel
theorem nm_10 : Cond.fieldLinkNest RX3 70 RX0 "stamps" "LInquiryBench$Table;" RX11 ∈ NestW := List.mem_of_getElem? (i := 10) rfl
theorem gf_X3_70 (hC : CX p s m meth c y0 b0 mL0 rt0 args) (hy0 : y0.cls = RX3) (hK : KK G s) (hP : va_P G.1 vwCl ws H) (q0 : Nat) {fs : List Value} {v : Value} (he : ws[q0]? = some (a, .inr (0, fs))) (hv : fs[2]? = some v) (hdg : decode b0 pc = .ok (.getfield 70, 3)) (kk : W p l e R s m args below meth c H locs cells slots Q (F0 m (pc + 3) ls (v :: rest))) : W p l e R s m args below meth c H locs cells slots Q (F0 m pc ls (.ref a :: rest)) := by
  obtain ⟨hx, hb, hr, hml, hB, hown, hlocks, hnm⟩ := hC
  rw [hy0] at hown
  exact va_getN (ci := 0) (C := RX0) (T := TX0) (N := 14) hx hb hB in_X0 hown hK.1 hP q0 he rfl 2 (by decide) (va_Nw.use rfl (hK.2.1 _ nm_10)) (fun _ h => h) hv hdg kk
theorem dX3_isRight_14 : decode cX3_isRight 14 = .ok (.invokevirtual 38, 3) := by decide +kernel
theorem m_437 : Cond.methodLink RX3 38 yX8_count ∈ BW := iB_BW24 _ (List.mem_of_getElem? (i := 1) rfl)
theorem si_X3_38 : SV RX3 RX8 38 yX8_count cX8_count 1 (some .int) 0 := ⟨⟨m_437, m_308, m_309, m_104, m_310⟩, rfl, nK_RX8.1, nK_RX8.2, pd_1⟩
theorem dX3_isRight_17 : decode cX3_isRight 17 = .ok (.if_icmp .ge 62, 3) := by decide +kernel
theorem dX3_isRight_79 : decode cX3_isRight 79 = .ok (.iconst 1, 1) := by decide +kernel
theorem dX3_isRight_80 : decode cX3_isRight 80 = .ok (.ireturn, 1) := by decide +kernel
theorem dX3_isRight_20 : decode cX3_isRight 20 = .ok (.aload_n 0, 1) := by decide +kernel
theorem dX3_isRight_21 : decode cX3_isRight 21 = .ok (.getfield 17, 3) := by decide +kernel
theorem dX3_isRight_24 : decode cX3_isRight 24 = .ok (.getfield 70, 3) := by decide +kernel
theorem dX3_isRight_27 : decode cX3_isRight 27 = .ok (.iload 4, 2) := by decide +kernel
theorem dX3_isRight_29 : decode cX3_isRight 29 = .ok (.iconst 0, 1) := by decide +kernel
theorem dX3_isRight_30 : decode cX3_isRight 30 = .ok (.invokevirtual 73, 3) := by decide +kernel
theorem m_459 : Cond.methodLink RX3 73 yX8_at ∈ BW := iB_BW25 _ (List.mem_of_getElem? (i := 3) rfl)
theorem si_X3_73 : SV RX3 RX8 73 yX8_at cX8_at 3 (some .int) 2 := ⟨⟨m_459, m_312, m_313, m_104, m_314⟩, rfl, nK_RX8.1, nK_RX8.2, pd_2⟩
theorem dX3_isRight_33 : decode cX3_isRight 33 = .ok (.iload_n 1, 1) := by decide +kernel
theorem dX3_isRight_34 : decode cX3_isRight 34 = .ok (.if_icmp .eq 6, 3) := by decide +kernel
theorem dX3_isRight_40 : decode cX3_isRight 40 = .ok (.iload_n 3, 1) := by decide +kernel
theorem dX3_isRight_41 : decode cX3_isRight 41 = .ok (.ifCond .lt 29, 3) := by decide +kernel
theorem dX3_isRight_70 : decode cX3_isRight 70 = .ok (.iload 4, 2) := by decide +kernel
theorem dX3_isRight_72 : decode cX3_isRight 72 = .ok (.istore_n 3, 1) := by decide +kernel
theorem dX3_isRight_73 : decode cX3_isRight 73 = .ok (.iinc 4 1, 3) := by decide +kernel
theorem dX3_isRight_76 : decode cX3_isRight 76 = .ok (.goto (-71), 3) := by decide +kernel
theorem dX3_isRight_44 : decode cX3_isRight 44 = .ok (.aload_n 2, 1) := by decide +kernel
theorem dX3_isRight_45 : decode cX3_isRight 45 = .ok (.aload_n 0, 1) := by decide +kernel
theorem dX3_isRight_46 : decode cX3_isRight 46 = .ok (.getfield 17, 3) := by decide +kernel
theorem dX3_isRight_49 : decode cX3_isRight 49 = .ok (.getfield 70, 3) := by decide +kernel
theorem dX3_isRight_52 : decode cX3_isRight 52 = .ok (.iload_n 3, 1) := by decide +kernel
theorem dX3_isRight_53 : decode cX3_isRight 53 = .ok (.iload 4, 2) := by decide +kernel
theorem dX3_isRight_55 : decode cX3_isRight 55 = .ok (.aload_n 0, 1) := by decide +kernel
theorem dX3_isRight_56 : decode cX3_isRight 56 = .ok (.getfield 17, 3) := by decide +kernel
theorem dX3_isRight_59 : decode cX3_isRight 59 = .ok (.getfield 77, 3) := by decide +kernel
theorem nm_36 : Cond.fieldLinkNest RX3 77 RX0 "gap" "I" RX11 ∈ NestW := List.mem_of_getElem? (i := 36) rfl
theorem gf_X3_77 (hC : CX p s m meth c y0 b0 mL0 rt0 args) (hy0 : y0.cls = RX3) (hK : KK G s) (hP : va_P G.1 vwCl ws H) (q0 : Nat) {fs : List Value} {v : Value} (he : ws[q0]? = some (a, .inr (0, fs))) (hv : fs[13]? = some v) (hdg : decode b0 pc = .ok (.getfield 77, 3)) (kk : W p l e R s m args below meth c H locs cells slots Q (F0 m (pc + 3) ls (v :: rest))) : W p l e R s m args below meth c H locs cells slots Q (F0 m pc ls (.ref a :: rest)) := by
  obtain ⟨hx, hb, hr, hml, hB, hown, hlocks, hnm⟩ := hC
  rw [hy0] at hown
  exact va_getN (ci := 0) (C := RX0) (T := TX0) (N := 14) hx hb hB in_X0 hown hK.1 hP q0 he rfl 13 (by decide) (va_Nw.use rfl (hK.2.1 _ nm_36)) (fun _ h => h) hv hdg kk
theorem dX3_isRight_62 : decode cX3_isRight 62 = .ok (.invokevirtual 80, 3) := by decide +kernel
theorem m_460 : Cond.methodLink RX3 80 yX1_follow ∈ BW := iB_BW25 _ (List.mem_of_getElem? (i := 4) rfl)
theorem si_X3_80 : SV RX3 RX1 80 yX1_follow cX1_follow 8 (some .boolean) 4 := ⟨⟨m_460, m_461, m_462, m_107, m_463⟩, rfl, nK_RX1.1, nK_RX1.2, pd_10⟩
theorem dX3_isRight_65 : decode cX3_isRight 65 = .ok (.ifCond .ne 5, 3) := by decide +kernel
theorem dX3_isRight_68 : decode cX3_isRight 68 = .ok (.iconst 0, 1) := by decide +kernel
theorem dX3_isRight_69 : decode cX3_isRight 69 = .ok (.ireturn, 1) := by decide +kernel
theorem dX3_isRight_37 : decode cX3_isRight 37 = .ok (.goto 36, 3) := by decide +kernel
theorem dX3_holdOrLeave_0 : decode cX3_holdOrLeave 0 = .ok (.iload 4, 2) := by decide +kernel
theorem dX3_holdOrLeave_2 : decode cX3_holdOrLeave 2 = .ok (.ifCond .lt 15, 3) := by decide +kernel
theorem dX3_holdOrLeave_5 : decode cX3_holdOrLeave 5 = .ok (.iload 4, 2) := by decide +kernel
theorem dX3_holdOrLeave_7 : decode cX3_holdOrLeave 7 = .ok (.iconst 1, 1) := by decide +kernel
theorem dX3_holdOrLeave_8 : decode cX3_holdOrLeave 8 = .ok (.iadd, 1) := by decide +kernel
theorem dX3_holdOrLeave_9 : decode cX3_holdOrLeave 9 = .ok (.aload_n 0, 1) := by decide +kernel
theorem dX3_holdOrLeave_10 : decode cX3_holdOrLeave 10 = .ok (.getfield 11, 3) := by decide +kernel
theorem m_192 : Cond.fieldLink RX3 11 "InquiryBench$Doubt" "held" "[LInquiryBench$Clocks;" ∈ BW := iB_BW10 _ (List.mem_of_getElem? (i := 10) rfl)
theorem gf_X3_11 (hC : CX p s m meth c y0 b0 mL0 rt0 args) (hy0 : y0.cls = RX3) (hK : KK G s) (hP : va_P G.1 vwCl ws H) (q0 : Nat) {fs : List Value} {v : Value} (he : ws[q0]? = some (a, .inr (3, fs))) (hv : fs[1]? = some v) (hdg : decode b0 pc = .ok (.getfield 11, 3)) (kk : W p l e R s m args below meth c H locs cells slots Q (F0 m (pc + 3) ls (v :: rest))) : W p l e R s m args below meth c H locs cells slots Q (F0 m pc ls (.ref a :: rest)) := by
  obtain ⟨hx, hb, hr, hml, hB, hown, hlocks, hnm⟩ := hC
  rw [hy0] at hown
  exact va_get (ci := 3) (C := RX3) (T := TX3) (N := 5) hx hb hB in_X3 hown hK.1 hP q0 he rfl 1 (by decide) (hB _ m_192) (fun _ h => h) hv hdg kk
theorem dX3_holdOrLeave_13 : decode cX3_holdOrLeave 13 = .ok (.arraylength, 1) := by decide +kernel
theorem dX3_holdOrLeave_14 : decode cX3_holdOrLeave 14 = .ok (.if_icmp .lt 4, 3) := by decide +kernel
theorem dX3_holdOrLeave_18 : decode cX3_holdOrLeave 18 = .ok (.aload_n 0, 1) := by decide +kernel
theorem dX3_holdOrLeave_19 : decode cX3_holdOrLeave 19 = .ok (.getfield 11, 3) := by decide +kernel
theorem dX3_holdOrLeave_22 : decode cX3_holdOrLeave 22 = .ok (.iload 4, 2) := by decide +kernel
theorem dX3_holdOrLeave_24 : decode cX3_holdOrLeave 24 = .ok (.iconst 1, 1) := by decide +kernel
theorem dX3_holdOrLeave_25 : decode cX3_holdOrLeave 25 = .ok (.iadd, 1) := by decide +kernel
theorem dX3_holdOrLeave_26 : decode cX3_holdOrLeave 26 = .ok (.aaload, 1) := by decide +kernel
theorem aldC (hC : CX p s m meth c y0 b0 mL0 rt0 args) (hK : KK G s) (hP : va_P G.1 vwCl ws H) (q0 : Nat) {n : Nat} {f : Nat → Option Nat} (ha : ws[q0]? = some (a, .inl (G.2.2.1, n, .inr (.inr (.inr (.inr f)))))) {i : Int32} (hin : vp_in i n) {k v : Nat} (hk : i.toNatClampNeg = k) (hv : f k = some v) (hdg : decode b0 pc = .ok (.aaload, 1)) (kk : W p l e R s m args below meth c H locs cells slots Q (F0 m (pc + 1) ls (.ref v :: rest))) : W p l e R s m args below meth c H locs cells slots Q (F0 m pc ls (.int i :: .ref a :: rest)) := by
  obtain ⟨hx, hb, hr, hml, hB, hown, hlocks, hnm⟩ := hC
  refine va_aldq hx hb hK.1 hP q0 1 ha rfl hin hdg ?_
  rw [hk, hv]
  exact kk
theorem dX3_holdOrLeave_27 : decode cX3_holdOrLeave 27 = .ok (.aload_n 0, 1) := by decide +kernel
theorem dX3_holdOrLeave_28 : decode cX3_holdOrLeave 28 = .ok (.getfield 11, 3) := by decide +kernel
theorem dX3_holdOrLeave_31 : decode cX3_holdOrLeave 31 = .ok (.iload 4, 2) := by decide +kernel
theorem dX3_holdOrLeave_33 : decode cX3_holdOrLeave 33 = .ok (.aaload, 1) := by decide +kernel
theorem dX3_holdOrLeave_34 : decode cX3_holdOrLeave 34 = .ok (.invokevirtual 62, 3) := by decide +kernel
theorem m_452 : Cond.code yX1_copy cX1_copy 2 none ∈ BW := iB_BW24 _ (List.mem_of_getElem? (i := 16) rfl)
theorem pd_11 : (parseMethodDescriptor "(LInquiryBench$Clocks;)V").map (fun d => d.parameters.length) = some 1 := by decide +kernel
theorem m_449 : Cond.methodLink RX3 62 yX1_copy ∈ BW := iB_BW24 _ (List.mem_of_getElem? (i := 13) rfl)
theorem m_450 : Cond.instanceMethod yX1_copy ∈ BW := iB_BW24 _ (List.mem_of_getElem? (i := 14) rfl)
theorem m_451 : Cond.selects RX1 yX1_copy yX1_copy ∈ BW := iB_BW24 _ (List.mem_of_getElem? (i := 15) rfl)
theorem si_X3_62 : SV RX3 RX1 62 yX1_copy cX1_copy 2 none 1 := ⟨⟨m_449, m_450, m_451, m_107, m_452⟩, rfl, nK_RX1.1, nK_RX1.2, pd_11⟩
theorem dX3_holdOrLeave_37 : decode cX3_holdOrLeave 37 = .ok (.aload_n 0, 1) := by decide +kernel
theorem dX3_holdOrLeave_38 : decode cX3_holdOrLeave 38 = .ok (.iload_n 1, 1) := by decide +kernel
theorem dX3_holdOrLeave_39 : decode cX3_holdOrLeave 39 = .ok (.aload_n 0, 1) := by decide +kernel
theorem dX3_holdOrLeave_40 : decode cX3_holdOrLeave 40 = .ok (.getfield 11, 3) := by decide +kernel
theorem dX3_holdOrLeave_43 : decode cX3_holdOrLeave 43 = .ok (.iload 4, 2) := by decide +kernel
theorem dX3_holdOrLeave_45 : decode cX3_holdOrLeave 45 = .ok (.iconst 1, 1) := by decide +kernel
theorem dX3_holdOrLeave_46 : decode cX3_holdOrLeave 46 = .ok (.iadd, 1) := by decide +kernel
theorem dX3_holdOrLeave_47 : decode cX3_holdOrLeave 47 = .ok (.aaload, 1) := by decide +kernel
theorem dX3_holdOrLeave_48 : decode cX3_holdOrLeave 48 = .ok (.invokevirtual 66, 3) := by decide +kernel
theorem m_458 : Cond.code yX3_isRight cX3_isRight 5 (some .boolean) ∈ BW := iB_BW25 _ (List.mem_of_getElem? (i := 2) rfl)
theorem m_108 : Cond.initialized RX3 ∈ BW := iB_BW6 _ (List.mem_of_getElem? (i := 6) rfl)
theorem nK_RX3 : RX3 ≠ "java/lang/invoke/MethodHandle" ∧ RX3 ≠ "java/lang/invoke/VarHandle" := ⟨by decide +kernel, by decide +kernel⟩
theorem pd_12 : (parseMethodDescriptor "(ILInquiryBench$Clocks;)Z").map (fun d => d.parameters.length) = some 2 := by decide +kernel
theorem m_456 : Cond.methodLink RX3 66 yX3_isRight ∈ BW := iB_BW25 _ (List.mem_of_getElem? (i := 0) rfl)
theorem m_457 : Cond.instanceMethod yX3_isRight ∈ BW := iB_BW25 _ (List.mem_of_getElem? (i := 1) rfl)
theorem m_2 : Cond.selects RX3 yX3_isRight yX3_isRight ∈ BW := iB_BW0 _ (List.mem_of_getElem? (i := 2) rfl)
theorem si_X3_66 : SV RX3 RX3 66 yX3_isRight cX3_isRight 5 (some .boolean) 2 := ⟨⟨m_456, m_457, m_2, m_108, m_458⟩, rfl, nK_RX3.1, nK_RX3.2, pd_12⟩
theorem dX3_holdOrLeave_51 : decode cX3_holdOrLeave 51 = .ok (.ifCond .eq 16, 3) := by decide +kernel
theorem dX3_holdOrLeave_54 : decode cX3_holdOrLeave 54 = .ok (.aload_n 0, 1) := by decide +kernel
theorem dX3_holdOrLeave_55 : decode cX3_holdOrLeave 55 = .ok (.iload_n 1, 1) := by decide +kernel
theorem dX3_holdOrLeave_56 : decode cX3_holdOrLeave 56 = .ok (.iconst 1, 1) := by decide +kernel
theorem dX3_holdOrLeave_57 : decode cX3_holdOrLeave 57 = .ok (.isub, 1) := by decide +kernel
theorem dX3_holdOrLeave_58 : decode cX3_holdOrLeave 58 = .ok (.iload_n 2, 1) := by decide +kernel
theorem dX3_holdOrLeave_59 : decode cX3_holdOrLeave 59 = .ok (.iload_n 3, 1) := by decide +kernel
theorem dX3_holdOrLeave_60 : decode cX3_holdOrLeave 60 = .ok (.iload 4, 2) := by decide +kernel
theorem dX3_holdOrLeave_62 : decode cX3_holdOrLeave 62 = .ok (.iconst 1, 1) := by decide +kernel
theorem dX3_holdOrLeave_63 : decode cX3_holdOrLeave 63 = .ok (.iadd, 1) := by decide +kernel
theorem dX3_holdOrLeave_64 : decode cX3_holdOrLeave 64 = .ok (.invokevirtual 55, 3) := by decide +kernel
theorem m_445 : Cond.code yX3_search cX3_search 6 none ∈ BW := iB_BW24 _ (List.mem_of_getElem? (i := 9) rfl)
theorem pd_13 : (parseMethodDescriptor "(IIII)V").map (fun d => d.parameters.length) = some 4 := by decide +kernel
theorem m_443 : Cond.methodLink RX3 55 yX3_search ∈ BW := iB_BW24 _ (List.mem_of_getElem? (i := 7) rfl)
theorem m_444 : Cond.instanceMethod yX3_search ∈ BW := iB_BW24 _ (List.mem_of_getElem? (i := 8) rfl)
theorem m_0 : Cond.selects RX3 yX3_search yX3_search ∈ BW := iB_BW0 _ (List.mem_of_getElem? (i := 0) rfl)
theorem si_X3_55 : SV RX3 RX3 55 yX3_search cX3_search 6 none 4 := ⟨⟨m_443, m_444, m_0, m_108, m_445⟩, rfl, nK_RX3.1, nK_RX3.2, pd_13⟩
theorem dX3_holdOrLeave_67 : decode cX3_holdOrLeave 67 = .ok (.aload_n 0, 1) := by decide +kernel
theorem dX3_holdOrLeave_68 : decode cX3_holdOrLeave 68 = .ok (.iload_n 1, 1) := by decide +kernel
theorem dX3_holdOrLeave_69 : decode cX3_holdOrLeave 69 = .ok (.iconst 1, 1) := by decide +kernel
theorem dX3_holdOrLeave_70 : decode cX3_holdOrLeave 70 = .ok (.isub, 1) := by decide +kernel
theorem dX3_holdOrLeave_71 : decode cX3_holdOrLeave 71 = .ok (.iload_n 2, 1) := by decide +kernel
theorem dX3_holdOrLeave_72 : decode cX3_holdOrLeave 72 = .ok (.iconst 1, 1) := by decide +kernel
theorem dX3_holdOrLeave_73 : decode cX3_holdOrLeave 73 = .ok (.iload_n 1, 1) := by decide +kernel
theorem dX3_holdOrLeave_74 : decode cX3_holdOrLeave 74 = .ok (.ishl, 1) := by decide +kernel
theorem dX3_holdOrLeave_75 : decode cX3_holdOrLeave 75 = .ok (.ior, 1) := by decide +kernel
theorem dX3_holdOrLeave_76 : decode cX3_holdOrLeave 76 = .ok (.iload_n 3, 1) := by decide +kernel
theorem dX3_holdOrLeave_77 : decode cX3_holdOrLeave 77 = .ok (.iconst 1, 1) := by decide +kernel
theorem dX3_holdOrLeave_78 : decode cX3_holdOrLeave 78 = .ok (.iadd, 1) := by decide +kernel
theorem dX3_holdOrLeave_79 : decode cX3_holdOrLeave 79 = .ok (.iload 4, 2) := by decide +kernel
theorem dX3_holdOrLeave_81 : decode cX3_holdOrLeave 81 = .ok (.invokevirtual 55, 3) := by decide +kernel
theorem dX3_holdOrLeave_84 : decode cX3_holdOrLeave 84 = .ok (.return_, 1) := by decide +kernel
theorem dX3_holdOrLeave_17 : decode cX3_holdOrLeave 17 = .ok (.return_, 1) := by decide +kernel
theorem dX3_search_0 : decode cX3_search 0 = .ok (.iload_n 3, 1) := by decide +kernel
theorem dX3_search_1 : decode cX3_search 1 = .ok (.aload_n 0, 1) := by decide +kernel
theorem dX3_search_2 : decode cX3_search 2 = .ok (.getfield 26, 3) := by decide +kernel
theorem m_194 : Cond.fieldLink RX3 26 "InquiryBench$Doubt" "least" "I" ∈ BW := iB_BW10 _ (List.mem_of_getElem? (i := 12) rfl)
theorem gf_X3_26 (hC : CX p s m meth c y0 b0 mL0 rt0 args) (hy0 : y0.cls = RX3) (hK : KK G s) (hP : va_P G.1 vwCl ws H) (q0 : Nat) {fs : List Value} {v : Value} (he : ws[q0]? = some (a, .inr (3, fs))) (hv : fs[3]? = some v) (hdg : decode b0 pc = .ok (.getfield 26, 3)) (kk : W p l e R s m args below meth c H locs cells slots Q (F0 m (pc + 3) ls (v :: rest))) : W p l e R s m args below meth c H locs cells slots Q (F0 m pc ls (.ref a :: rest)) := by
  obtain ⟨hx, hb, hr, hml, hB, hown, hlocks, hnm⟩ := hC
  rw [hy0] at hown
  exact va_get (ci := 3) (C := RX3) (T := TX3) (N := 5) hx hb hB in_X3 hown hK.1 hP q0 he rfl 3 (by decide) (hB _ m_194) (fun _ h => h) hv hdg kk
theorem dX3_search_5 : decode cX3_search 5 = .ok (.if_icmp .lt 4, 3) := by decide +kernel
theorem dX3_search_9 : decode cX3_search 9 = .ok (.iload_n 1, 1) := by decide +kernel
theorem dX3_search_10 : decode cX3_search 10 = .ok (.istore 5, 2) := by decide +kernel
theorem dX3_search_12 : decode cX3_search 12 = .ok (.iload 5, 2) := by decide +kernel
theorem dX3_search_14 : decode cX3_search 14 = .ok (.ifCond .lt 21, 3) := by decide +kernel
theorem dX3_search_35 : decode cX3_search 35 = .ok (.iload 5, 2) := by decide +kernel
theorem dX3_search_37 : decode cX3_search 37 = .ok (.ifCond .ge 16, 3) := by decide +kernel
theorem dX3_search_40 : decode cX3_search 40 = .ok (.aload_n 0, 1) := by decide +kernel
theorem dX3_search_41 : decode cX3_search 41 = .ok (.iload_n 3, 1) := by decide +kernel
theorem dX3_search_42 : decode cX3_search 42 = .ok (.putfield 26, 3) := by decide +kernel
theorem pf_X3_26 (hC : CX p s m meth c y0 b0 mL0 rt0 args) (hy0 : y0.cls = RX3) (hK : KK G s) (hP : va_P G.1 vwCl ws H) (hD : va_D A ws) (hS : va_S A H0 H locs) (q0 : Nat) {fs : List Value} {v : Value} {ws' : va_W} (he : ws[q0]? = some (a, .inr (3, fs))) (hl : 3 < fs.length) (hws : ws.set q0 (a, .inr (3, fs.set 3 v)) = ws') (hn : narrow .int v = v) (hfit : fits .int v = true) (hdg : decode b0 pc = .ok (.putfield 26, 3)) (kk : ∀ (H1 : Heap) (locs1 : List Loc), va_P G.1 vwCl ws' H1 → va_D A ws' → va_S A H0 H1 locs1 → W p l e R s m args below meth c H1 locs1 cells slots Q (F0 m (pc + 3) ls rest)) : W p l e R s m args below meth c H locs cells slots Q (F0 m pc ls (v :: .ref a :: rest)) := by
  obtain ⟨hx, hb, hr, hml, hB, hown, hlocks, hnm⟩ := hC
  rw [hy0] at hown
  subst hws
  exact va_put (ci := 3) (ty := .int) (C := RX3) (T := TX3) (N := 5) hx hb hB in_X3 tyX3 tyX3_ok nmX3 hown hK.1 hP hD hS q0 he rfl 3 (by decide) (hB _ m_194) (fun _ h => h) rfl (by decide +kernel) hn hfit hl hdg kk
theorem dX3_search_45 : decode cX3_search 45 = .ok (.aload_n 0, 1) := by decide +kernel
theorem dX3_search_46 : decode cX3_search 46 = .ok (.iload_n 2, 1) := by decide +kernel
theorem dX3_search_47 : decode cX3_search 47 = .ok (.putfield 29, 3) := by decide +kernel
theorem m_195 : Cond.fieldLink RX3 29 "InquiryBench$Doubt" "bits" "I" ∈ BW := iB_BW10 _ (List.mem_of_getElem? (i := 13) rfl)
theorem pf_X3_29 (hC : CX p s m meth c y0 b0 mL0 rt0 args) (hy0 : y0.cls = RX3) (hK : KK G s) (hP : va_P G.1 vwCl ws H) (hD : va_D A ws) (hS : va_S A H0 H locs) (q0 : Nat) {fs : List Value} {v : Value} {ws' : va_W} (he : ws[q0]? = some (a, .inr (3, fs))) (hl : 4 < fs.length) (hws : ws.set q0 (a, .inr (3, fs.set 4 v)) = ws') (hn : narrow .int v = v) (hfit : fits .int v = true) (hdg : decode b0 pc = .ok (.putfield 29, 3)) (kk : ∀ (H1 : Heap) (locs1 : List Loc), va_P G.1 vwCl ws' H1 → va_D A ws' → va_S A H0 H1 locs1 → W p l e R s m args below meth c H1 locs1 cells slots Q (F0 m (pc + 3) ls rest)) : W p l e R s m args below meth c H locs cells slots Q (F0 m pc ls (v :: .ref a :: rest)) := by
  obtain ⟨hx, hb, hr, hml, hB, hown, hlocks, hnm⟩ := hC
  rw [hy0] at hown
  subst hws
  exact va_put (ci := 3) (ty := .int) (C := RX3) (T := TX3) (N := 5) hx hb hB in_X3 tyX3 tyX3_ok nmX3 hown hK.1 hP hD hS q0 he rfl 4 (by decide) (hB _ m_195) (fun _ h => h) rfl (by decide +kernel) hn hfit hl hdg kk
theorem dX3_search_50 : decode cX3_search 50 = .ok (.goto 13, 3) := by decide +kernel
theorem dX3_search_63 : decode cX3_search 63 = .ok (.return_, 1) := by decide +kernel
theorem dX3_search_17 : decode cX3_search 17 = .ok (.aload_n 0, 1) := by decide +kernel
theorem dX3_search_18 : decode cX3_search 18 = .ok (.getfield 22, 3) := by decide +kernel
theorem m_193 : Cond.fieldLink RX3 22 "InquiryBench$Doubt" "bound" "I" ∈ BW := iB_BW10 _ (List.mem_of_getElem? (i := 11) rfl)
theorem gf_X3_22 (hC : CX p s m meth c y0 b0 mL0 rt0 args) (hy0 : y0.cls = RX3) (hK : KK G s) (hP : va_P G.1 vwCl ws H) (q0 : Nat) {fs : List Value} {v : Value} (he : ws[q0]? = some (a, .inr (3, fs))) (hv : fs[2]? = some v) (hdg : decode b0 pc = .ok (.getfield 22, 3)) (kk : W p l e R s m args below meth c H locs cells slots Q (F0 m (pc + 3) ls (v :: rest))) : W p l e R s m args below meth c H locs cells slots Q (F0 m pc ls (.ref a :: rest)) := by
  obtain ⟨hx, hb, hr, hml, hB, hown, hlocks, hnm⟩ := hC
  rw [hy0] at hown
  exact va_get (ci := 3) (C := RX3) (T := TX3) (N := 5) hx hb hB in_X3 hown hK.1 hP q0 he rfl 2 (by decide) (hB _ m_193) (fun _ h => h) hv hdg kk
theorem dX3_search_21 : decode cX3_search 21 = .ok (.iload 5, 2) := by decide +kernel
theorem dX3_search_23 : decode cX3_search 23 = .ok (.invokestatic 44, 3) := by decide +kernel
theorem nm_44 : Cond.methodLinkNest RX3 44 yX11_hasBit RX11 ∈ NestW := List.mem_of_getElem? (i := 44) rfl
theorem si_X3_44 : SSN RX3 RX11 44 yX11_hasBit cX11_hasBit 2 (some .boolean) 2 := ⟨⟨nm_44, m_350, m_102, m_351⟩, ⟨nK_RX11.1, nK_RX11.2, pd_3⟩⟩
theorem dX3_search_26 : decode cX3_search 26 = .ok (.ifCond .ne 9, 3) := by decide +kernel
theorem dX3_search_53 : decode cX3_search 53 = .ok (.aload_n 0, 1) := by decide +kernel
theorem dX3_search_54 : decode cX3_search 54 = .ok (.iload 5, 2) := by decide +kernel
theorem dX3_search_56 : decode cX3_search 56 = .ok (.iload_n 2, 1) := by decide +kernel
theorem dX3_search_57 : decode cX3_search 57 = .ok (.iload_n 3, 1) := by decide +kernel
theorem dX3_search_58 : decode cX3_search 58 = .ok (.iload 4, 2) := by decide +kernel
theorem dX3_search_60 : decode cX3_search 60 = .ok (.invokevirtual 59, 3) := by decide +kernel
theorem m_448 : Cond.code yX3_holdOrLeave cX3_holdOrLeave 5 none ∈ BW := iB_BW24 _ (List.mem_of_getElem? (i := 12) rfl)
theorem m_446 : Cond.methodLink RX3 59 yX3_holdOrLeave ∈ BW := iB_BW24 _ (List.mem_of_getElem? (i := 10) rfl)
theorem m_447 : Cond.instanceMethod yX3_holdOrLeave ∈ BW := iB_BW24 _ (List.mem_of_getElem? (i := 11) rfl)
theorem m_1 : Cond.selects RX3 yX3_holdOrLeave yX3_holdOrLeave ∈ BW := iB_BW0 _ (List.mem_of_getElem? (i := 1) rfl)
theorem si_X3_59 : SV RX3 RX3 59 yX3_holdOrLeave cX3_holdOrLeave 5 none 4 := ⟨⟨m_446, m_447, m_1, m_108, m_448⟩, rfl, nK_RX3.1, nK_RX3.2, pd_13⟩
theorem dX3_search_29 : decode cX3_search 29 = .ok (.iinc 5 (-1), 3) := by decide +kernel
theorem dX3_search_32 : decode cX3_search 32 = .ok (.goto (-20), 3) := by decide +kernel
theorem dX3_search_8 : decode cX3_search 8 = .ok (.return_, 1) := by decide +kernel
theorem dX3_fewest_0 : decode cX3_fewest 0 = .ok (.aload_n 0, 1) := by decide +kernel
theorem dX3_fewest_1 : decode cX3_fewest 1 = .ok (.iconst 0, 1) := by decide +kernel
theorem dX3_fewest_2 : decode cX3_fewest 2 = .ok (.putfield 22, 3) := by decide +kernel
theorem pf_X3_22 (hC : CX p s m meth c y0 b0 mL0 rt0 args) (hy0 : y0.cls = RX3) (hK : KK G s) (hP : va_P G.1 vwCl ws H) (hD : va_D A ws) (hS : va_S A H0 H locs) (q0 : Nat) {fs : List Value} {v : Value} {ws' : va_W} (he : ws[q0]? = some (a, .inr (3, fs))) (hl : 2 < fs.length) (hws : ws.set q0 (a, .inr (3, fs.set 2 v)) = ws') (hn : narrow .int v = v) (hfit : fits .int v = true) (hdg : decode b0 pc = .ok (.putfield 22, 3)) (kk : ∀ (H1 : Heap) (locs1 : List Loc), va_P G.1 vwCl ws' H1 → va_D A ws' → va_S A H0 H1 locs1 → W p l e R s m args below meth c H1 locs1 cells slots Q (F0 m (pc + 3) ls rest)) : W p l e R s m args below meth c H locs cells slots Q (F0 m pc ls (v :: .ref a :: rest)) := by
  obtain ⟨hx, hb, hr, hml, hB, hown, hlocks, hnm⟩ := hC
  rw [hy0] at hown
  subst hws
  exact va_put (ci := 3) (ty := .int) (C := RX3) (T := TX3) (N := 5) hx hb hB in_X3 tyX3 tyX3_ok nmX3 hown hK.1 hP hD hS q0 he rfl 2 (by decide) (hB _ m_193) (fun _ h => h) rfl (by decide +kernel) hn hfit hl hdg kk
theorem dX3_fewest_5 : decode cX3_fewest 5 = .ok (.iconst 0, 1) := by decide +kernel
theorem dX3_fewest_6 : decode cX3_fewest 6 = .ok (.istore_n 2, 1) := by decide +kernel
theorem dX3_fewest_7 : decode cX3_fewest 7 = .ok (.iload_n 2, 1) := by decide +kernel
theorem dX3_fewest_8 : decode cX3_fewest 8 = .ok (.aload_n 0, 1) := by decide +kernel
theorem dX3_fewest_9 : decode cX3_fewest 9 = .ok (.getfield 17, 3) := by decide +kernel
theorem dX3_fewest_12 : decode cX3_fewest 12 = .ok (.getfield 32, 3) := by decide +kernel
theorem nm_4 : Cond.fieldLinkNest RX3 32 RX0 "papers" "LInquiryBench$Table;" RX11 ∈ NestW := List.mem_of_getElem? (i := 4) rfl
theorem gf_X3_32 (hC : CX p s m meth c y0 b0 mL0 rt0 args) (hy0 : y0.cls = RX3) (hK : KK G s) (hP : va_P G.1 vwCl ws H) (q0 : Nat) {fs : List Value} {v : Value} (he : ws[q0]? = some (a, .inr (0, fs))) (hv : fs[1]? = some v) (hdg : decode b0 pc = .ok (.getfield 32, 3)) (kk : W p l e R s m args below meth c H locs cells slots Q (F0 m (pc + 3) ls (v :: rest))) : W p l e R s m args below meth c H locs cells slots Q (F0 m pc ls (.ref a :: rest)) := by
  obtain ⟨hx, hb, hr, hml, hB, hown, hlocks, hnm⟩ := hC
  rw [hy0] at hown
  exact va_getN (ci := 0) (C := RX0) (T := TX0) (N := 14) hx hb hB in_X0 hown hK.1 hP q0 he rfl 1 (by decide) (va_Nw.use rfl (hK.2.1 _ nm_4)) (fun _ h => h) hv hdg kk
theorem dX3_fewest_15 : decode cX3_fewest 15 = .ok (.invokevirtual 38, 3) := by decide +kernel
theorem dX3_fewest_18 : decode cX3_fewest 18 = .ok (.if_icmp .ge 41, 3) := by decide +kernel
theorem dX3_fewest_59 : decode cX3_fewest 59 = .ok (.aload_n 0, 1) := by decide +kernel
theorem dX3_fewest_60 : decode cX3_fewest 60 = .ok (.bipush 13, 2) := by decide +kernel
theorem dX3_fewest_62 : decode cX3_fewest 62 = .ok (.putfield 26, 3) := by decide +kernel
theorem dX3_fewest_65 : decode cX3_fewest 65 = .ok (.aload_n 0, 1) := by decide +kernel
theorem dX3_fewest_66 : decode cX3_fewest 66 = .ok (.iconst 0, 1) := by decide +kernel
theorem dX3_fewest_67 : decode cX3_fewest 67 = .ok (.putfield 29, 3) := by decide +kernel
theorem dX3_fewest_70 : decode cX3_fewest 70 = .ok (.aload_n 0, 1) := by decide +kernel
theorem dX3_fewest_71 : decode cX3_fewest 71 = .ok (.getfield 11, 3) := by decide +kernel
theorem dX3_fewest_74 : decode cX3_fewest 74 = .ok (.iconst 0, 1) := by decide +kernel
theorem dX3_fewest_75 : decode cX3_fewest 75 = .ok (.aaload, 1) := by decide +kernel
theorem dX3_fewest_76 : decode cX3_fewest 76 = .ok (.invokevirtual 52, 3) := by decide +kernel
theorem m_439 : Cond.methodLink RX3 52 yX1_free ∈ BW := iB_BW24 _ (List.mem_of_getElem? (i := 3) rfl)
theorem si_X3_52 : SV RX3 RX1 52 yX1_free cX1_free 4 none 0 := ⟨⟨m_439, m_440, m_441, m_107, m_442⟩, rfl, nK_RX1.1, nK_RX1.2, pd_9⟩
theorem dX3_fewest_79 : decode cX3_fewest 79 = .ok (.aload_n 0, 1) := by decide +kernel
theorem dX3_fewest_80 : decode cX3_fewest 80 = .ok (.bipush 11, 2) := by decide +kernel
theorem dX3_fewest_82 : decode cX3_fewest 82 = .ok (.iconst 0, 1) := by decide +kernel
theorem dX3_fewest_83 : decode cX3_fewest 83 = .ok (.iconst 0, 1) := by decide +kernel
theorem dX3_fewest_84 : decode cX3_fewest 84 = .ok (.iconst 0, 1) := by decide +kernel
theorem dX3_fewest_85 : decode cX3_fewest 85 = .ok (.invokevirtual 55, 3) := by decide +kernel
theorem dX3_fewest_88 : decode cX3_fewest 88 = .ok (.aload_n 0, 1) := by decide +kernel
theorem dX3_fewest_89 : decode cX3_fewest 89 = .ok (.getfield 29, 3) := by decide +kernel
theorem gf_X3_29 (hC : CX p s m meth c y0 b0 mL0 rt0 args) (hy0 : y0.cls = RX3) (hK : KK G s) (hP : va_P G.1 vwCl ws H) (q0 : Nat) {fs : List Value} {v : Value} (he : ws[q0]? = some (a, .inr (3, fs))) (hv : fs[4]? = some v) (hdg : decode b0 pc = .ok (.getfield 29, 3)) (kk : W p l e R s m args below meth c H locs cells slots Q (F0 m (pc + 3) ls (v :: rest))) : W p l e R s m args below meth c H locs cells slots Q (F0 m pc ls (.ref a :: rest)) := by
  obtain ⟨hx, hb, hr, hml, hB, hown, hlocks, hnm⟩ := hC
  rw [hy0] at hown
  exact va_get (ci := 3) (C := RX3) (T := TX3) (N := 5) hx hb hB in_X3 hown hK.1 hP q0 he rfl 4 (by decide) (hB _ m_195) (fun _ h => h) hv hdg kk
theorem dX3_fewest_92 : decode cX3_fewest 92 = .ok (.ireturn, 1) := by decide +kernel
theorem dX3_fewest_21 : decode cX3_fewest 21 = .ok (.iload_n 1, 1) := by decide +kernel
theorem dX3_fewest_22 : decode cX3_fewest 22 = .ok (.iload_n 2, 1) := by decide +kernel
theorem dX3_fewest_23 : decode cX3_fewest 23 = .ok (.invokestatic 44, 3) := by decide +kernel
theorem dX3_fewest_26 : decode cX3_fewest 26 = .ok (.ifCond .eq 27, 3) := by decide +kernel
theorem dX3_fewest_29 : decode cX3_fewest 29 = .ok (.aload_n 0, 1) := by decide +kernel
theorem dX3_fewest_30 : decode cX3_fewest 30 = .ok (.getfield 17, 3) := by decide +kernel
theorem dX3_fewest_33 : decode cX3_fewest 33 = .ok (.iload_n 2, 1) := by decide +kernel
theorem dX3_fewest_34 : decode cX3_fewest 34 = .ok (.invokevirtual 48, 3) := by decide +kernel
theorem m_386 : Cond.code yX0_countStamps cX0_countStamps 4 (some .int) ∈ BW := iB_BW21 _ (List.mem_of_getElem? (i := 10) rfl)
theorem m_438 : Cond.methodLink RX3 48 yX0_countStamps ∈ BW := iB_BW24 _ (List.mem_of_getElem? (i := 2) rfl)
theorem m_384 : Cond.instanceMethod yX0_countStamps ∈ BW := iB_BW21 _ (List.mem_of_getElem? (i := 8) rfl)
theorem m_385 : Cond.selects RX0 yX0_countStamps yX0_countStamps ∈ BW := iB_BW21 _ (List.mem_of_getElem? (i := 9) rfl)
theorem si_X3_48 : SV RX3 RX0 48 yX0_countStamps cX0_countStamps 4 (some .int) 1 := ⟨⟨m_438, m_384, m_385, m_103, m_386⟩, rfl, nK_RX0.1, nK_RX0.2, pd_7⟩
theorem dX3_fewest_37 : decode cX3_fewest 37 = .ok (.iconst 1, 1) := by decide +kernel
theorem dX3_fewest_38 : decode cX3_fewest 38 = .ok (.if_icmp .le 15, 3) := by decide +kernel
theorem dX3_fewest_53 : decode cX3_fewest 53 = .ok (.iinc 2 1, 3) := by decide +kernel
theorem dX3_fewest_56 : decode cX3_fewest 56 = .ok (.goto (-49), 3) := by decide +kernel
theorem dX3_fewest_41 : decode cX3_fewest 41 = .ok (.aload_n 0, 1) := by decide +kernel
theorem dX3_fewest_42 : decode cX3_fewest 42 = .ok (.dup, 1) := by decide +kernel
theorem dX3_fewest_43 : decode cX3_fewest 43 = .ok (.getfield 22, 3) := by decide +kernel
theorem dX3_fewest_46 : decode cX3_fewest 46 = .ok (.iconst 1, 1) := by decide +kernel
theorem dX3_fewest_47 : decode cX3_fewest 47 = .ok (.iload_n 2, 1) := by decide +kernel
theorem dX3_fewest_48 : decode cX3_fewest 48 = .ok (.ishl, 1) := by decide +kernel
theorem dX3_fewest_49 : decode cX3_fewest 49 = .ok (.ior, 1) := by decide +kernel
theorem dX3_fewest_50 : decode cX3_fewest 50 = .ok (.putfield 22, 3) := by decide +kernel
end WR
theorem sm_2 {a0 a1 a2 : Nat × va_E} {l : va_W} : ([2] : List Nat).map (fun i => (a0 :: a1 :: a2 :: l : va_W)[i]?) = ([a2] : va_W).map some := rfl
theorem fm_2 {a0 a1 a2 : Nat × va_E} {l : va_W} : ([2] : List Nat).filterMap (fun i => (a0 :: a1 :: a2 :: l : va_W)[i]?) = ([a2] : va_W) := rfl
theorem nd_2 : va_nd [2] = true := by decide
theorem rm_4_3_8 {mc ms : Nat} : 3 + 1 ≤ (RM 4 mc ms).frames ∧ 8 + (8 + 11) + 40 * 3 ≤ (RM 4 mc ms).locals := ⟨by show 3 + 1 ≤ 4; decide, by show 8 + (8 + 11) + 40 * 3 ≤ 40 * 4; decide⟩
theorem sm_4_5_2_3 {a0 a1 a2 a3 a4 a5 : Nat × va_E} {l : va_W} : ([4, 5, 2, 3] : List Nat).map (fun i => (a0 :: a1 :: a2 :: a3 :: a4 :: a5 :: l : va_W)[i]?) = ([a4, a5, a2, a3] : va_W).map some := rfl
theorem fm_4_5_2_3 {a0 a1 a2 a3 a4 a5 : Nat × va_E} {l : va_W} : ([4, 5, 2, 3] : List Nat).filterMap (fun i => (a0 :: a1 :: a2 :: a3 :: a4 :: a5 :: l : va_W)[i]?) = ([a4, a5, a2, a3] : va_W) := rfl
theorem nd_4_5_2_3 : va_nd [4, 5, 2, 3] = true := by decide
theorem dj_4_5_2_3__0_1 : ∀ i ∈ ([0, 1] : List Nat), i ∉ ([4, 5, 2, 3] : List Nat) := by decide
theorem fm_0_1_4_5_2_3 {a0 a1 a2 a3 a4 a5 : Nat × va_E} {l : va_W} : ([0, 1, 4, 5, 2, 3] : List Nat).filterMap (fun i => (a0 :: a1 :: a2 :: a3 :: a4 :: a5 :: l : va_W)[i]?) = ([a0, a1, a4, a5, a2, a3] : va_W) := rfl
theorem nd_0_1_4_5_2_3 : va_nd [0, 1, 4, 5, 2, 3] = true := by decide
theorem sm_0_1_4_5_2_3 {a0 a1 a2 a3 a4 a5 : Nat × va_E} {l : va_W} : ([0, 1, 4, 5, 2, 3] : List Nat).map (fun i => (a0 :: a1 :: a2 :: a3 :: a4 :: a5 :: l : va_W)[i]?) = ([a0, a1, a4, a5, a2, a3] : va_W).map some := rfl
theorem sm_0_1_6_7_8_9_10_11_12_13_14_15_16_17_18_19_20_21_22_23_24_25_26_27_28_29_30 {a0 a1 a2 a3 a4 a5 a6 a7 a8 a9 a10 a11 a12 a13 a14 a15 a16 a17 a18 a19 a20 a21 a22 a23 a24 a25 a26 a27 a28 a29 a30 : Nat × va_E} {l : va_W} : ([0, 1, 6, 7, 8, 9, 10, 11, 12, 13, 14, 15, 16, 17, 18, 19, 20, 21, 22, 23, 24, 25, 26, 27, 28, 29, 30] : List Nat).map (fun i => (a0 :: a1 :: a2 :: a3 :: a4 :: a5 :: a6 :: a7 :: a8 :: a9 :: a10 :: a11 :: a12 :: a13 :: a14 :: a15 :: a16 :: a17 :: a18 :: a19 :: a20 :: a21 :: a22 :: a23 :: a24 :: a25 :: a26 :: a27 :: a28 :: a29 :: a30 :: l : va_W)[i]?) = ([a0, a1, a6, a7, a8, a9, a10, a11, a12, a13, a14, a15, a16, a17, a18, a19, a20, a21, a22, a23, a24, a25, a26, a27, a28, a29, a30] : va_W).map some := rfl
theorem nd_0_1_6_7_8_9_10_11_12_13_14_15_16_17_18_19_20_21_22_23_24_25_26_27_28_29_30 : va_nd [0, 1, 6, 7, 8, 9, 10, 11, 12, 13, 14, 15, 16, 17, 18, 19, 20, 21, 22, 23, 24, 25, 26, 27, 28, 29, 30] = true := by decide
theorem dj_4_5_2_3__0_1_6_7_8_9_10_11_12_13_14_15_16_17_18_19_20_21_22_23_24_25_26_27_28_29_30 : ∀ i ∈ ([0, 1, 6, 7, 8, 9, 10, 11, 12, 13, 14, 15, 16, 17, 18, 19, 20, 21, 22, 23, 24, 25, 26, 27, 28, 29, 30] : List Nat), i ∉ ([4, 5, 2, 3] : List Nat) := by decide
theorem sm_0_24_25_26_27_28 {a0 a1 a2 a3 a4 a5 a6 a7 a8 a9 a10 a11 a12 a13 a14 a15 a16 a17 a18 a19 a20 a21 a22 a23 a24 a25 a26 a27 a28 : Nat × va_E} {l : va_W} : ([0, 24, 25, 26, 27, 28] : List Nat).map (fun i => (a0 :: a1 :: a2 :: a3 :: a4 :: a5 :: a6 :: a7 :: a8 :: a9 :: a10 :: a11 :: a12 :: a13 :: a14 :: a15 :: a16 :: a17 :: a18 :: a19 :: a20 :: a21 :: a22 :: a23 :: a24 :: a25 :: a26 :: a27 :: a28 :: l : va_W)[i]?) = ([a0, a24, a25, a26, a27, a28] : va_W).map some := rfl
theorem fm_0_24_25_26_27_28 {a0 a1 a2 a3 a4 a5 a6 a7 a8 a9 a10 a11 a12 a13 a14 a15 a16 a17 a18 a19 a20 a21 a22 a23 a24 a25 a26 a27 a28 : Nat × va_E} {l : va_W} : ([0, 24, 25, 26, 27, 28] : List Nat).filterMap (fun i => (a0 :: a1 :: a2 :: a3 :: a4 :: a5 :: a6 :: a7 :: a8 :: a9 :: a10 :: a11 :: a12 :: a13 :: a14 :: a15 :: a16 :: a17 :: a18 :: a19 :: a20 :: a21 :: a22 :: a23 :: a24 :: a25 :: a26 :: a27 :: a28 :: l : va_W)[i]?) = ([a0, a24, a25, a26, a27, a28] : va_W) := rfl
theorem nd_0_24_25_26_27_28 : va_nd [0, 24, 25, 26, 27, 28] = true := by decide
theorem sm_1_2_3_4_5_6_7_8_9_10_11_12_13_14_15_16_17_18_19_20_21_22_23_29_30 {a0 a1 a2 a3 a4 a5 a6 a7 a8 a9 a10 a11 a12 a13 a14 a15 a16 a17 a18 a19 a20 a21 a22 a23 a24 a25 a26 a27 a28 a29 a30 : Nat × va_E} {l : va_W} : ([1, 2, 3, 4, 5, 6, 7, 8, 9, 10, 11, 12, 13, 14, 15, 16, 17, 18, 19, 20, 21, 22, 23, 29, 30] : List Nat).map (fun i => (a0 :: a1 :: a2 :: a3 :: a4 :: a5 :: a6 :: a7 :: a8 :: a9 :: a10 :: a11 :: a12 :: a13 :: a14 :: a15 :: a16 :: a17 :: a18 :: a19 :: a20 :: a21 :: a22 :: a23 :: a24 :: a25 :: a26 :: a27 :: a28 :: a29 :: a30 :: l : va_W)[i]?) = ([a1, a2, a3, a4, a5, a6, a7, a8, a9, a10, a11, a12, a13, a14, a15, a16, a17, a18, a19, a20, a21, a22, a23, a29, a30] : va_W).map some := rfl
theorem nd_1_2_3_4_5_6_7_8_9_10_11_12_13_14_15_16_17_18_19_20_21_22_23_29_30 : va_nd [1, 2, 3, 4, 5, 6, 7, 8, 9, 10, 11, 12, 13, 14, 15, 16, 17, 18, 19, 20, 21, 22, 23, 29, 30] = true := by decide
theorem dj_0_24_25_26_27_28__1_2_3_4_5_6_7_8_9_10_11_12_13_14_15_16_17_18_19_20_21_22_23_29_30 : ∀ i ∈ ([1, 2, 3, 4, 5, 6, 7, 8, 9, 10, 11, 12, 13, 14, 15, 16, 17, 18, 19, 20, 21, 22, 23, 29, 30] : List Nat), i ∉ ([0, 24, 25, 26, 27, 28] : List Nat) := by decide
theorem sm_25_0_23_24_29_30_1_2_3_4_5_6_7_8_9_10_11_12_13_14_15_16_17_18_19_20_21_22_26_27_28 {a0 a1 a2 a3 a4 a5 a6 a7 a8 a9 a10 a11 a12 a13 a14 a15 a16 a17 a18 a19 a20 a21 a22 a23 a24 a25 a26 a27 a28 a29 a30 : Nat × va_E} {l : va_W} : ([25, 0, 23, 24, 29, 30, 1, 2, 3, 4, 5, 6, 7, 8, 9, 10, 11, 12, 13, 14, 15, 16, 17, 18, 19, 20, 21, 22, 26, 27, 28] : List Nat).map (fun i => (a0 :: a1 :: a2 :: a3 :: a4 :: a5 :: a6 :: a7 :: a8 :: a9 :: a10 :: a11 :: a12 :: a13 :: a14 :: a15 :: a16 :: a17 :: a18 :: a19 :: a20 :: a21 :: a22 :: a23 :: a24 :: a25 :: a26 :: a27 :: a28 :: a29 :: a30 :: l : va_W)[i]?) = ([a25, a0, a23, a24, a29, a30, a1, a2, a3, a4, a5, a6, a7, a8, a9, a10, a11, a12, a13, a14, a15, a16, a17, a18, a19, a20, a21, a22, a26, a27, a28] : va_W).map some := rfl
theorem fm_25_0_23_24_29_30_1_2_3_4_5_6_7_8_9_10_11_12_13_14_15_16_17_18_19_20_21_22_26_27_28 {a0 a1 a2 a3 a4 a5 a6 a7 a8 a9 a10 a11 a12 a13 a14 a15 a16 a17 a18 a19 a20 a21 a22 a23 a24 a25 a26 a27 a28 a29 a30 : Nat × va_E} {l : va_W} : ([25, 0, 23, 24, 29, 30, 1, 2, 3, 4, 5, 6, 7, 8, 9, 10, 11, 12, 13, 14, 15, 16, 17, 18, 19, 20, 21, 22, 26, 27, 28] : List Nat).filterMap (fun i => (a0 :: a1 :: a2 :: a3 :: a4 :: a5 :: a6 :: a7 :: a8 :: a9 :: a10 :: a11 :: a12 :: a13 :: a14 :: a15 :: a16 :: a17 :: a18 :: a19 :: a20 :: a21 :: a22 :: a23 :: a24 :: a25 :: a26 :: a27 :: a28 :: a29 :: a30 :: l : va_W)[i]?) = ([a25, a0, a23, a24, a29, a30, a1, a2, a3, a4, a5, a6, a7, a8, a9, a10, a11, a12, a13, a14, a15, a16, a17, a18, a19, a20, a21, a22, a26, a27, a28] : va_W) := rfl
theorem nd_25_0_23_24_29_30_1_2_3_4_5_6_7_8_9_10_11_12_13_14_15_16_17_18_19_20_21_22_26_27_28 : va_nd [25, 0, 23, 24, 29, 30, 1, 2, 3, 4, 5, 6, 7, 8, 9, 10, 11, 12, 13, 14, 15, 16, 17, 18, 19, 20, 21, 22, 26, 27, 28] = true := by decide
theorem sm_0_1_2_3_4_5_6_7_8_9_10_11_12_13_14_15_16_17_18_19_20_21_22_23_24_25_26_27_28_29_30 {a0 a1 a2 a3 a4 a5 a6 a7 a8 a9 a10 a11 a12 a13 a14 a15 a16 a17 a18 a19 a20 a21 a22 a23 a24 a25 a26 a27 a28 a29 a30 : Nat × va_E} {l : va_W} : ([0, 1, 2, 3, 4, 5, 6, 7, 8, 9, 10, 11, 12, 13, 14, 15, 16, 17, 18, 19, 20, 21, 22, 23, 24, 25, 26, 27, 28, 29, 30] : List Nat).map (fun i => (a0 :: a1 :: a2 :: a3 :: a4 :: a5 :: a6 :: a7 :: a8 :: a9 :: a10 :: a11 :: a12 :: a13 :: a14 :: a15 :: a16 :: a17 :: a18 :: a19 :: a20 :: a21 :: a22 :: a23 :: a24 :: a25 :: a26 :: a27 :: a28 :: a29 :: a30 :: l : va_W)[i]?) = ([a0, a1, a2, a3, a4, a5, a6, a7, a8, a9, a10, a11, a12, a13, a14, a15, a16, a17, a18, a19, a20, a21, a22, a23, a24, a25, a26, a27, a28, a29, a30] : va_W).map some := rfl
theorem fm_0_1_2_3_4_5_6_7_8_9_10_11_12_13_14_15_16_17_18_19_20_21_22_23_24_25_26_27_28_29_30 {a0 a1 a2 a3 a4 a5 a6 a7 a8 a9 a10 a11 a12 a13 a14 a15 a16 a17 a18 a19 a20 a21 a22 a23 a24 a25 a26 a27 a28 a29 a30 : Nat × va_E} {l : va_W} : ([0, 1, 2, 3, 4, 5, 6, 7, 8, 9, 10, 11, 12, 13, 14, 15, 16, 17, 18, 19, 20, 21, 22, 23, 24, 25, 26, 27, 28, 29, 30] : List Nat).filterMap (fun i => (a0 :: a1 :: a2 :: a3 :: a4 :: a5 :: a6 :: a7 :: a8 :: a9 :: a10 :: a11 :: a12 :: a13 :: a14 :: a15 :: a16 :: a17 :: a18 :: a19 :: a20 :: a21 :: a22 :: a23 :: a24 :: a25 :: a26 :: a27 :: a28 :: a29 :: a30 :: l : va_W)[i]?) = ([a0, a1, a2, a3, a4, a5, a6, a7, a8, a9, a10, a11, a12, a13, a14, a15, a16, a17, a18, a19, a20, a21, a22, a23, a24, a25, a26, a27, a28, a29, a30] : va_W) := rfl
theorem nd_0_1_2_3_4_5_6_7_8_9_10_11_12_13_14_15_16_17_18_19_20_21_22_23_24_25_26_27_28_29_30 : va_nd [0, 1, 2, 3, 4, 5, 6, 7, 8, 9, 10, 11, 12, 13, 14, 15, 16, 17, 18, 19, 20, 21, 22, 23, 24, 25, 26, 27, 28, 29, 30] = true := by decide
theorem sm_6_7_4_5 {a0 a1 a2 a3 a4 a5 a6 a7 : Nat × va_E} {l : va_W} : ([6, 7, 4, 5] : List Nat).map (fun i => (a0 :: a1 :: a2 :: a3 :: a4 :: a5 :: a6 :: a7 :: l : va_W)[i]?) = ([a6, a7, a4, a5] : va_W).map some := rfl
theorem fm_6_7_4_5 {a0 a1 a2 a3 a4 a5 a6 a7 : Nat × va_E} {l : va_W} : ([6, 7, 4, 5] : List Nat).filterMap (fun i => (a0 :: a1 :: a2 :: a3 :: a4 :: a5 :: a6 :: a7 :: l : va_W)[i]?) = ([a6, a7, a4, a5] : va_W) := rfl
theorem nd_6_7_4_5 : va_nd [6, 7, 4, 5] = true := by decide
theorem sm_0_1_2_3_8_9_10_11_12_13_14_15_16_17_18_19_20_21_22_23_24_25_26_27_28_29_30 {a0 a1 a2 a3 a4 a5 a6 a7 a8 a9 a10 a11 a12 a13 a14 a15 a16 a17 a18 a19 a20 a21 a22 a23 a24 a25 a26 a27 a28 a29 a30 : Nat × va_E} {l : va_W} : ([0, 1, 2, 3, 8, 9, 10, 11, 12, 13, 14, 15, 16, 17, 18, 19, 20, 21, 22, 23, 24, 25, 26, 27, 28, 29, 30] : List Nat).map (fun i => (a0 :: a1 :: a2 :: a3 :: a4 :: a5 :: a6 :: a7 :: a8 :: a9 :: a10 :: a11 :: a12 :: a13 :: a14 :: a15 :: a16 :: a17 :: a18 :: a19 :: a20 :: a21 :: a22 :: a23 :: a24 :: a25 :: a26 :: a27 :: a28 :: a29 :: a30 :: l : va_W)[i]?) = ([a0, a1, a2, a3, a8, a9, a10, a11, a12, a13, a14, a15, a16, a17, a18, a19, a20, a21, a22, a23, a24, a25, a26, a27, a28, a29, a30] : va_W).map some := rfl
theorem nd_0_1_2_3_8_9_10_11_12_13_14_15_16_17_18_19_20_21_22_23_24_25_26_27_28_29_30 : va_nd [0, 1, 2, 3, 8, 9, 10, 11, 12, 13, 14, 15, 16, 17, 18, 19, 20, 21, 22, 23, 24, 25, 26, 27, 28, 29, 30] = true := by decide
theorem dj_6_7_4_5__0_1_2_3_8_9_10_11_12_13_14_15_16_17_18_19_20_21_22_23_24_25_26_27_28_29_30 : ∀ i ∈ ([0, 1, 2, 3, 8, 9, 10, 11, 12, 13, 14, 15, 16, 17, 18, 19, 20, 21, 22, 23, 24, 25, 26, 27, 28, 29, 30] : List Nat), i ∉ ([6, 7, 4, 5] : List Nat) := by decide
theorem sm_25_0_1_2_23_24_29_30_3_4_5_6_7_8_9_10_11_12_13_14_15_16_17_18_19_20_21_22_26_27_28 {a0 a1 a2 a3 a4 a5 a6 a7 a8 a9 a10 a11 a12 a13 a14 a15 a16 a17 a18 a19 a20 a21 a22 a23 a24 a25 a26 a27 a28 a29 a30 : Nat × va_E} {l : va_W} : ([25, 0, 1, 2, 23, 24, 29, 30, 3, 4, 5, 6, 7, 8, 9, 10, 11, 12, 13, 14, 15, 16, 17, 18, 19, 20, 21, 22, 26, 27, 28] : List Nat).map (fun i => (a0 :: a1 :: a2 :: a3 :: a4 :: a5 :: a6 :: a7 :: a8 :: a9 :: a10 :: a11 :: a12 :: a13 :: a14 :: a15 :: a16 :: a17 :: a18 :: a19 :: a20 :: a21 :: a22 :: a23 :: a24 :: a25 :: a26 :: a27 :: a28 :: a29 :: a30 :: l : va_W)[i]?) = ([a25, a0, a1, a2, a23, a24, a29, a30, a3, a4, a5, a6, a7, a8, a9, a10, a11, a12, a13, a14, a15, a16, a17, a18, a19, a20, a21, a22, a26, a27, a28] : va_W).map some := rfl
theorem fm_25_0_1_2_23_24_29_30_3_4_5_6_7_8_9_10_11_12_13_14_15_16_17_18_19_20_21_22_26_27_28 {a0 a1 a2 a3 a4 a5 a6 a7 a8 a9 a10 a11 a12 a13 a14 a15 a16 a17 a18 a19 a20 a21 a22 a23 a24 a25 a26 a27 a28 a29 a30 : Nat × va_E} {l : va_W} : ([25, 0, 1, 2, 23, 24, 29, 30, 3, 4, 5, 6, 7, 8, 9, 10, 11, 12, 13, 14, 15, 16, 17, 18, 19, 20, 21, 22, 26, 27, 28] : List Nat).filterMap (fun i => (a0 :: a1 :: a2 :: a3 :: a4 :: a5 :: a6 :: a7 :: a8 :: a9 :: a10 :: a11 :: a12 :: a13 :: a14 :: a15 :: a16 :: a17 :: a18 :: a19 :: a20 :: a21 :: a22 :: a23 :: a24 :: a25 :: a26 :: a27 :: a28 :: a29 :: a30 :: l : va_W)[i]?) = ([a25, a0, a1, a2, a23, a24, a29, a30, a3, a4, a5, a6, a7, a8, a9, a10, a11, a12, a13, a14, a15, a16, a17, a18, a19, a20, a21, a22, a26, a27, a28] : va_W) := rfl
theorem nd_25_0_1_2_23_24_29_30_3_4_5_6_7_8_9_10_11_12_13_14_15_16_17_18_19_20_21_22_26_27_28 : va_nd [25, 0, 1, 2, 23, 24, 29, 30, 3, 4, 5, 6, 7, 8, 9, 10, 11, 12, 13, 14, 15, 16, 17, 18, 19, 20, 21, 22, 26, 27, 28] = true := by decide
theorem sm_8_9_6_7 {a0 a1 a2 a3 a4 a5 a6 a7 a8 a9 : Nat × va_E} {l : va_W} : ([8, 9, 6, 7] : List Nat).map (fun i => (a0 :: a1 :: a2 :: a3 :: a4 :: a5 :: a6 :: a7 :: a8 :: a9 :: l : va_W)[i]?) = ([a8, a9, a6, a7] : va_W).map some := rfl
theorem fm_8_9_6_7 {a0 a1 a2 a3 a4 a5 a6 a7 a8 a9 : Nat × va_E} {l : va_W} : ([8, 9, 6, 7] : List Nat).filterMap (fun i => (a0 :: a1 :: a2 :: a3 :: a4 :: a5 :: a6 :: a7 :: a8 :: a9 :: l : va_W)[i]?) = ([a8, a9, a6, a7] : va_W) := rfl
theorem nd_8_9_6_7 : va_nd [8, 9, 6, 7] = true := by decide
theorem sm_0_1_2_3_4_5_10_11_12_13_14_15_16_17_18_19_20_21_22_23_24_25_26_27_28_29_30 {a0 a1 a2 a3 a4 a5 a6 a7 a8 a9 a10 a11 a12 a13 a14 a15 a16 a17 a18 a19 a20 a21 a22 a23 a24 a25 a26 a27 a28 a29 a30 : Nat × va_E} {l : va_W} : ([0, 1, 2, 3, 4, 5, 10, 11, 12, 13, 14, 15, 16, 17, 18, 19, 20, 21, 22, 23, 24, 25, 26, 27, 28, 29, 30] : List Nat).map (fun i => (a0 :: a1 :: a2 :: a3 :: a4 :: a5 :: a6 :: a7 :: a8 :: a9 :: a10 :: a11 :: a12 :: a13 :: a14 :: a15 :: a16 :: a17 :: a18 :: a19 :: a20 :: a21 :: a22 :: a23 :: a24 :: a25 :: a26 :: a27 :: a28 :: a29 :: a30 :: l : va_W)[i]?) = ([a0, a1, a2, a3, a4, a5, a10, a11, a12, a13, a14, a15, a16, a17, a18, a19, a20, a21, a22, a23, a24, a25, a26, a27, a28, a29, a30] : va_W).map some := rfl
theorem nd_0_1_2_3_4_5_10_11_12_13_14_15_16_17_18_19_20_21_22_23_24_25_26_27_28_29_30 : va_nd [0, 1, 2, 3, 4, 5, 10, 11, 12, 13, 14, 15, 16, 17, 18, 19, 20, 21, 22, 23, 24, 25, 26, 27, 28, 29, 30] = true := by decide
theorem dj_8_9_6_7__0_1_2_3_4_5_10_11_12_13_14_15_16_17_18_19_20_21_22_23_24_25_26_27_28_29_30 : ∀ i ∈ ([0, 1, 2, 3, 4, 5, 10, 11, 12, 13, 14, 15, 16, 17, 18, 19, 20, 21, 22, 23, 24, 25, 26, 27, 28, 29, 30] : List Nat), i ∉ ([8, 9, 6, 7] : List Nat) := by decide
theorem sm_25_0_1_2_3_4_23_24_29_30_5_6_7_8_9_10_11_12_13_14_15_16_17_18_19_20_21_22_26_27_28 {a0 a1 a2 a3 a4 a5 a6 a7 a8 a9 a10 a11 a12 a13 a14 a15 a16 a17 a18 a19 a20 a21 a22 a23 a24 a25 a26 a27 a28 a29 a30 : Nat × va_E} {l : va_W} : ([25, 0, 1, 2, 3, 4, 23, 24, 29, 30, 5, 6, 7, 8, 9, 10, 11, 12, 13, 14, 15, 16, 17, 18, 19, 20, 21, 22, 26, 27, 28] : List Nat).map (fun i => (a0 :: a1 :: a2 :: a3 :: a4 :: a5 :: a6 :: a7 :: a8 :: a9 :: a10 :: a11 :: a12 :: a13 :: a14 :: a15 :: a16 :: a17 :: a18 :: a19 :: a20 :: a21 :: a22 :: a23 :: a24 :: a25 :: a26 :: a27 :: a28 :: a29 :: a30 :: l : va_W)[i]?) = ([a25, a0, a1, a2, a3, a4, a23, a24, a29, a30, a5, a6, a7, a8, a9, a10, a11, a12, a13, a14, a15, a16, a17, a18, a19, a20, a21, a22, a26, a27, a28] : va_W).map some := rfl
theorem fm_25_0_1_2_3_4_23_24_29_30_5_6_7_8_9_10_11_12_13_14_15_16_17_18_19_20_21_22_26_27_28 {a0 a1 a2 a3 a4 a5 a6 a7 a8 a9 a10 a11 a12 a13 a14 a15 a16 a17 a18 a19 a20 a21 a22 a23 a24 a25 a26 a27 a28 a29 a30 : Nat × va_E} {l : va_W} : ([25, 0, 1, 2, 3, 4, 23, 24, 29, 30, 5, 6, 7, 8, 9, 10, 11, 12, 13, 14, 15, 16, 17, 18, 19, 20, 21, 22, 26, 27, 28] : List Nat).filterMap (fun i => (a0 :: a1 :: a2 :: a3 :: a4 :: a5 :: a6 :: a7 :: a8 :: a9 :: a10 :: a11 :: a12 :: a13 :: a14 :: a15 :: a16 :: a17 :: a18 :: a19 :: a20 :: a21 :: a22 :: a23 :: a24 :: a25 :: a26 :: a27 :: a28 :: a29 :: a30 :: l : va_W)[i]?) = ([a25, a0, a1, a2, a3, a4, a23, a24, a29, a30, a5, a6, a7, a8, a9, a10, a11, a12, a13, a14, a15, a16, a17, a18, a19, a20, a21, a22, a26, a27, a28] : va_W) := rfl
theorem nd_25_0_1_2_3_4_23_24_29_30_5_6_7_8_9_10_11_12_13_14_15_16_17_18_19_20_21_22_26_27_28 : va_nd [25, 0, 1, 2, 3, 4, 23, 24, 29, 30, 5, 6, 7, 8, 9, 10, 11, 12, 13, 14, 15, 16, 17, 18, 19, 20, 21, 22, 26, 27, 28] = true := by decide
theorem sm_0_1_2_3_4_5_6_7_12_13_14_15_16_17_18_19_20_21_22_23_24_25_26_27_28_29_30 {a0 a1 a2 a3 a4 a5 a6 a7 a8 a9 a10 a11 a12 a13 a14 a15 a16 a17 a18 a19 a20 a21 a22 a23 a24 a25 a26 a27 a28 a29 a30 : Nat × va_E} {l : va_W} : ([0, 1, 2, 3, 4, 5, 6, 7, 12, 13, 14, 15, 16, 17, 18, 19, 20, 21, 22, 23, 24, 25, 26, 27, 28, 29, 30] : List Nat).map (fun i => (a0 :: a1 :: a2 :: a3 :: a4 :: a5 :: a6 :: a7 :: a8 :: a9 :: a10 :: a11 :: a12 :: a13 :: a14 :: a15 :: a16 :: a17 :: a18 :: a19 :: a20 :: a21 :: a22 :: a23 :: a24 :: a25 :: a26 :: a27 :: a28 :: a29 :: a30 :: l : va_W)[i]?) = ([a0, a1, a2, a3, a4, a5, a6, a7, a12, a13, a14, a15, a16, a17, a18, a19, a20, a21, a22, a23, a24, a25, a26, a27, a28, a29, a30] : va_W).map some := rfl
theorem nd_0_1_2_3_4_5_6_7_12_13_14_15_16_17_18_19_20_21_22_23_24_25_26_27_28_29_30 : va_nd [0, 1, 2, 3, 4, 5, 6, 7, 12, 13, 14, 15, 16, 17, 18, 19, 20, 21, 22, 23, 24, 25, 26, 27, 28, 29, 30] = true := by decide
theorem dj_10_11_8_9__0_1_2_3_4_5_6_7_12_13_14_15_16_17_18_19_20_21_22_23_24_25_26_27_28_29_30 : ∀ i ∈ ([0, 1, 2, 3, 4, 5, 6, 7, 12, 13, 14, 15, 16, 17, 18, 19, 20, 21, 22, 23, 24, 25, 26, 27, 28, 29, 30] : List Nat), i ∉ ([10, 11, 8, 9] : List Nat) := by decide
theorem sm_25_0_1_2_3_4_5_6_23_24_29_30_7_8_9_10_11_12_13_14_15_16_17_18_19_20_21_22_26_27_28 {a0 a1 a2 a3 a4 a5 a6 a7 a8 a9 a10 a11 a12 a13 a14 a15 a16 a17 a18 a19 a20 a21 a22 a23 a24 a25 a26 a27 a28 a29 a30 : Nat × va_E} {l : va_W} : ([25, 0, 1, 2, 3, 4, 5, 6, 23, 24, 29, 30, 7, 8, 9, 10, 11, 12, 13, 14, 15, 16, 17, 18, 19, 20, 21, 22, 26, 27, 28] : List Nat).map (fun i => (a0 :: a1 :: a2 :: a3 :: a4 :: a5 :: a6 :: a7 :: a8 :: a9 :: a10 :: a11 :: a12 :: a13 :: a14 :: a15 :: a16 :: a17 :: a18 :: a19 :: a20 :: a21 :: a22 :: a23 :: a24 :: a25 :: a26 :: a27 :: a28 :: a29 :: a30 :: l : va_W)[i]?) = ([a25, a0, a1, a2, a3, a4, a5, a6, a23, a24, a29, a30, a7, a8, a9, a10, a11, a12, a13, a14, a15, a16, a17, a18, a19, a20, a21, a22, a26, a27, a28] : va_W).map some := rfl
theorem fm_25_0_1_2_3_4_5_6_23_24_29_30_7_8_9_10_11_12_13_14_15_16_17_18_19_20_21_22_26_27_28 {a0 a1 a2 a3 a4 a5 a6 a7 a8 a9 a10 a11 a12 a13 a14 a15 a16 a17 a18 a19 a20 a21 a22 a23 a24 a25 a26 a27 a28 a29 a30 : Nat × va_E} {l : va_W} : ([25, 0, 1, 2, 3, 4, 5, 6, 23, 24, 29, 30, 7, 8, 9, 10, 11, 12, 13, 14, 15, 16, 17, 18, 19, 20, 21, 22, 26, 27, 28] : List Nat).filterMap (fun i => (a0 :: a1 :: a2 :: a3 :: a4 :: a5 :: a6 :: a7 :: a8 :: a9 :: a10 :: a11 :: a12 :: a13 :: a14 :: a15 :: a16 :: a17 :: a18 :: a19 :: a20 :: a21 :: a22 :: a23 :: a24 :: a25 :: a26 :: a27 :: a28 :: a29 :: a30 :: l : va_W)[i]?) = ([a25, a0, a1, a2, a3, a4, a5, a6, a23, a24, a29, a30, a7, a8, a9, a10, a11, a12, a13, a14, a15, a16, a17, a18, a19, a20, a21, a22, a26, a27, a28] : va_W) := rfl
theorem nd_25_0_1_2_3_4_5_6_23_24_29_30_7_8_9_10_11_12_13_14_15_16_17_18_19_20_21_22_26_27_28 : va_nd [25, 0, 1, 2, 3, 4, 5, 6, 23, 24, 29, 30, 7, 8, 9, 10, 11, 12, 13, 14, 15, 16, 17, 18, 19, 20, 21, 22, 26, 27, 28] = true := by decide
theorem sm_12_13_10_11 {a0 a1 a2 a3 a4 a5 a6 a7 a8 a9 a10 a11 a12 a13 : Nat × va_E} {l : va_W} : ([12, 13, 10, 11] : List Nat).map (fun i => (a0 :: a1 :: a2 :: a3 :: a4 :: a5 :: a6 :: a7 :: a8 :: a9 :: a10 :: a11 :: a12 :: a13 :: l : va_W)[i]?) = ([a12, a13, a10, a11] : va_W).map some := rfl
theorem fm_12_13_10_11 {a0 a1 a2 a3 a4 a5 a6 a7 a8 a9 a10 a11 a12 a13 : Nat × va_E} {l : va_W} : ([12, 13, 10, 11] : List Nat).filterMap (fun i => (a0 :: a1 :: a2 :: a3 :: a4 :: a5 :: a6 :: a7 :: a8 :: a9 :: a10 :: a11 :: a12 :: a13 :: l : va_W)[i]?) = ([a12, a13, a10, a11] : va_W) := rfl
theorem nd_12_13_10_11 : va_nd [12, 13, 10, 11] = true := by decide
theorem sm_0_1_2_3_4_5_6_7_8_9_14_15_16_17_18_19_20_21_22_23_24_25_26_27_28_29_30 {a0 a1 a2 a3 a4 a5 a6 a7 a8 a9 a10 a11 a12 a13 a14 a15 a16 a17 a18 a19 a20 a21 a22 a23 a24 a25 a26 a27 a28 a29 a30 : Nat × va_E} {l : va_W} : ([0, 1, 2, 3, 4, 5, 6, 7, 8, 9, 14, 15, 16, 17, 18, 19, 20, 21, 22, 23, 24, 25, 26, 27, 28, 29, 30] : List Nat).map (fun i => (a0 :: a1 :: a2 :: a3 :: a4 :: a5 :: a6 :: a7 :: a8 :: a9 :: a10 :: a11 :: a12 :: a13 :: a14 :: a15 :: a16 :: a17 :: a18 :: a19 :: a20 :: a21 :: a22 :: a23 :: a24 :: a25 :: a26 :: a27 :: a28 :: a29 :: a30 :: l : va_W)[i]?) = ([a0, a1, a2, a3, a4, a5, a6, a7, a8, a9, a14, a15, a16, a17, a18, a19, a20, a21, a22, a23, a24, a25, a26, a27, a28, a29, a30] : va_W).map some := rfl
theorem nd_0_1_2_3_4_5_6_7_8_9_14_15_16_17_18_19_20_21_22_23_24_25_26_27_28_29_30 : va_nd [0, 1, 2, 3, 4, 5, 6, 7, 8, 9, 14, 15, 16, 17, 18, 19, 20, 21, 22, 23, 24, 25, 26, 27, 28, 29, 30] = true := by decide
theorem dj_12_13_10_11__0_1_2_3_4_5_6_7_8_9_14_15_16_17_18_19_20_21_22_23_24_25_26_27_28_29_30 : ∀ i ∈ ([0, 1, 2, 3, 4, 5, 6, 7, 8, 9, 14, 15, 16, 17, 18, 19, 20, 21, 22, 23, 24, 25, 26, 27, 28, 29, 30] : List Nat), i ∉ ([12, 13, 10, 11] : List Nat) := by decide
theorem sm_25_0_1_2_3_4_5_6_7_8_23_24_29_30_9_10_11_12_13_14_15_16_17_18_19_20_21_22_26_27_28 {a0 a1 a2 a3 a4 a5 a6 a7 a8 a9 a10 a11 a12 a13 a14 a15 a16 a17 a18 a19 a20 a21 a22 a23 a24 a25 a26 a27 a28 a29 a30 : Nat × va_E} {l : va_W} : ([25, 0, 1, 2, 3, 4, 5, 6, 7, 8, 23, 24, 29, 30, 9, 10, 11, 12, 13, 14, 15, 16, 17, 18, 19, 20, 21, 22, 26, 27, 28] : List Nat).map (fun i => (a0 :: a1 :: a2 :: a3 :: a4 :: a5 :: a6 :: a7 :: a8 :: a9 :: a10 :: a11 :: a12 :: a13 :: a14 :: a15 :: a16 :: a17 :: a18 :: a19 :: a20 :: a21 :: a22 :: a23 :: a24 :: a25 :: a26 :: a27 :: a28 :: a29 :: a30 :: l : va_W)[i]?) = ([a25, a0, a1, a2, a3, a4, a5, a6, a7, a8, a23, a24, a29, a30, a9, a10, a11, a12, a13, a14, a15, a16, a17, a18, a19, a20, a21, a22, a26, a27, a28] : va_W).map some := rfl
theorem fm_25_0_1_2_3_4_5_6_7_8_23_24_29_30_9_10_11_12_13_14_15_16_17_18_19_20_21_22_26_27_28 {a0 a1 a2 a3 a4 a5 a6 a7 a8 a9 a10 a11 a12 a13 a14 a15 a16 a17 a18 a19 a20 a21 a22 a23 a24 a25 a26 a27 a28 a29 a30 : Nat × va_E} {l : va_W} : ([25, 0, 1, 2, 3, 4, 5, 6, 7, 8, 23, 24, 29, 30, 9, 10, 11, 12, 13, 14, 15, 16, 17, 18, 19, 20, 21, 22, 26, 27, 28] : List Nat).filterMap (fun i => (a0 :: a1 :: a2 :: a3 :: a4 :: a5 :: a6 :: a7 :: a8 :: a9 :: a10 :: a11 :: a12 :: a13 :: a14 :: a15 :: a16 :: a17 :: a18 :: a19 :: a20 :: a21 :: a22 :: a23 :: a24 :: a25 :: a26 :: a27 :: a28 :: a29 :: a30 :: l : va_W)[i]?) = ([a25, a0, a1, a2, a3, a4, a5, a6, a7, a8, a23, a24, a29, a30, a9, a10, a11, a12, a13, a14, a15, a16, a17, a18, a19, a20, a21, a22, a26, a27, a28] : va_W) := rfl
theorem nd_25_0_1_2_3_4_5_6_7_8_23_24_29_30_9_10_11_12_13_14_15_16_17_18_19_20_21_22_26_27_28 : va_nd [25, 0, 1, 2, 3, 4, 5, 6, 7, 8, 23, 24, 29, 30, 9, 10, 11, 12, 13, 14, 15, 16, 17, 18, 19, 20, 21, 22, 26, 27, 28] = true := by decide
theorem sm_14_15_12_13 {a0 a1 a2 a3 a4 a5 a6 a7 a8 a9 a10 a11 a12 a13 a14 a15 : Nat × va_E} {l : va_W} : ([14, 15, 12, 13] : List Nat).map (fun i => (a0 :: a1 :: a2 :: a3 :: a4 :: a5 :: a6 :: a7 :: a8 :: a9 :: a10 :: a11 :: a12 :: a13 :: a14 :: a15 :: l : va_W)[i]?) = ([a14, a15, a12, a13] : va_W).map some := rfl
theorem fm_14_15_12_13 {a0 a1 a2 a3 a4 a5 a6 a7 a8 a9 a10 a11 a12 a13 a14 a15 : Nat × va_E} {l : va_W} : ([14, 15, 12, 13] : List Nat).filterMap (fun i => (a0 :: a1 :: a2 :: a3 :: a4 :: a5 :: a6 :: a7 :: a8 :: a9 :: a10 :: a11 :: a12 :: a13 :: a14 :: a15 :: l : va_W)[i]?) = ([a14, a15, a12, a13] : va_W) := rfl
theorem nd_14_15_12_13 : va_nd [14, 15, 12, 13] = true := by decide
theorem sm_0_1_2_3_4_5_6_7_8_9_10_11_16_17_18_19_20_21_22_23_24_25_26_27_28_29_30 {a0 a1 a2 a3 a4 a5 a6 a7 a8 a9 a10 a11 a12 a13 a14 a15 a16 a17 a18 a19 a20 a21 a22 a23 a24 a25 a26 a27 a28 a29 a30 : Nat × va_E} {l : va_W} : ([0, 1, 2, 3, 4, 5, 6, 7, 8, 9, 10, 11, 16, 17, 18, 19, 20, 21, 22, 23, 24, 25, 26, 27, 28, 29, 30] : List Nat).map (fun i => (a0 :: a1 :: a2 :: a3 :: a4 :: a5 :: a6 :: a7 :: a8 :: a9 :: a10 :: a11 :: a12 :: a13 :: a14 :: a15 :: a16 :: a17 :: a18 :: a19 :: a20 :: a21 :: a22 :: a23 :: a24 :: a25 :: a26 :: a27 :: a28 :: a29 :: a30 :: l : va_W)[i]?) = ([a0, a1, a2, a3, a4, a5, a6, a7, a8, a9, a10, a11, a16, a17, a18, a19, a20, a21, a22, a23, a24, a25, a26, a27, a28, a29, a30] : va_W).map some := rfl
theorem nd_0_1_2_3_4_5_6_7_8_9_10_11_16_17_18_19_20_21_22_23_24_25_26_27_28_29_30 : va_nd [0, 1, 2, 3, 4, 5, 6, 7, 8, 9, 10, 11, 16, 17, 18, 19, 20, 21, 22, 23, 24, 25, 26, 27, 28, 29, 30] = true := by decide
theorem dj_14_15_12_13__0_1_2_3_4_5_6_7_8_9_10_11_16_17_18_19_20_21_22_23_24_25_26_27_28_29_30 : ∀ i ∈ ([0, 1, 2, 3, 4, 5, 6, 7, 8, 9, 10, 11, 16, 17, 18, 19, 20, 21, 22, 23, 24, 25, 26, 27, 28, 29, 30] : List Nat), i ∉ ([14, 15, 12, 13] : List Nat) := by decide
theorem sm_25_0_1_2_3_4_5_6_7_8_9_10_23_24_29_30_11_12_13_14_15_16_17_18_19_20_21_22_26_27_28 {a0 a1 a2 a3 a4 a5 a6 a7 a8 a9 a10 a11 a12 a13 a14 a15 a16 a17 a18 a19 a20 a21 a22 a23 a24 a25 a26 a27 a28 a29 a30 : Nat × va_E} {l : va_W} : ([25, 0, 1, 2, 3, 4, 5, 6, 7, 8, 9, 10, 23, 24, 29, 30, 11, 12, 13, 14, 15, 16, 17, 18, 19, 20, 21, 22, 26, 27, 28] : List Nat).map (fun i => (a0 :: a1 :: a2 :: a3 :: a4 :: a5 :: a6 :: a7 :: a8 :: a9 :: a10 :: a11 :: a12 :: a13 :: a14 :: a15 :: a16 :: a17 :: a18 :: a19 :: a20 :: a21 :: a22 :: a23 :: a24 :: a25 :: a26 :: a27 :: a28 :: a29 :: a30 :: l : va_W)[i]?) = ([a25, a0, a1, a2, a3, a4, a5, a6, a7, a8, a9, a10, a23, a24, a29, a30, a11, a12, a13, a14, a15, a16, a17, a18, a19, a20, a21, a22, a26, a27, a28] : va_W).map some := rfl
theorem fm_25_0_1_2_3_4_5_6_7_8_9_10_23_24_29_30_11_12_13_14_15_16_17_18_19_20_21_22_26_27_28 {a0 a1 a2 a3 a4 a5 a6 a7 a8 a9 a10 a11 a12 a13 a14 a15 a16 a17 a18 a19 a20 a21 a22 a23 a24 a25 a26 a27 a28 a29 a30 : Nat × va_E} {l : va_W} : ([25, 0, 1, 2, 3, 4, 5, 6, 7, 8, 9, 10, 23, 24, 29, 30, 11, 12, 13, 14, 15, 16, 17, 18, 19, 20, 21, 22, 26, 27, 28] : List Nat).filterMap (fun i => (a0 :: a1 :: a2 :: a3 :: a4 :: a5 :: a6 :: a7 :: a8 :: a9 :: a10 :: a11 :: a12 :: a13 :: a14 :: a15 :: a16 :: a17 :: a18 :: a19 :: a20 :: a21 :: a22 :: a23 :: a24 :: a25 :: a26 :: a27 :: a28 :: a29 :: a30 :: l : va_W)[i]?) = ([a25, a0, a1, a2, a3, a4, a5, a6, a7, a8, a9, a10, a23, a24, a29, a30, a11, a12, a13, a14, a15, a16, a17, a18, a19, a20, a21, a22, a26, a27, a28] : va_W) := rfl
theorem nd_25_0_1_2_3_4_5_6_7_8_9_10_23_24_29_30_11_12_13_14_15_16_17_18_19_20_21_22_26_27_28 : va_nd [25, 0, 1, 2, 3, 4, 5, 6, 7, 8, 9, 10, 23, 24, 29, 30, 11, 12, 13, 14, 15, 16, 17, 18, 19, 20, 21, 22, 26, 27, 28] = true := by decide
theorem sm_16_17_14_15 {a0 a1 a2 a3 a4 a5 a6 a7 a8 a9 a10 a11 a12 a13 a14 a15 a16 a17 : Nat × va_E} {l : va_W} : ([16, 17, 14, 15] : List Nat).map (fun i => (a0 :: a1 :: a2 :: a3 :: a4 :: a5 :: a6 :: a7 :: a8 :: a9 :: a10 :: a11 :: a12 :: a13 :: a14 :: a15 :: a16 :: a17 :: l : va_W)[i]?) = ([a16, a17, a14, a15] : va_W).map some := rfl
theorem fm_16_17_14_15 {a0 a1 a2 a3 a4 a5 a6 a7 a8 a9 a10 a11 a12 a13 a14 a15 a16 a17 : Nat × va_E} {l : va_W} : ([16, 17, 14, 15] : List Nat).filterMap (fun i => (a0 :: a1 :: a2 :: a3 :: a4 :: a5 :: a6 :: a7 :: a8 :: a9 :: a10 :: a11 :: a12 :: a13 :: a14 :: a15 :: a16 :: a17 :: l : va_W)[i]?) = ([a16, a17, a14, a15] : va_W) := rfl
theorem nd_16_17_14_15 : va_nd [16, 17, 14, 15] = true := by decide
theorem sm_0_1_2_3_4_5_6_7_8_9_10_11_12_13_18_19_20_21_22_23_24_25_26_27_28_29_30 {a0 a1 a2 a3 a4 a5 a6 a7 a8 a9 a10 a11 a12 a13 a14 a15 a16 a17 a18 a19 a20 a21 a22 a23 a24 a25 a26 a27 a28 a29 a30 : Nat × va_E} {l : va_W} : ([0, 1, 2, 3, 4, 5, 6, 7, 8, 9, 10, 11, 12, 13, 18, 19, 20, 21, 22, 23, 24, 25, 26, 27, 28, 29, 30] : List Nat).map (fun i => (a0 :: a1 :: a2 :: a3 :: a4 :: a5 :: a6 :: a7 :: a8 :: a9 :: a10 :: a11 :: a12 :: a13 :: a14 :: a15 :: a16 :: a17 :: a18 :: a19 :: a20 :: a21 :: a22 :: a23 :: a24 :: a25 :: a26 :: a27 :: a28 :: a29 :: a30 :: l : va_W)[i]?) = ([a0, a1, a2, a3, a4, a5, a6, a7, a8, a9, a10, a11, a12, a13, a18, a19, a20, a21, a22, a23, a24, a25, a26, a27, a28, a29, a30] : va_W).map some := rfl
theorem nd_0_1_2_3_4_5_6_7_8_9_10_11_12_13_18_19_20_21_22_23_24_25_26_27_28_29_30 : va_nd [0, 1, 2, 3, 4, 5, 6, 7, 8, 9, 10, 11, 12, 13, 18, 19, 20, 21, 22, 23, 24, 25, 26, 27, 28, 29, 30] = true := by decide
theorem dj_16_17_14_15__0_1_2_3_4_5_6_7_8_9_10_11_12_13_18_19_20_21_22_23_24_25_26_27_28_29_30 : ∀ i ∈ ([0, 1, 2, 3, 4, 5, 6, 7, 8, 9, 10, 11, 12, 13, 18, 19, 20, 21, 22, 23, 24, 25, 26, 27, 28, 29, 30] : List Nat), i ∉ ([16, 17, 14, 15] : List Nat) := by decide
theorem sm_25_0_1_2_3_4_5_6_7_8_9_10_11_12_23_24_29_30_13_14_15_16_17_18_19_20_21_22_26_27_28 {a0 a1 a2 a3 a4 a5 a6 a7 a8 a9 a10 a11 a12 a13 a14 a15 a16 a17 a18 a19 a20 a21 a22 a23 a24 a25 a26 a27 a28 a29 a30 : Nat × va_E} {l : va_W} : ([25, 0, 1, 2, 3, 4, 5, 6, 7, 8, 9, 10, 11, 12, 23, 24, 29, 30, 13, 14, 15, 16, 17, 18, 19, 20, 21, 22, 26, 27, 28] : List Nat).map (fun i => (a0 :: a1 :: a2 :: a3 :: a4 :: a5 :: a6 :: a7 :: a8 :: a9 :: a10 :: a11 :: a12 :: a13 :: a14 :: a15 :: a16 :: a17 :: a18 :: a19 :: a20 :: a21 :: a22 :: a23 :: a24 :: a25 :: a26 :: a27 :: a28 :: a29 :: a30 :: l : va_W)[i]?) = ([a25, a0, a1, a2, a3, a4, a5, a6, a7, a8, a9, a10, a11, a12, a23, a24, a29, a30, a13, a14, a15, a16, a17, a18, a19, a20, a21, a22, a26, a27, a28] : va_W).map some := rfl
theorem fm_25_0_1_2_3_4_5_6_7_8_9_10_11_12_23_24_29_30_13_14_15_16_17_18_19_20_21_22_26_27_28 {a0 a1 a2 a3 a4 a5 a6 a7 a8 a9 a10 a11 a12 a13 a14 a15 a16 a17 a18 a19 a20 a21 a22 a23 a24 a25 a26 a27 a28 a29 a30 : Nat × va_E} {l : va_W} : ([25, 0, 1, 2, 3, 4, 5, 6, 7, 8, 9, 10, 11, 12, 23, 24, 29, 30, 13, 14, 15, 16, 17, 18, 19, 20, 21, 22, 26, 27, 28] : List Nat).filterMap (fun i => (a0 :: a1 :: a2 :: a3 :: a4 :: a5 :: a6 :: a7 :: a8 :: a9 :: a10 :: a11 :: a12 :: a13 :: a14 :: a15 :: a16 :: a17 :: a18 :: a19 :: a20 :: a21 :: a22 :: a23 :: a24 :: a25 :: a26 :: a27 :: a28 :: a29 :: a30 :: l : va_W)[i]?) = ([a25, a0, a1, a2, a3, a4, a5, a6, a7, a8, a9, a10, a11, a12, a23, a24, a29, a30, a13, a14, a15, a16, a17, a18, a19, a20, a21, a22, a26, a27, a28] : va_W) := rfl
theorem nd_25_0_1_2_3_4_5_6_7_8_9_10_11_12_23_24_29_30_13_14_15_16_17_18_19_20_21_22_26_27_28 : va_nd [25, 0, 1, 2, 3, 4, 5, 6, 7, 8, 9, 10, 11, 12, 23, 24, 29, 30, 13, 14, 15, 16, 17, 18, 19, 20, 21, 22, 26, 27, 28] = true := by decide
theorem sm_18_19_16_17 {a0 a1 a2 a3 a4 a5 a6 a7 a8 a9 a10 a11 a12 a13 a14 a15 a16 a17 a18 a19 : Nat × va_E} {l : va_W} : ([18, 19, 16, 17] : List Nat).map (fun i => (a0 :: a1 :: a2 :: a3 :: a4 :: a5 :: a6 :: a7 :: a8 :: a9 :: a10 :: a11 :: a12 :: a13 :: a14 :: a15 :: a16 :: a17 :: a18 :: a19 :: l : va_W)[i]?) = ([a18, a19, a16, a17] : va_W).map some := rfl
theorem fm_18_19_16_17 {a0 a1 a2 a3 a4 a5 a6 a7 a8 a9 a10 a11 a12 a13 a14 a15 a16 a17 a18 a19 : Nat × va_E} {l : va_W} : ([18, 19, 16, 17] : List Nat).filterMap (fun i => (a0 :: a1 :: a2 :: a3 :: a4 :: a5 :: a6 :: a7 :: a8 :: a9 :: a10 :: a11 :: a12 :: a13 :: a14 :: a15 :: a16 :: a17 :: a18 :: a19 :: l : va_W)[i]?) = ([a18, a19, a16, a17] : va_W) := rfl
theorem nd_18_19_16_17 : va_nd [18, 19, 16, 17] = true := by decide
theorem sm_0_1_2_3_4_5_6_7_8_9_10_11_12_13_14_15_20_21_22_23_24_25_26_27_28_29_30 {a0 a1 a2 a3 a4 a5 a6 a7 a8 a9 a10 a11 a12 a13 a14 a15 a16 a17 a18 a19 a20 a21 a22 a23 a24 a25 a26 a27 a28 a29 a30 : Nat × va_E} {l : va_W} : ([0, 1, 2, 3, 4, 5, 6, 7, 8, 9, 10, 11, 12, 13, 14, 15, 20, 21, 22, 23, 24, 25, 26, 27, 28, 29, 30] : List Nat).map (fun i => (a0 :: a1 :: a2 :: a3 :: a4 :: a5 :: a6 :: a7 :: a8 :: a9 :: a10 :: a11 :: a12 :: a13 :: a14 :: a15 :: a16 :: a17 :: a18 :: a19 :: a20 :: a21 :: a22 :: a23 :: a24 :: a25 :: a26 :: a27 :: a28 :: a29 :: a30 :: l : va_W)[i]?) = ([a0, a1, a2, a3, a4, a5, a6, a7, a8, a9, a10, a11, a12, a13, a14, a15, a20, a21, a22, a23, a24, a25, a26, a27, a28, a29, a30] : va_W).map some := rfl
theorem nd_0_1_2_3_4_5_6_7_8_9_10_11_12_13_14_15_20_21_22_23_24_25_26_27_28_29_30 : va_nd [0, 1, 2, 3, 4, 5, 6, 7, 8, 9, 10, 11, 12, 13, 14, 15, 20, 21, 22, 23, 24, 25, 26, 27, 28, 29, 30] = true := by decide
theorem dj_18_19_16_17__0_1_2_3_4_5_6_7_8_9_10_11_12_13_14_15_20_21_22_23_24_25_26_27_28_29_30 : ∀ i ∈ ([0, 1, 2, 3, 4, 5, 6, 7, 8, 9, 10, 11, 12, 13, 14, 15, 20, 21, 22, 23, 24, 25, 26, 27, 28, 29, 30] : List Nat), i ∉ ([18, 19, 16, 17] : List Nat) := by decide
theorem sm_25_0_1_2_3_4_5_6_7_8_9_10_11_12_13_14_23_24_29_30_15_16_17_18_19_20_21_22_26_27_28 {a0 a1 a2 a3 a4 a5 a6 a7 a8 a9 a10 a11 a12 a13 a14 a15 a16 a17 a18 a19 a20 a21 a22 a23 a24 a25 a26 a27 a28 a29 a30 : Nat × va_E} {l : va_W} : ([25, 0, 1, 2, 3, 4, 5, 6, 7, 8, 9, 10, 11, 12, 13, 14, 23, 24, 29, 30, 15, 16, 17, 18, 19, 20, 21, 22, 26, 27, 28] : List Nat).map (fun i => (a0 :: a1 :: a2 :: a3 :: a4 :: a5 :: a6 :: a7 :: a8 :: a9 :: a10 :: a11 :: a12 :: a13 :: a14 :: a15 :: a16 :: a17 :: a18 :: a19 :: a20 :: a21 :: a22 :: a23 :: a24 :: a25 :: a26 :: a27 :: a28 :: a29 :: a30 :: l : va_W)[i]?) = ([a25, a0, a1, a2, a3, a4, a5, a6, a7, a8, a9, a10, a11, a12, a13, a14, a23, a24, a29, a30, a15, a16, a17, a18, a19, a20, a21, a22, a26, a27, a28] : va_W).map some := rfl
theorem fm_25_0_1_2_3_4_5_6_7_8_9_10_11_12_13_14_23_24_29_30_15_16_17_18_19_20_21_22_26_27_28 {a0 a1 a2 a3 a4 a5 a6 a7 a8 a9 a10 a11 a12 a13 a14 a15 a16 a17 a18 a19 a20 a21 a22 a23 a24 a25 a26 a27 a28 a29 a30 : Nat × va_E} {l : va_W} : ([25, 0, 1, 2, 3, 4, 5, 6, 7, 8, 9, 10, 11, 12, 13, 14, 23, 24, 29, 30, 15, 16, 17, 18, 19, 20, 21, 22, 26, 27, 28] : List Nat).filterMap (fun i => (a0 :: a1 :: a2 :: a3 :: a4 :: a5 :: a6 :: a7 :: a8 :: a9 :: a10 :: a11 :: a12 :: a13 :: a14 :: a15 :: a16 :: a17 :: a18 :: a19 :: a20 :: a21 :: a22 :: a23 :: a24 :: a25 :: a26 :: a27 :: a28 :: a29 :: a30 :: l : va_W)[i]?) = ([a25, a0, a1, a2, a3, a4, a5, a6, a7, a8, a9, a10, a11, a12, a13, a14, a23, a24, a29, a30, a15, a16, a17, a18, a19, a20, a21, a22, a26, a27, a28] : va_W) := rfl
theorem nd_25_0_1_2_3_4_5_6_7_8_9_10_11_12_13_14_23_24_29_30_15_16_17_18_19_20_21_22_26_27_28 : va_nd [25, 0, 1, 2, 3, 4, 5, 6, 7, 8, 9, 10, 11, 12, 13, 14, 23, 24, 29, 30, 15, 16, 17, 18, 19, 20, 21, 22, 26, 27, 28] = true := by decide
theorem sm_20_21_18_19 {a0 a1 a2 a3 a4 a5 a6 a7 a8 a9 a10 a11 a12 a13 a14 a15 a16 a17 a18 a19 a20 a21 : Nat × va_E} {l : va_W} : ([20, 21, 18, 19] : List Nat).map (fun i => (a0 :: a1 :: a2 :: a3 :: a4 :: a5 :: a6 :: a7 :: a8 :: a9 :: a10 :: a11 :: a12 :: a13 :: a14 :: a15 :: a16 :: a17 :: a18 :: a19 :: a20 :: a21 :: l : va_W)[i]?) = ([a20, a21, a18, a19] : va_W).map some := rfl
theorem fm_20_21_18_19 {a0 a1 a2 a3 a4 a5 a6 a7 a8 a9 a10 a11 a12 a13 a14 a15 a16 a17 a18 a19 a20 a21 : Nat × va_E} {l : va_W} : ([20, 21, 18, 19] : List Nat).filterMap (fun i => (a0 :: a1 :: a2 :: a3 :: a4 :: a5 :: a6 :: a7 :: a8 :: a9 :: a10 :: a11 :: a12 :: a13 :: a14 :: a15 :: a16 :: a17 :: a18 :: a19 :: a20 :: a21 :: l : va_W)[i]?) = ([a20, a21, a18, a19] : va_W) := rfl
theorem nd_20_21_18_19 : va_nd [20, 21, 18, 19] = true := by decide
theorem sm_0_1_2_3_4_5_6_7_8_9_10_11_12_13_14_15_16_17_22_23_24_25_26_27_28_29_30 {a0 a1 a2 a3 a4 a5 a6 a7 a8 a9 a10 a11 a12 a13 a14 a15 a16 a17 a18 a19 a20 a21 a22 a23 a24 a25 a26 a27 a28 a29 a30 : Nat × va_E} {l : va_W} : ([0, 1, 2, 3, 4, 5, 6, 7, 8, 9, 10, 11, 12, 13, 14, 15, 16, 17, 22, 23, 24, 25, 26, 27, 28, 29, 30] : List Nat).map (fun i => (a0 :: a1 :: a2 :: a3 :: a4 :: a5 :: a6 :: a7 :: a8 :: a9 :: a10 :: a11 :: a12 :: a13 :: a14 :: a15 :: a16 :: a17 :: a18 :: a19 :: a20 :: a21 :: a22 :: a23 :: a24 :: a25 :: a26 :: a27 :: a28 :: a29 :: a30 :: l : va_W)[i]?) = ([a0, a1, a2, a3, a4, a5, a6, a7, a8, a9, a10, a11, a12, a13, a14, a15, a16, a17, a22, a23, a24, a25, a26, a27, a28, a29, a30] : va_W).map some := rfl
theorem nd_0_1_2_3_4_5_6_7_8_9_10_11_12_13_14_15_16_17_22_23_24_25_26_27_28_29_30 : va_nd [0, 1, 2, 3, 4, 5, 6, 7, 8, 9, 10, 11, 12, 13, 14, 15, 16, 17, 22, 23, 24, 25, 26, 27, 28, 29, 30] = true := by decide
theorem dj_20_21_18_19__0_1_2_3_4_5_6_7_8_9_10_11_12_13_14_15_16_17_22_23_24_25_26_27_28_29_30 : ∀ i ∈ ([0, 1, 2, 3, 4, 5, 6, 7, 8, 9, 10, 11, 12, 13, 14, 15, 16, 17, 22, 23, 24, 25, 26, 27, 28, 29, 30] : List Nat), i ∉ ([20, 21, 18, 19] : List Nat) := by decide
theorem sm_25_0_1_2_3_4_5_6_7_8_9_10_11_12_13_14_15_16_23_24_29_30_17_18_19_20_21_22_26_27_28 {a0 a1 a2 a3 a4 a5 a6 a7 a8 a9 a10 a11 a12 a13 a14 a15 a16 a17 a18 a19 a20 a21 a22 a23 a24 a25 a26 a27 a28 a29 a30 : Nat × va_E} {l : va_W} : ([25, 0, 1, 2, 3, 4, 5, 6, 7, 8, 9, 10, 11, 12, 13, 14, 15, 16, 23, 24, 29, 30, 17, 18, 19, 20, 21, 22, 26, 27, 28] : List Nat).map (fun i => (a0 :: a1 :: a2 :: a3 :: a4 :: a5 :: a6 :: a7 :: a8 :: a9 :: a10 :: a11 :: a12 :: a13 :: a14 :: a15 :: a16 :: a17 :: a18 :: a19 :: a20 :: a21 :: a22 :: a23 :: a24 :: a25 :: a26 :: a27 :: a28 :: a29 :: a30 :: l : va_W)[i]?) = ([a25, a0, a1, a2, a3, a4, a5, a6, a7, a8, a9, a10, a11, a12, a13, a14, a15, a16, a23, a24, a29, a30, a17, a18, a19, a20, a21, a22, a26, a27, a28] : va_W).map some := rfl
theorem fm_25_0_1_2_3_4_5_6_7_8_9_10_11_12_13_14_15_16_23_24_29_30_17_18_19_20_21_22_26_27_28 {a0 a1 a2 a3 a4 a5 a6 a7 a8 a9 a10 a11 a12 a13 a14 a15 a16 a17 a18 a19 a20 a21 a22 a23 a24 a25 a26 a27 a28 a29 a30 : Nat × va_E} {l : va_W} : ([25, 0, 1, 2, 3, 4, 5, 6, 7, 8, 9, 10, 11, 12, 13, 14, 15, 16, 23, 24, 29, 30, 17, 18, 19, 20, 21, 22, 26, 27, 28] : List Nat).filterMap (fun i => (a0 :: a1 :: a2 :: a3 :: a4 :: a5 :: a6 :: a7 :: a8 :: a9 :: a10 :: a11 :: a12 :: a13 :: a14 :: a15 :: a16 :: a17 :: a18 :: a19 :: a20 :: a21 :: a22 :: a23 :: a24 :: a25 :: a26 :: a27 :: a28 :: a29 :: a30 :: l : va_W)[i]?) = ([a25, a0, a1, a2, a3, a4, a5, a6, a7, a8, a9, a10, a11, a12, a13, a14, a15, a16, a23, a24, a29, a30, a17, a18, a19, a20, a21, a22, a26, a27, a28] : va_W) := rfl
theorem nd_25_0_1_2_3_4_5_6_7_8_9_10_11_12_13_14_15_16_23_24_29_30_17_18_19_20_21_22_26_27_28 : va_nd [25, 0, 1, 2, 3, 4, 5, 6, 7, 8, 9, 10, 11, 12, 13, 14, 15, 16, 23, 24, 29, 30, 17, 18, 19, 20, 21, 22, 26, 27, 28] = true := by decide
theorem sm_22_23_20_21 {a0 a1 a2 a3 a4 a5 a6 a7 a8 a9 a10 a11 a12 a13 a14 a15 a16 a17 a18 a19 a20 a21 a22 a23 : Nat × va_E} {l : va_W} : ([22, 23, 20, 21] : List Nat).map (fun i => (a0 :: a1 :: a2 :: a3 :: a4 :: a5 :: a6 :: a7 :: a8 :: a9 :: a10 :: a11 :: a12 :: a13 :: a14 :: a15 :: a16 :: a17 :: a18 :: a19 :: a20 :: a21 :: a22 :: a23 :: l : va_W)[i]?) = ([a22, a23, a20, a21] : va_W).map some := rfl
theorem fm_22_23_20_21 {a0 a1 a2 a3 a4 a5 a6 a7 a8 a9 a10 a11 a12 a13 a14 a15 a16 a17 a18 a19 a20 a21 a22 a23 : Nat × va_E} {l : va_W} : ([22, 23, 20, 21] : List Nat).filterMap (fun i => (a0 :: a1 :: a2 :: a3 :: a4 :: a5 :: a6 :: a7 :: a8 :: a9 :: a10 :: a11 :: a12 :: a13 :: a14 :: a15 :: a16 :: a17 :: a18 :: a19 :: a20 :: a21 :: a22 :: a23 :: l : va_W)[i]?) = ([a22, a23, a20, a21] : va_W) := rfl
theorem nd_22_23_20_21 : va_nd [22, 23, 20, 21] = true := by decide
theorem sm_0_1_2_3_4_5_6_7_8_9_10_11_12_13_14_15_16_17_18_19_24_25_26_27_28_29_30 {a0 a1 a2 a3 a4 a5 a6 a7 a8 a9 a10 a11 a12 a13 a14 a15 a16 a17 a18 a19 a20 a21 a22 a23 a24 a25 a26 a27 a28 a29 a30 : Nat × va_E} {l : va_W} : ([0, 1, 2, 3, 4, 5, 6, 7, 8, 9, 10, 11, 12, 13, 14, 15, 16, 17, 18, 19, 24, 25, 26, 27, 28, 29, 30] : List Nat).map (fun i => (a0 :: a1 :: a2 :: a3 :: a4 :: a5 :: a6 :: a7 :: a8 :: a9 :: a10 :: a11 :: a12 :: a13 :: a14 :: a15 :: a16 :: a17 :: a18 :: a19 :: a20 :: a21 :: a22 :: a23 :: a24 :: a25 :: a26 :: a27 :: a28 :: a29 :: a30 :: l : va_W)[i]?) = ([a0, a1, a2, a3, a4, a5, a6, a7, a8, a9, a10, a11, a12, a13, a14, a15, a16, a17, a18, a19, a24, a25, a26, a27, a28, a29, a30] : va_W).map some := rfl
theorem nd_0_1_2_3_4_5_6_7_8_9_10_11_12_13_14_15_16_17_18_19_24_25_26_27_28_29_30 : va_nd [0, 1, 2, 3, 4, 5, 6, 7, 8, 9, 10, 11, 12, 13, 14, 15, 16, 17, 18, 19, 24, 25, 26, 27, 28, 29, 30] = true := by decide
theorem dj_22_23_20_21__0_1_2_3_4_5_6_7_8_9_10_11_12_13_14_15_16_17_18_19_24_25_26_27_28_29_30 : ∀ i ∈ ([0, 1, 2, 3, 4, 5, 6, 7, 8, 9, 10, 11, 12, 13, 14, 15, 16, 17, 18, 19, 24, 25, 26, 27, 28, 29, 30] : List Nat), i ∉ ([22, 23, 20, 21] : List Nat) := by decide
theorem sm_25_0_1_2_3_4_5_6_7_8_9_10_11_12_13_14_15_16_17_18_23_24_29_30_19_20_21_22_26_27_28 {a0 a1 a2 a3 a4 a5 a6 a7 a8 a9 a10 a11 a12 a13 a14 a15 a16 a17 a18 a19 a20 a21 a22 a23 a24 a25 a26 a27 a28 a29 a30 : Nat × va_E} {l : va_W} : ([25, 0, 1, 2, 3, 4, 5, 6, 7, 8, 9, 10, 11, 12, 13, 14, 15, 16, 17, 18, 23, 24, 29, 30, 19, 20, 21, 22, 26, 27, 28] : List Nat).map (fun i => (a0 :: a1 :: a2 :: a3 :: a4 :: a5 :: a6 :: a7 :: a8 :: a9 :: a10 :: a11 :: a12 :: a13 :: a14 :: a15 :: a16 :: a17 :: a18 :: a19 :: a20 :: a21 :: a22 :: a23 :: a24 :: a25 :: a26 :: a27 :: a28 :: a29 :: a30 :: l : va_W)[i]?) = ([a25, a0, a1, a2, a3, a4, a5, a6, a7, a8, a9, a10, a11, a12, a13, a14, a15, a16, a17, a18, a23, a24, a29, a30, a19, a20, a21, a22, a26, a27, a28] : va_W).map some := rfl
theorem fm_25_0_1_2_3_4_5_6_7_8_9_10_11_12_13_14_15_16_17_18_23_24_29_30_19_20_21_22_26_27_28 {a0 a1 a2 a3 a4 a5 a6 a7 a8 a9 a10 a11 a12 a13 a14 a15 a16 a17 a18 a19 a20 a21 a22 a23 a24 a25 a26 a27 a28 a29 a30 : Nat × va_E} {l : va_W} : ([25, 0, 1, 2, 3, 4, 5, 6, 7, 8, 9, 10, 11, 12, 13, 14, 15, 16, 17, 18, 23, 24, 29, 30, 19, 20, 21, 22, 26, 27, 28] : List Nat).filterMap (fun i => (a0 :: a1 :: a2 :: a3 :: a4 :: a5 :: a6 :: a7 :: a8 :: a9 :: a10 :: a11 :: a12 :: a13 :: a14 :: a15 :: a16 :: a17 :: a18 :: a19 :: a20 :: a21 :: a22 :: a23 :: a24 :: a25 :: a26 :: a27 :: a28 :: a29 :: a30 :: l : va_W)[i]?) = ([a25, a0, a1, a2, a3, a4, a5, a6, a7, a8, a9, a10, a11, a12, a13, a14, a15, a16, a17, a18, a23, a24, a29, a30, a19, a20, a21, a22, a26, a27, a28] : va_W) := rfl
theorem nd_25_0_1_2_3_4_5_6_7_8_9_10_11_12_13_14_15_16_17_18_23_24_29_30_19_20_21_22_26_27_28 : va_nd [25, 0, 1, 2, 3, 4, 5, 6, 7, 8, 9, 10, 11, 12, 13, 14, 15, 16, 17, 18, 23, 24, 29, 30, 19, 20, 21, 22, 26, 27, 28] = true := by decide
theorem sm_24_25_22_23 {a0 a1 a2 a3 a4 a5 a6 a7 a8 a9 a10 a11 a12 a13 a14 a15 a16 a17 a18 a19 a20 a21 a22 a23 a24 a25 : Nat × va_E} {l : va_W} : ([24, 25, 22, 23] : List Nat).map (fun i => (a0 :: a1 :: a2 :: a3 :: a4 :: a5 :: a6 :: a7 :: a8 :: a9 :: a10 :: a11 :: a12 :: a13 :: a14 :: a15 :: a16 :: a17 :: a18 :: a19 :: a20 :: a21 :: a22 :: a23 :: a24 :: a25 :: l : va_W)[i]?) = ([a24, a25, a22, a23] : va_W).map some := rfl
theorem fm_24_25_22_23 {a0 a1 a2 a3 a4 a5 a6 a7 a8 a9 a10 a11 a12 a13 a14 a15 a16 a17 a18 a19 a20 a21 a22 a23 a24 a25 : Nat × va_E} {l : va_W} : ([24, 25, 22, 23] : List Nat).filterMap (fun i => (a0 :: a1 :: a2 :: a3 :: a4 :: a5 :: a6 :: a7 :: a8 :: a9 :: a10 :: a11 :: a12 :: a13 :: a14 :: a15 :: a16 :: a17 :: a18 :: a19 :: a20 :: a21 :: a22 :: a23 :: a24 :: a25 :: l : va_W)[i]?) = ([a24, a25, a22, a23] : va_W) := rfl
theorem nd_24_25_22_23 : va_nd [24, 25, 22, 23] = true := by decide
theorem sm_0_1_2_3_4_5_6_7_8_9_10_11_12_13_14_15_16_17_18_19_20_21_26_27_28_29_30 {a0 a1 a2 a3 a4 a5 a6 a7 a8 a9 a10 a11 a12 a13 a14 a15 a16 a17 a18 a19 a20 a21 a22 a23 a24 a25 a26 a27 a28 a29 a30 : Nat × va_E} {l : va_W} : ([0, 1, 2, 3, 4, 5, 6, 7, 8, 9, 10, 11, 12, 13, 14, 15, 16, 17, 18, 19, 20, 21, 26, 27, 28, 29, 30] : List Nat).map (fun i => (a0 :: a1 :: a2 :: a3 :: a4 :: a5 :: a6 :: a7 :: a8 :: a9 :: a10 :: a11 :: a12 :: a13 :: a14 :: a15 :: a16 :: a17 :: a18 :: a19 :: a20 :: a21 :: a22 :: a23 :: a24 :: a25 :: a26 :: a27 :: a28 :: a29 :: a30 :: l : va_W)[i]?) = ([a0, a1, a2, a3, a4, a5, a6, a7, a8, a9, a10, a11, a12, a13, a14, a15, a16, a17, a18, a19, a20, a21, a26, a27, a28, a29, a30] : va_W).map some := rfl
theorem nd_0_1_2_3_4_5_6_7_8_9_10_11_12_13_14_15_16_17_18_19_20_21_26_27_28_29_30 : va_nd [0, 1, 2, 3, 4, 5, 6, 7, 8, 9, 10, 11, 12, 13, 14, 15, 16, 17, 18, 19, 20, 21, 26, 27, 28, 29, 30] = true := by decide
theorem dj_24_25_22_23__0_1_2_3_4_5_6_7_8_9_10_11_12_13_14_15_16_17_18_19_20_21_26_27_28_29_30 : ∀ i ∈ ([0, 1, 2, 3, 4, 5, 6, 7, 8, 9, 10, 11, 12, 13, 14, 15, 16, 17, 18, 19, 20, 21, 26, 27, 28, 29, 30] : List Nat), i ∉ ([24, 25, 22, 23] : List Nat) := by decide
theorem sm_25_0_1_2_3_4_5_6_7_8_9_10_11_12_13_14_15_16_17_18_19_20_23_24_29_30_21_22_26_27_28 {a0 a1 a2 a3 a4 a5 a6 a7 a8 a9 a10 a11 a12 a13 a14 a15 a16 a17 a18 a19 a20 a21 a22 a23 a24 a25 a26 a27 a28 a29 a30 : Nat × va_E} {l : va_W} : ([25, 0, 1, 2, 3, 4, 5, 6, 7, 8, 9, 10, 11, 12, 13, 14, 15, 16, 17, 18, 19, 20, 23, 24, 29, 30, 21, 22, 26, 27, 28] : List Nat).map (fun i => (a0 :: a1 :: a2 :: a3 :: a4 :: a5 :: a6 :: a7 :: a8 :: a9 :: a10 :: a11 :: a12 :: a13 :: a14 :: a15 :: a16 :: a17 :: a18 :: a19 :: a20 :: a21 :: a22 :: a23 :: a24 :: a25 :: a26 :: a27 :: a28 :: a29 :: a30 :: l : va_W)[i]?) = ([a25, a0, a1, a2, a3, a4, a5, a6, a7, a8, a9, a10, a11, a12, a13, a14, a15, a16, a17, a18, a19, a20, a23, a24, a29, a30, a21, a22, a26, a27, a28] : va_W).map some := rfl
theorem fm_25_0_1_2_3_4_5_6_7_8_9_10_11_12_13_14_15_16_17_18_19_20_23_24_29_30_21_22_26_27_28 {a0 a1 a2 a3 a4 a5 a6 a7 a8 a9 a10 a11 a12 a13 a14 a15 a16 a17 a18 a19 a20 a21 a22 a23 a24 a25 a26 a27 a28 a29 a30 : Nat × va_E} {l : va_W} : ([25, 0, 1, 2, 3, 4, 5, 6, 7, 8, 9, 10, 11, 12, 13, 14, 15, 16, 17, 18, 19, 20, 23, 24, 29, 30, 21, 22, 26, 27, 28] : List Nat).filterMap (fun i => (a0 :: a1 :: a2 :: a3 :: a4 :: a5 :: a6 :: a7 :: a8 :: a9 :: a10 :: a11 :: a12 :: a13 :: a14 :: a15 :: a16 :: a17 :: a18 :: a19 :: a20 :: a21 :: a22 :: a23 :: a24 :: a25 :: a26 :: a27 :: a28 :: a29 :: a30 :: l : va_W)[i]?) = ([a25, a0, a1, a2, a3, a4, a5, a6, a7, a8, a9, a10, a11, a12, a13, a14, a15, a16, a17, a18, a19, a20, a23, a24, a29, a30, a21, a22, a26, a27, a28] : va_W) := rfl
theorem nd_25_0_1_2_3_4_5_6_7_8_9_10_11_12_13_14_15_16_17_18_19_20_23_24_29_30_21_22_26_27_28 : va_nd [25, 0, 1, 2, 3, 4, 5, 6, 7, 8, 9, 10, 11, 12, 13, 14, 15, 16, 17, 18, 19, 20, 23, 24, 29, 30, 21, 22, 26, 27, 28] = true := by decide
theorem sm_26_27_24_25 {a0 a1 a2 a3 a4 a5 a6 a7 a8 a9 a10 a11 a12 a13 a14 a15 a16 a17 a18 a19 a20 a21 a22 a23 a24 a25 a26 a27 : Nat × va_E} {l : va_W} : ([26, 27, 24, 25] : List Nat).map (fun i => (a0 :: a1 :: a2 :: a3 :: a4 :: a5 :: a6 :: a7 :: a8 :: a9 :: a10 :: a11 :: a12 :: a13 :: a14 :: a15 :: a16 :: a17 :: a18 :: a19 :: a20 :: a21 :: a22 :: a23 :: a24 :: a25 :: a26 :: a27 :: l : va_W)[i]?) = ([a26, a27, a24, a25] : va_W).map some := rfl
theorem fm_26_27_24_25 {a0 a1 a2 a3 a4 a5 a6 a7 a8 a9 a10 a11 a12 a13 a14 a15 a16 a17 a18 a19 a20 a21 a22 a23 a24 a25 a26 a27 : Nat × va_E} {l : va_W} : ([26, 27, 24, 25] : List Nat).filterMap (fun i => (a0 :: a1 :: a2 :: a3 :: a4 :: a5 :: a6 :: a7 :: a8 :: a9 :: a10 :: a11 :: a12 :: a13 :: a14 :: a15 :: a16 :: a17 :: a18 :: a19 :: a20 :: a21 :: a22 :: a23 :: a24 :: a25 :: a26 :: a27 :: l : va_W)[i]?) = ([a26, a27, a24, a25] : va_W) := rfl
theorem nd_26_27_24_25 : va_nd [26, 27, 24, 25] = true := by decide
theorem sm_0_1_2_3_4_5_6_7_8_9_10_11_12_13_14_15_16_17_18_19_20_21_22_23_28_29_30 {a0 a1 a2 a3 a4 a5 a6 a7 a8 a9 a10 a11 a12 a13 a14 a15 a16 a17 a18 a19 a20 a21 a22 a23 a24 a25 a26 a27 a28 a29 a30 : Nat × va_E} {l : va_W} : ([0, 1, 2, 3, 4, 5, 6, 7, 8, 9, 10, 11, 12, 13, 14, 15, 16, 17, 18, 19, 20, 21, 22, 23, 28, 29, 30] : List Nat).map (fun i => (a0 :: a1 :: a2 :: a3 :: a4 :: a5 :: a6 :: a7 :: a8 :: a9 :: a10 :: a11 :: a12 :: a13 :: a14 :: a15 :: a16 :: a17 :: a18 :: a19 :: a20 :: a21 :: a22 :: a23 :: a24 :: a25 :: a26 :: a27 :: a28 :: a29 :: a30 :: l : va_W)[i]?) = ([a0, a1, a2, a3, a4, a5, a6, a7, a8, a9, a10, a11, a12, a13, a14, a15, a16, a17, a18, a19, a20, a21, a22, a23, a28, a29, a30] : va_W).map some := rfl
theorem nd_0_1_2_3_4_5_6_7_8_9_10_11_12_13_14_15_16_17_18_19_20_21_22_23_28_29_30 : va_nd [0, 1, 2, 3, 4, 5, 6, 7, 8, 9, 10, 11, 12, 13, 14, 15, 16, 17, 18, 19, 20, 21, 22, 23, 28, 29, 30] = true := by decide
theorem dj_26_27_24_25__0_1_2_3_4_5_6_7_8_9_10_11_12_13_14_15_16_17_18_19_20_21_22_23_28_29_30 : ∀ i ∈ ([0, 1, 2, 3, 4, 5, 6, 7, 8, 9, 10, 11, 12, 13, 14, 15, 16, 17, 18, 19, 20, 21, 22, 23, 28, 29, 30] : List Nat), i ∉ ([26, 27, 24, 25] : List Nat) := by decide
theorem sm_25_0_1_2_3_4_5_6_7_8_9_10_11_12_13_14_15_16_17_18_19_20_21_22_23_24_29_30_26_27_28 {a0 a1 a2 a3 a4 a5 a6 a7 a8 a9 a10 a11 a12 a13 a14 a15 a16 a17 a18 a19 a20 a21 a22 a23 a24 a25 a26 a27 a28 a29 a30 : Nat × va_E} {l : va_W} : ([25, 0, 1, 2, 3, 4, 5, 6, 7, 8, 9, 10, 11, 12, 13, 14, 15, 16, 17, 18, 19, 20, 21, 22, 23, 24, 29, 30, 26, 27, 28] : List Nat).map (fun i => (a0 :: a1 :: a2 :: a3 :: a4 :: a5 :: a6 :: a7 :: a8 :: a9 :: a10 :: a11 :: a12 :: a13 :: a14 :: a15 :: a16 :: a17 :: a18 :: a19 :: a20 :: a21 :: a22 :: a23 :: a24 :: a25 :: a26 :: a27 :: a28 :: a29 :: a30 :: l : va_W)[i]?) = ([a25, a0, a1, a2, a3, a4, a5, a6, a7, a8, a9, a10, a11, a12, a13, a14, a15, a16, a17, a18, a19, a20, a21, a22, a23, a24, a29, a30, a26, a27, a28] : va_W).map some := rfl
theorem fm_25_0_1_2_3_4_5_6_7_8_9_10_11_12_13_14_15_16_17_18_19_20_21_22_23_24_29_30_26_27_28 {a0 a1 a2 a3 a4 a5 a6 a7 a8 a9 a10 a11 a12 a13 a14 a15 a16 a17 a18 a19 a20 a21 a22 a23 a24 a25 a26 a27 a28 a29 a30 : Nat × va_E} {l : va_W} : ([25, 0, 1, 2, 3, 4, 5, 6, 7, 8, 9, 10, 11, 12, 13, 14, 15, 16, 17, 18, 19, 20, 21, 22, 23, 24, 29, 30, 26, 27, 28] : List Nat).filterMap (fun i => (a0 :: a1 :: a2 :: a3 :: a4 :: a5 :: a6 :: a7 :: a8 :: a9 :: a10 :: a11 :: a12 :: a13 :: a14 :: a15 :: a16 :: a17 :: a18 :: a19 :: a20 :: a21 :: a22 :: a23 :: a24 :: a25 :: a26 :: a27 :: a28 :: a29 :: a30 :: l : va_W)[i]?) = ([a25, a0, a1, a2, a3, a4, a5, a6, a7, a8, a9, a10, a11, a12, a13, a14, a15, a16, a17, a18, a19, a20, a21, a22, a23, a24, a29, a30, a26, a27, a28] : va_W) := rfl
theorem nd_25_0_1_2_3_4_5_6_7_8_9_10_11_12_13_14_15_16_17_18_19_20_21_22_23_24_29_30_26_27_28 : va_nd [25, 0, 1, 2, 3, 4, 5, 6, 7, 8, 9, 10, 11, 12, 13, 14, 15, 16, 17, 18, 19, 20, 21, 22, 23, 24, 29, 30, 26, 27, 28] = true := by decide
theorem rm_40_1_1 {mc ms : Nat} : 1 + 1 ≤ (RM 40 mc ms).frames ∧ 8 + (1 + 11) + 40 * 1 ≤ (RM 40 mc ms).locals := ⟨by show 1 + 1 ≤ 40; decide, by show 8 + (1 + 11) + 40 * 1 ≤ 40 * 40; decide⟩
theorem sm_31 {a0 a1 a2 a3 a4 a5 a6 a7 a8 a9 a10 a11 a12 a13 a14 a15 a16 a17 a18 a19 a20 a21 a22 a23 a24 a25 a26 a27 a28 a29 a30 a31 : Nat × va_E} {l : va_W} : ([31] : List Nat).map (fun i => (a0 :: a1 :: a2 :: a3 :: a4 :: a5 :: a6 :: a7 :: a8 :: a9 :: a10 :: a11 :: a12 :: a13 :: a14 :: a15 :: a16 :: a17 :: a18 :: a19 :: a20 :: a21 :: a22 :: a23 :: a24 :: a25 :: a26 :: a27 :: a28 :: a29 :: a30 :: a31 :: l : va_W)[i]?) = ([a31] : va_W).map some := rfl
theorem fm_31 {a0 a1 a2 a3 a4 a5 a6 a7 a8 a9 a10 a11 a12 a13 a14 a15 a16 a17 a18 a19 a20 a21 a22 a23 a24 a25 a26 a27 a28 a29 a30 a31 : Nat × va_E} {l : va_W} : ([31] : List Nat).filterMap (fun i => (a0 :: a1 :: a2 :: a3 :: a4 :: a5 :: a6 :: a7 :: a8 :: a9 :: a10 :: a11 :: a12 :: a13 :: a14 :: a15 :: a16 :: a17 :: a18 :: a19 :: a20 :: a21 :: a22 :: a23 :: a24 :: a25 :: a26 :: a27 :: a28 :: a29 :: a30 :: a31 :: l : va_W)[i]?) = ([a31] : va_W) := rfl
theorem nd_31 : va_nd [31] = true := by decide
theorem rm_40_1_4 {mc ms : Nat} : 1 + 1 ≤ (RM 40 mc ms).frames ∧ 8 + (4 + 11) + 40 * 1 ≤ (RM 40 mc ms).locals := ⟨by show 1 + 1 ≤ 40; decide, by show 8 + (4 + 11) + 40 * 1 ≤ 40 * 40; decide⟩
theorem sm_0_1_4_5_6_7_8_9_10_11_12_13_14_15_16_17_18_19_20_21_22_23_24_25_26_27_28_29_30_31_32 {a0 a1 a2 a3 a4 a5 a6 a7 a8 a9 a10 a11 a12 a13 a14 a15 a16 a17 a18 a19 a20 a21 a22 a23 a24 a25 a26 a27 a28 a29 a30 a31 a32 : Nat × va_E} {l : va_W} : ([0, 1, 4, 5, 6, 7, 8, 9, 10, 11, 12, 13, 14, 15, 16, 17, 18, 19, 20, 21, 22, 23, 24, 25, 26, 27, 28, 29, 30, 31, 32] : List Nat).map (fun i => (a0 :: a1 :: a2 :: a3 :: a4 :: a5 :: a6 :: a7 :: a8 :: a9 :: a10 :: a11 :: a12 :: a13 :: a14 :: a15 :: a16 :: a17 :: a18 :: a19 :: a20 :: a21 :: a22 :: a23 :: a24 :: a25 :: a26 :: a27 :: a28 :: a29 :: a30 :: a31 :: a32 :: l : va_W)[i]?) = ([a0, a1, a4, a5, a6, a7, a8, a9, a10, a11, a12, a13, a14, a15, a16, a17, a18, a19, a20, a21, a22, a23, a24, a25, a26, a27, a28, a29, a30, a31, a32] : va_W).map some := rfl
theorem nd_0_1_4_5_6_7_8_9_10_11_12_13_14_15_16_17_18_19_20_21_22_23_24_25_26_27_28_29_30_31_32 : va_nd [0, 1, 4, 5, 6, 7, 8, 9, 10, 11, 12, 13, 14, 15, 16, 17, 18, 19, 20, 21, 22, 23, 24, 25, 26, 27, 28, 29, 30, 31, 32] = true := by decide
theorem dj_2_3__0_1_4_5_6_7_8_9_10_11_12_13_14_15_16_17_18_19_20_21_22_23_24_25_26_27_28_29_30_31_32 : ∀ i ∈ ([0, 1, 4, 5, 6, 7, 8, 9, 10, 11, 12, 13, 14, 15, 16, 17, 18, 19, 20, 21, 22, 23, 24, 25, 26, 27, 28, 29, 30, 31, 32] : List Nat), i ∉ ([2, 3] : List Nat) := by decide
theorem sm_0_1_31_32_2_3_4_5_6_7_8_9_10_11_12_13_14_15_16_17_18_19_20_21_22_23_24_25_26_27_28 {a0 a1 a2 a3 a4 a5 a6 a7 a8 a9 a10 a11 a12 a13 a14 a15 a16 a17 a18 a19 a20 a21 a22 a23 a24 a25 a26 a27 a28 a29 a30 a31 a32 : Nat × va_E} {l : va_W} : ([0, 1, 31, 32, 2, 3, 4, 5, 6, 7, 8, 9, 10, 11, 12, 13, 14, 15, 16, 17, 18, 19, 20, 21, 22, 23, 24, 25, 26, 27, 28] : List Nat).map (fun i => (a0 :: a1 :: a2 :: a3 :: a4 :: a5 :: a6 :: a7 :: a8 :: a9 :: a10 :: a11 :: a12 :: a13 :: a14 :: a15 :: a16 :: a17 :: a18 :: a19 :: a20 :: a21 :: a22 :: a23 :: a24 :: a25 :: a26 :: a27 :: a28 :: a29 :: a30 :: a31 :: a32 :: l : va_W)[i]?) = ([a0, a1, a31, a32, a2, a3, a4, a5, a6, a7, a8, a9, a10, a11, a12, a13, a14, a15, a16, a17, a18, a19, a20, a21, a22, a23, a24, a25, a26, a27, a28] : va_W).map some := rfl
theorem fm_0_1_31_32_2_3_4_5_6_7_8_9_10_11_12_13_14_15_16_17_18_19_20_21_22_23_24_25_26_27_28 {a0 a1 a2 a3 a4 a5 a6 a7 a8 a9 a10 a11 a12 a13 a14 a15 a16 a17 a18 a19 a20 a21 a22 a23 a24 a25 a26 a27 a28 a29 a30 a31 a32 : Nat × va_E} {l : va_W} : ([0, 1, 31, 32, 2, 3, 4, 5, 6, 7, 8, 9, 10, 11, 12, 13, 14, 15, 16, 17, 18, 19, 20, 21, 22, 23, 24, 25, 26, 27, 28] : List Nat).filterMap (fun i => (a0 :: a1 :: a2 :: a3 :: a4 :: a5 :: a6 :: a7 :: a8 :: a9 :: a10 :: a11 :: a12 :: a13 :: a14 :: a15 :: a16 :: a17 :: a18 :: a19 :: a20 :: a21 :: a22 :: a23 :: a24 :: a25 :: a26 :: a27 :: a28 :: a29 :: a30 :: a31 :: a32 :: l : va_W)[i]?) = ([a0, a1, a31, a32, a2, a3, a4, a5, a6, a7, a8, a9, a10, a11, a12, a13, a14, a15, a16, a17, a18, a19, a20, a21, a22, a23, a24, a25, a26, a27, a28] : va_W) := rfl
theorem nd_0_1_31_32_2_3_4_5_6_7_8_9_10_11_12_13_14_15_16_17_18_19_20_21_22_23_24_25_26_27_28 : va_nd [0, 1, 31, 32, 2, 3, 4, 5, 6, 7, 8, 9, 10, 11, 12, 13, 14, 15, 16, 17, 18, 19, 20, 21, 22, 23, 24, 25, 26, 27, 28] = true := by decide
theorem sm_29_30 {a0 a1 a2 a3 a4 a5 a6 a7 a8 a9 a10 a11 a12 a13 a14 a15 a16 a17 a18 a19 a20 a21 a22 a23 a24 a25 a26 a27 a28 a29 a30 : Nat × va_E} {l : va_W} : ([29, 30] : List Nat).map (fun i => (a0 :: a1 :: a2 :: a3 :: a4 :: a5 :: a6 :: a7 :: a8 :: a9 :: a10 :: a11 :: a12 :: a13 :: a14 :: a15 :: a16 :: a17 :: a18 :: a19 :: a20 :: a21 :: a22 :: a23 :: a24 :: a25 :: a26 :: a27 :: a28 :: a29 :: a30 :: l : va_W)[i]?) = ([a29, a30] : va_W).map some := rfl
theorem nd_29_30 : va_nd [29, 30] = true := by decide
theorem dj_0_1_31_32_2_3_4_5_6_7_8_9_10_11_12_13_14_15_16_17_18_19_20_21_22_23_24_25_26_27_28__29_30 : ∀ i ∈ ([29, 30] : List Nat), i ∉ ([0, 1, 31, 32, 2, 3, 4, 5, 6, 7, 8, 9, 10, 11, 12, 13, 14, 15, 16, 17, 18, 19, 20, 21, 22, 23, 24, 25, 26, 27, 28] : List Nat) := by decide
theorem rm_40_1_2 {mc ms : Nat} : 1 + 1 ≤ (RM 40 mc ms).frames ∧ 8 + (2 + 11) + 40 * 1 ≤ (RM 40 mc ms).locals := ⟨by show 1 + 1 ≤ 40; decide, by show 8 + (2 + 11) + 40 * 1 ≤ 40 * 40; decide⟩
theorem rm_40_3_4 {mc ms : Nat} : 3 + 1 ≤ (RM 40 mc ms).frames ∧ 8 + (4 + 11) + 40 * 3 ≤ (RM 40 mc ms).locals := ⟨by show 3 + 1 ≤ 40; decide, by show 8 + (4 + 11) + 40 * 3 ≤ 40 * 40; decide⟩
theorem sm_28_29_30 {a0 a1 a2 a3 a4 a5 a6 a7 a8 a9 a10 a11 a12 a13 a14 a15 a16 a17 a18 a19 a20 a21 a22 a23 a24 a25 a26 a27 a28 a29 a30 : Nat × va_E} {l : va_W} : ([28, 29, 30] : List Nat).map (fun i => (a0 :: a1 :: a2 :: a3 :: a4 :: a5 :: a6 :: a7 :: a8 :: a9 :: a10 :: a11 :: a12 :: a13 :: a14 :: a15 :: a16 :: a17 :: a18 :: a19 :: a20 :: a21 :: a22 :: a23 :: a24 :: a25 :: a26 :: a27 :: a28 :: a29 :: a30 :: l : va_W)[i]?) = ([a28, a29, a30] : va_W).map some := rfl
theorem fm_28_29_30 {a0 a1 a2 a3 a4 a5 a6 a7 a8 a9 a10 a11 a12 a13 a14 a15 a16 a17 a18 a19 a20 a21 a22 a23 a24 a25 a26 a27 a28 a29 a30 : Nat × va_E} {l : va_W} : ([28, 29, 30] : List Nat).filterMap (fun i => (a0 :: a1 :: a2 :: a3 :: a4 :: a5 :: a6 :: a7 :: a8 :: a9 :: a10 :: a11 :: a12 :: a13 :: a14 :: a15 :: a16 :: a17 :: a18 :: a19 :: a20 :: a21 :: a22 :: a23 :: a24 :: a25 :: a26 :: a27 :: a28 :: a29 :: a30 :: l : va_W)[i]?) = ([a28, a29, a30] : va_W) := rfl
theorem nd_28_29_30 : va_nd [28, 29, 30] = true := by decide
def K_c_isRight (l : Launch) (G : GG) (h0 : Nat) (pa : Int32) (kx : Nat) (bb : Nat) (hd : Nat) (bo : Int32) (le : Int32) (bi : Int32) (bpersons : Nat) (bpapers : Nat) (bstamps : Nat) (bversions : Nat) (blines : Nat) (bsteps : Nat) (bsayings : Nat) (bfindings : Nat) (bwarnings : Nat) (bquestions : Nat) (td : Int32) (vd : Int32) (vl : Int32) (gp : Int32) (bstampsc : Nat) (kbstamps : Nat) (fbstamps : Nat → Int32) (ky : Nat) (fx : Nat → Int32) : Prop := MI l G yX3_isRight cX3_isRight 5 (some .boolean) 4 0 0 [.ref h0, .int pa, .ref kx] [(h0, oX3 bb hd bo le bi), (bb, oX0 bpersons bpapers bstamps bversions blines bsteps bsayings bfindings bwarnings bquestions td vd vl gp), (bstamps, oX8 24 3 bstampsc (nI kbstamps)), (bstampsc, iA G 72 fbstamps), (kx, oX1 ky), (ky, iA G 36 fx)] (fun (r : Int32) (u : (Nat → Int32)) => (r = 1 ∨ r = 0)) (fun u : (Nat → Int32) => [(h0, oX3 bb hd bo le bi), (bb, oX0 bpersons bpapers bstamps bversions blines bsteps bsayings bfindings bwarnings bquestions td vd vl gp), (bstamps, oX8 24 3 bstampsc (nI kbstamps)), (bstampsc, iA G 72 fbstamps), (kx, oX1 ky), (ky, iA G 36 u)])
set_option maxHeartbeats 4000000 in
set_option maxRecDepth 100000 in
theorem c_isRight (l : Launch) (G : GG) (h0 : Nat) (pa : Int32) (kx : Nat) (bb : Nat) (hd : Nat) (bo : Int32) (le : Int32) (bi : Int32) (bpersons : Nat) (bpapers : Nat) (bstamps : Nat) (bversions : Nat) (blines : Nat) (bsteps : Nat) (bsayings : Nat) (bfindings : Nat) (bwarnings : Nat) (bquestions : Nat) (td : Int32) (vd : Int32) (vl : Int32) (gp : Int32) (bstampsc : Nat) (kbstamps : Nat) (fbstamps : Nat → Int32) (ky : Nat) (fx : Nat → Int32) (hkbstamps : kbstamps ≤ 24) : K_c_isRight l G h0 pa kx bb hd bo le bi bpersons bpapers bstamps bversions blines bsteps bsayings bfindings bwarnings bquestions td vd vl gp bstampsc kbstamps fbstamps ky fx := by
  refine MI.start (by decide +kernel) (Nat.le_of_ble_eq_true rfl) ?_
  intro p e s m below meth c A ls hC hK hP hD hS hA hl
  refine absQ (fun Q0 hQ0 => ?_)
  have hl : lv_has ls 5 [(0, .ref h0), (1, .int pa), (2, .ref kx)] := hl
  refine Kan8 hC (fun hx hb hr hml hB hown hlocks hnm => ?_)
  refine lv_iconst (v := (-1)) hx hb dX3_isRight_0 (by decide) ?_
  refine lv_istore_n (lv' := [(3, .int (-1)), (0, .ref h0), (1, .int pa), (2, .ref kx)]) hx hb dX3_isRight_1 rfl hl (by decide) rfl (fun ls hl => ?_)
  refine lv_iconst (v := 0) hx hb dX3_isRight_2 (by decide) ?_
  refine lv_istore (lv' := [(4, .int 0), (3, .int (-1)), (0, .ref h0), (1, .int pa), (2, .ref kx)]) hx hb dX3_isRight_3 hl (by decide) rfl (fun ls hl => ?_)
  have keyP : ∀ (nP kP : Nat) (la : Int32) (vx : Nat → Int32) (H : Heap) (locs : List Loc) (ls : Array Slot), kP + nP = kbstamps → va_PD G A [(h0, oX3 bb hd bo le bi), (bb, oX0 bpersons bpapers bstamps bversions blines bsteps bsayings bfindings bwarnings bquestions td vd vl gp), (bstamps, oX8 24 3 bstampsc (nI kbstamps)), (bstampsc, iA G 72 fbstamps), (kx, oX1 ky), (ky, iA G 36 vx)] H → va_S A s.heap H locs → lv_has ls 5 [(4, .int (nI kP)), (3, .int la), (0, .ref h0), (1, .int pa), (2, .ref kx)] → W p l e (RM 4 0 0) s m ([.ref h0, .int pa, .ref kx] : List Value).toArray below meth c H locs 0 0 Q0 (F0 m 5 ls []) := by
    intro nP
    induction nP with
    | zero =>
      intro kP la vx H locs ls hkP hPD hS hl
      refine Kan2 hPD (fun hP hD => ?_)
      obtain rfl : kbstamps = kP := by omega
      have hl : lv_has ls 5 [(4, .int (nI kbstamps)), (3, .int la), (0, .ref h0), (1, .int pa), (2, .ref kx)] := hl
      refine lv_iload hx hb dX3_isRight_5 (lv_at0 hl) ?_
      refine lv_aload_n hx hb dX3_isRight_7 rfl (lv_at2 hl) ?_
      refine gf_X3_17 hC rfl hK hP 0 rfl rfl dX3_isRight_8 ?_
      refine gf_X3_70 hC rfl hK hP 1 rfl rfl dX3_isRight_11 ?_
      refine pV hC hK hl hP hD (c_T_count l G bstamps 24 3 bstampsc kbstamps) si_X3_38 [2] sm_2 fm_2 nd_2 rfl rfl rfl rfl rfl (Nat.le_of_ble_eq_true rfl) rm_4_1_1 ⟨by first | exact Nat.le_of_ble_eq_true rfl | exact Nat.zero_le _, by first | exact Nat.le_of_ble_eq_true rfl | exact Nat.zero_le _⟩ dX3_isRight_14 (Keqr ?_)
      refine lv_icmp_ge (tgt := 79) hx hb dX3_isRight_17 (by decide) (fun _ => ?_) (fun c9 => absurd (Int32.le_refl _) c9)
      refine lv_iconst (v := 1) hx hb dX3_isRight_79 (by decide) ?_
      exact toQ hQ0 (RI (v := 1) hC hP hD hS [0, 1, 2, 3, 4, 5] vx rfl rfl (by decide) (Or.inl (rfl)) (by decide +kernel) dX3_isRight_80)
    | succ nP ihP =>
      intro kP la vx H locs ls hkP hPD hS hl
      refine Kan2 hPD (fun hP hD => ?_)
      refine lv_iload hx hb dX3_isRight_5 (lv_at0 hl) ?_
      refine lv_aload_n hx hb dX3_isRight_7 rfl (lv_at2 hl) ?_
      refine gf_X3_17 hC rfl hK hP 0 rfl rfl dX3_isRight_8 ?_
      refine gf_X3_70 hC rfl hK hP 1 rfl rfl dX3_isRight_11 ?_
      refine pV hC hK hl hP hD (c_T_count l G bstamps 24 3 bstampsc kbstamps) si_X3_38 [2] sm_2 fm_2 nd_2 rfl rfl rfl rfl rfl (Nat.le_of_ble_eq_true rfl) rm_4_1_1 ⟨by first | exact Nat.le_of_ble_eq_true rfl | exact Nat.zero_le _, by first | exact Nat.le_of_ble_eq_true rfl | exact Nat.zero_le _⟩ dX3_isRight_14 (Keqr ?_)
      refine lv_icmp_ge (tgt := 79) hx hb dX3_isRight_17 (by decide) (fun c9 => absurd c9 (nI_ge (a := kP) (b := kbstamps) (by omega) (by omega))) (fun _ => ?_)
      refine lv_aload_n hx hb dX3_isRight_20 rfl (lv_at2 hl) ?_
      refine gf_X3_17 hC rfl hK hP 0 rfl rfl dX3_isRight_21 ?_
      refine gf_X3_70 hC rfl hK hP 1 rfl rfl dX3_isRight_24 ?_
      refine lv_iload hx hb dX3_isRight_27 (lv_at0 hl) ?_
      refine lv_iconst (v := 0) hx hb dX3_isRight_29 (by decide) ?_
      refine pV hC hK hl hP hD (c_T_at l G bstamps (nI kP) 0 24 3 bstampsc kbstamps fbstamps (hkbstamps) (by omega) (by omega)) si_X3_73 [2, 3] sm_2_3 fm_2_3 nd_2_3 rfl rfl rfl rfl rfl (Nat.le_of_ble_eq_true rfl) rm_4_1_3 ⟨by first | exact Nat.le_of_ble_eq_true rfl | exact Nat.zero_le _, by first | exact Nat.le_of_ble_eq_true rfl | exact Nat.zero_le _⟩ dX3_isRight_30 (fun r347 hr347 => ?_)
      refine lv_iload_n hx hb dX3_isRight_33 rfl (lv_at3 hl) ?_
      refine lv_icmp_eq (tgt := 40) hx hb dX3_isRight_34 (by decide) (fun c_34_349 => ?_) (fun c_34_349 => ?_)
      · refine lv_iload_n hx hb dX3_isRight_40 rfl (lv_at1 hl) ?_
        refine lv_if_lt (tgt := 70) hx hb dX3_isRight_41 (by decide) (fun c_41_350 => ?_) (fun c_41_350 => ?_)
        · refine lv_iload hx hb dX3_isRight_70 (lv_at0 hl) ?_
          refine lv_istore_n (lv' := [(3, .int (nI kP)), (4, .int (nI kP)), (0, .ref h0), (1, .int pa), (2, .ref kx)]) hx hb dX3_isRight_72 rfl hl (by decide) rfl (fun ls hl => ?_)
          refine lv_iinc (v := nI (kP + 1)) (lv' := [(4, .int (nI (kP + 1))), (3, .int (nI kP)), (0, .ref h0), (1, .int pa), (2, .ref kx)]) hx hb dX3_isRight_73 hl (k := 1) rfl (nI_1 _) (by decide) rfl (fun ls hl => ?_)
          refine lv_goto (tgt := 5) hx hb dX3_isRight_76 (by decide) ?_
          exact ihP (kP + 1) (nI kP) vx _ _ _ (by omega) (And.intro hP hD) hS (lv_sub hl [0, 1, 2, 3, 4] rfl)
        · refine lv_aload_n hx hb dX3_isRight_44 rfl (lv_at4 hl) ?_
          refine lv_aload_n hx hb dX3_isRight_45 rfl (lv_at2 hl) ?_
          refine gf_X3_17 hC rfl hK hP 0 rfl rfl dX3_isRight_46 ?_
          refine gf_X3_70 hC rfl hK hP 1 rfl rfl dX3_isRight_49 ?_
          refine lv_iload_n hx hb dX3_isRight_52 rfl (lv_at1 hl) ?_
          refine lv_iload hx hb dX3_isRight_53 (lv_at0 hl) ?_
          refine lv_aload_n hx hb dX3_isRight_55 rfl (lv_at2 hl) ?_
          refine gf_X3_17 hC rfl hK hP 0 rfl rfl dX3_isRight_56 ?_
          refine gf_X3_77 hC rfl hK hP 1 rfl rfl dX3_isRight_59 ?_
          refine iV (wr := [(h0, oX3 bb hd bo le bi), (bb, oX0 bpersons bpapers bstamps bversions blines bsteps bsayings bfindings bwarnings bquestions td vd vl gp)]) hC hK hl hP hD hS hA (c_follow l G kx bstamps la (nI kP) gp ky vx bstampsc kbstamps fbstamps (hkbstamps)) si_X3_80 [4, 5, 2, 3] [0, 1] sm_4_5_2_3 fm_4_5_2_3 nd_4_5_2_3 sm_0_1 nd_0_1 dj_4_5_2_3__0_1 rfl rfl rfl rfl rfl (Nat.le_of_ble_eq_true rfl) rm_4_3_8 ⟨Nat.le_of_ble_eq_true rfl, Nat.le_of_ble_eq_true rfl⟩ dX3_isRight_62 (fun r351 f1353 H locs hr351 hP hD hS => ?_)
          try dsimp only at hr351
          refine Kpdr (ws := [(h0, oX3 bb hd bo le bi), (bb, oX0 bpersons bpapers bstamps bversions blines bsteps bsayings bfindings bwarnings bquestions td vd vl gp), (kx, oX1 ky), (ky, iA G 36 f1353), (bstamps, oX8 24 3 bstampsc (nI kbstamps)), (bstampsc, iA G 72 fbstamps)]) hP hD (fun hP hD => ?_)
          rcases hr351 with rfl | rfl
          · refine lv_if_ne (tgt := 70) hx hb dX3_isRight_65 (by decide) (fun _ => ?_) (fun c9 => absurd c9 (by decide))
            refine lv_iload hx hb dX3_isRight_70 (lv_at0 hl) ?_
            refine lv_istore_n (lv' := [(3, .int (nI kP)), (4, .int (nI kP)), (0, .ref h0), (1, .int pa), (2, .ref kx)]) hx hb dX3_isRight_72 rfl hl (by decide) rfl (fun ls hl => ?_)
            refine lv_iinc (v := nI (kP + 1)) (lv' := [(4, .int (nI (kP + 1))), (3, .int (nI kP)), (0, .ref h0), (1, .int pa), (2, .ref kx)]) hx hb dX3_isRight_73 hl (k := 1) rfl (nI_1 _) (by decide) rfl (fun ls hl => ?_)
            refine lv_goto (tgt := 5) hx hb dX3_isRight_76 (by decide) ?_
            refine Kpds (ws' := [(h0, oX3 bb hd bo le bi), (bb, oX0 bpersons bpapers bstamps bversions blines bsteps bsayings bfindings bwarnings bquestions td vd vl gp), (bstamps, oX8 24 3 bstampsc (nI kbstamps)), (bstampsc, iA G 72 fbstamps), (kx, oX1 ky), (ky, iA G 36 f1353)]) hP hD [0, 1, 4, 5, 2, 3] fm_0_1_4_5_2_3 nd_0_1_4_5_2_3 sm_0_1_4_5_2_3 (fun hP hD => ?_)
            exact ihP (kP + 1) (nI kP) f1353 _ _ _ (by omega) (And.intro hP hD) hS (lv_sub hl [0, 1, 2, 3, 4] rfl)
          · refine lv_if_ne (tgt := 70) hx hb dX3_isRight_65 (by decide) (fun c9 => absurd (by decide) c9) (fun _ => ?_)
            refine lv_iconst (v := 0) hx hb dX3_isRight_68 (by decide) ?_
            exact toQ hQ0 (RI (v := 0) hC hP hD hS [0, 1, 4, 5, 2, 3] f1353 rfl rfl (by decide) (Or.inr (rfl)) (by decide +kernel) dX3_isRight_69)
      · refine lv_goto (tgt := 73) hx hb dX3_isRight_37 (by decide) ?_
        refine lv_iinc (v := nI (kP + 1)) (lv' := [(4, .int (nI (kP + 1))), (3, .int la), (0, .ref h0), (1, .int pa), (2, .ref kx)]) hx hb dX3_isRight_73 hl (k := 0) rfl (nI_1 _) (by decide) rfl (fun ls hl => ?_)
        refine lv_goto (tgt := 5) hx hb dX3_isRight_76 (by decide) ?_
        exact ihP (kP + 1) la vx _ _ _ (by omega) (And.intro hP hD) hS (lv_sub hl [0, 1, 2, 3, 4] rfl)
  exact keyP kbstamps 0 (-1) fx _ _ _ (by omega) (And.intro hP hD) hS (lv_sub hl [0, 1, 2, 3, 4] rfl)
def K_c_hold (l : Launch) (G : GG) (mn : Nat) (j : Nat) (h0 : Nat) (wo : Int32) (co : Int32) (lv : Nat) (bb : Nat) (hd : Nat) (bo : Int32) (le : Int32) (bi : Int32) (hf : Nat → Option Nat) (kc0 : Nat) (km0 : Nat) (fk0 : Nat → Int32) (kc1 : Nat) (km1 : Nat) (fk1 : Nat → Int32) (kc2 : Nat) (km2 : Nat) (fk2 : Nat → Int32) (kc3 : Nat) (km3 : Nat) (fk3 : Nat → Int32) (kc4 : Nat) (km4 : Nat) (fk4 : Nat → Int32) (kc5 : Nat) (km5 : Nat) (fk5 : Nat → Int32) (kc6 : Nat) (km6 : Nat) (fk6 : Nat → Int32) (kc7 : Nat) (km7 : Nat) (fk7 : Nat → Int32) (kc8 : Nat) (km8 : Nat) (fk8 : Nat → Int32) (kc9 : Nat) (km9 : Nat) (fk9 : Nat → Int32) (kc10 : Nat) (km10 : Nat) (fk10 : Nat → Int32) (kc11 : Nat) (km11 : Nat) (fk11 : Nat → Int32) (kc12 : Nat) (km12 : Nat) (fk12 : Nat → Int32) (bpersons : Nat) (bpapers : Nat) (bstamps : Nat) (bversions : Nat) (blines : Nat) (bsteps : Nat) (bsayings : Nat) (bfindings : Nat) (bwarnings : Nat) (bquestions : Nat) (td : Int32) (vd : Int32) (vl : Int32) (gp : Int32) (bstampsc : Nat) (kbstamps : Nat) (fbstamps : Nat → Int32) : Prop := MV l G yX3_holdOrLeave cX3_holdOrLeave 5 (5 + 2 * mn) 0 0 [.ref h0, .int (nI j), .int wo, .int co, .int (nI lv)] [(h0, oX3 bb hd bo le bi), (hd, cA G 13 hf), (kc0, oX1 km0), (km0, iA G 36 fk0), (kc1, oX1 km1), (km1, iA G 36 fk1), (kc2, oX1 km2), (km2, iA G 36 fk2), (kc3, oX1 km3), (km3, iA G 36 fk3), (kc4, oX1 km4), (km4, iA G 36 fk4), (kc5, oX1 km5), (km5, iA G 36 fk5), (kc6, oX1 km6), (km6, iA G 36 fk6), (kc7, oX1 km7), (km7, iA G 36 fk7), (kc8, oX1 km8), (km8, iA G 36 fk8), (kc9, oX1 km9), (km9, iA G 36 fk9), (kc10, oX1 km10), (km10, iA G 36 fk10), (kc11, oX1 km11), (km11, iA G 36 fk11), (kc12, oX1 km12), (km12, iA G 36 fk12), (bb, oX0 bpersons bpapers bstamps bversions blines bsteps bsayings bfindings bwarnings bquestions td vd vl gp), (bstamps, oX8 24 3 bstampsc (nI kbstamps)), (bstampsc, iA G 72 fbstamps)] (fun u : Int32 × Int32 × (Nat → Int32) × (Nat → Int32) × (Nat → Int32) × (Nat → Int32) × (Nat → Int32) × (Nat → Int32) × (Nat → Int32) × (Nat → Int32) × (Nat → Int32) × (Nat → Int32) × (Nat → Int32) × (Nat → Int32) × (Nat → Int32) => True) (fun u : Int32 × Int32 × (Nat → Int32) × (Nat → Int32) × (Nat → Int32) × (Nat → Int32) × (Nat → Int32) × (Nat → Int32) × (Nat → Int32) × (Nat → Int32) × (Nat → Int32) × (Nat → Int32) × (Nat → Int32) × (Nat → Int32) × (Nat → Int32) => [(h0, oX3 bb hd bo u.1 u.2.1), (hd, cA G 13 hf), (kc0, oX1 km0), (km0, iA G 36 u.2.2.1), (kc1, oX1 km1), (km1, iA G 36 u.2.2.2.1), (kc2, oX1 km2), (km2, iA G 36 u.2.2.2.2.1), (kc3, oX1 km3), (km3, iA G 36 u.2.2.2.2.2.1), (kc4, oX1 km4), (km4, iA G 36 u.2.2.2.2.2.2.1), (kc5, oX1 km5), (km5, iA G 36 u.2.2.2.2.2.2.2.1), (kc6, oX1 km6), (km6, iA G 36 u.2.2.2.2.2.2.2.2.1), (kc7, oX1 km7), (km7, iA G 36 u.2.2.2.2.2.2.2.2.2.1), (kc8, oX1 km8), (km8, iA G 36 u.2.2.2.2.2.2.2.2.2.2.1), (kc9, oX1 km9), (km9, iA G 36 u.2.2.2.2.2.2.2.2.2.2.2.1), (kc10, oX1 km10), (km10, iA G 36 u.2.2.2.2.2.2.2.2.2.2.2.2.1), (kc11, oX1 km11), (km11, iA G 36 u.2.2.2.2.2.2.2.2.2.2.2.2.2.1), (kc12, oX1 km12), (km12, iA G 36 u.2.2.2.2.2.2.2.2.2.2.2.2.2.2), (bb, oX0 bpersons bpapers bstamps bversions blines bsteps bsayings bfindings bwarnings bquestions td vd vl gp), (bstamps, oX8 24 3 bstampsc (nI kbstamps)), (bstampsc, iA G 72 fbstamps)])
set_option maxHeartbeats 4000000 in
set_option maxRecDepth 100000 in
theorem c_hold (l : Launch) (G : GG) (mn : Nat) (j : Nat) (h0 : Nat) (wo : Int32) (co : Int32) (lv : Nat) (bb : Nat) (hd : Nat) (bo : Int32) (le : Int32) (bi : Int32) (hf : Nat → Option Nat) (kc0 : Nat) (km0 : Nat) (fk0 : Nat → Int32) (kc1 : Nat) (km1 : Nat) (fk1 : Nat → Int32) (kc2 : Nat) (km2 : Nat) (fk2 : Nat → Int32) (kc3 : Nat) (km3 : Nat) (fk3 : Nat → Int32) (kc4 : Nat) (km4 : Nat) (fk4 : Nat → Int32) (kc5 : Nat) (km5 : Nat) (fk5 : Nat → Int32) (kc6 : Nat) (km6 : Nat) (fk6 : Nat → Int32) (kc7 : Nat) (km7 : Nat) (fk7 : Nat → Int32) (kc8 : Nat) (km8 : Nat) (fk8 : Nat → Int32) (kc9 : Nat) (km9 : Nat) (fk9 : Nat → Int32) (kc10 : Nat) (km10 : Nat) (fk10 : Nat → Int32) (kc11 : Nat) (km11 : Nat) (fk11 : Nat → Int32) (kc12 : Nat) (km12 : Nat) (fk12 : Nat → Int32) (bpersons : Nat) (bpapers : Nat) (bstamps : Nat) (bversions : Nat) (blines : Nat) (bsteps : Nat) (bsayings : Nat) (bfindings : Nat) (bwarnings : Nat) (bquestions : Nat) (td : Int32) (vd : Int32) (vl : Int32) (gp : Int32) (bstampsc : Nat) (kbstamps : Nat) (fbstamps : Nat → Int32) (hjm : j < mn) (hkbstamps : kbstamps ≤ 24) (hlv : lv ≤ 12) (hh0 : hf 0 = some kc0) (hh1 : hf 1 = some kc1) (hh2 : hf 2 = some kc2) (hh3 : hf 3 = some kc3) (hh4 : hf 4 = some kc4) (hh5 : hf 5 = some kc5) (hh6 : hf 6 = some kc6) (hh7 : hf 7 = some kc7) (hh8 : hf 8 = some kc8) (hh9 : hf 9 = some kc9) (hh10 : hf 10 = some kc10) (hh11 : hf 11 = some kc11) (hh12 : hf 12 = some kc12) (ihS : ∀ m9, m9 < mn → ∀ (h0 : Nat) (wo : Int32) (co : Int32) (lv : Nat) (bb : Nat) (hd : Nat) (bo : Int32) (le : Int32) (bi : Int32) (hf : Nat → Option Nat) (kc0 : Nat) (km0 : Nat) (fk0 : Nat → Int32) (kc1 : Nat) (km1 : Nat) (fk1 : Nat → Int32) (kc2 : Nat) (km2 : Nat) (fk2 : Nat → Int32) (kc3 : Nat) (km3 : Nat) (fk3 : Nat → Int32) (kc4 : Nat) (km4 : Nat) (fk4 : Nat → Int32) (kc5 : Nat) (km5 : Nat) (fk5 : Nat → Int32) (kc6 : Nat) (km6 : Nat) (fk6 : Nat → Int32) (kc7 : Nat) (km7 : Nat) (fk7 : Nat → Int32) (kc8 : Nat) (km8 : Nat) (fk8 : Nat → Int32) (kc9 : Nat) (km9 : Nat) (fk9 : Nat → Int32) (kc10 : Nat) (km10 : Nat) (fk10 : Nat → Int32) (kc11 : Nat) (km11 : Nat) (fk11 : Nat → Int32) (kc12 : Nat) (km12 : Nat) (fk12 : Nat → Int32) (bpersons : Nat) (bpapers : Nat) (bstamps : Nat) (bversions : Nat) (blines : Nat) (bsteps : Nat) (bsayings : Nat) (bfindings : Nat) (bwarnings : Nat) (bquestions : Nat) (td : Int32) (vd : Int32) (vl : Int32) (gp : Int32) (bstampsc : Nat) (kbstamps : Nat) (fbstamps : Nat → Int32) (hkbstamps : kbstamps ≤ 24) (hlv : lv ≤ 12) (hh0 : hf 0 = some kc0) (hh1 : hf 1 = some kc1) (hh2 : hf 2 = some kc2) (hh3 : hf 3 = some kc3) (hh4 : hf 4 = some kc4) (hh5 : hf 5 = some kc5) (hh6 : hf 6 = some kc6) (hh7 : hf 7 = some kc7) (hh8 : hf 8 = some kc8) (hh9 : hf 9 = some kc9) (hh10 : hf 10 = some kc10) (hh11 : hf 11 = some kc11) (hh12 : hf 12 = some kc12), MV l G yX3_search cX3_search 6 (6 + 2 * m9) 0 0 [.ref h0, .int (nI m9 - 1), .int wo, .int co, .int (nI lv)] [(h0, oX3 bb hd bo le bi), (hd, cA G 13 hf), (kc0, oX1 km0), (km0, iA G 36 fk0), (kc1, oX1 km1), (km1, iA G 36 fk1), (kc2, oX1 km2), (km2, iA G 36 fk2), (kc3, oX1 km3), (km3, iA G 36 fk3), (kc4, oX1 km4), (km4, iA G 36 fk4), (kc5, oX1 km5), (km5, iA G 36 fk5), (kc6, oX1 km6), (km6, iA G 36 fk6), (kc7, oX1 km7), (km7, iA G 36 fk7), (kc8, oX1 km8), (km8, iA G 36 fk8), (kc9, oX1 km9), (km9, iA G 36 fk9), (kc10, oX1 km10), (km10, iA G 36 fk10), (kc11, oX1 km11), (km11, iA G 36 fk11), (kc12, oX1 km12), (km12, iA G 36 fk12), (bb, oX0 bpersons bpapers bstamps bversions blines bsteps bsayings bfindings bwarnings bquestions td vd vl gp), (bstamps, oX8 24 3 bstampsc (nI kbstamps)), (bstampsc, iA G 72 fbstamps)] (fun u : Int32 × Int32 × (Nat → Int32) × (Nat → Int32) × (Nat → Int32) × (Nat → Int32) × (Nat → Int32) × (Nat → Int32) × (Nat → Int32) × (Nat → Int32) × (Nat → Int32) × (Nat → Int32) × (Nat → Int32) × (Nat → Int32) × (Nat → Int32) => True) (fun u : Int32 × Int32 × (Nat → Int32) × (Nat → Int32) × (Nat → Int32) × (Nat → Int32) × (Nat → Int32) × (Nat → Int32) × (Nat → Int32) × (Nat → Int32) × (Nat → Int32) × (Nat → Int32) × (Nat → Int32) × (Nat → Int32) × (Nat → Int32) => [(h0, oX3 bb hd bo u.1 u.2.1), (hd, cA G 13 hf), (kc0, oX1 km0), (km0, iA G 36 u.2.2.1), (kc1, oX1 km1), (km1, iA G 36 u.2.2.2.1), (kc2, oX1 km2), (km2, iA G 36 u.2.2.2.2.1), (kc3, oX1 km3), (km3, iA G 36 u.2.2.2.2.2.1), (kc4, oX1 km4), (km4, iA G 36 u.2.2.2.2.2.2.1), (kc5, oX1 km5), (km5, iA G 36 u.2.2.2.2.2.2.2.1), (kc6, oX1 km6), (km6, iA G 36 u.2.2.2.2.2.2.2.2.1), (kc7, oX1 km7), (km7, iA G 36 u.2.2.2.2.2.2.2.2.2.1), (kc8, oX1 km8), (km8, iA G 36 u.2.2.2.2.2.2.2.2.2.2.1), (kc9, oX1 km9), (km9, iA G 36 u.2.2.2.2.2.2.2.2.2.2.2.1), (kc10, oX1 km10), (km10, iA G 36 u.2.2.2.2.2.2.2.2.2.2.2.2.1), (kc11, oX1 km11), (km11, iA G 36 u.2.2.2.2.2.2.2.2.2.2.2.2.2.1), (kc12, oX1 km12), (km12, iA G 36 u.2.2.2.2.2.2.2.2.2.2.2.2.2.2), (bb, oX0 bpersons bpapers bstamps bversions blines bsteps bsayings bfindings bwarnings bquestions td vd vl gp), (bstamps, oX8 24 3 bstampsc (nI kbstamps)), (bstampsc, iA G 72 fbstamps)])) : K_c_hold l G mn j h0 wo co lv bb hd bo le bi hf kc0 km0 fk0 kc1 km1 fk1 kc2 km2 fk2 kc3 km3 fk3 kc4 km4 fk4 kc5 km5 fk5 kc6 km6 fk6 kc7 km7 fk7 kc8 km8 fk8 kc9 km9 fk9 kc10 km10 fk10 kc11 km11 fk11 kc12 km12 fk12 bpersons bpapers bstamps bversions blines bsteps bsayings bfindings bwarnings bquestions td vd vl gp bstampsc kbstamps fbstamps := by
  refine MV.start (by decide +kernel) (Nat.le_of_ble_eq_true rfl) ?_
  intro p e s m below meth c A ls hC hK hP hD hS hA hl
  refine absQ (fun Q0 hQ0 => ?_)
  have hl : lv_has ls 5 [(0, .ref h0), (1, .int (nI j)), (2, .int wo), (3, .int co), (4, .int (nI lv))] := hl
  refine Kan8 hC (fun hx hb hr hml hB hown hlocks hnm => ?_)
  rcases (show lv = 0 ∨ lv = 1 ∨ lv = 2 ∨ lv = 3 ∨ lv = 4 ∨ lv = 5 ∨ lv = 6 ∨ lv = 7 ∨ lv = 8 ∨ lv = 9 ∨ lv = 10 ∨ lv = 11 ∨ lv = 12 by omega) with rfl | rfl | rfl | rfl | rfl | rfl | rfl | rfl | rfl | rfl | rfl | rfl | rfl
  · have hl : lv_has ls 5 [(0, .ref h0), (1, .int (nI j)), (2, .int wo), (3, .int co), (4, .int 0)] := hl
    refine lv_iload hx hb dX3_holdOrLeave_0 (lv_at4 hl) ?_
    refine lv_if_lt (tgt := 17) hx hb dX3_holdOrLeave_2 (by decide) (fun c9 => absurd c9 (by decide)) (fun _ => ?_)
    refine lv_iload hx hb dX3_holdOrLeave_5 (lv_at4 hl) ?_
    refine lv_iconst (v := 1) hx hb dX3_holdOrLeave_7 (by decide) ?_
    refine lv_iadd hx hb dX3_holdOrLeave_8 ?_
    refine eqi (x1 := 1) (by decide) ?_
    refine lv_aload_n hx hb dX3_holdOrLeave_9 rfl (lv_at0 hl) ?_
    refine gf_X3_11 hC rfl hK hP 0 rfl rfl dX3_holdOrLeave_10 ?_
    refine va_alen (v := 13) hx hb hK.1 hP 1 1 rfl rfl (show Int32.ofNat 13 = 13 by decide) dX3_holdOrLeave_13 ?_
    refine lv_icmp_lt (tgt := 18) hx hb dX3_holdOrLeave_14 (by decide) (fun _ => ?_) (fun c9 => absurd (by decide) c9)
    refine lv_aload_n hx hb dX3_holdOrLeave_18 rfl (lv_at0 hl) ?_
    refine gf_X3_11 hC rfl hK hP 0 rfl rfl dX3_holdOrLeave_19 ?_
    refine lv_iload hx hb dX3_holdOrLeave_22 (lv_at4 hl) ?_
    refine lv_iconst (v := 1) hx hb dX3_holdOrLeave_24 (by decide) ?_
    refine lv_iadd hx hb dX3_holdOrLeave_25 ?_
    refine eqi (x1 := 1) (by decide) ?_
    refine aldC hC hK hP 1 rfl (vin (by decide +kernel)) (k := 1) (by decide +kernel) (v := kc1) (hh1) dX3_holdOrLeave_26 ?_
    refine lv_aload_n hx hb dX3_holdOrLeave_27 rfl (lv_at0 hl) ?_
    refine gf_X3_11 hC rfl hK hP 0 rfl rfl dX3_holdOrLeave_28 ?_
    refine lv_iload hx hb dX3_holdOrLeave_31 (lv_at4 hl) ?_
    refine aldC hC hK hP 1 rfl (vin (by decide +kernel)) (k := 0) (by decide +kernel) (v := kc0) (hh0) dX3_holdOrLeave_33 ?_
    refine vV (wr := [(h0, oX3 bb hd bo le bi), (hd, cA G 13 hf), (kc2, oX1 km2), (km2, iA G 36 fk2), (kc3, oX1 km3), (km3, iA G 36 fk3), (kc4, oX1 km4), (km4, iA G 36 fk4), (kc5, oX1 km5), (km5, iA G 36 fk5), (kc6, oX1 km6), (km6, iA G 36 fk6), (kc7, oX1 km7), (km7, iA G 36 fk7), (kc8, oX1 km8), (km8, iA G 36 fk8), (kc9, oX1 km9), (km9, iA G 36 fk9), (kc10, oX1 km10), (km10, iA G 36 fk10), (kc11, oX1 km11), (km11, iA G 36 fk11), (kc12, oX1 km12), (km12, iA G 36 fk12), (bb, oX0 bpersons bpapers bstamps bversions blines bsteps bsayings bfindings bwarnings bquestions td vd vl gp), (bstamps, oX8 24 3 bstampsc (nI kbstamps)), (bstampsc, iA G 72 fbstamps)]) hC hK hl hP hD hS hA (c_Cl_copy l G kc1 kc0 km1 fk1 km0 fk0) si_X3_62 [4, 5, 2, 3] [0, 1, 6, 7, 8, 9, 10, 11, 12, 13, 14, 15, 16, 17, 18, 19, 20, 21, 22, 23, 24, 25, 26, 27, 28, 29, 30] sm_4_5_2_3 fm_4_5_2_3 nd_4_5_2_3 sm_0_1_6_7_8_9_10_11_12_13_14_15_16_17_18_19_20_21_22_23_24_25_26_27_28_29_30 nd_0_1_6_7_8_9_10_11_12_13_14_15_16_17_18_19_20_21_22_23_24_25_26_27_28_29_30 dj_4_5_2_3__0_1_6_7_8_9_10_11_12_13_14_15_16_17_18_19_20_21_22_23_24_25_26_27_28_29_30 rfl rfl rfl rfl rfl (Nat.le_of_ble_eq_true rfl) ⟨by simp only [RM]; omega, by simp only [RM]; omega⟩ ⟨Nat.le_of_ble_eq_true rfl, Nat.le_of_ble_eq_true rfl⟩ dX3_holdOrLeave_34 (fun f1357 H locs hr355 hP hD hS => ?_)
    try dsimp only at hr355
    refine Kpdr (ws := [(h0, oX3 bb hd bo le bi), (hd, cA G 13 hf), (kc2, oX1 km2), (km2, iA G 36 fk2), (kc3, oX1 km3), (km3, iA G 36 fk3), (kc4, oX1 km4), (km4, iA G 36 fk4), (kc5, oX1 km5), (km5, iA G 36 fk5), (kc6, oX1 km6), (km6, iA G 36 fk6), (kc7, oX1 km7), (km7, iA G 36 fk7), (kc8, oX1 km8), (km8, iA G 36 fk8), (kc9, oX1 km9), (km9, iA G 36 fk9), (kc10, oX1 km10), (km10, iA G 36 fk10), (kc11, oX1 km11), (km11, iA G 36 fk11), (kc12, oX1 km12), (km12, iA G 36 fk12), (bb, oX0 bpersons bpapers bstamps bversions blines bsteps bsayings bfindings bwarnings bquestions td vd vl gp), (bstamps, oX8 24 3 bstampsc (nI kbstamps)), (bstampsc, iA G 72 fbstamps), (kc1, oX1 km1), (km1, iA G 36 f1357), (kc0, oX1 km0), (km0, iA G 36 fk0)]) hP hD (fun hP hD => ?_)
    refine lv_aload_n hx hb dX3_holdOrLeave_37 rfl (lv_at0 hl) ?_
    refine lv_iload_n hx hb dX3_holdOrLeave_38 rfl (lv_at1 hl) ?_
    refine lv_aload_n hx hb dX3_holdOrLeave_39 rfl (lv_at0 hl) ?_
    refine gf_X3_11 hC rfl hK hP 0 rfl rfl dX3_holdOrLeave_40 ?_
    refine lv_iload hx hb dX3_holdOrLeave_43 (lv_at4 hl) ?_
    refine lv_iconst (v := 1) hx hb dX3_holdOrLeave_45 (by decide) ?_
    refine lv_iadd hx hb dX3_holdOrLeave_46 ?_
    refine eqi (x1 := 1) (by decide) ?_
    refine aldC hC hK hP 1 rfl (vin (by decide +kernel)) (k := 1) (by decide +kernel) (v := kc1) (hh1) dX3_holdOrLeave_47 ?_
    refine iV (wr := [(hd, cA G 13 hf), (kc2, oX1 km2), (km2, iA G 36 fk2), (kc3, oX1 km3), (km3, iA G 36 fk3), (kc4, oX1 km4), (km4, iA G 36 fk4), (kc5, oX1 km5), (km5, iA G 36 fk5), (kc6, oX1 km6), (km6, iA G 36 fk6), (kc7, oX1 km7), (km7, iA G 36 fk7), (kc8, oX1 km8), (km8, iA G 36 fk8), (kc9, oX1 km9), (km9, iA G 36 fk9), (kc10, oX1 km10), (km10, iA G 36 fk10), (kc11, oX1 km11), (km11, iA G 36 fk11), (kc12, oX1 km12), (km12, iA G 36 fk12), (kc0, oX1 km0), (km0, iA G 36 fk0)]) hC hK hl hP hD hS hA (c_isRight l G h0 (nI j) kc1 bb hd bo le bi bpersons bpapers bstamps bversions blines bsteps bsayings bfindings bwarnings bquestions td vd vl gp bstampsc kbstamps fbstamps km1 f1357 (hkbstamps)) si_X3_66 [0, 24, 25, 26, 27, 28] [1, 2, 3, 4, 5, 6, 7, 8, 9, 10, 11, 12, 13, 14, 15, 16, 17, 18, 19, 20, 21, 22, 23, 29, 30] sm_0_24_25_26_27_28 fm_0_24_25_26_27_28 nd_0_24_25_26_27_28 sm_1_2_3_4_5_6_7_8_9_10_11_12_13_14_15_16_17_18_19_20_21_22_23_29_30 nd_1_2_3_4_5_6_7_8_9_10_11_12_13_14_15_16_17_18_19_20_21_22_23_29_30 dj_0_24_25_26_27_28__1_2_3_4_5_6_7_8_9_10_11_12_13_14_15_16_17_18_19_20_21_22_23_29_30 rfl rfl rfl rfl rfl (Nat.le_of_ble_eq_true rfl) ⟨by simp only [RM]; omega, by simp only [RM]; omega⟩ ⟨Nat.le_of_ble_eq_true rfl, Nat.le_of_ble_eq_true rfl⟩ dX3_holdOrLeave_48 (fun r358 gx360 H locs hr358 hP hD hS => ?_)
    try dsimp only at hr358
    refine Kpdr (ws := [(hd, cA G 13 hf), (kc2, oX1 km2), (km2, iA G 36 fk2), (kc3, oX1 km3), (km3, iA G 36 fk3), (kc4, oX1 km4), (km4, iA G 36 fk4), (kc5, oX1 km5), (km5, iA G 36 fk5), (kc6, oX1 km6), (km6, iA G 36 fk6), (kc7, oX1 km7), (km7, iA G 36 fk7), (kc8, oX1 km8), (km8, iA G 36 fk8), (kc9, oX1 km9), (km9, iA G 36 fk9), (kc10, oX1 km10), (km10, iA G 36 fk10), (kc11, oX1 km11), (km11, iA G 36 fk11), (kc12, oX1 km12), (km12, iA G 36 fk12), (kc0, oX1 km0), (km0, iA G 36 fk0), (h0, oX3 bb hd bo le bi), (bb, oX0 bpersons bpapers bstamps bversions blines bsteps bsayings bfindings bwarnings bquestions td vd vl gp), (bstamps, oX8 24 3 bstampsc (nI kbstamps)), (bstampsc, iA G 72 fbstamps), (kc1, oX1 km1), (km1, iA G 36 gx360)]) hP hD (fun hP hD => ?_)
    rcases hr358 with rfl | rfl
    · refine lv_if_eq (tgt := 67) hx hb dX3_holdOrLeave_51 (by decide) (fun c9 => absurd c9 (by decide)) (fun _ => ?_)
      refine lv_aload_n hx hb dX3_holdOrLeave_54 rfl (lv_at0 hl) ?_
      refine lv_iload_n hx hb dX3_holdOrLeave_55 rfl (lv_at1 hl) ?_
      refine lv_iconst (v := 1) hx hb dX3_holdOrLeave_56 (by decide) ?_
      refine lv_isub hx hb dX3_holdOrLeave_57 ?_
      refine lv_iload_n hx hb dX3_holdOrLeave_58 rfl (lv_at2 hl) ?_
      refine lv_iload_n hx hb dX3_holdOrLeave_59 rfl (lv_at3 hl) ?_
      refine lv_iload hx hb dX3_holdOrLeave_60 (lv_at4 hl) ?_
      refine lv_iconst (v := 1) hx hb dX3_holdOrLeave_62 (by decide) ?_
      refine lv_iadd hx hb dX3_holdOrLeave_63 ?_
      refine eqi (x1 := 1) (by decide) ?_
      refine vV (wr := []) hC hK hl hP hD hS hA (ihS j (by omega) h0 wo co 1 bb hd bo le bi hf kc0 km0 fk0 kc1 km1 gx360 kc2 km2 fk2 kc3 km3 fk3 kc4 km4 fk4 kc5 km5 fk5 kc6 km6 fk6 kc7 km7 fk7 kc8 km8 fk8 kc9 km9 fk9 kc10 km10 fk10 kc11 km11 fk11 kc12 km12 fk12 bpersons bpapers bstamps bversions blines bsteps bsayings bfindings bwarnings bquestions td vd vl gp bstampsc kbstamps fbstamps (by omega) (by omega) (hh0) (hh1) (hh2) (hh3) (hh4) (hh5) (hh6) (hh7) (hh8) (hh9) (hh10) (hh11) (hh12)) si_X3_55 [25, 0, 23, 24, 29, 30, 1, 2, 3, 4, 5, 6, 7, 8, 9, 10, 11, 12, 13, 14, 15, 16, 17, 18, 19, 20, 21, 22, 26, 27, 28] [] sm_25_0_23_24_29_30_1_2_3_4_5_6_7_8_9_10_11_12_13_14_15_16_17_18_19_20_21_22_26_27_28 fm_25_0_23_24_29_30_1_2_3_4_5_6_7_8_9_10_11_12_13_14_15_16_17_18_19_20_21_22_26_27_28 nd_25_0_23_24_29_30_1_2_3_4_5_6_7_8_9_10_11_12_13_14_15_16_17_18_19_20_21_22_26_27_28 rfl rfl (by decide) rfl rfl rfl rfl rfl (Nat.le_of_ble_eq_true rfl) ⟨by simp only [RM]; omega, by simp only [RM]; omega⟩ ⟨Nat.le_of_ble_eq_true rfl, Nat.le_of_ble_eq_true rfl⟩ dX3_holdOrLeave_64 (Ktu15 fun le1364 bi1365 gk0366 gk1367 gk2368 gk3369 gk4370 gk5371 gk6372 gk7373 gk8374 gk9375 gk10376 gk11377 gk12378 => ?_)
      intro H locs hr362 hP hD hS
      try dsimp only at hr362
      refine Kpdr (ws := [(h0, oX3 bb hd bo le1364 bi1365), (hd, cA G 13 hf), (kc0, oX1 km0), (km0, iA G 36 gk0366), (kc1, oX1 km1), (km1, iA G 36 gk1367), (kc2, oX1 km2), (km2, iA G 36 gk2368), (kc3, oX1 km3), (km3, iA G 36 gk3369), (kc4, oX1 km4), (km4, iA G 36 gk4370), (kc5, oX1 km5), (km5, iA G 36 gk5371), (kc6, oX1 km6), (km6, iA G 36 gk6372), (kc7, oX1 km7), (km7, iA G 36 gk7373), (kc8, oX1 km8), (km8, iA G 36 gk8374), (kc9, oX1 km9), (km9, iA G 36 gk9375), (kc10, oX1 km10), (km10, iA G 36 gk10376), (kc11, oX1 km11), (km11, iA G 36 gk11377), (kc12, oX1 km12), (km12, iA G 36 gk12378), (bb, oX0 bpersons bpapers bstamps bversions blines bsteps bsayings bfindings bwarnings bquestions td vd vl gp), (bstamps, oX8 24 3 bstampsc (nI kbstamps)), (bstampsc, iA G 72 fbstamps)]) hP hD (fun hP hD => ?_)
      refine lv_aload_n hx hb dX3_holdOrLeave_67 rfl (lv_at0 hl) ?_
      refine lv_iload_n hx hb dX3_holdOrLeave_68 rfl (lv_at1 hl) ?_
      refine lv_iconst (v := 1) hx hb dX3_holdOrLeave_69 (by decide) ?_
      refine lv_isub hx hb dX3_holdOrLeave_70 ?_
      refine lv_iload_n hx hb dX3_holdOrLeave_71 rfl (lv_at2 hl) ?_
      refine lv_iconst (v := 1) hx hb dX3_holdOrLeave_72 (by decide) ?_
      refine lv_iload_n hx hb dX3_holdOrLeave_73 rfl (lv_at1 hl) ?_
      refine lv_ishl hx hb dX3_holdOrLeave_74 ?_
      refine lv_ior hx hb dX3_holdOrLeave_75 ?_
      refine lv_iload_n hx hb dX3_holdOrLeave_76 rfl (lv_at3 hl) ?_
      refine lv_iconst (v := 1) hx hb dX3_holdOrLeave_77 (by decide) ?_
      refine lv_iadd hx hb dX3_holdOrLeave_78 ?_
      refine lv_iload hx hb dX3_holdOrLeave_79 (lv_at4 hl) ?_
      refine vV (wr := []) hC hK hl hP hD hS hA (ihS j (by omega) h0 (wo ||| (1 <<< ((nI j) &&& 31))) (co + 1) 0 bb hd bo le1364 bi1365 hf kc0 km0 gk0366 kc1 km1 gk1367 kc2 km2 gk2368 kc3 km3 gk3369 kc4 km4 gk4370 kc5 km5 gk5371 kc6 km6 gk6372 kc7 km7 gk7373 kc8 km8 gk8374 kc9 km9 gk9375 kc10 km10 gk10376 kc11 km11 gk11377 kc12 km12 gk12378 bpersons bpapers bstamps bversions blines bsteps bsayings bfindings bwarnings bquestions td vd vl gp bstampsc kbstamps fbstamps (by omega) (by omega) (hh0) (hh1) (hh2) (hh3) (hh4) (hh5) (hh6) (hh7) (hh8) (hh9) (hh10) (hh11) (hh12)) si_X3_55 [0, 1, 2, 3, 4, 5, 6, 7, 8, 9, 10, 11, 12, 13, 14, 15, 16, 17, 18, 19, 20, 21, 22, 23, 24, 25, 26, 27, 28, 29, 30] [] sm_0_1_2_3_4_5_6_7_8_9_10_11_12_13_14_15_16_17_18_19_20_21_22_23_24_25_26_27_28_29_30 fm_0_1_2_3_4_5_6_7_8_9_10_11_12_13_14_15_16_17_18_19_20_21_22_23_24_25_26_27_28_29_30 nd_0_1_2_3_4_5_6_7_8_9_10_11_12_13_14_15_16_17_18_19_20_21_22_23_24_25_26_27_28_29_30 rfl rfl (by decide) rfl rfl rfl rfl rfl (Nat.le_of_ble_eq_true rfl) ⟨by simp only [RM]; omega, by simp only [RM]; omega⟩ ⟨Nat.le_of_ble_eq_true rfl, Nat.le_of_ble_eq_true rfl⟩ dX3_holdOrLeave_81 (Ktu15 fun le1381 bi1382 gk0383 gk1384 gk2385 gk3386 gk4387 gk5388 gk6389 gk7390 gk8391 gk9392 gk10393 gk11394 gk12395 => ?_)
      intro H locs hr379 hP hD hS
      try dsimp only at hr379
      refine Kpdr (ws := [(h0, oX3 bb hd bo le1381 bi1382), (hd, cA G 13 hf), (kc0, oX1 km0), (km0, iA G 36 gk0383), (kc1, oX1 km1), (km1, iA G 36 gk1384), (kc2, oX1 km2), (km2, iA G 36 gk2385), (kc3, oX1 km3), (km3, iA G 36 gk3386), (kc4, oX1 km4), (km4, iA G 36 gk4387), (kc5, oX1 km5), (km5, iA G 36 gk5388), (kc6, oX1 km6), (km6, iA G 36 gk6389), (kc7, oX1 km7), (km7, iA G 36 gk7390), (kc8, oX1 km8), (km8, iA G 36 gk8391), (kc9, oX1 km9), (km9, iA G 36 gk9392), (kc10, oX1 km10), (km10, iA G 36 gk10393), (kc11, oX1 km11), (km11, iA G 36 gk11394), (kc12, oX1 km12), (km12, iA G 36 gk12395), (bb, oX0 bpersons bpapers bstamps bversions blines bsteps bsayings bfindings bwarnings bquestions td vd vl gp), (bstamps, oX8 24 3 bstampsc (nI kbstamps)), (bstampsc, iA G 72 fbstamps)]) hP hD (fun hP hD => ?_)
      exact toQ hQ0 (RV hC hP hD hS [0, 1, 2, 3, 4, 5, 6, 7, 8, 9, 10, 11, 12, 13, 14, 15, 16, 17, 18, 19, 20, 21, 22, 23, 24, 25, 26, 27, 28, 29, 30] (le1381, bi1382, gk0383, gk1384, gk2385, gk3386, gk4387, gk5388, gk6389, gk7390, gk8391, gk9392, gk10393, gk11394, gk12395) rfl rfl (by decide) (trivial) dX3_holdOrLeave_84)
    · refine lv_if_eq (tgt := 67) hx hb dX3_holdOrLeave_51 (by decide) (fun _ => ?_) (fun c9 => absurd (by decide) c9)
      refine lv_aload_n hx hb dX3_holdOrLeave_67 rfl (lv_at0 hl) ?_
      refine lv_iload_n hx hb dX3_holdOrLeave_68 rfl (lv_at1 hl) ?_
      refine lv_iconst (v := 1) hx hb dX3_holdOrLeave_69 (by decide) ?_
      refine lv_isub hx hb dX3_holdOrLeave_70 ?_
      refine lv_iload_n hx hb dX3_holdOrLeave_71 rfl (lv_at2 hl) ?_
      refine lv_iconst (v := 1) hx hb dX3_holdOrLeave_72 (by decide) ?_
      refine lv_iload_n hx hb dX3_holdOrLeave_73 rfl (lv_at1 hl) ?_
      refine lv_ishl hx hb dX3_holdOrLeave_74 ?_
      refine lv_ior hx hb dX3_holdOrLeave_75 ?_
      refine lv_iload_n hx hb dX3_holdOrLeave_76 rfl (lv_at3 hl) ?_
      refine lv_iconst (v := 1) hx hb dX3_holdOrLeave_77 (by decide) ?_
      refine lv_iadd hx hb dX3_holdOrLeave_78 ?_
      refine lv_iload hx hb dX3_holdOrLeave_79 (lv_at4 hl) ?_
      refine vV (wr := []) hC hK hl hP hD hS hA (ihS j (by omega) h0 (wo ||| (1 <<< ((nI j) &&& 31))) (co + 1) 0 bb hd bo le bi hf kc0 km0 fk0 kc1 km1 gx360 kc2 km2 fk2 kc3 km3 fk3 kc4 km4 fk4 kc5 km5 fk5 kc6 km6 fk6 kc7 km7 fk7 kc8 km8 fk8 kc9 km9 fk9 kc10 km10 fk10 kc11 km11 fk11 kc12 km12 fk12 bpersons bpapers bstamps bversions blines bsteps bsayings bfindings bwarnings bquestions td vd vl gp bstampsc kbstamps fbstamps (by omega) (by omega) (hh0) (hh1) (hh2) (hh3) (hh4) (hh5) (hh6) (hh7) (hh8) (hh9) (hh10) (hh11) (hh12)) si_X3_55 [25, 0, 23, 24, 29, 30, 1, 2, 3, 4, 5, 6, 7, 8, 9, 10, 11, 12, 13, 14, 15, 16, 17, 18, 19, 20, 21, 22, 26, 27, 28] [] sm_25_0_23_24_29_30_1_2_3_4_5_6_7_8_9_10_11_12_13_14_15_16_17_18_19_20_21_22_26_27_28 fm_25_0_23_24_29_30_1_2_3_4_5_6_7_8_9_10_11_12_13_14_15_16_17_18_19_20_21_22_26_27_28 nd_25_0_23_24_29_30_1_2_3_4_5_6_7_8_9_10_11_12_13_14_15_16_17_18_19_20_21_22_26_27_28 rfl rfl (by decide) rfl rfl rfl rfl rfl (Nat.le_of_ble_eq_true rfl) ⟨by simp only [RM]; omega, by simp only [RM]; omega⟩ ⟨Nat.le_of_ble_eq_true rfl, Nat.le_of_ble_eq_true rfl⟩ dX3_holdOrLeave_81 (Ktu15 fun le1398 bi1399 gk0400 gk1401 gk2402 gk3403 gk4404 gk5405 gk6406 gk7407 gk8408 gk9409 gk10410 gk11411 gk12412 => ?_)
      intro H locs hr396 hP hD hS
      try dsimp only at hr396
      refine Kpdr (ws := [(h0, oX3 bb hd bo le1398 bi1399), (hd, cA G 13 hf), (kc0, oX1 km0), (km0, iA G 36 gk0400), (kc1, oX1 km1), (km1, iA G 36 gk1401), (kc2, oX1 km2), (km2, iA G 36 gk2402), (kc3, oX1 km3), (km3, iA G 36 gk3403), (kc4, oX1 km4), (km4, iA G 36 gk4404), (kc5, oX1 km5), (km5, iA G 36 gk5405), (kc6, oX1 km6), (km6, iA G 36 gk6406), (kc7, oX1 km7), (km7, iA G 36 gk7407), (kc8, oX1 km8), (km8, iA G 36 gk8408), (kc9, oX1 km9), (km9, iA G 36 gk9409), (kc10, oX1 km10), (km10, iA G 36 gk10410), (kc11, oX1 km11), (km11, iA G 36 gk11411), (kc12, oX1 km12), (km12, iA G 36 gk12412), (bb, oX0 bpersons bpapers bstamps bversions blines bsteps bsayings bfindings bwarnings bquestions td vd vl gp), (bstamps, oX8 24 3 bstampsc (nI kbstamps)), (bstampsc, iA G 72 fbstamps)]) hP hD (fun hP hD => ?_)
      exact toQ hQ0 (RV hC hP hD hS [0, 1, 2, 3, 4, 5, 6, 7, 8, 9, 10, 11, 12, 13, 14, 15, 16, 17, 18, 19, 20, 21, 22, 23, 24, 25, 26, 27, 28, 29, 30] (le1398, bi1399, gk0400, gk1401, gk2402, gk3403, gk4404, gk5405, gk6406, gk7407, gk8408, gk9409, gk10410, gk11411, gk12412) rfl rfl (by decide) (trivial) dX3_holdOrLeave_84)
  · have hl : lv_has ls 5 [(0, .ref h0), (1, .int (nI j)), (2, .int wo), (3, .int co), (4, .int 1)] := hl
    refine lv_iload hx hb dX3_holdOrLeave_0 (lv_at4 hl) ?_
    refine lv_if_lt (tgt := 17) hx hb dX3_holdOrLeave_2 (by decide) (fun c9 => absurd c9 (by decide)) (fun _ => ?_)
    refine lv_iload hx hb dX3_holdOrLeave_5 (lv_at4 hl) ?_
    refine lv_iconst (v := 1) hx hb dX3_holdOrLeave_7 (by decide) ?_
    refine lv_iadd hx hb dX3_holdOrLeave_8 ?_
    refine eqi (x1 := 2) (by decide) ?_
    refine lv_aload_n hx hb dX3_holdOrLeave_9 rfl (lv_at0 hl) ?_
    refine gf_X3_11 hC rfl hK hP 0 rfl rfl dX3_holdOrLeave_10 ?_
    refine va_alen (v := 13) hx hb hK.1 hP 1 1 rfl rfl (show Int32.ofNat 13 = 13 by decide) dX3_holdOrLeave_13 ?_
    refine lv_icmp_lt (tgt := 18) hx hb dX3_holdOrLeave_14 (by decide) (fun _ => ?_) (fun c9 => absurd (by decide) c9)
    refine lv_aload_n hx hb dX3_holdOrLeave_18 rfl (lv_at0 hl) ?_
    refine gf_X3_11 hC rfl hK hP 0 rfl rfl dX3_holdOrLeave_19 ?_
    refine lv_iload hx hb dX3_holdOrLeave_22 (lv_at4 hl) ?_
    refine lv_iconst (v := 1) hx hb dX3_holdOrLeave_24 (by decide) ?_
    refine lv_iadd hx hb dX3_holdOrLeave_25 ?_
    refine eqi (x1 := 2) (by decide) ?_
    refine aldC hC hK hP 1 rfl (vin (by decide +kernel)) (k := 2) (by decide +kernel) (v := kc2) (hh2) dX3_holdOrLeave_26 ?_
    refine lv_aload_n hx hb dX3_holdOrLeave_27 rfl (lv_at0 hl) ?_
    refine gf_X3_11 hC rfl hK hP 0 rfl rfl dX3_holdOrLeave_28 ?_
    refine lv_iload hx hb dX3_holdOrLeave_31 (lv_at4 hl) ?_
    refine aldC hC hK hP 1 rfl (vin (by decide +kernel)) (k := 1) (by decide +kernel) (v := kc1) (hh1) dX3_holdOrLeave_33 ?_
    refine vV (wr := [(h0, oX3 bb hd bo le bi), (hd, cA G 13 hf), (kc0, oX1 km0), (km0, iA G 36 fk0), (kc3, oX1 km3), (km3, iA G 36 fk3), (kc4, oX1 km4), (km4, iA G 36 fk4), (kc5, oX1 km5), (km5, iA G 36 fk5), (kc6, oX1 km6), (km6, iA G 36 fk6), (kc7, oX1 km7), (km7, iA G 36 fk7), (kc8, oX1 km8), (km8, iA G 36 fk8), (kc9, oX1 km9), (km9, iA G 36 fk9), (kc10, oX1 km10), (km10, iA G 36 fk10), (kc11, oX1 km11), (km11, iA G 36 fk11), (kc12, oX1 km12), (km12, iA G 36 fk12), (bb, oX0 bpersons bpapers bstamps bversions blines bsteps bsayings bfindings bwarnings bquestions td vd vl gp), (bstamps, oX8 24 3 bstampsc (nI kbstamps)), (bstampsc, iA G 72 fbstamps)]) hC hK hl hP hD hS hA (c_Cl_copy l G kc2 kc1 km2 fk2 km1 fk1) si_X3_62 [6, 7, 4, 5] [0, 1, 2, 3, 8, 9, 10, 11, 12, 13, 14, 15, 16, 17, 18, 19, 20, 21, 22, 23, 24, 25, 26, 27, 28, 29, 30] sm_6_7_4_5 fm_6_7_4_5 nd_6_7_4_5 sm_0_1_2_3_8_9_10_11_12_13_14_15_16_17_18_19_20_21_22_23_24_25_26_27_28_29_30 nd_0_1_2_3_8_9_10_11_12_13_14_15_16_17_18_19_20_21_22_23_24_25_26_27_28_29_30 dj_6_7_4_5__0_1_2_3_8_9_10_11_12_13_14_15_16_17_18_19_20_21_22_23_24_25_26_27_28_29_30 rfl rfl rfl rfl rfl (Nat.le_of_ble_eq_true rfl) ⟨by simp only [RM]; omega, by simp only [RM]; omega⟩ ⟨Nat.le_of_ble_eq_true rfl, Nat.le_of_ble_eq_true rfl⟩ dX3_holdOrLeave_34 (fun f1415 H locs hr413 hP hD hS => ?_)
    try dsimp only at hr413
    refine Kpdr (ws := [(h0, oX3 bb hd bo le bi), (hd, cA G 13 hf), (kc0, oX1 km0), (km0, iA G 36 fk0), (kc3, oX1 km3), (km3, iA G 36 fk3), (kc4, oX1 km4), (km4, iA G 36 fk4), (kc5, oX1 km5), (km5, iA G 36 fk5), (kc6, oX1 km6), (km6, iA G 36 fk6), (kc7, oX1 km7), (km7, iA G 36 fk7), (kc8, oX1 km8), (km8, iA G 36 fk8), (kc9, oX1 km9), (km9, iA G 36 fk9), (kc10, oX1 km10), (km10, iA G 36 fk10), (kc11, oX1 km11), (km11, iA G 36 fk11), (kc12, oX1 km12), (km12, iA G 36 fk12), (bb, oX0 bpersons bpapers bstamps bversions blines bsteps bsayings bfindings bwarnings bquestions td vd vl gp), (bstamps, oX8 24 3 bstampsc (nI kbstamps)), (bstampsc, iA G 72 fbstamps), (kc2, oX1 km2), (km2, iA G 36 f1415), (kc1, oX1 km1), (km1, iA G 36 fk1)]) hP hD (fun hP hD => ?_)
    refine lv_aload_n hx hb dX3_holdOrLeave_37 rfl (lv_at0 hl) ?_
    refine lv_iload_n hx hb dX3_holdOrLeave_38 rfl (lv_at1 hl) ?_
    refine lv_aload_n hx hb dX3_holdOrLeave_39 rfl (lv_at0 hl) ?_
    refine gf_X3_11 hC rfl hK hP 0 rfl rfl dX3_holdOrLeave_40 ?_
    refine lv_iload hx hb dX3_holdOrLeave_43 (lv_at4 hl) ?_
    refine lv_iconst (v := 1) hx hb dX3_holdOrLeave_45 (by decide) ?_
    refine lv_iadd hx hb dX3_holdOrLeave_46 ?_
    refine eqi (x1 := 2) (by decide) ?_
    refine aldC hC hK hP 1 rfl (vin (by decide +kernel)) (k := 2) (by decide +kernel) (v := kc2) (hh2) dX3_holdOrLeave_47 ?_
    refine iV (wr := [(hd, cA G 13 hf), (kc0, oX1 km0), (km0, iA G 36 fk0), (kc3, oX1 km3), (km3, iA G 36 fk3), (kc4, oX1 km4), (km4, iA G 36 fk4), (kc5, oX1 km5), (km5, iA G 36 fk5), (kc6, oX1 km6), (km6, iA G 36 fk6), (kc7, oX1 km7), (km7, iA G 36 fk7), (kc8, oX1 km8), (km8, iA G 36 fk8), (kc9, oX1 km9), (km9, iA G 36 fk9), (kc10, oX1 km10), (km10, iA G 36 fk10), (kc11, oX1 km11), (km11, iA G 36 fk11), (kc12, oX1 km12), (km12, iA G 36 fk12), (kc1, oX1 km1), (km1, iA G 36 fk1)]) hC hK hl hP hD hS hA (c_isRight l G h0 (nI j) kc2 bb hd bo le bi bpersons bpapers bstamps bversions blines bsteps bsayings bfindings bwarnings bquestions td vd vl gp bstampsc kbstamps fbstamps km2 f1415 (hkbstamps)) si_X3_66 [0, 24, 25, 26, 27, 28] [1, 2, 3, 4, 5, 6, 7, 8, 9, 10, 11, 12, 13, 14, 15, 16, 17, 18, 19, 20, 21, 22, 23, 29, 30] sm_0_24_25_26_27_28 fm_0_24_25_26_27_28 nd_0_24_25_26_27_28 sm_1_2_3_4_5_6_7_8_9_10_11_12_13_14_15_16_17_18_19_20_21_22_23_29_30 nd_1_2_3_4_5_6_7_8_9_10_11_12_13_14_15_16_17_18_19_20_21_22_23_29_30 dj_0_24_25_26_27_28__1_2_3_4_5_6_7_8_9_10_11_12_13_14_15_16_17_18_19_20_21_22_23_29_30 rfl rfl rfl rfl rfl (Nat.le_of_ble_eq_true rfl) ⟨by simp only [RM]; omega, by simp only [RM]; omega⟩ ⟨Nat.le_of_ble_eq_true rfl, Nat.le_of_ble_eq_true rfl⟩ dX3_holdOrLeave_48 (fun r416 gx418 H locs hr416 hP hD hS => ?_)
    try dsimp only at hr416
    refine Kpdr (ws := [(hd, cA G 13 hf), (kc0, oX1 km0), (km0, iA G 36 fk0), (kc3, oX1 km3), (km3, iA G 36 fk3), (kc4, oX1 km4), (km4, iA G 36 fk4), (kc5, oX1 km5), (km5, iA G 36 fk5), (kc6, oX1 km6), (km6, iA G 36 fk6), (kc7, oX1 km7), (km7, iA G 36 fk7), (kc8, oX1 km8), (km8, iA G 36 fk8), (kc9, oX1 km9), (km9, iA G 36 fk9), (kc10, oX1 km10), (km10, iA G 36 fk10), (kc11, oX1 km11), (km11, iA G 36 fk11), (kc12, oX1 km12), (km12, iA G 36 fk12), (kc1, oX1 km1), (km1, iA G 36 fk1), (h0, oX3 bb hd bo le bi), (bb, oX0 bpersons bpapers bstamps bversions blines bsteps bsayings bfindings bwarnings bquestions td vd vl gp), (bstamps, oX8 24 3 bstampsc (nI kbstamps)), (bstampsc, iA G 72 fbstamps), (kc2, oX1 km2), (km2, iA G 36 gx418)]) hP hD (fun hP hD => ?_)
    rcases hr416 with rfl | rfl
    · refine lv_if_eq (tgt := 67) hx hb dX3_holdOrLeave_51 (by decide) (fun c9 => absurd c9 (by decide)) (fun _ => ?_)
      refine lv_aload_n hx hb dX3_holdOrLeave_54 rfl (lv_at0 hl) ?_
      refine lv_iload_n hx hb dX3_holdOrLeave_55 rfl (lv_at1 hl) ?_
      refine lv_iconst (v := 1) hx hb dX3_holdOrLeave_56 (by decide) ?_
      refine lv_isub hx hb dX3_holdOrLeave_57 ?_
      refine lv_iload_n hx hb dX3_holdOrLeave_58 rfl (lv_at2 hl) ?_
      refine lv_iload_n hx hb dX3_holdOrLeave_59 rfl (lv_at3 hl) ?_
      refine lv_iload hx hb dX3_holdOrLeave_60 (lv_at4 hl) ?_
      refine lv_iconst (v := 1) hx hb dX3_holdOrLeave_62 (by decide) ?_
      refine lv_iadd hx hb dX3_holdOrLeave_63 ?_
      refine eqi (x1 := 2) (by decide) ?_
      refine vV (wr := []) hC hK hl hP hD hS hA (ihS j (by omega) h0 wo co 2 bb hd bo le bi hf kc0 km0 fk0 kc1 km1 fk1 kc2 km2 gx418 kc3 km3 fk3 kc4 km4 fk4 kc5 km5 fk5 kc6 km6 fk6 kc7 km7 fk7 kc8 km8 fk8 kc9 km9 fk9 kc10 km10 fk10 kc11 km11 fk11 kc12 km12 fk12 bpersons bpapers bstamps bversions blines bsteps bsayings bfindings bwarnings bquestions td vd vl gp bstampsc kbstamps fbstamps (by omega) (by omega) (hh0) (hh1) (hh2) (hh3) (hh4) (hh5) (hh6) (hh7) (hh8) (hh9) (hh10) (hh11) (hh12)) si_X3_55 [25, 0, 1, 2, 23, 24, 29, 30, 3, 4, 5, 6, 7, 8, 9, 10, 11, 12, 13, 14, 15, 16, 17, 18, 19, 20, 21, 22, 26, 27, 28] [] sm_25_0_1_2_23_24_29_30_3_4_5_6_7_8_9_10_11_12_13_14_15_16_17_18_19_20_21_22_26_27_28 fm_25_0_1_2_23_24_29_30_3_4_5_6_7_8_9_10_11_12_13_14_15_16_17_18_19_20_21_22_26_27_28 nd_25_0_1_2_23_24_29_30_3_4_5_6_7_8_9_10_11_12_13_14_15_16_17_18_19_20_21_22_26_27_28 rfl rfl (by decide) rfl rfl rfl rfl rfl (Nat.le_of_ble_eq_true rfl) ⟨by simp only [RM]; omega, by simp only [RM]; omega⟩ ⟨Nat.le_of_ble_eq_true rfl, Nat.le_of_ble_eq_true rfl⟩ dX3_holdOrLeave_64 (Ktu15 fun le1422 bi1423 gk0424 gk1425 gk2426 gk3427 gk4428 gk5429 gk6430 gk7431 gk8432 gk9433 gk10434 gk11435 gk12436 => ?_)
      intro H locs hr420 hP hD hS
      try dsimp only at hr420
      refine Kpdr (ws := [(h0, oX3 bb hd bo le1422 bi1423), (hd, cA G 13 hf), (kc0, oX1 km0), (km0, iA G 36 gk0424), (kc1, oX1 km1), (km1, iA G 36 gk1425), (kc2, oX1 km2), (km2, iA G 36 gk2426), (kc3, oX1 km3), (km3, iA G 36 gk3427), (kc4, oX1 km4), (km4, iA G 36 gk4428), (kc5, oX1 km5), (km5, iA G 36 gk5429), (kc6, oX1 km6), (km6, iA G 36 gk6430), (kc7, oX1 km7), (km7, iA G 36 gk7431), (kc8, oX1 km8), (km8, iA G 36 gk8432), (kc9, oX1 km9), (km9, iA G 36 gk9433), (kc10, oX1 km10), (km10, iA G 36 gk10434), (kc11, oX1 km11), (km11, iA G 36 gk11435), (kc12, oX1 km12), (km12, iA G 36 gk12436), (bb, oX0 bpersons bpapers bstamps bversions blines bsteps bsayings bfindings bwarnings bquestions td vd vl gp), (bstamps, oX8 24 3 bstampsc (nI kbstamps)), (bstampsc, iA G 72 fbstamps)]) hP hD (fun hP hD => ?_)
      refine lv_aload_n hx hb dX3_holdOrLeave_67 rfl (lv_at0 hl) ?_
      refine lv_iload_n hx hb dX3_holdOrLeave_68 rfl (lv_at1 hl) ?_
      refine lv_iconst (v := 1) hx hb dX3_holdOrLeave_69 (by decide) ?_
      refine lv_isub hx hb dX3_holdOrLeave_70 ?_
      refine lv_iload_n hx hb dX3_holdOrLeave_71 rfl (lv_at2 hl) ?_
      refine lv_iconst (v := 1) hx hb dX3_holdOrLeave_72 (by decide) ?_
      refine lv_iload_n hx hb dX3_holdOrLeave_73 rfl (lv_at1 hl) ?_
      refine lv_ishl hx hb dX3_holdOrLeave_74 ?_
      refine lv_ior hx hb dX3_holdOrLeave_75 ?_
      refine lv_iload_n hx hb dX3_holdOrLeave_76 rfl (lv_at3 hl) ?_
      refine lv_iconst (v := 1) hx hb dX3_holdOrLeave_77 (by decide) ?_
      refine lv_iadd hx hb dX3_holdOrLeave_78 ?_
      refine lv_iload hx hb dX3_holdOrLeave_79 (lv_at4 hl) ?_
      refine vV (wr := []) hC hK hl hP hD hS hA (ihS j (by omega) h0 (wo ||| (1 <<< ((nI j) &&& 31))) (co + 1) 1 bb hd bo le1422 bi1423 hf kc0 km0 gk0424 kc1 km1 gk1425 kc2 km2 gk2426 kc3 km3 gk3427 kc4 km4 gk4428 kc5 km5 gk5429 kc6 km6 gk6430 kc7 km7 gk7431 kc8 km8 gk8432 kc9 km9 gk9433 kc10 km10 gk10434 kc11 km11 gk11435 kc12 km12 gk12436 bpersons bpapers bstamps bversions blines bsteps bsayings bfindings bwarnings bquestions td vd vl gp bstampsc kbstamps fbstamps (by omega) (by omega) (hh0) (hh1) (hh2) (hh3) (hh4) (hh5) (hh6) (hh7) (hh8) (hh9) (hh10) (hh11) (hh12)) si_X3_55 [0, 1, 2, 3, 4, 5, 6, 7, 8, 9, 10, 11, 12, 13, 14, 15, 16, 17, 18, 19, 20, 21, 22, 23, 24, 25, 26, 27, 28, 29, 30] [] sm_0_1_2_3_4_5_6_7_8_9_10_11_12_13_14_15_16_17_18_19_20_21_22_23_24_25_26_27_28_29_30 fm_0_1_2_3_4_5_6_7_8_9_10_11_12_13_14_15_16_17_18_19_20_21_22_23_24_25_26_27_28_29_30 nd_0_1_2_3_4_5_6_7_8_9_10_11_12_13_14_15_16_17_18_19_20_21_22_23_24_25_26_27_28_29_30 rfl rfl (by decide) rfl rfl rfl rfl rfl (Nat.le_of_ble_eq_true rfl) ⟨by simp only [RM]; omega, by simp only [RM]; omega⟩ ⟨Nat.le_of_ble_eq_true rfl, Nat.le_of_ble_eq_true rfl⟩ dX3_holdOrLeave_81 (Ktu15 fun le1439 bi1440 gk0441 gk1442 gk2443 gk3444 gk4445 gk5446 gk6447 gk7448 gk8449 gk9450 gk10451 gk11452 gk12453 => ?_)
      intro H locs hr437 hP hD hS
      try dsimp only at hr437
      refine Kpdr (ws := [(h0, oX3 bb hd bo le1439 bi1440), (hd, cA G 13 hf), (kc0, oX1 km0), (km0, iA G 36 gk0441), (kc1, oX1 km1), (km1, iA G 36 gk1442), (kc2, oX1 km2), (km2, iA G 36 gk2443), (kc3, oX1 km3), (km3, iA G 36 gk3444), (kc4, oX1 km4), (km4, iA G 36 gk4445), (kc5, oX1 km5), (km5, iA G 36 gk5446), (kc6, oX1 km6), (km6, iA G 36 gk6447), (kc7, oX1 km7), (km7, iA G 36 gk7448), (kc8, oX1 km8), (km8, iA G 36 gk8449), (kc9, oX1 km9), (km9, iA G 36 gk9450), (kc10, oX1 km10), (km10, iA G 36 gk10451), (kc11, oX1 km11), (km11, iA G 36 gk11452), (kc12, oX1 km12), (km12, iA G 36 gk12453), (bb, oX0 bpersons bpapers bstamps bversions blines bsteps bsayings bfindings bwarnings bquestions td vd vl gp), (bstamps, oX8 24 3 bstampsc (nI kbstamps)), (bstampsc, iA G 72 fbstamps)]) hP hD (fun hP hD => ?_)
      exact toQ hQ0 (RV hC hP hD hS [0, 1, 2, 3, 4, 5, 6, 7, 8, 9, 10, 11, 12, 13, 14, 15, 16, 17, 18, 19, 20, 21, 22, 23, 24, 25, 26, 27, 28, 29, 30] (le1439, bi1440, gk0441, gk1442, gk2443, gk3444, gk4445, gk5446, gk6447, gk7448, gk8449, gk9450, gk10451, gk11452, gk12453) rfl rfl (by decide) (trivial) dX3_holdOrLeave_84)
    · refine lv_if_eq (tgt := 67) hx hb dX3_holdOrLeave_51 (by decide) (fun _ => ?_) (fun c9 => absurd (by decide) c9)
      refine lv_aload_n hx hb dX3_holdOrLeave_67 rfl (lv_at0 hl) ?_
      refine lv_iload_n hx hb dX3_holdOrLeave_68 rfl (lv_at1 hl) ?_
      refine lv_iconst (v := 1) hx hb dX3_holdOrLeave_69 (by decide) ?_
      refine lv_isub hx hb dX3_holdOrLeave_70 ?_
      refine lv_iload_n hx hb dX3_holdOrLeave_71 rfl (lv_at2 hl) ?_
      refine lv_iconst (v := 1) hx hb dX3_holdOrLeave_72 (by decide) ?_
      refine lv_iload_n hx hb dX3_holdOrLeave_73 rfl (lv_at1 hl) ?_
      refine lv_ishl hx hb dX3_holdOrLeave_74 ?_
      refine lv_ior hx hb dX3_holdOrLeave_75 ?_
      refine lv_iload_n hx hb dX3_holdOrLeave_76 rfl (lv_at3 hl) ?_
      refine lv_iconst (v := 1) hx hb dX3_holdOrLeave_77 (by decide) ?_
      refine lv_iadd hx hb dX3_holdOrLeave_78 ?_
      refine lv_iload hx hb dX3_holdOrLeave_79 (lv_at4 hl) ?_
      refine vV (wr := []) hC hK hl hP hD hS hA (ihS j (by omega) h0 (wo ||| (1 <<< ((nI j) &&& 31))) (co + 1) 1 bb hd bo le bi hf kc0 km0 fk0 kc1 km1 fk1 kc2 km2 gx418 kc3 km3 fk3 kc4 km4 fk4 kc5 km5 fk5 kc6 km6 fk6 kc7 km7 fk7 kc8 km8 fk8 kc9 km9 fk9 kc10 km10 fk10 kc11 km11 fk11 kc12 km12 fk12 bpersons bpapers bstamps bversions blines bsteps bsayings bfindings bwarnings bquestions td vd vl gp bstampsc kbstamps fbstamps (by omega) (by omega) (hh0) (hh1) (hh2) (hh3) (hh4) (hh5) (hh6) (hh7) (hh8) (hh9) (hh10) (hh11) (hh12)) si_X3_55 [25, 0, 1, 2, 23, 24, 29, 30, 3, 4, 5, 6, 7, 8, 9, 10, 11, 12, 13, 14, 15, 16, 17, 18, 19, 20, 21, 22, 26, 27, 28] [] sm_25_0_1_2_23_24_29_30_3_4_5_6_7_8_9_10_11_12_13_14_15_16_17_18_19_20_21_22_26_27_28 fm_25_0_1_2_23_24_29_30_3_4_5_6_7_8_9_10_11_12_13_14_15_16_17_18_19_20_21_22_26_27_28 nd_25_0_1_2_23_24_29_30_3_4_5_6_7_8_9_10_11_12_13_14_15_16_17_18_19_20_21_22_26_27_28 rfl rfl (by decide) rfl rfl rfl rfl rfl (Nat.le_of_ble_eq_true rfl) ⟨by simp only [RM]; omega, by simp only [RM]; omega⟩ ⟨Nat.le_of_ble_eq_true rfl, Nat.le_of_ble_eq_true rfl⟩ dX3_holdOrLeave_81 (Ktu15 fun le1456 bi1457 gk0458 gk1459 gk2460 gk3461 gk4462 gk5463 gk6464 gk7465 gk8466 gk9467 gk10468 gk11469 gk12470 => ?_)
      intro H locs hr454 hP hD hS
      try dsimp only at hr454
      refine Kpdr (ws := [(h0, oX3 bb hd bo le1456 bi1457), (hd, cA G 13 hf), (kc0, oX1 km0), (km0, iA G 36 gk0458), (kc1, oX1 km1), (km1, iA G 36 gk1459), (kc2, oX1 km2), (km2, iA G 36 gk2460), (kc3, oX1 km3), (km3, iA G 36 gk3461), (kc4, oX1 km4), (km4, iA G 36 gk4462), (kc5, oX1 km5), (km5, iA G 36 gk5463), (kc6, oX1 km6), (km6, iA G 36 gk6464), (kc7, oX1 km7), (km7, iA G 36 gk7465), (kc8, oX1 km8), (km8, iA G 36 gk8466), (kc9, oX1 km9), (km9, iA G 36 gk9467), (kc10, oX1 km10), (km10, iA G 36 gk10468), (kc11, oX1 km11), (km11, iA G 36 gk11469), (kc12, oX1 km12), (km12, iA G 36 gk12470), (bb, oX0 bpersons bpapers bstamps bversions blines bsteps bsayings bfindings bwarnings bquestions td vd vl gp), (bstamps, oX8 24 3 bstampsc (nI kbstamps)), (bstampsc, iA G 72 fbstamps)]) hP hD (fun hP hD => ?_)
      exact toQ hQ0 (RV hC hP hD hS [0, 1, 2, 3, 4, 5, 6, 7, 8, 9, 10, 11, 12, 13, 14, 15, 16, 17, 18, 19, 20, 21, 22, 23, 24, 25, 26, 27, 28, 29, 30] (le1456, bi1457, gk0458, gk1459, gk2460, gk3461, gk4462, gk5463, gk6464, gk7465, gk8466, gk9467, gk10468, gk11469, gk12470) rfl rfl (by decide) (trivial) dX3_holdOrLeave_84)
  · have hl : lv_has ls 5 [(0, .ref h0), (1, .int (nI j)), (2, .int wo), (3, .int co), (4, .int 2)] := hl
    refine lv_iload hx hb dX3_holdOrLeave_0 (lv_at4 hl) ?_
    refine lv_if_lt (tgt := 17) hx hb dX3_holdOrLeave_2 (by decide) (fun c9 => absurd c9 (by decide)) (fun _ => ?_)
    refine lv_iload hx hb dX3_holdOrLeave_5 (lv_at4 hl) ?_
    refine lv_iconst (v := 1) hx hb dX3_holdOrLeave_7 (by decide) ?_
    refine lv_iadd hx hb dX3_holdOrLeave_8 ?_
    refine eqi (x1 := 3) (by decide) ?_
    refine lv_aload_n hx hb dX3_holdOrLeave_9 rfl (lv_at0 hl) ?_
    refine gf_X3_11 hC rfl hK hP 0 rfl rfl dX3_holdOrLeave_10 ?_
    refine va_alen (v := 13) hx hb hK.1 hP 1 1 rfl rfl (show Int32.ofNat 13 = 13 by decide) dX3_holdOrLeave_13 ?_
    refine lv_icmp_lt (tgt := 18) hx hb dX3_holdOrLeave_14 (by decide) (fun _ => ?_) (fun c9 => absurd (by decide) c9)
    refine lv_aload_n hx hb dX3_holdOrLeave_18 rfl (lv_at0 hl) ?_
    refine gf_X3_11 hC rfl hK hP 0 rfl rfl dX3_holdOrLeave_19 ?_
    refine lv_iload hx hb dX3_holdOrLeave_22 (lv_at4 hl) ?_
    refine lv_iconst (v := 1) hx hb dX3_holdOrLeave_24 (by decide) ?_
    refine lv_iadd hx hb dX3_holdOrLeave_25 ?_
    refine eqi (x1 := 3) (by decide) ?_
    refine aldC hC hK hP 1 rfl (vin (by decide +kernel)) (k := 3) (by decide +kernel) (v := kc3) (hh3) dX3_holdOrLeave_26 ?_
    refine lv_aload_n hx hb dX3_holdOrLeave_27 rfl (lv_at0 hl) ?_
    refine gf_X3_11 hC rfl hK hP 0 rfl rfl dX3_holdOrLeave_28 ?_
    refine lv_iload hx hb dX3_holdOrLeave_31 (lv_at4 hl) ?_
    refine aldC hC hK hP 1 rfl (vin (by decide +kernel)) (k := 2) (by decide +kernel) (v := kc2) (hh2) dX3_holdOrLeave_33 ?_
    refine vV (wr := [(h0, oX3 bb hd bo le bi), (hd, cA G 13 hf), (kc0, oX1 km0), (km0, iA G 36 fk0), (kc1, oX1 km1), (km1, iA G 36 fk1), (kc4, oX1 km4), (km4, iA G 36 fk4), (kc5, oX1 km5), (km5, iA G 36 fk5), (kc6, oX1 km6), (km6, iA G 36 fk6), (kc7, oX1 km7), (km7, iA G 36 fk7), (kc8, oX1 km8), (km8, iA G 36 fk8), (kc9, oX1 km9), (km9, iA G 36 fk9), (kc10, oX1 km10), (km10, iA G 36 fk10), (kc11, oX1 km11), (km11, iA G 36 fk11), (kc12, oX1 km12), (km12, iA G 36 fk12), (bb, oX0 bpersons bpapers bstamps bversions blines bsteps bsayings bfindings bwarnings bquestions td vd vl gp), (bstamps, oX8 24 3 bstampsc (nI kbstamps)), (bstampsc, iA G 72 fbstamps)]) hC hK hl hP hD hS hA (c_Cl_copy l G kc3 kc2 km3 fk3 km2 fk2) si_X3_62 [8, 9, 6, 7] [0, 1, 2, 3, 4, 5, 10, 11, 12, 13, 14, 15, 16, 17, 18, 19, 20, 21, 22, 23, 24, 25, 26, 27, 28, 29, 30] sm_8_9_6_7 fm_8_9_6_7 nd_8_9_6_7 sm_0_1_2_3_4_5_10_11_12_13_14_15_16_17_18_19_20_21_22_23_24_25_26_27_28_29_30 nd_0_1_2_3_4_5_10_11_12_13_14_15_16_17_18_19_20_21_22_23_24_25_26_27_28_29_30 dj_8_9_6_7__0_1_2_3_4_5_10_11_12_13_14_15_16_17_18_19_20_21_22_23_24_25_26_27_28_29_30 rfl rfl rfl rfl rfl (Nat.le_of_ble_eq_true rfl) ⟨by simp only [RM]; omega, by simp only [RM]; omega⟩ ⟨Nat.le_of_ble_eq_true rfl, Nat.le_of_ble_eq_true rfl⟩ dX3_holdOrLeave_34 (fun f1473 H locs hr471 hP hD hS => ?_)
    try dsimp only at hr471
    refine Kpdr (ws := [(h0, oX3 bb hd bo le bi), (hd, cA G 13 hf), (kc0, oX1 km0), (km0, iA G 36 fk0), (kc1, oX1 km1), (km1, iA G 36 fk1), (kc4, oX1 km4), (km4, iA G 36 fk4), (kc5, oX1 km5), (km5, iA G 36 fk5), (kc6, oX1 km6), (km6, iA G 36 fk6), (kc7, oX1 km7), (km7, iA G 36 fk7), (kc8, oX1 km8), (km8, iA G 36 fk8), (kc9, oX1 km9), (km9, iA G 36 fk9), (kc10, oX1 km10), (km10, iA G 36 fk10), (kc11, oX1 km11), (km11, iA G 36 fk11), (kc12, oX1 km12), (km12, iA G 36 fk12), (bb, oX0 bpersons bpapers bstamps bversions blines bsteps bsayings bfindings bwarnings bquestions td vd vl gp), (bstamps, oX8 24 3 bstampsc (nI kbstamps)), (bstampsc, iA G 72 fbstamps), (kc3, oX1 km3), (km3, iA G 36 f1473), (kc2, oX1 km2), (km2, iA G 36 fk2)]) hP hD (fun hP hD => ?_)
    refine lv_aload_n hx hb dX3_holdOrLeave_37 rfl (lv_at0 hl) ?_
    refine lv_iload_n hx hb dX3_holdOrLeave_38 rfl (lv_at1 hl) ?_
    refine lv_aload_n hx hb dX3_holdOrLeave_39 rfl (lv_at0 hl) ?_
    refine gf_X3_11 hC rfl hK hP 0 rfl rfl dX3_holdOrLeave_40 ?_
    refine lv_iload hx hb dX3_holdOrLeave_43 (lv_at4 hl) ?_
    refine lv_iconst (v := 1) hx hb dX3_holdOrLeave_45 (by decide) ?_
    refine lv_iadd hx hb dX3_holdOrLeave_46 ?_
    refine eqi (x1 := 3) (by decide) ?_
    refine aldC hC hK hP 1 rfl (vin (by decide +kernel)) (k := 3) (by decide +kernel) (v := kc3) (hh3) dX3_holdOrLeave_47 ?_
    refine iV (wr := [(hd, cA G 13 hf), (kc0, oX1 km0), (km0, iA G 36 fk0), (kc1, oX1 km1), (km1, iA G 36 fk1), (kc4, oX1 km4), (km4, iA G 36 fk4), (kc5, oX1 km5), (km5, iA G 36 fk5), (kc6, oX1 km6), (km6, iA G 36 fk6), (kc7, oX1 km7), (km7, iA G 36 fk7), (kc8, oX1 km8), (km8, iA G 36 fk8), (kc9, oX1 km9), (km9, iA G 36 fk9), (kc10, oX1 km10), (km10, iA G 36 fk10), (kc11, oX1 km11), (km11, iA G 36 fk11), (kc12, oX1 km12), (km12, iA G 36 fk12), (kc2, oX1 km2), (km2, iA G 36 fk2)]) hC hK hl hP hD hS hA (c_isRight l G h0 (nI j) kc3 bb hd bo le bi bpersons bpapers bstamps bversions blines bsteps bsayings bfindings bwarnings bquestions td vd vl gp bstampsc kbstamps fbstamps km3 f1473 (hkbstamps)) si_X3_66 [0, 24, 25, 26, 27, 28] [1, 2, 3, 4, 5, 6, 7, 8, 9, 10, 11, 12, 13, 14, 15, 16, 17, 18, 19, 20, 21, 22, 23, 29, 30] sm_0_24_25_26_27_28 fm_0_24_25_26_27_28 nd_0_24_25_26_27_28 sm_1_2_3_4_5_6_7_8_9_10_11_12_13_14_15_16_17_18_19_20_21_22_23_29_30 nd_1_2_3_4_5_6_7_8_9_10_11_12_13_14_15_16_17_18_19_20_21_22_23_29_30 dj_0_24_25_26_27_28__1_2_3_4_5_6_7_8_9_10_11_12_13_14_15_16_17_18_19_20_21_22_23_29_30 rfl rfl rfl rfl rfl (Nat.le_of_ble_eq_true rfl) ⟨by simp only [RM]; omega, by simp only [RM]; omega⟩ ⟨Nat.le_of_ble_eq_true rfl, Nat.le_of_ble_eq_true rfl⟩ dX3_holdOrLeave_48 (fun r474 gx476 H locs hr474 hP hD hS => ?_)
    try dsimp only at hr474
    refine Kpdr (ws := [(hd, cA G 13 hf), (kc0, oX1 km0), (km0, iA G 36 fk0), (kc1, oX1 km1), (km1, iA G 36 fk1), (kc4, oX1 km4), (km4, iA G 36 fk4), (kc5, oX1 km5), (km5, iA G 36 fk5), (kc6, oX1 km6), (km6, iA G 36 fk6), (kc7, oX1 km7), (km7, iA G 36 fk7), (kc8, oX1 km8), (km8, iA G 36 fk8), (kc9, oX1 km9), (km9, iA G 36 fk9), (kc10, oX1 km10), (km10, iA G 36 fk10), (kc11, oX1 km11), (km11, iA G 36 fk11), (kc12, oX1 km12), (km12, iA G 36 fk12), (kc2, oX1 km2), (km2, iA G 36 fk2), (h0, oX3 bb hd bo le bi), (bb, oX0 bpersons bpapers bstamps bversions blines bsteps bsayings bfindings bwarnings bquestions td vd vl gp), (bstamps, oX8 24 3 bstampsc (nI kbstamps)), (bstampsc, iA G 72 fbstamps), (kc3, oX1 km3), (km3, iA G 36 gx476)]) hP hD (fun hP hD => ?_)
    rcases hr474 with rfl | rfl
    · refine lv_if_eq (tgt := 67) hx hb dX3_holdOrLeave_51 (by decide) (fun c9 => absurd c9 (by decide)) (fun _ => ?_)
      refine lv_aload_n hx hb dX3_holdOrLeave_54 rfl (lv_at0 hl) ?_
      refine lv_iload_n hx hb dX3_holdOrLeave_55 rfl (lv_at1 hl) ?_
      refine lv_iconst (v := 1) hx hb dX3_holdOrLeave_56 (by decide) ?_
      refine lv_isub hx hb dX3_holdOrLeave_57 ?_
      refine lv_iload_n hx hb dX3_holdOrLeave_58 rfl (lv_at2 hl) ?_
      refine lv_iload_n hx hb dX3_holdOrLeave_59 rfl (lv_at3 hl) ?_
      refine lv_iload hx hb dX3_holdOrLeave_60 (lv_at4 hl) ?_
      refine lv_iconst (v := 1) hx hb dX3_holdOrLeave_62 (by decide) ?_
      refine lv_iadd hx hb dX3_holdOrLeave_63 ?_
      refine eqi (x1 := 3) (by decide) ?_
      refine vV (wr := []) hC hK hl hP hD hS hA (ihS j (by omega) h0 wo co 3 bb hd bo le bi hf kc0 km0 fk0 kc1 km1 fk1 kc2 km2 fk2 kc3 km3 gx476 kc4 km4 fk4 kc5 km5 fk5 kc6 km6 fk6 kc7 km7 fk7 kc8 km8 fk8 kc9 km9 fk9 kc10 km10 fk10 kc11 km11 fk11 kc12 km12 fk12 bpersons bpapers bstamps bversions blines bsteps bsayings bfindings bwarnings bquestions td vd vl gp bstampsc kbstamps fbstamps (by omega) (by omega) (hh0) (hh1) (hh2) (hh3) (hh4) (hh5) (hh6) (hh7) (hh8) (hh9) (hh10) (hh11) (hh12)) si_X3_55 [25, 0, 1, 2, 3, 4, 23, 24, 29, 30, 5, 6, 7, 8, 9, 10, 11, 12, 13, 14, 15, 16, 17, 18, 19, 20, 21, 22, 26, 27, 28] [] sm_25_0_1_2_3_4_23_24_29_30_5_6_7_8_9_10_11_12_13_14_15_16_17_18_19_20_21_22_26_27_28 fm_25_0_1_2_3_4_23_24_29_30_5_6_7_8_9_10_11_12_13_14_15_16_17_18_19_20_21_22_26_27_28 nd_25_0_1_2_3_4_23_24_29_30_5_6_7_8_9_10_11_12_13_14_15_16_17_18_19_20_21_22_26_27_28 rfl rfl (by decide) rfl rfl rfl rfl rfl (Nat.le_of_ble_eq_true rfl) ⟨by simp only [RM]; omega, by simp only [RM]; omega⟩ ⟨Nat.le_of_ble_eq_true rfl, Nat.le_of_ble_eq_true rfl⟩ dX3_holdOrLeave_64 (Ktu15 fun le1480 bi1481 gk0482 gk1483 gk2484 gk3485 gk4486 gk5487 gk6488 gk7489 gk8490 gk9491 gk10492 gk11493 gk12494 => ?_)
      intro H locs hr478 hP hD hS
      try dsimp only at hr478
      refine Kpdr (ws := [(h0, oX3 bb hd bo le1480 bi1481), (hd, cA G 13 hf), (kc0, oX1 km0), (km0, iA G 36 gk0482), (kc1, oX1 km1), (km1, iA G 36 gk1483), (kc2, oX1 km2), (km2, iA G 36 gk2484), (kc3, oX1 km3), (km3, iA G 36 gk3485), (kc4, oX1 km4), (km4, iA G 36 gk4486), (kc5, oX1 km5), (km5, iA G 36 gk5487), (kc6, oX1 km6), (km6, iA G 36 gk6488), (kc7, oX1 km7), (km7, iA G 36 gk7489), (kc8, oX1 km8), (km8, iA G 36 gk8490), (kc9, oX1 km9), (km9, iA G 36 gk9491), (kc10, oX1 km10), (km10, iA G 36 gk10492), (kc11, oX1 km11), (km11, iA G 36 gk11493), (kc12, oX1 km12), (km12, iA G 36 gk12494), (bb, oX0 bpersons bpapers bstamps bversions blines bsteps bsayings bfindings bwarnings bquestions td vd vl gp), (bstamps, oX8 24 3 bstampsc (nI kbstamps)), (bstampsc, iA G 72 fbstamps)]) hP hD (fun hP hD => ?_)
      refine lv_aload_n hx hb dX3_holdOrLeave_67 rfl (lv_at0 hl) ?_
      refine lv_iload_n hx hb dX3_holdOrLeave_68 rfl (lv_at1 hl) ?_
      refine lv_iconst (v := 1) hx hb dX3_holdOrLeave_69 (by decide) ?_
      refine lv_isub hx hb dX3_holdOrLeave_70 ?_
      refine lv_iload_n hx hb dX3_holdOrLeave_71 rfl (lv_at2 hl) ?_
      refine lv_iconst (v := 1) hx hb dX3_holdOrLeave_72 (by decide) ?_
      refine lv_iload_n hx hb dX3_holdOrLeave_73 rfl (lv_at1 hl) ?_
      refine lv_ishl hx hb dX3_holdOrLeave_74 ?_
      refine lv_ior hx hb dX3_holdOrLeave_75 ?_
      refine lv_iload_n hx hb dX3_holdOrLeave_76 rfl (lv_at3 hl) ?_
      refine lv_iconst (v := 1) hx hb dX3_holdOrLeave_77 (by decide) ?_
      refine lv_iadd hx hb dX3_holdOrLeave_78 ?_
      refine lv_iload hx hb dX3_holdOrLeave_79 (lv_at4 hl) ?_
      refine vV (wr := []) hC hK hl hP hD hS hA (ihS j (by omega) h0 (wo ||| (1 <<< ((nI j) &&& 31))) (co + 1) 2 bb hd bo le1480 bi1481 hf kc0 km0 gk0482 kc1 km1 gk1483 kc2 km2 gk2484 kc3 km3 gk3485 kc4 km4 gk4486 kc5 km5 gk5487 kc6 km6 gk6488 kc7 km7 gk7489 kc8 km8 gk8490 kc9 km9 gk9491 kc10 km10 gk10492 kc11 km11 gk11493 kc12 km12 gk12494 bpersons bpapers bstamps bversions blines bsteps bsayings bfindings bwarnings bquestions td vd vl gp bstampsc kbstamps fbstamps (by omega) (by omega) (hh0) (hh1) (hh2) (hh3) (hh4) (hh5) (hh6) (hh7) (hh8) (hh9) (hh10) (hh11) (hh12)) si_X3_55 [0, 1, 2, 3, 4, 5, 6, 7, 8, 9, 10, 11, 12, 13, 14, 15, 16, 17, 18, 19, 20, 21, 22, 23, 24, 25, 26, 27, 28, 29, 30] [] sm_0_1_2_3_4_5_6_7_8_9_10_11_12_13_14_15_16_17_18_19_20_21_22_23_24_25_26_27_28_29_30 fm_0_1_2_3_4_5_6_7_8_9_10_11_12_13_14_15_16_17_18_19_20_21_22_23_24_25_26_27_28_29_30 nd_0_1_2_3_4_5_6_7_8_9_10_11_12_13_14_15_16_17_18_19_20_21_22_23_24_25_26_27_28_29_30 rfl rfl (by decide) rfl rfl rfl rfl rfl (Nat.le_of_ble_eq_true rfl) ⟨by simp only [RM]; omega, by simp only [RM]; omega⟩ ⟨Nat.le_of_ble_eq_true rfl, Nat.le_of_ble_eq_true rfl⟩ dX3_holdOrLeave_81 (Ktu15 fun le1497 bi1498 gk0499 gk1500 gk2501 gk3502 gk4503 gk5504 gk6505 gk7506 gk8507 gk9508 gk10509 gk11510 gk12511 => ?_)
      intro H locs hr495 hP hD hS
      try dsimp only at hr495
      refine Kpdr (ws := [(h0, oX3 bb hd bo le1497 bi1498), (hd, cA G 13 hf), (kc0, oX1 km0), (km0, iA G 36 gk0499), (kc1, oX1 km1), (km1, iA G 36 gk1500), (kc2, oX1 km2), (km2, iA G 36 gk2501), (kc3, oX1 km3), (km3, iA G 36 gk3502), (kc4, oX1 km4), (km4, iA G 36 gk4503), (kc5, oX1 km5), (km5, iA G 36 gk5504), (kc6, oX1 km6), (km6, iA G 36 gk6505), (kc7, oX1 km7), (km7, iA G 36 gk7506), (kc8, oX1 km8), (km8, iA G 36 gk8507), (kc9, oX1 km9), (km9, iA G 36 gk9508), (kc10, oX1 km10), (km10, iA G 36 gk10509), (kc11, oX1 km11), (km11, iA G 36 gk11510), (kc12, oX1 km12), (km12, iA G 36 gk12511), (bb, oX0 bpersons bpapers bstamps bversions blines bsteps bsayings bfindings bwarnings bquestions td vd vl gp), (bstamps, oX8 24 3 bstampsc (nI kbstamps)), (bstampsc, iA G 72 fbstamps)]) hP hD (fun hP hD => ?_)
      exact toQ hQ0 (RV hC hP hD hS [0, 1, 2, 3, 4, 5, 6, 7, 8, 9, 10, 11, 12, 13, 14, 15, 16, 17, 18, 19, 20, 21, 22, 23, 24, 25, 26, 27, 28, 29, 30] (le1497, bi1498, gk0499, gk1500, gk2501, gk3502, gk4503, gk5504, gk6505, gk7506, gk8507, gk9508, gk10509, gk11510, gk12511) rfl rfl (by decide) (trivial) dX3_holdOrLeave_84)
    · refine lv_if_eq (tgt := 67) hx hb dX3_holdOrLeave_51 (by decide) (fun _ => ?_) (fun c9 => absurd (by decide) c9)
      refine lv_aload_n hx hb dX3_holdOrLeave_67 rfl (lv_at0 hl) ?_
      refine lv_iload_n hx hb dX3_holdOrLeave_68 rfl (lv_at1 hl) ?_
      refine lv_iconst (v := 1) hx hb dX3_holdOrLeave_69 (by decide) ?_
      refine lv_isub hx hb dX3_holdOrLeave_70 ?_
      refine lv_iload_n hx hb dX3_holdOrLeave_71 rfl (lv_at2 hl) ?_
      refine lv_iconst (v := 1) hx hb dX3_holdOrLeave_72 (by decide) ?_
      refine lv_iload_n hx hb dX3_holdOrLeave_73 rfl (lv_at1 hl) ?_
      refine lv_ishl hx hb dX3_holdOrLeave_74 ?_
      refine lv_ior hx hb dX3_holdOrLeave_75 ?_
      refine lv_iload_n hx hb dX3_holdOrLeave_76 rfl (lv_at3 hl) ?_
      refine lv_iconst (v := 1) hx hb dX3_holdOrLeave_77 (by decide) ?_
      refine lv_iadd hx hb dX3_holdOrLeave_78 ?_
      refine lv_iload hx hb dX3_holdOrLeave_79 (lv_at4 hl) ?_
      refine vV (wr := []) hC hK hl hP hD hS hA (ihS j (by omega) h0 (wo ||| (1 <<< ((nI j) &&& 31))) (co + 1) 2 bb hd bo le bi hf kc0 km0 fk0 kc1 km1 fk1 kc2 km2 fk2 kc3 km3 gx476 kc4 km4 fk4 kc5 km5 fk5 kc6 km6 fk6 kc7 km7 fk7 kc8 km8 fk8 kc9 km9 fk9 kc10 km10 fk10 kc11 km11 fk11 kc12 km12 fk12 bpersons bpapers bstamps bversions blines bsteps bsayings bfindings bwarnings bquestions td vd vl gp bstampsc kbstamps fbstamps (by omega) (by omega) (hh0) (hh1) (hh2) (hh3) (hh4) (hh5) (hh6) (hh7) (hh8) (hh9) (hh10) (hh11) (hh12)) si_X3_55 [25, 0, 1, 2, 3, 4, 23, 24, 29, 30, 5, 6, 7, 8, 9, 10, 11, 12, 13, 14, 15, 16, 17, 18, 19, 20, 21, 22, 26, 27, 28] [] sm_25_0_1_2_3_4_23_24_29_30_5_6_7_8_9_10_11_12_13_14_15_16_17_18_19_20_21_22_26_27_28 fm_25_0_1_2_3_4_23_24_29_30_5_6_7_8_9_10_11_12_13_14_15_16_17_18_19_20_21_22_26_27_28 nd_25_0_1_2_3_4_23_24_29_30_5_6_7_8_9_10_11_12_13_14_15_16_17_18_19_20_21_22_26_27_28 rfl rfl (by decide) rfl rfl rfl rfl rfl (Nat.le_of_ble_eq_true rfl) ⟨by simp only [RM]; omega, by simp only [RM]; omega⟩ ⟨Nat.le_of_ble_eq_true rfl, Nat.le_of_ble_eq_true rfl⟩ dX3_holdOrLeave_81 (Ktu15 fun le1514 bi1515 gk0516 gk1517 gk2518 gk3519 gk4520 gk5521 gk6522 gk7523 gk8524 gk9525 gk10526 gk11527 gk12528 => ?_)
      intro H locs hr512 hP hD hS
      try dsimp only at hr512
      refine Kpdr (ws := [(h0, oX3 bb hd bo le1514 bi1515), (hd, cA G 13 hf), (kc0, oX1 km0), (km0, iA G 36 gk0516), (kc1, oX1 km1), (km1, iA G 36 gk1517), (kc2, oX1 km2), (km2, iA G 36 gk2518), (kc3, oX1 km3), (km3, iA G 36 gk3519), (kc4, oX1 km4), (km4, iA G 36 gk4520), (kc5, oX1 km5), (km5, iA G 36 gk5521), (kc6, oX1 km6), (km6, iA G 36 gk6522), (kc7, oX1 km7), (km7, iA G 36 gk7523), (kc8, oX1 km8), (km8, iA G 36 gk8524), (kc9, oX1 km9), (km9, iA G 36 gk9525), (kc10, oX1 km10), (km10, iA G 36 gk10526), (kc11, oX1 km11), (km11, iA G 36 gk11527), (kc12, oX1 km12), (km12, iA G 36 gk12528), (bb, oX0 bpersons bpapers bstamps bversions blines bsteps bsayings bfindings bwarnings bquestions td vd vl gp), (bstamps, oX8 24 3 bstampsc (nI kbstamps)), (bstampsc, iA G 72 fbstamps)]) hP hD (fun hP hD => ?_)
      exact toQ hQ0 (RV hC hP hD hS [0, 1, 2, 3, 4, 5, 6, 7, 8, 9, 10, 11, 12, 13, 14, 15, 16, 17, 18, 19, 20, 21, 22, 23, 24, 25, 26, 27, 28, 29, 30] (le1514, bi1515, gk0516, gk1517, gk2518, gk3519, gk4520, gk5521, gk6522, gk7523, gk8524, gk9525, gk10526, gk11527, gk12528) rfl rfl (by decide) (trivial) dX3_holdOrLeave_84)
  · have hl : lv_has ls 5 [(0, .ref h0), (1, .int (nI j)), (2, .int wo), (3, .int co), (4, .int 3)] := hl
    refine lv_iload hx hb dX3_holdOrLeave_0 (lv_at4 hl) ?_
    refine lv_if_lt (tgt := 17) hx hb dX3_holdOrLeave_2 (by decide) (fun c9 => absurd c9 (by decide)) (fun _ => ?_)
    refine lv_iload hx hb dX3_holdOrLeave_5 (lv_at4 hl) ?_
    refine lv_iconst (v := 1) hx hb dX3_holdOrLeave_7 (by decide) ?_
    refine lv_iadd hx hb dX3_holdOrLeave_8 ?_
    refine eqi (x1 := 4) (by decide) ?_
    refine lv_aload_n hx hb dX3_holdOrLeave_9 rfl (lv_at0 hl) ?_
    refine gf_X3_11 hC rfl hK hP 0 rfl rfl dX3_holdOrLeave_10 ?_
    refine va_alen (v := 13) hx hb hK.1 hP 1 1 rfl rfl (show Int32.ofNat 13 = 13 by decide) dX3_holdOrLeave_13 ?_
    refine lv_icmp_lt (tgt := 18) hx hb dX3_holdOrLeave_14 (by decide) (fun _ => ?_) (fun c9 => absurd (by decide) c9)
    refine lv_aload_n hx hb dX3_holdOrLeave_18 rfl (lv_at0 hl) ?_
    refine gf_X3_11 hC rfl hK hP 0 rfl rfl dX3_holdOrLeave_19 ?_
    refine lv_iload hx hb dX3_holdOrLeave_22 (lv_at4 hl) ?_
    refine lv_iconst (v := 1) hx hb dX3_holdOrLeave_24 (by decide) ?_
    refine lv_iadd hx hb dX3_holdOrLeave_25 ?_
    refine eqi (x1 := 4) (by decide) ?_
    refine aldC hC hK hP 1 rfl (vin (by decide +kernel)) (k := 4) (by decide +kernel) (v := kc4) (hh4) dX3_holdOrLeave_26 ?_
    refine lv_aload_n hx hb dX3_holdOrLeave_27 rfl (lv_at0 hl) ?_
    refine gf_X3_11 hC rfl hK hP 0 rfl rfl dX3_holdOrLeave_28 ?_
    refine lv_iload hx hb dX3_holdOrLeave_31 (lv_at4 hl) ?_
    refine aldC hC hK hP 1 rfl (vin (by decide +kernel)) (k := 3) (by decide +kernel) (v := kc3) (hh3) dX3_holdOrLeave_33 ?_
    refine vV (wr := [(h0, oX3 bb hd bo le bi), (hd, cA G 13 hf), (kc0, oX1 km0), (km0, iA G 36 fk0), (kc1, oX1 km1), (km1, iA G 36 fk1), (kc2, oX1 km2), (km2, iA G 36 fk2), (kc5, oX1 km5), (km5, iA G 36 fk5), (kc6, oX1 km6), (km6, iA G 36 fk6), (kc7, oX1 km7), (km7, iA G 36 fk7), (kc8, oX1 km8), (km8, iA G 36 fk8), (kc9, oX1 km9), (km9, iA G 36 fk9), (kc10, oX1 km10), (km10, iA G 36 fk10), (kc11, oX1 km11), (km11, iA G 36 fk11), (kc12, oX1 km12), (km12, iA G 36 fk12), (bb, oX0 bpersons bpapers bstamps bversions blines bsteps bsayings bfindings bwarnings bquestions td vd vl gp), (bstamps, oX8 24 3 bstampsc (nI kbstamps)), (bstampsc, iA G 72 fbstamps)]) hC hK hl hP hD hS hA (c_Cl_copy l G kc4 kc3 km4 fk4 km3 fk3) si_X3_62 [10, 11, 8, 9] [0, 1, 2, 3, 4, 5, 6, 7, 12, 13, 14, 15, 16, 17, 18, 19, 20, 21, 22, 23, 24, 25, 26, 27, 28, 29, 30] sm_10_11_8_9 fm_10_11_8_9 nd_10_11_8_9 sm_0_1_2_3_4_5_6_7_12_13_14_15_16_17_18_19_20_21_22_23_24_25_26_27_28_29_30 nd_0_1_2_3_4_5_6_7_12_13_14_15_16_17_18_19_20_21_22_23_24_25_26_27_28_29_30 dj_10_11_8_9__0_1_2_3_4_5_6_7_12_13_14_15_16_17_18_19_20_21_22_23_24_25_26_27_28_29_30 rfl rfl rfl rfl rfl (Nat.le_of_ble_eq_true rfl) ⟨by simp only [RM]; omega, by simp only [RM]; omega⟩ ⟨Nat.le_of_ble_eq_true rfl, Nat.le_of_ble_eq_true rfl⟩ dX3_holdOrLeave_34 (fun f1531 H locs hr529 hP hD hS => ?_)
    try dsimp only at hr529
    refine Kpdr (ws := [(h0, oX3 bb hd bo le bi), (hd, cA G 13 hf), (kc0, oX1 km0), (km0, iA G 36 fk0), (kc1, oX1 km1), (km1, iA G 36 fk1), (kc2, oX1 km2), (km2, iA G 36 fk2), (kc5, oX1 km5), (km5, iA G 36 fk5), (kc6, oX1 km6), (km6, iA G 36 fk6), (kc7, oX1 km7), (km7, iA G 36 fk7), (kc8, oX1 km8), (km8, iA G 36 fk8), (kc9, oX1 km9), (km9, iA G 36 fk9), (kc10, oX1 km10), (km10, iA G 36 fk10), (kc11, oX1 km11), (km11, iA G 36 fk11), (kc12, oX1 km12), (km12, iA G 36 fk12), (bb, oX0 bpersons bpapers bstamps bversions blines bsteps bsayings bfindings bwarnings bquestions td vd vl gp), (bstamps, oX8 24 3 bstampsc (nI kbstamps)), (bstampsc, iA G 72 fbstamps), (kc4, oX1 km4), (km4, iA G 36 f1531), (kc3, oX1 km3), (km3, iA G 36 fk3)]) hP hD (fun hP hD => ?_)
    refine lv_aload_n hx hb dX3_holdOrLeave_37 rfl (lv_at0 hl) ?_
    refine lv_iload_n hx hb dX3_holdOrLeave_38 rfl (lv_at1 hl) ?_
    refine lv_aload_n hx hb dX3_holdOrLeave_39 rfl (lv_at0 hl) ?_
    refine gf_X3_11 hC rfl hK hP 0 rfl rfl dX3_holdOrLeave_40 ?_
    refine lv_iload hx hb dX3_holdOrLeave_43 (lv_at4 hl) ?_
    refine lv_iconst (v := 1) hx hb dX3_holdOrLeave_45 (by decide) ?_
    refine lv_iadd hx hb dX3_holdOrLeave_46 ?_
    refine eqi (x1 := 4) (by decide) ?_
    refine aldC hC hK hP 1 rfl (vin (by decide +kernel)) (k := 4) (by decide +kernel) (v := kc4) (hh4) dX3_holdOrLeave_47 ?_
    refine iV (wr := [(hd, cA G 13 hf), (kc0, oX1 km0), (km0, iA G 36 fk0), (kc1, oX1 km1), (km1, iA G 36 fk1), (kc2, oX1 km2), (km2, iA G 36 fk2), (kc5, oX1 km5), (km5, iA G 36 fk5), (kc6, oX1 km6), (km6, iA G 36 fk6), (kc7, oX1 km7), (km7, iA G 36 fk7), (kc8, oX1 km8), (km8, iA G 36 fk8), (kc9, oX1 km9), (km9, iA G 36 fk9), (kc10, oX1 km10), (km10, iA G 36 fk10), (kc11, oX1 km11), (km11, iA G 36 fk11), (kc12, oX1 km12), (km12, iA G 36 fk12), (kc3, oX1 km3), (km3, iA G 36 fk3)]) hC hK hl hP hD hS hA (c_isRight l G h0 (nI j) kc4 bb hd bo le bi bpersons bpapers bstamps bversions blines bsteps bsayings bfindings bwarnings bquestions td vd vl gp bstampsc kbstamps fbstamps km4 f1531 (hkbstamps)) si_X3_66 [0, 24, 25, 26, 27, 28] [1, 2, 3, 4, 5, 6, 7, 8, 9, 10, 11, 12, 13, 14, 15, 16, 17, 18, 19, 20, 21, 22, 23, 29, 30] sm_0_24_25_26_27_28 fm_0_24_25_26_27_28 nd_0_24_25_26_27_28 sm_1_2_3_4_5_6_7_8_9_10_11_12_13_14_15_16_17_18_19_20_21_22_23_29_30 nd_1_2_3_4_5_6_7_8_9_10_11_12_13_14_15_16_17_18_19_20_21_22_23_29_30 dj_0_24_25_26_27_28__1_2_3_4_5_6_7_8_9_10_11_12_13_14_15_16_17_18_19_20_21_22_23_29_30 rfl rfl rfl rfl rfl (Nat.le_of_ble_eq_true rfl) ⟨by simp only [RM]; omega, by simp only [RM]; omega⟩ ⟨Nat.le_of_ble_eq_true rfl, Nat.le_of_ble_eq_true rfl⟩ dX3_holdOrLeave_48 (fun r532 gx534 H locs hr532 hP hD hS => ?_)
    try dsimp only at hr532
    refine Kpdr (ws := [(hd, cA G 13 hf), (kc0, oX1 km0), (km0, iA G 36 fk0), (kc1, oX1 km1), (km1, iA G 36 fk1), (kc2, oX1 km2), (km2, iA G 36 fk2), (kc5, oX1 km5), (km5, iA G 36 fk5), (kc6, oX1 km6), (km6, iA G 36 fk6), (kc7, oX1 km7), (km7, iA G 36 fk7), (kc8, oX1 km8), (km8, iA G 36 fk8), (kc9, oX1 km9), (km9, iA G 36 fk9), (kc10, oX1 km10), (km10, iA G 36 fk10), (kc11, oX1 km11), (km11, iA G 36 fk11), (kc12, oX1 km12), (km12, iA G 36 fk12), (kc3, oX1 km3), (km3, iA G 36 fk3), (h0, oX3 bb hd bo le bi), (bb, oX0 bpersons bpapers bstamps bversions blines bsteps bsayings bfindings bwarnings bquestions td vd vl gp), (bstamps, oX8 24 3 bstampsc (nI kbstamps)), (bstampsc, iA G 72 fbstamps), (kc4, oX1 km4), (km4, iA G 36 gx534)]) hP hD (fun hP hD => ?_)
    rcases hr532 with rfl | rfl
    · refine lv_if_eq (tgt := 67) hx hb dX3_holdOrLeave_51 (by decide) (fun c9 => absurd c9 (by decide)) (fun _ => ?_)
      refine lv_aload_n hx hb dX3_holdOrLeave_54 rfl (lv_at0 hl) ?_
      refine lv_iload_n hx hb dX3_holdOrLeave_55 rfl (lv_at1 hl) ?_
      refine lv_iconst (v := 1) hx hb dX3_holdOrLeave_56 (by decide) ?_
      refine lv_isub hx hb dX3_holdOrLeave_57 ?_
      refine lv_iload_n hx hb dX3_holdOrLeave_58 rfl (lv_at2 hl) ?_
      refine lv_iload_n hx hb dX3_holdOrLeave_59 rfl (lv_at3 hl) ?_
      refine lv_iload hx hb dX3_holdOrLeave_60 (lv_at4 hl) ?_
      refine lv_iconst (v := 1) hx hb dX3_holdOrLeave_62 (by decide) ?_
      refine lv_iadd hx hb dX3_holdOrLeave_63 ?_
      refine eqi (x1 := 4) (by decide) ?_
      refine vV (wr := []) hC hK hl hP hD hS hA (ihS j (by omega) h0 wo co 4 bb hd bo le bi hf kc0 km0 fk0 kc1 km1 fk1 kc2 km2 fk2 kc3 km3 fk3 kc4 km4 gx534 kc5 km5 fk5 kc6 km6 fk6 kc7 km7 fk7 kc8 km8 fk8 kc9 km9 fk9 kc10 km10 fk10 kc11 km11 fk11 kc12 km12 fk12 bpersons bpapers bstamps bversions blines bsteps bsayings bfindings bwarnings bquestions td vd vl gp bstampsc kbstamps fbstamps (by omega) (by omega) (hh0) (hh1) (hh2) (hh3) (hh4) (hh5) (hh6) (hh7) (hh8) (hh9) (hh10) (hh11) (hh12)) si_X3_55 [25, 0, 1, 2, 3, 4, 5, 6, 23, 24, 29, 30, 7, 8, 9, 10, 11, 12, 13, 14, 15, 16, 17, 18, 19, 20, 21, 22, 26, 27, 28] [] sm_25_0_1_2_3_4_5_6_23_24_29_30_7_8_9_10_11_12_13_14_15_16_17_18_19_20_21_22_26_27_28 fm_25_0_1_2_3_4_5_6_23_24_29_30_7_8_9_10_11_12_13_14_15_16_17_18_19_20_21_22_26_27_28 nd_25_0_1_2_3_4_5_6_23_24_29_30_7_8_9_10_11_12_13_14_15_16_17_18_19_20_21_22_26_27_28 rfl rfl (by decide) rfl rfl rfl rfl rfl (Nat.le_of_ble_eq_true rfl) ⟨by simp only [RM]; omega, by simp only [RM]; omega⟩ ⟨Nat.le_of_ble_eq_true rfl, Nat.le_of_ble_eq_true rfl⟩ dX3_holdOrLeave_64 (Ktu15 fun le1538 bi1539 gk0540 gk1541 gk2542 gk3543 gk4544 gk5545 gk6546 gk7547 gk8548 gk9549 gk10550 gk11551 gk12552 => ?_)
      intro H locs hr536 hP hD hS
      try dsimp only at hr536
      refine Kpdr (ws := [(h0, oX3 bb hd bo le1538 bi1539), (hd, cA G 13 hf), (kc0, oX1 km0), (km0, iA G 36 gk0540), (kc1, oX1 km1), (km1, iA G 36 gk1541), (kc2, oX1 km2), (km2, iA G 36 gk2542), (kc3, oX1 km3), (km3, iA G 36 gk3543), (kc4, oX1 km4), (km4, iA G 36 gk4544), (kc5, oX1 km5), (km5, iA G 36 gk5545), (kc6, oX1 km6), (km6, iA G 36 gk6546), (kc7, oX1 km7), (km7, iA G 36 gk7547), (kc8, oX1 km8), (km8, iA G 36 gk8548), (kc9, oX1 km9), (km9, iA G 36 gk9549), (kc10, oX1 km10), (km10, iA G 36 gk10550), (kc11, oX1 km11), (km11, iA G 36 gk11551), (kc12, oX1 km12), (km12, iA G 36 gk12552), (bb, oX0 bpersons bpapers bstamps bversions blines bsteps bsayings bfindings bwarnings bquestions td vd vl gp), (bstamps, oX8 24 3 bstampsc (nI kbstamps)), (bstampsc, iA G 72 fbstamps)]) hP hD (fun hP hD => ?_)
      refine lv_aload_n hx hb dX3_holdOrLeave_67 rfl (lv_at0 hl) ?_
      refine lv_iload_n hx hb dX3_holdOrLeave_68 rfl (lv_at1 hl) ?_
      refine lv_iconst (v := 1) hx hb dX3_holdOrLeave_69 (by decide) ?_
      refine lv_isub hx hb dX3_holdOrLeave_70 ?_
      refine lv_iload_n hx hb dX3_holdOrLeave_71 rfl (lv_at2 hl) ?_
      refine lv_iconst (v := 1) hx hb dX3_holdOrLeave_72 (by decide) ?_
      refine lv_iload_n hx hb dX3_holdOrLeave_73 rfl (lv_at1 hl) ?_
      refine lv_ishl hx hb dX3_holdOrLeave_74 ?_
      refine lv_ior hx hb dX3_holdOrLeave_75 ?_
      refine lv_iload_n hx hb dX3_holdOrLeave_76 rfl (lv_at3 hl) ?_
      refine lv_iconst (v := 1) hx hb dX3_holdOrLeave_77 (by decide) ?_
      refine lv_iadd hx hb dX3_holdOrLeave_78 ?_
      refine lv_iload hx hb dX3_holdOrLeave_79 (lv_at4 hl) ?_
      refine vV (wr := []) hC hK hl hP hD hS hA (ihS j (by omega) h0 (wo ||| (1 <<< ((nI j) &&& 31))) (co + 1) 3 bb hd bo le1538 bi1539 hf kc0 km0 gk0540 kc1 km1 gk1541 kc2 km2 gk2542 kc3 km3 gk3543 kc4 km4 gk4544 kc5 km5 gk5545 kc6 km6 gk6546 kc7 km7 gk7547 kc8 km8 gk8548 kc9 km9 gk9549 kc10 km10 gk10550 kc11 km11 gk11551 kc12 km12 gk12552 bpersons bpapers bstamps bversions blines bsteps bsayings bfindings bwarnings bquestions td vd vl gp bstampsc kbstamps fbstamps (by omega) (by omega) (hh0) (hh1) (hh2) (hh3) (hh4) (hh5) (hh6) (hh7) (hh8) (hh9) (hh10) (hh11) (hh12)) si_X3_55 [0, 1, 2, 3, 4, 5, 6, 7, 8, 9, 10, 11, 12, 13, 14, 15, 16, 17, 18, 19, 20, 21, 22, 23, 24, 25, 26, 27, 28, 29, 30] [] sm_0_1_2_3_4_5_6_7_8_9_10_11_12_13_14_15_16_17_18_19_20_21_22_23_24_25_26_27_28_29_30 fm_0_1_2_3_4_5_6_7_8_9_10_11_12_13_14_15_16_17_18_19_20_21_22_23_24_25_26_27_28_29_30 nd_0_1_2_3_4_5_6_7_8_9_10_11_12_13_14_15_16_17_18_19_20_21_22_23_24_25_26_27_28_29_30 rfl rfl (by decide) rfl rfl rfl rfl rfl (Nat.le_of_ble_eq_true rfl) ⟨by simp only [RM]; omega, by simp only [RM]; omega⟩ ⟨Nat.le_of_ble_eq_true rfl, Nat.le_of_ble_eq_true rfl⟩ dX3_holdOrLeave_81 (Ktu15 fun le1555 bi1556 gk0557 gk1558 gk2559 gk3560 gk4561 gk5562 gk6563 gk7564 gk8565 gk9566 gk10567 gk11568 gk12569 => ?_)
      intro H locs hr553 hP hD hS
      try dsimp only at hr553
      refine Kpdr (ws := [(h0, oX3 bb hd bo le1555 bi1556), (hd, cA G 13 hf), (kc0, oX1 km0), (km0, iA G 36 gk0557), (kc1, oX1 km1), (km1, iA G 36 gk1558), (kc2, oX1 km2), (km2, iA G 36 gk2559), (kc3, oX1 km3), (km3, iA G 36 gk3560), (kc4, oX1 km4), (km4, iA G 36 gk4561), (kc5, oX1 km5), (km5, iA G 36 gk5562), (kc6, oX1 km6), (km6, iA G 36 gk6563), (kc7, oX1 km7), (km7, iA G 36 gk7564), (kc8, oX1 km8), (km8, iA G 36 gk8565), (kc9, oX1 km9), (km9, iA G 36 gk9566), (kc10, oX1 km10), (km10, iA G 36 gk10567), (kc11, oX1 km11), (km11, iA G 36 gk11568), (kc12, oX1 km12), (km12, iA G 36 gk12569), (bb, oX0 bpersons bpapers bstamps bversions blines bsteps bsayings bfindings bwarnings bquestions td vd vl gp), (bstamps, oX8 24 3 bstampsc (nI kbstamps)), (bstampsc, iA G 72 fbstamps)]) hP hD (fun hP hD => ?_)
      exact toQ hQ0 (RV hC hP hD hS [0, 1, 2, 3, 4, 5, 6, 7, 8, 9, 10, 11, 12, 13, 14, 15, 16, 17, 18, 19, 20, 21, 22, 23, 24, 25, 26, 27, 28, 29, 30] (le1555, bi1556, gk0557, gk1558, gk2559, gk3560, gk4561, gk5562, gk6563, gk7564, gk8565, gk9566, gk10567, gk11568, gk12569) rfl rfl (by decide) (trivial) dX3_holdOrLeave_84)
    · refine lv_if_eq (tgt := 67) hx hb dX3_holdOrLeave_51 (by decide) (fun _ => ?_) (fun c9 => absurd (by decide) c9)
      refine lv_aload_n hx hb dX3_holdOrLeave_67 rfl (lv_at0 hl) ?_
      refine lv_iload_n hx hb dX3_holdOrLeave_68 rfl (lv_at1 hl) ?_
      refine lv_iconst (v := 1) hx hb dX3_holdOrLeave_69 (by decide) ?_
      refine lv_isub hx hb dX3_holdOrLeave_70 ?_
      refine lv_iload_n hx hb dX3_holdOrLeave_71 rfl (lv_at2 hl) ?_
      refine lv_iconst (v := 1) hx hb dX3_holdOrLeave_72 (by decide) ?_
      refine lv_iload_n hx hb dX3_holdOrLeave_73 rfl (lv_at1 hl) ?_
      refine lv_ishl hx hb dX3_holdOrLeave_74 ?_
      refine lv_ior hx hb dX3_holdOrLeave_75 ?_
      refine lv_iload_n hx hb dX3_holdOrLeave_76 rfl (lv_at3 hl) ?_
      refine lv_iconst (v := 1) hx hb dX3_holdOrLeave_77 (by decide) ?_
      refine lv_iadd hx hb dX3_holdOrLeave_78 ?_
      refine lv_iload hx hb dX3_holdOrLeave_79 (lv_at4 hl) ?_
      refine vV (wr := []) hC hK hl hP hD hS hA (ihS j (by omega) h0 (wo ||| (1 <<< ((nI j) &&& 31))) (co + 1) 3 bb hd bo le bi hf kc0 km0 fk0 kc1 km1 fk1 kc2 km2 fk2 kc3 km3 fk3 kc4 km4 gx534 kc5 km5 fk5 kc6 km6 fk6 kc7 km7 fk7 kc8 km8 fk8 kc9 km9 fk9 kc10 km10 fk10 kc11 km11 fk11 kc12 km12 fk12 bpersons bpapers bstamps bversions blines bsteps bsayings bfindings bwarnings bquestions td vd vl gp bstampsc kbstamps fbstamps (by omega) (by omega) (hh0) (hh1) (hh2) (hh3) (hh4) (hh5) (hh6) (hh7) (hh8) (hh9) (hh10) (hh11) (hh12)) si_X3_55 [25, 0, 1, 2, 3, 4, 5, 6, 23, 24, 29, 30, 7, 8, 9, 10, 11, 12, 13, 14, 15, 16, 17, 18, 19, 20, 21, 22, 26, 27, 28] [] sm_25_0_1_2_3_4_5_6_23_24_29_30_7_8_9_10_11_12_13_14_15_16_17_18_19_20_21_22_26_27_28 fm_25_0_1_2_3_4_5_6_23_24_29_30_7_8_9_10_11_12_13_14_15_16_17_18_19_20_21_22_26_27_28 nd_25_0_1_2_3_4_5_6_23_24_29_30_7_8_9_10_11_12_13_14_15_16_17_18_19_20_21_22_26_27_28 rfl rfl (by decide) rfl rfl rfl rfl rfl (Nat.le_of_ble_eq_true rfl) ⟨by simp only [RM]; omega, by simp only [RM]; omega⟩ ⟨Nat.le_of_ble_eq_true rfl, Nat.le_of_ble_eq_true rfl⟩ dX3_holdOrLeave_81 (Ktu15 fun le1572 bi1573 gk0574 gk1575 gk2576 gk3577 gk4578 gk5579 gk6580 gk7581 gk8582 gk9583 gk10584 gk11585 gk12586 => ?_)
      intro H locs hr570 hP hD hS
      try dsimp only at hr570
      refine Kpdr (ws := [(h0, oX3 bb hd bo le1572 bi1573), (hd, cA G 13 hf), (kc0, oX1 km0), (km0, iA G 36 gk0574), (kc1, oX1 km1), (km1, iA G 36 gk1575), (kc2, oX1 km2), (km2, iA G 36 gk2576), (kc3, oX1 km3), (km3, iA G 36 gk3577), (kc4, oX1 km4), (km4, iA G 36 gk4578), (kc5, oX1 km5), (km5, iA G 36 gk5579), (kc6, oX1 km6), (km6, iA G 36 gk6580), (kc7, oX1 km7), (km7, iA G 36 gk7581), (kc8, oX1 km8), (km8, iA G 36 gk8582), (kc9, oX1 km9), (km9, iA G 36 gk9583), (kc10, oX1 km10), (km10, iA G 36 gk10584), (kc11, oX1 km11), (km11, iA G 36 gk11585), (kc12, oX1 km12), (km12, iA G 36 gk12586), (bb, oX0 bpersons bpapers bstamps bversions blines bsteps bsayings bfindings bwarnings bquestions td vd vl gp), (bstamps, oX8 24 3 bstampsc (nI kbstamps)), (bstampsc, iA G 72 fbstamps)]) hP hD (fun hP hD => ?_)
      exact toQ hQ0 (RV hC hP hD hS [0, 1, 2, 3, 4, 5, 6, 7, 8, 9, 10, 11, 12, 13, 14, 15, 16, 17, 18, 19, 20, 21, 22, 23, 24, 25, 26, 27, 28, 29, 30] (le1572, bi1573, gk0574, gk1575, gk2576, gk3577, gk4578, gk5579, gk6580, gk7581, gk8582, gk9583, gk10584, gk11585, gk12586) rfl rfl (by decide) (trivial) dX3_holdOrLeave_84)
  · have hl : lv_has ls 5 [(0, .ref h0), (1, .int (nI j)), (2, .int wo), (3, .int co), (4, .int 4)] := hl
    refine lv_iload hx hb dX3_holdOrLeave_0 (lv_at4 hl) ?_
    refine lv_if_lt (tgt := 17) hx hb dX3_holdOrLeave_2 (by decide) (fun c9 => absurd c9 (by decide)) (fun _ => ?_)
    refine lv_iload hx hb dX3_holdOrLeave_5 (lv_at4 hl) ?_
    refine lv_iconst (v := 1) hx hb dX3_holdOrLeave_7 (by decide) ?_
    refine lv_iadd hx hb dX3_holdOrLeave_8 ?_
    refine eqi (x1 := 5) (by decide) ?_
    refine lv_aload_n hx hb dX3_holdOrLeave_9 rfl (lv_at0 hl) ?_
    refine gf_X3_11 hC rfl hK hP 0 rfl rfl dX3_holdOrLeave_10 ?_
    refine va_alen (v := 13) hx hb hK.1 hP 1 1 rfl rfl (show Int32.ofNat 13 = 13 by decide) dX3_holdOrLeave_13 ?_
    refine lv_icmp_lt (tgt := 18) hx hb dX3_holdOrLeave_14 (by decide) (fun _ => ?_) (fun c9 => absurd (by decide) c9)
    refine lv_aload_n hx hb dX3_holdOrLeave_18 rfl (lv_at0 hl) ?_
    refine gf_X3_11 hC rfl hK hP 0 rfl rfl dX3_holdOrLeave_19 ?_
    refine lv_iload hx hb dX3_holdOrLeave_22 (lv_at4 hl) ?_
    refine lv_iconst (v := 1) hx hb dX3_holdOrLeave_24 (by decide) ?_
    refine lv_iadd hx hb dX3_holdOrLeave_25 ?_
    refine eqi (x1 := 5) (by decide) ?_
    refine aldC hC hK hP 1 rfl (vin (by decide +kernel)) (k := 5) (by decide +kernel) (v := kc5) (hh5) dX3_holdOrLeave_26 ?_
    refine lv_aload_n hx hb dX3_holdOrLeave_27 rfl (lv_at0 hl) ?_
    refine gf_X3_11 hC rfl hK hP 0 rfl rfl dX3_holdOrLeave_28 ?_
    refine lv_iload hx hb dX3_holdOrLeave_31 (lv_at4 hl) ?_
    refine aldC hC hK hP 1 rfl (vin (by decide +kernel)) (k := 4) (by decide +kernel) (v := kc4) (hh4) dX3_holdOrLeave_33 ?_
    refine vV (wr := [(h0, oX3 bb hd bo le bi), (hd, cA G 13 hf), (kc0, oX1 km0), (km0, iA G 36 fk0), (kc1, oX1 km1), (km1, iA G 36 fk1), (kc2, oX1 km2), (km2, iA G 36 fk2), (kc3, oX1 km3), (km3, iA G 36 fk3), (kc6, oX1 km6), (km6, iA G 36 fk6), (kc7, oX1 km7), (km7, iA G 36 fk7), (kc8, oX1 km8), (km8, iA G 36 fk8), (kc9, oX1 km9), (km9, iA G 36 fk9), (kc10, oX1 km10), (km10, iA G 36 fk10), (kc11, oX1 km11), (km11, iA G 36 fk11), (kc12, oX1 km12), (km12, iA G 36 fk12), (bb, oX0 bpersons bpapers bstamps bversions blines bsteps bsayings bfindings bwarnings bquestions td vd vl gp), (bstamps, oX8 24 3 bstampsc (nI kbstamps)), (bstampsc, iA G 72 fbstamps)]) hC hK hl hP hD hS hA (c_Cl_copy l G kc5 kc4 km5 fk5 km4 fk4) si_X3_62 [12, 13, 10, 11] [0, 1, 2, 3, 4, 5, 6, 7, 8, 9, 14, 15, 16, 17, 18, 19, 20, 21, 22, 23, 24, 25, 26, 27, 28, 29, 30] sm_12_13_10_11 fm_12_13_10_11 nd_12_13_10_11 sm_0_1_2_3_4_5_6_7_8_9_14_15_16_17_18_19_20_21_22_23_24_25_26_27_28_29_30 nd_0_1_2_3_4_5_6_7_8_9_14_15_16_17_18_19_20_21_22_23_24_25_26_27_28_29_30 dj_12_13_10_11__0_1_2_3_4_5_6_7_8_9_14_15_16_17_18_19_20_21_22_23_24_25_26_27_28_29_30 rfl rfl rfl rfl rfl (Nat.le_of_ble_eq_true rfl) ⟨by simp only [RM]; omega, by simp only [RM]; omega⟩ ⟨Nat.le_of_ble_eq_true rfl, Nat.le_of_ble_eq_true rfl⟩ dX3_holdOrLeave_34 (fun f1589 H locs hr587 hP hD hS => ?_)
    try dsimp only at hr587
    refine Kpdr (ws := [(h0, oX3 bb hd bo le bi), (hd, cA G 13 hf), (kc0, oX1 km0), (km0, iA G 36 fk0), (kc1, oX1 km1), (km1, iA G 36 fk1), (kc2, oX1 km2), (km2, iA G 36 fk2), (kc3, oX1 km3), (km3, iA G 36 fk3), (kc6, oX1 km6), (km6, iA G 36 fk6), (kc7, oX1 km7), (km7, iA G 36 fk7), (kc8, oX1 km8), (km8, iA G 36 fk8), (kc9, oX1 km9), (km9, iA G 36 fk9), (kc10, oX1 km10), (km10, iA G 36 fk10), (kc11, oX1 km11), (km11, iA G 36 fk11), (kc12, oX1 km12), (km12, iA G 36 fk12), (bb, oX0 bpersons bpapers bstamps bversions blines bsteps bsayings bfindings bwarnings bquestions td vd vl gp), (bstamps, oX8 24 3 bstampsc (nI kbstamps)), (bstampsc, iA G 72 fbstamps), (kc5, oX1 km5), (km5, iA G 36 f1589), (kc4, oX1 km4), (km4, iA G 36 fk4)]) hP hD (fun hP hD => ?_)
    refine lv_aload_n hx hb dX3_holdOrLeave_37 rfl (lv_at0 hl) ?_
    refine lv_iload_n hx hb dX3_holdOrLeave_38 rfl (lv_at1 hl) ?_
    refine lv_aload_n hx hb dX3_holdOrLeave_39 rfl (lv_at0 hl) ?_
    refine gf_X3_11 hC rfl hK hP 0 rfl rfl dX3_holdOrLeave_40 ?_
    refine lv_iload hx hb dX3_holdOrLeave_43 (lv_at4 hl) ?_
    refine lv_iconst (v := 1) hx hb dX3_holdOrLeave_45 (by decide) ?_
    refine lv_iadd hx hb dX3_holdOrLeave_46 ?_
    refine eqi (x1 := 5) (by decide) ?_
    refine aldC hC hK hP 1 rfl (vin (by decide +kernel)) (k := 5) (by decide +kernel) (v := kc5) (hh5) dX3_holdOrLeave_47 ?_
    refine iV (wr := [(hd, cA G 13 hf), (kc0, oX1 km0), (km0, iA G 36 fk0), (kc1, oX1 km1), (km1, iA G 36 fk1), (kc2, oX1 km2), (km2, iA G 36 fk2), (kc3, oX1 km3), (km3, iA G 36 fk3), (kc6, oX1 km6), (km6, iA G 36 fk6), (kc7, oX1 km7), (km7, iA G 36 fk7), (kc8, oX1 km8), (km8, iA G 36 fk8), (kc9, oX1 km9), (km9, iA G 36 fk9), (kc10, oX1 km10), (km10, iA G 36 fk10), (kc11, oX1 km11), (km11, iA G 36 fk11), (kc12, oX1 km12), (km12, iA G 36 fk12), (kc4, oX1 km4), (km4, iA G 36 fk4)]) hC hK hl hP hD hS hA (c_isRight l G h0 (nI j) kc5 bb hd bo le bi bpersons bpapers bstamps bversions blines bsteps bsayings bfindings bwarnings bquestions td vd vl gp bstampsc kbstamps fbstamps km5 f1589 (hkbstamps)) si_X3_66 [0, 24, 25, 26, 27, 28] [1, 2, 3, 4, 5, 6, 7, 8, 9, 10, 11, 12, 13, 14, 15, 16, 17, 18, 19, 20, 21, 22, 23, 29, 30] sm_0_24_25_26_27_28 fm_0_24_25_26_27_28 nd_0_24_25_26_27_28 sm_1_2_3_4_5_6_7_8_9_10_11_12_13_14_15_16_17_18_19_20_21_22_23_29_30 nd_1_2_3_4_5_6_7_8_9_10_11_12_13_14_15_16_17_18_19_20_21_22_23_29_30 dj_0_24_25_26_27_28__1_2_3_4_5_6_7_8_9_10_11_12_13_14_15_16_17_18_19_20_21_22_23_29_30 rfl rfl rfl rfl rfl (Nat.le_of_ble_eq_true rfl) ⟨by simp only [RM]; omega, by simp only [RM]; omega⟩ ⟨Nat.le_of_ble_eq_true rfl, Nat.le_of_ble_eq_true rfl⟩ dX3_holdOrLeave_48 (fun r590 gx592 H locs hr590 hP hD hS => ?_)
    try dsimp only at hr590
    refine Kpdr (ws := [(hd, cA G 13 hf), (kc0, oX1 km0), (km0, iA G 36 fk0), (kc1, oX1 km1), (km1, iA G 36 fk1), (kc2, oX1 km2), (km2, iA G 36 fk2), (kc3, oX1 km3), (km3, iA G 36 fk3), (kc6, oX1 km6), (km6, iA G 36 fk6), (kc7, oX1 km7), (km7, iA G 36 fk7), (kc8, oX1 km8), (km8, iA G 36 fk8), (kc9, oX1 km9), (km9, iA G 36 fk9), (kc10, oX1 km10), (km10, iA G 36 fk10), (kc11, oX1 km11), (km11, iA G 36 fk11), (kc12, oX1 km12), (km12, iA G 36 fk12), (kc4, oX1 km4), (km4, iA G 36 fk4), (h0, oX3 bb hd bo le bi), (bb, oX0 bpersons bpapers bstamps bversions blines bsteps bsayings bfindings bwarnings bquestions td vd vl gp), (bstamps, oX8 24 3 bstampsc (nI kbstamps)), (bstampsc, iA G 72 fbstamps), (kc5, oX1 km5), (km5, iA G 36 gx592)]) hP hD (fun hP hD => ?_)
    rcases hr590 with rfl | rfl
    · refine lv_if_eq (tgt := 67) hx hb dX3_holdOrLeave_51 (by decide) (fun c9 => absurd c9 (by decide)) (fun _ => ?_)
      refine lv_aload_n hx hb dX3_holdOrLeave_54 rfl (lv_at0 hl) ?_
      refine lv_iload_n hx hb dX3_holdOrLeave_55 rfl (lv_at1 hl) ?_
      refine lv_iconst (v := 1) hx hb dX3_holdOrLeave_56 (by decide) ?_
      refine lv_isub hx hb dX3_holdOrLeave_57 ?_
      refine lv_iload_n hx hb dX3_holdOrLeave_58 rfl (lv_at2 hl) ?_
      refine lv_iload_n hx hb dX3_holdOrLeave_59 rfl (lv_at3 hl) ?_
      refine lv_iload hx hb dX3_holdOrLeave_60 (lv_at4 hl) ?_
      refine lv_iconst (v := 1) hx hb dX3_holdOrLeave_62 (by decide) ?_
      refine lv_iadd hx hb dX3_holdOrLeave_63 ?_
      refine eqi (x1 := 5) (by decide) ?_
      refine vV (wr := []) hC hK hl hP hD hS hA (ihS j (by omega) h0 wo co 5 bb hd bo le bi hf kc0 km0 fk0 kc1 km1 fk1 kc2 km2 fk2 kc3 km3 fk3 kc4 km4 fk4 kc5 km5 gx592 kc6 km6 fk6 kc7 km7 fk7 kc8 km8 fk8 kc9 km9 fk9 kc10 km10 fk10 kc11 km11 fk11 kc12 km12 fk12 bpersons bpapers bstamps bversions blines bsteps bsayings bfindings bwarnings bquestions td vd vl gp bstampsc kbstamps fbstamps (by omega) (by omega) (hh0) (hh1) (hh2) (hh3) (hh4) (hh5) (hh6) (hh7) (hh8) (hh9) (hh10) (hh11) (hh12)) si_X3_55 [25, 0, 1, 2, 3, 4, 5, 6, 7, 8, 23, 24, 29, 30, 9, 10, 11, 12, 13, 14, 15, 16, 17, 18, 19, 20, 21, 22, 26, 27, 28] [] sm_25_0_1_2_3_4_5_6_7_8_23_24_29_30_9_10_11_12_13_14_15_16_17_18_19_20_21_22_26_27_28 fm_25_0_1_2_3_4_5_6_7_8_23_24_29_30_9_10_11_12_13_14_15_16_17_18_19_20_21_22_26_27_28 nd_25_0_1_2_3_4_5_6_7_8_23_24_29_30_9_10_11_12_13_14_15_16_17_18_19_20_21_22_26_27_28 rfl rfl (by decide) rfl rfl rfl rfl rfl (Nat.le_of_ble_eq_true rfl) ⟨by simp only [RM]; omega, by simp only [RM]; omega⟩ ⟨Nat.le_of_ble_eq_true rfl, Nat.le_of_ble_eq_true rfl⟩ dX3_holdOrLeave_64 (Ktu15 fun le1596 bi1597 gk0598 gk1599 gk2600 gk3601 gk4602 gk5603 gk6604 gk7605 gk8606 gk9607 gk10608 gk11609 gk12610 => ?_)
      intro H locs hr594 hP hD hS
      try dsimp only at hr594
      refine Kpdr (ws := [(h0, oX3 bb hd bo le1596 bi1597), (hd, cA G 13 hf), (kc0, oX1 km0), (km0, iA G 36 gk0598), (kc1, oX1 km1), (km1, iA G 36 gk1599), (kc2, oX1 km2), (km2, iA G 36 gk2600), (kc3, oX1 km3), (km3, iA G 36 gk3601), (kc4, oX1 km4), (km4, iA G 36 gk4602), (kc5, oX1 km5), (km5, iA G 36 gk5603), (kc6, oX1 km6), (km6, iA G 36 gk6604), (kc7, oX1 km7), (km7, iA G 36 gk7605), (kc8, oX1 km8), (km8, iA G 36 gk8606), (kc9, oX1 km9), (km9, iA G 36 gk9607), (kc10, oX1 km10), (km10, iA G 36 gk10608), (kc11, oX1 km11), (km11, iA G 36 gk11609), (kc12, oX1 km12), (km12, iA G 36 gk12610), (bb, oX0 bpersons bpapers bstamps bversions blines bsteps bsayings bfindings bwarnings bquestions td vd vl gp), (bstamps, oX8 24 3 bstampsc (nI kbstamps)), (bstampsc, iA G 72 fbstamps)]) hP hD (fun hP hD => ?_)
      refine lv_aload_n hx hb dX3_holdOrLeave_67 rfl (lv_at0 hl) ?_
      refine lv_iload_n hx hb dX3_holdOrLeave_68 rfl (lv_at1 hl) ?_
      refine lv_iconst (v := 1) hx hb dX3_holdOrLeave_69 (by decide) ?_
      refine lv_isub hx hb dX3_holdOrLeave_70 ?_
      refine lv_iload_n hx hb dX3_holdOrLeave_71 rfl (lv_at2 hl) ?_
      refine lv_iconst (v := 1) hx hb dX3_holdOrLeave_72 (by decide) ?_
      refine lv_iload_n hx hb dX3_holdOrLeave_73 rfl (lv_at1 hl) ?_
      refine lv_ishl hx hb dX3_holdOrLeave_74 ?_
      refine lv_ior hx hb dX3_holdOrLeave_75 ?_
      refine lv_iload_n hx hb dX3_holdOrLeave_76 rfl (lv_at3 hl) ?_
      refine lv_iconst (v := 1) hx hb dX3_holdOrLeave_77 (by decide) ?_
      refine lv_iadd hx hb dX3_holdOrLeave_78 ?_
      refine lv_iload hx hb dX3_holdOrLeave_79 (lv_at4 hl) ?_
      refine vV (wr := []) hC hK hl hP hD hS hA (ihS j (by omega) h0 (wo ||| (1 <<< ((nI j) &&& 31))) (co + 1) 4 bb hd bo le1596 bi1597 hf kc0 km0 gk0598 kc1 km1 gk1599 kc2 km2 gk2600 kc3 km3 gk3601 kc4 km4 gk4602 kc5 km5 gk5603 kc6 km6 gk6604 kc7 km7 gk7605 kc8 km8 gk8606 kc9 km9 gk9607 kc10 km10 gk10608 kc11 km11 gk11609 kc12 km12 gk12610 bpersons bpapers bstamps bversions blines bsteps bsayings bfindings bwarnings bquestions td vd vl gp bstampsc kbstamps fbstamps (by omega) (by omega) (hh0) (hh1) (hh2) (hh3) (hh4) (hh5) (hh6) (hh7) (hh8) (hh9) (hh10) (hh11) (hh12)) si_X3_55 [0, 1, 2, 3, 4, 5, 6, 7, 8, 9, 10, 11, 12, 13, 14, 15, 16, 17, 18, 19, 20, 21, 22, 23, 24, 25, 26, 27, 28, 29, 30] [] sm_0_1_2_3_4_5_6_7_8_9_10_11_12_13_14_15_16_17_18_19_20_21_22_23_24_25_26_27_28_29_30 fm_0_1_2_3_4_5_6_7_8_9_10_11_12_13_14_15_16_17_18_19_20_21_22_23_24_25_26_27_28_29_30 nd_0_1_2_3_4_5_6_7_8_9_10_11_12_13_14_15_16_17_18_19_20_21_22_23_24_25_26_27_28_29_30 rfl rfl (by decide) rfl rfl rfl rfl rfl (Nat.le_of_ble_eq_true rfl) ⟨by simp only [RM]; omega, by simp only [RM]; omega⟩ ⟨Nat.le_of_ble_eq_true rfl, Nat.le_of_ble_eq_true rfl⟩ dX3_holdOrLeave_81 (Ktu15 fun le1613 bi1614 gk0615 gk1616 gk2617 gk3618 gk4619 gk5620 gk6621 gk7622 gk8623 gk9624 gk10625 gk11626 gk12627 => ?_)
      intro H locs hr611 hP hD hS
      try dsimp only at hr611
      refine Kpdr (ws := [(h0, oX3 bb hd bo le1613 bi1614), (hd, cA G 13 hf), (kc0, oX1 km0), (km0, iA G 36 gk0615), (kc1, oX1 km1), (km1, iA G 36 gk1616), (kc2, oX1 km2), (km2, iA G 36 gk2617), (kc3, oX1 km3), (km3, iA G 36 gk3618), (kc4, oX1 km4), (km4, iA G 36 gk4619), (kc5, oX1 km5), (km5, iA G 36 gk5620), (kc6, oX1 km6), (km6, iA G 36 gk6621), (kc7, oX1 km7), (km7, iA G 36 gk7622), (kc8, oX1 km8), (km8, iA G 36 gk8623), (kc9, oX1 km9), (km9, iA G 36 gk9624), (kc10, oX1 km10), (km10, iA G 36 gk10625), (kc11, oX1 km11), (km11, iA G 36 gk11626), (kc12, oX1 km12), (km12, iA G 36 gk12627), (bb, oX0 bpersons bpapers bstamps bversions blines bsteps bsayings bfindings bwarnings bquestions td vd vl gp), (bstamps, oX8 24 3 bstampsc (nI kbstamps)), (bstampsc, iA G 72 fbstamps)]) hP hD (fun hP hD => ?_)
      exact toQ hQ0 (RV hC hP hD hS [0, 1, 2, 3, 4, 5, 6, 7, 8, 9, 10, 11, 12, 13, 14, 15, 16, 17, 18, 19, 20, 21, 22, 23, 24, 25, 26, 27, 28, 29, 30] (le1613, bi1614, gk0615, gk1616, gk2617, gk3618, gk4619, gk5620, gk6621, gk7622, gk8623, gk9624, gk10625, gk11626, gk12627) rfl rfl (by decide) (trivial) dX3_holdOrLeave_84)
    · refine lv_if_eq (tgt := 67) hx hb dX3_holdOrLeave_51 (by decide) (fun _ => ?_) (fun c9 => absurd (by decide) c9)
      refine lv_aload_n hx hb dX3_holdOrLeave_67 rfl (lv_at0 hl) ?_
      refine lv_iload_n hx hb dX3_holdOrLeave_68 rfl (lv_at1 hl) ?_
      refine lv_iconst (v := 1) hx hb dX3_holdOrLeave_69 (by decide) ?_
      refine lv_isub hx hb dX3_holdOrLeave_70 ?_
      refine lv_iload_n hx hb dX3_holdOrLeave_71 rfl (lv_at2 hl) ?_
      refine lv_iconst (v := 1) hx hb dX3_holdOrLeave_72 (by decide) ?_
      refine lv_iload_n hx hb dX3_holdOrLeave_73 rfl (lv_at1 hl) ?_
      refine lv_ishl hx hb dX3_holdOrLeave_74 ?_
      refine lv_ior hx hb dX3_holdOrLeave_75 ?_
      refine lv_iload_n hx hb dX3_holdOrLeave_76 rfl (lv_at3 hl) ?_
      refine lv_iconst (v := 1) hx hb dX3_holdOrLeave_77 (by decide) ?_
      refine lv_iadd hx hb dX3_holdOrLeave_78 ?_
      refine lv_iload hx hb dX3_holdOrLeave_79 (lv_at4 hl) ?_
      refine vV (wr := []) hC hK hl hP hD hS hA (ihS j (by omega) h0 (wo ||| (1 <<< ((nI j) &&& 31))) (co + 1) 4 bb hd bo le bi hf kc0 km0 fk0 kc1 km1 fk1 kc2 km2 fk2 kc3 km3 fk3 kc4 km4 fk4 kc5 km5 gx592 kc6 km6 fk6 kc7 km7 fk7 kc8 km8 fk8 kc9 km9 fk9 kc10 km10 fk10 kc11 km11 fk11 kc12 km12 fk12 bpersons bpapers bstamps bversions blines bsteps bsayings bfindings bwarnings bquestions td vd vl gp bstampsc kbstamps fbstamps (by omega) (by omega) (hh0) (hh1) (hh2) (hh3) (hh4) (hh5) (hh6) (hh7) (hh8) (hh9) (hh10) (hh11) (hh12)) si_X3_55 [25, 0, 1, 2, 3, 4, 5, 6, 7, 8, 23, 24, 29, 30, 9, 10, 11, 12, 13, 14, 15, 16, 17, 18, 19, 20, 21, 22, 26, 27, 28] [] sm_25_0_1_2_3_4_5_6_7_8_23_24_29_30_9_10_11_12_13_14_15_16_17_18_19_20_21_22_26_27_28 fm_25_0_1_2_3_4_5_6_7_8_23_24_29_30_9_10_11_12_13_14_15_16_17_18_19_20_21_22_26_27_28 nd_25_0_1_2_3_4_5_6_7_8_23_24_29_30_9_10_11_12_13_14_15_16_17_18_19_20_21_22_26_27_28 rfl rfl (by decide) rfl rfl rfl rfl rfl (Nat.le_of_ble_eq_true rfl) ⟨by simp only [RM]; omega, by simp only [RM]; omega⟩ ⟨Nat.le_of_ble_eq_true rfl, Nat.le_of_ble_eq_true rfl⟩ dX3_holdOrLeave_81 (Ktu15 fun le1630 bi1631 gk0632 gk1633 gk2634 gk3635 gk4636 gk5637 gk6638 gk7639 gk8640 gk9641 gk10642 gk11643 gk12644 => ?_)
      intro H locs hr628 hP hD hS
      try dsimp only at hr628
      refine Kpdr (ws := [(h0, oX3 bb hd bo le1630 bi1631), (hd, cA G 13 hf), (kc0, oX1 km0), (km0, iA G 36 gk0632), (kc1, oX1 km1), (km1, iA G 36 gk1633), (kc2, oX1 km2), (km2, iA G 36 gk2634), (kc3, oX1 km3), (km3, iA G 36 gk3635), (kc4, oX1 km4), (km4, iA G 36 gk4636), (kc5, oX1 km5), (km5, iA G 36 gk5637), (kc6, oX1 km6), (km6, iA G 36 gk6638), (kc7, oX1 km7), (km7, iA G 36 gk7639), (kc8, oX1 km8), (km8, iA G 36 gk8640), (kc9, oX1 km9), (km9, iA G 36 gk9641), (kc10, oX1 km10), (km10, iA G 36 gk10642), (kc11, oX1 km11), (km11, iA G 36 gk11643), (kc12, oX1 km12), (km12, iA G 36 gk12644), (bb, oX0 bpersons bpapers bstamps bversions blines bsteps bsayings bfindings bwarnings bquestions td vd vl gp), (bstamps, oX8 24 3 bstampsc (nI kbstamps)), (bstampsc, iA G 72 fbstamps)]) hP hD (fun hP hD => ?_)
      exact toQ hQ0 (RV hC hP hD hS [0, 1, 2, 3, 4, 5, 6, 7, 8, 9, 10, 11, 12, 13, 14, 15, 16, 17, 18, 19, 20, 21, 22, 23, 24, 25, 26, 27, 28, 29, 30] (le1630, bi1631, gk0632, gk1633, gk2634, gk3635, gk4636, gk5637, gk6638, gk7639, gk8640, gk9641, gk10642, gk11643, gk12644) rfl rfl (by decide) (trivial) dX3_holdOrLeave_84)
  · have hl : lv_has ls 5 [(0, .ref h0), (1, .int (nI j)), (2, .int wo), (3, .int co), (4, .int 5)] := hl
    refine lv_iload hx hb dX3_holdOrLeave_0 (lv_at4 hl) ?_
    refine lv_if_lt (tgt := 17) hx hb dX3_holdOrLeave_2 (by decide) (fun c9 => absurd c9 (by decide)) (fun _ => ?_)
    refine lv_iload hx hb dX3_holdOrLeave_5 (lv_at4 hl) ?_
    refine lv_iconst (v := 1) hx hb dX3_holdOrLeave_7 (by decide) ?_
    refine lv_iadd hx hb dX3_holdOrLeave_8 ?_
    refine eqi (x1 := 6) (by decide) ?_
    refine lv_aload_n hx hb dX3_holdOrLeave_9 rfl (lv_at0 hl) ?_
    refine gf_X3_11 hC rfl hK hP 0 rfl rfl dX3_holdOrLeave_10 ?_
    refine va_alen (v := 13) hx hb hK.1 hP 1 1 rfl rfl (show Int32.ofNat 13 = 13 by decide) dX3_holdOrLeave_13 ?_
    refine lv_icmp_lt (tgt := 18) hx hb dX3_holdOrLeave_14 (by decide) (fun _ => ?_) (fun c9 => absurd (by decide) c9)
    refine lv_aload_n hx hb dX3_holdOrLeave_18 rfl (lv_at0 hl) ?_
    refine gf_X3_11 hC rfl hK hP 0 rfl rfl dX3_holdOrLeave_19 ?_
    refine lv_iload hx hb dX3_holdOrLeave_22 (lv_at4 hl) ?_
    refine lv_iconst (v := 1) hx hb dX3_holdOrLeave_24 (by decide) ?_
    refine lv_iadd hx hb dX3_holdOrLeave_25 ?_
    refine eqi (x1 := 6) (by decide) ?_
    refine aldC hC hK hP 1 rfl (vin (by decide +kernel)) (k := 6) (by decide +kernel) (v := kc6) (hh6) dX3_holdOrLeave_26 ?_
    refine lv_aload_n hx hb dX3_holdOrLeave_27 rfl (lv_at0 hl) ?_
    refine gf_X3_11 hC rfl hK hP 0 rfl rfl dX3_holdOrLeave_28 ?_
    refine lv_iload hx hb dX3_holdOrLeave_31 (lv_at4 hl) ?_
    refine aldC hC hK hP 1 rfl (vin (by decide +kernel)) (k := 5) (by decide +kernel) (v := kc5) (hh5) dX3_holdOrLeave_33 ?_
    refine vV (wr := [(h0, oX3 bb hd bo le bi), (hd, cA G 13 hf), (kc0, oX1 km0), (km0, iA G 36 fk0), (kc1, oX1 km1), (km1, iA G 36 fk1), (kc2, oX1 km2), (km2, iA G 36 fk2), (kc3, oX1 km3), (km3, iA G 36 fk3), (kc4, oX1 km4), (km4, iA G 36 fk4), (kc7, oX1 km7), (km7, iA G 36 fk7), (kc8, oX1 km8), (km8, iA G 36 fk8), (kc9, oX1 km9), (km9, iA G 36 fk9), (kc10, oX1 km10), (km10, iA G 36 fk10), (kc11, oX1 km11), (km11, iA G 36 fk11), (kc12, oX1 km12), (km12, iA G 36 fk12), (bb, oX0 bpersons bpapers bstamps bversions blines bsteps bsayings bfindings bwarnings bquestions td vd vl gp), (bstamps, oX8 24 3 bstampsc (nI kbstamps)), (bstampsc, iA G 72 fbstamps)]) hC hK hl hP hD hS hA (c_Cl_copy l G kc6 kc5 km6 fk6 km5 fk5) si_X3_62 [14, 15, 12, 13] [0, 1, 2, 3, 4, 5, 6, 7, 8, 9, 10, 11, 16, 17, 18, 19, 20, 21, 22, 23, 24, 25, 26, 27, 28, 29, 30] sm_14_15_12_13 fm_14_15_12_13 nd_14_15_12_13 sm_0_1_2_3_4_5_6_7_8_9_10_11_16_17_18_19_20_21_22_23_24_25_26_27_28_29_30 nd_0_1_2_3_4_5_6_7_8_9_10_11_16_17_18_19_20_21_22_23_24_25_26_27_28_29_30 dj_14_15_12_13__0_1_2_3_4_5_6_7_8_9_10_11_16_17_18_19_20_21_22_23_24_25_26_27_28_29_30 rfl rfl rfl rfl rfl (Nat.le_of_ble_eq_true rfl) ⟨by simp only [RM]; omega, by simp only [RM]; omega⟩ ⟨Nat.le_of_ble_eq_true rfl, Nat.le_of_ble_eq_true rfl⟩ dX3_holdOrLeave_34 (fun f1647 H locs hr645 hP hD hS => ?_)
    try dsimp only at hr645
    refine Kpdr (ws := [(h0, oX3 bb hd bo le bi), (hd, cA G 13 hf), (kc0, oX1 km0), (km0, iA G 36 fk0), (kc1, oX1 km1), (km1, iA G 36 fk1), (kc2, oX1 km2), (km2, iA G 36 fk2), (kc3, oX1 km3), (km3, iA G 36 fk3), (kc4, oX1 km4), (km4, iA G 36 fk4), (kc7, oX1 km7), (km7, iA G 36 fk7), (kc8, oX1 km8), (km8, iA G 36 fk8), (kc9, oX1 km9), (km9, iA G 36 fk9), (kc10, oX1 km10), (km10, iA G 36 fk10), (kc11, oX1 km11), (km11, iA G 36 fk11), (kc12, oX1 km12), (km12, iA G 36 fk12), (bb, oX0 bpersons bpapers bstamps bversions blines bsteps bsayings bfindings bwarnings bquestions td vd vl gp), (bstamps, oX8 24 3 bstampsc (nI kbstamps)), (bstampsc, iA G 72 fbstamps), (kc6, oX1 km6), (km6, iA G 36 f1647), (kc5, oX1 km5), (km5, iA G 36 fk5)]) hP hD (fun hP hD => ?_)
    refine lv_aload_n hx hb dX3_holdOrLeave_37 rfl (lv_at0 hl) ?_
    refine lv_iload_n hx hb dX3_holdOrLeave_38 rfl (lv_at1 hl) ?_
    refine lv_aload_n hx hb dX3_holdOrLeave_39 rfl (lv_at0 hl) ?_
    refine gf_X3_11 hC rfl hK hP 0 rfl rfl dX3_holdOrLeave_40 ?_
    refine lv_iload hx hb dX3_holdOrLeave_43 (lv_at4 hl) ?_
    refine lv_iconst (v := 1) hx hb dX3_holdOrLeave_45 (by decide) ?_
    refine lv_iadd hx hb dX3_holdOrLeave_46 ?_
    refine eqi (x1 := 6) (by decide) ?_
    refine aldC hC hK hP 1 rfl (vin (by decide +kernel)) (k := 6) (by decide +kernel) (v := kc6) (hh6) dX3_holdOrLeave_47 ?_
    refine iV (wr := [(hd, cA G 13 hf), (kc0, oX1 km0), (km0, iA G 36 fk0), (kc1, oX1 km1), (km1, iA G 36 fk1), (kc2, oX1 km2), (km2, iA G 36 fk2), (kc3, oX1 km3), (km3, iA G 36 fk3), (kc4, oX1 km4), (km4, iA G 36 fk4), (kc7, oX1 km7), (km7, iA G 36 fk7), (kc8, oX1 km8), (km8, iA G 36 fk8), (kc9, oX1 km9), (km9, iA G 36 fk9), (kc10, oX1 km10), (km10, iA G 36 fk10), (kc11, oX1 km11), (km11, iA G 36 fk11), (kc12, oX1 km12), (km12, iA G 36 fk12), (kc5, oX1 km5), (km5, iA G 36 fk5)]) hC hK hl hP hD hS hA (c_isRight l G h0 (nI j) kc6 bb hd bo le bi bpersons bpapers bstamps bversions blines bsteps bsayings bfindings bwarnings bquestions td vd vl gp bstampsc kbstamps fbstamps km6 f1647 (hkbstamps)) si_X3_66 [0, 24, 25, 26, 27, 28] [1, 2, 3, 4, 5, 6, 7, 8, 9, 10, 11, 12, 13, 14, 15, 16, 17, 18, 19, 20, 21, 22, 23, 29, 30] sm_0_24_25_26_27_28 fm_0_24_25_26_27_28 nd_0_24_25_26_27_28 sm_1_2_3_4_5_6_7_8_9_10_11_12_13_14_15_16_17_18_19_20_21_22_23_29_30 nd_1_2_3_4_5_6_7_8_9_10_11_12_13_14_15_16_17_18_19_20_21_22_23_29_30 dj_0_24_25_26_27_28__1_2_3_4_5_6_7_8_9_10_11_12_13_14_15_16_17_18_19_20_21_22_23_29_30 rfl rfl rfl rfl rfl (Nat.le_of_ble_eq_true rfl) ⟨by simp only [RM]; omega, by simp only [RM]; omega⟩ ⟨Nat.le_of_ble_eq_true rfl, Nat.le_of_ble_eq_true rfl⟩ dX3_holdOrLeave_48 (fun r648 gx650 H locs hr648 hP hD hS => ?_)
    try dsimp only at hr648
    refine Kpdr (ws := [(hd, cA G 13 hf), (kc0, oX1 km0), (km0, iA G 36 fk0), (kc1, oX1 km1), (km1, iA G 36 fk1), (kc2, oX1 km2), (km2, iA G 36 fk2), (kc3, oX1 km3), (km3, iA G 36 fk3), (kc4, oX1 km4), (km4, iA G 36 fk4), (kc7, oX1 km7), (km7, iA G 36 fk7), (kc8, oX1 km8), (km8, iA G 36 fk8), (kc9, oX1 km9), (km9, iA G 36 fk9), (kc10, oX1 km10), (km10, iA G 36 fk10), (kc11, oX1 km11), (km11, iA G 36 fk11), (kc12, oX1 km12), (km12, iA G 36 fk12), (kc5, oX1 km5), (km5, iA G 36 fk5), (h0, oX3 bb hd bo le bi), (bb, oX0 bpersons bpapers bstamps bversions blines bsteps bsayings bfindings bwarnings bquestions td vd vl gp), (bstamps, oX8 24 3 bstampsc (nI kbstamps)), (bstampsc, iA G 72 fbstamps), (kc6, oX1 km6), (km6, iA G 36 gx650)]) hP hD (fun hP hD => ?_)
    rcases hr648 with rfl | rfl
    · refine lv_if_eq (tgt := 67) hx hb dX3_holdOrLeave_51 (by decide) (fun c9 => absurd c9 (by decide)) (fun _ => ?_)
      refine lv_aload_n hx hb dX3_holdOrLeave_54 rfl (lv_at0 hl) ?_
      refine lv_iload_n hx hb dX3_holdOrLeave_55 rfl (lv_at1 hl) ?_
      refine lv_iconst (v := 1) hx hb dX3_holdOrLeave_56 (by decide) ?_
      refine lv_isub hx hb dX3_holdOrLeave_57 ?_
      refine lv_iload_n hx hb dX3_holdOrLeave_58 rfl (lv_at2 hl) ?_
      refine lv_iload_n hx hb dX3_holdOrLeave_59 rfl (lv_at3 hl) ?_
      refine lv_iload hx hb dX3_holdOrLeave_60 (lv_at4 hl) ?_
      refine lv_iconst (v := 1) hx hb dX3_holdOrLeave_62 (by decide) ?_
      refine lv_iadd hx hb dX3_holdOrLeave_63 ?_
      refine eqi (x1 := 6) (by decide) ?_
      refine vV (wr := []) hC hK hl hP hD hS hA (ihS j (by omega) h0 wo co 6 bb hd bo le bi hf kc0 km0 fk0 kc1 km1 fk1 kc2 km2 fk2 kc3 km3 fk3 kc4 km4 fk4 kc5 km5 fk5 kc6 km6 gx650 kc7 km7 fk7 kc8 km8 fk8 kc9 km9 fk9 kc10 km10 fk10 kc11 km11 fk11 kc12 km12 fk12 bpersons bpapers bstamps bversions blines bsteps bsayings bfindings bwarnings bquestions td vd vl gp bstampsc kbstamps fbstamps (by omega) (by omega) (hh0) (hh1) (hh2) (hh3) (hh4) (hh5) (hh6) (hh7) (hh8) (hh9) (hh10) (hh11) (hh12)) si_X3_55 [25, 0, 1, 2, 3, 4, 5, 6, 7, 8, 9, 10, 23, 24, 29, 30, 11, 12, 13, 14, 15, 16, 17, 18, 19, 20, 21, 22, 26, 27, 28] [] sm_25_0_1_2_3_4_5_6_7_8_9_10_23_24_29_30_11_12_13_14_15_16_17_18_19_20_21_22_26_27_28 fm_25_0_1_2_3_4_5_6_7_8_9_10_23_24_29_30_11_12_13_14_15_16_17_18_19_20_21_22_26_27_28 nd_25_0_1_2_3_4_5_6_7_8_9_10_23_24_29_30_11_12_13_14_15_16_17_18_19_20_21_22_26_27_28 rfl rfl (by decide) rfl rfl rfl rfl rfl (Nat.le_of_ble_eq_true rfl) ⟨by simp only [RM]; omega, by simp only [RM]; omega⟩ ⟨Nat.le_of_ble_eq_true rfl, Nat.le_of_ble_eq_true rfl⟩ dX3_holdOrLeave_64 (Ktu15 fun le1654 bi1655 gk0656 gk1657 gk2658 gk3659 gk4660 gk5661 gk6662 gk7663 gk8664 gk9665 gk10666 gk11667 gk12668 => ?_)
      intro H locs hr652 hP hD hS
      try dsimp only at hr652
      refine Kpdr (ws := [(h0, oX3 bb hd bo le1654 bi1655), (hd, cA G 13 hf), (kc0, oX1 km0), (km0, iA G 36 gk0656), (kc1, oX1 km1), (km1, iA G 36 gk1657), (kc2, oX1 km2), (km2, iA G 36 gk2658), (kc3, oX1 km3), (km3, iA G 36 gk3659), (kc4, oX1 km4), (km4, iA G 36 gk4660), (kc5, oX1 km5), (km5, iA G 36 gk5661), (kc6, oX1 km6), (km6, iA G 36 gk6662), (kc7, oX1 km7), (km7, iA G 36 gk7663), (kc8, oX1 km8), (km8, iA G 36 gk8664), (kc9, oX1 km9), (km9, iA G 36 gk9665), (kc10, oX1 km10), (km10, iA G 36 gk10666), (kc11, oX1 km11), (km11, iA G 36 gk11667), (kc12, oX1 km12), (km12, iA G 36 gk12668), (bb, oX0 bpersons bpapers bstamps bversions blines bsteps bsayings bfindings bwarnings bquestions td vd vl gp), (bstamps, oX8 24 3 bstampsc (nI kbstamps)), (bstampsc, iA G 72 fbstamps)]) hP hD (fun hP hD => ?_)
      refine lv_aload_n hx hb dX3_holdOrLeave_67 rfl (lv_at0 hl) ?_
      refine lv_iload_n hx hb dX3_holdOrLeave_68 rfl (lv_at1 hl) ?_
      refine lv_iconst (v := 1) hx hb dX3_holdOrLeave_69 (by decide) ?_
      refine lv_isub hx hb dX3_holdOrLeave_70 ?_
      refine lv_iload_n hx hb dX3_holdOrLeave_71 rfl (lv_at2 hl) ?_
      refine lv_iconst (v := 1) hx hb dX3_holdOrLeave_72 (by decide) ?_
      refine lv_iload_n hx hb dX3_holdOrLeave_73 rfl (lv_at1 hl) ?_
      refine lv_ishl hx hb dX3_holdOrLeave_74 ?_
      refine lv_ior hx hb dX3_holdOrLeave_75 ?_
      refine lv_iload_n hx hb dX3_holdOrLeave_76 rfl (lv_at3 hl) ?_
      refine lv_iconst (v := 1) hx hb dX3_holdOrLeave_77 (by decide) ?_
      refine lv_iadd hx hb dX3_holdOrLeave_78 ?_
      refine lv_iload hx hb dX3_holdOrLeave_79 (lv_at4 hl) ?_
      refine vV (wr := []) hC hK hl hP hD hS hA (ihS j (by omega) h0 (wo ||| (1 <<< ((nI j) &&& 31))) (co + 1) 5 bb hd bo le1654 bi1655 hf kc0 km0 gk0656 kc1 km1 gk1657 kc2 km2 gk2658 kc3 km3 gk3659 kc4 km4 gk4660 kc5 km5 gk5661 kc6 km6 gk6662 kc7 km7 gk7663 kc8 km8 gk8664 kc9 km9 gk9665 kc10 km10 gk10666 kc11 km11 gk11667 kc12 km12 gk12668 bpersons bpapers bstamps bversions blines bsteps bsayings bfindings bwarnings bquestions td vd vl gp bstampsc kbstamps fbstamps (by omega) (by omega) (hh0) (hh1) (hh2) (hh3) (hh4) (hh5) (hh6) (hh7) (hh8) (hh9) (hh10) (hh11) (hh12)) si_X3_55 [0, 1, 2, 3, 4, 5, 6, 7, 8, 9, 10, 11, 12, 13, 14, 15, 16, 17, 18, 19, 20, 21, 22, 23, 24, 25, 26, 27, 28, 29, 30] [] sm_0_1_2_3_4_5_6_7_8_9_10_11_12_13_14_15_16_17_18_19_20_21_22_23_24_25_26_27_28_29_30 fm_0_1_2_3_4_5_6_7_8_9_10_11_12_13_14_15_16_17_18_19_20_21_22_23_24_25_26_27_28_29_30 nd_0_1_2_3_4_5_6_7_8_9_10_11_12_13_14_15_16_17_18_19_20_21_22_23_24_25_26_27_28_29_30 rfl rfl (by decide) rfl rfl rfl rfl rfl (Nat.le_of_ble_eq_true rfl) ⟨by simp only [RM]; omega, by simp only [RM]; omega⟩ ⟨Nat.le_of_ble_eq_true rfl, Nat.le_of_ble_eq_true rfl⟩ dX3_holdOrLeave_81 (Ktu15 fun le1671 bi1672 gk0673 gk1674 gk2675 gk3676 gk4677 gk5678 gk6679 gk7680 gk8681 gk9682 gk10683 gk11684 gk12685 => ?_)
      intro H locs hr669 hP hD hS
      try dsimp only at hr669
      refine Kpdr (ws := [(h0, oX3 bb hd bo le1671 bi1672), (hd, cA G 13 hf), (kc0, oX1 km0), (km0, iA G 36 gk0673), (kc1, oX1 km1), (km1, iA G 36 gk1674), (kc2, oX1 km2), (km2, iA G 36 gk2675), (kc3, oX1 km3), (km3, iA G 36 gk3676), (kc4, oX1 km4), (km4, iA G 36 gk4677), (kc5, oX1 km5), (km5, iA G 36 gk5678), (kc6, oX1 km6), (km6, iA G 36 gk6679), (kc7, oX1 km7), (km7, iA G 36 gk7680), (kc8, oX1 km8), (km8, iA G 36 gk8681), (kc9, oX1 km9), (km9, iA G 36 gk9682), (kc10, oX1 km10), (km10, iA G 36 gk10683), (kc11, oX1 km11), (km11, iA G 36 gk11684), (kc12, oX1 km12), (km12, iA G 36 gk12685), (bb, oX0 bpersons bpapers bstamps bversions blines bsteps bsayings bfindings bwarnings bquestions td vd vl gp), (bstamps, oX8 24 3 bstampsc (nI kbstamps)), (bstampsc, iA G 72 fbstamps)]) hP hD (fun hP hD => ?_)
      exact toQ hQ0 (RV hC hP hD hS [0, 1, 2, 3, 4, 5, 6, 7, 8, 9, 10, 11, 12, 13, 14, 15, 16, 17, 18, 19, 20, 21, 22, 23, 24, 25, 26, 27, 28, 29, 30] (le1671, bi1672, gk0673, gk1674, gk2675, gk3676, gk4677, gk5678, gk6679, gk7680, gk8681, gk9682, gk10683, gk11684, gk12685) rfl rfl (by decide) (trivial) dX3_holdOrLeave_84)
    · refine lv_if_eq (tgt := 67) hx hb dX3_holdOrLeave_51 (by decide) (fun _ => ?_) (fun c9 => absurd (by decide) c9)
      refine lv_aload_n hx hb dX3_holdOrLeave_67 rfl (lv_at0 hl) ?_
      refine lv_iload_n hx hb dX3_holdOrLeave_68 rfl (lv_at1 hl) ?_
      refine lv_iconst (v := 1) hx hb dX3_holdOrLeave_69 (by decide) ?_
      refine lv_isub hx hb dX3_holdOrLeave_70 ?_
      refine lv_iload_n hx hb dX3_holdOrLeave_71 rfl (lv_at2 hl) ?_
      refine lv_iconst (v := 1) hx hb dX3_holdOrLeave_72 (by decide) ?_
      refine lv_iload_n hx hb dX3_holdOrLeave_73 rfl (lv_at1 hl) ?_
      refine lv_ishl hx hb dX3_holdOrLeave_74 ?_
      refine lv_ior hx hb dX3_holdOrLeave_75 ?_
      refine lv_iload_n hx hb dX3_holdOrLeave_76 rfl (lv_at3 hl) ?_
      refine lv_iconst (v := 1) hx hb dX3_holdOrLeave_77 (by decide) ?_
      refine lv_iadd hx hb dX3_holdOrLeave_78 ?_
      refine lv_iload hx hb dX3_holdOrLeave_79 (lv_at4 hl) ?_
      refine vV (wr := []) hC hK hl hP hD hS hA (ihS j (by omega) h0 (wo ||| (1 <<< ((nI j) &&& 31))) (co + 1) 5 bb hd bo le bi hf kc0 km0 fk0 kc1 km1 fk1 kc2 km2 fk2 kc3 km3 fk3 kc4 km4 fk4 kc5 km5 fk5 kc6 km6 gx650 kc7 km7 fk7 kc8 km8 fk8 kc9 km9 fk9 kc10 km10 fk10 kc11 km11 fk11 kc12 km12 fk12 bpersons bpapers bstamps bversions blines bsteps bsayings bfindings bwarnings bquestions td vd vl gp bstampsc kbstamps fbstamps (by omega) (by omega) (hh0) (hh1) (hh2) (hh3) (hh4) (hh5) (hh6) (hh7) (hh8) (hh9) (hh10) (hh11) (hh12)) si_X3_55 [25, 0, 1, 2, 3, 4, 5, 6, 7, 8, 9, 10, 23, 24, 29, 30, 11, 12, 13, 14, 15, 16, 17, 18, 19, 20, 21, 22, 26, 27, 28] [] sm_25_0_1_2_3_4_5_6_7_8_9_10_23_24_29_30_11_12_13_14_15_16_17_18_19_20_21_22_26_27_28 fm_25_0_1_2_3_4_5_6_7_8_9_10_23_24_29_30_11_12_13_14_15_16_17_18_19_20_21_22_26_27_28 nd_25_0_1_2_3_4_5_6_7_8_9_10_23_24_29_30_11_12_13_14_15_16_17_18_19_20_21_22_26_27_28 rfl rfl (by decide) rfl rfl rfl rfl rfl (Nat.le_of_ble_eq_true rfl) ⟨by simp only [RM]; omega, by simp only [RM]; omega⟩ ⟨Nat.le_of_ble_eq_true rfl, Nat.le_of_ble_eq_true rfl⟩ dX3_holdOrLeave_81 (Ktu15 fun le1688 bi1689 gk0690 gk1691 gk2692 gk3693 gk4694 gk5695 gk6696 gk7697 gk8698 gk9699 gk10700 gk11701 gk12702 => ?_)
      intro H locs hr686 hP hD hS
      try dsimp only at hr686
      refine Kpdr (ws := [(h0, oX3 bb hd bo le1688 bi1689), (hd, cA G 13 hf), (kc0, oX1 km0), (km0, iA G 36 gk0690), (kc1, oX1 km1), (km1, iA G 36 gk1691), (kc2, oX1 km2), (km2, iA G 36 gk2692), (kc3, oX1 km3), (km3, iA G 36 gk3693), (kc4, oX1 km4), (km4, iA G 36 gk4694), (kc5, oX1 km5), (km5, iA G 36 gk5695), (kc6, oX1 km6), (km6, iA G 36 gk6696), (kc7, oX1 km7), (km7, iA G 36 gk7697), (kc8, oX1 km8), (km8, iA G 36 gk8698), (kc9, oX1 km9), (km9, iA G 36 gk9699), (kc10, oX1 km10), (km10, iA G 36 gk10700), (kc11, oX1 km11), (km11, iA G 36 gk11701), (kc12, oX1 km12), (km12, iA G 36 gk12702), (bb, oX0 bpersons bpapers bstamps bversions blines bsteps bsayings bfindings bwarnings bquestions td vd vl gp), (bstamps, oX8 24 3 bstampsc (nI kbstamps)), (bstampsc, iA G 72 fbstamps)]) hP hD (fun hP hD => ?_)
      exact toQ hQ0 (RV hC hP hD hS [0, 1, 2, 3, 4, 5, 6, 7, 8, 9, 10, 11, 12, 13, 14, 15, 16, 17, 18, 19, 20, 21, 22, 23, 24, 25, 26, 27, 28, 29, 30] (le1688, bi1689, gk0690, gk1691, gk2692, gk3693, gk4694, gk5695, gk6696, gk7697, gk8698, gk9699, gk10700, gk11701, gk12702) rfl rfl (by decide) (trivial) dX3_holdOrLeave_84)
  · have hl : lv_has ls 5 [(0, .ref h0), (1, .int (nI j)), (2, .int wo), (3, .int co), (4, .int 6)] := hl
    refine lv_iload hx hb dX3_holdOrLeave_0 (lv_at4 hl) ?_
    refine lv_if_lt (tgt := 17) hx hb dX3_holdOrLeave_2 (by decide) (fun c9 => absurd c9 (by decide)) (fun _ => ?_)
    refine lv_iload hx hb dX3_holdOrLeave_5 (lv_at4 hl) ?_
    refine lv_iconst (v := 1) hx hb dX3_holdOrLeave_7 (by decide) ?_
    refine lv_iadd hx hb dX3_holdOrLeave_8 ?_
    refine eqi (x1 := 7) (by decide) ?_
    refine lv_aload_n hx hb dX3_holdOrLeave_9 rfl (lv_at0 hl) ?_
    refine gf_X3_11 hC rfl hK hP 0 rfl rfl dX3_holdOrLeave_10 ?_
    refine va_alen (v := 13) hx hb hK.1 hP 1 1 rfl rfl (show Int32.ofNat 13 = 13 by decide) dX3_holdOrLeave_13 ?_
    refine lv_icmp_lt (tgt := 18) hx hb dX3_holdOrLeave_14 (by decide) (fun _ => ?_) (fun c9 => absurd (by decide) c9)
    refine lv_aload_n hx hb dX3_holdOrLeave_18 rfl (lv_at0 hl) ?_
    refine gf_X3_11 hC rfl hK hP 0 rfl rfl dX3_holdOrLeave_19 ?_
    refine lv_iload hx hb dX3_holdOrLeave_22 (lv_at4 hl) ?_
    refine lv_iconst (v := 1) hx hb dX3_holdOrLeave_24 (by decide) ?_
    refine lv_iadd hx hb dX3_holdOrLeave_25 ?_
    refine eqi (x1 := 7) (by decide) ?_
    refine aldC hC hK hP 1 rfl (vin (by decide +kernel)) (k := 7) (by decide +kernel) (v := kc7) (hh7) dX3_holdOrLeave_26 ?_
    refine lv_aload_n hx hb dX3_holdOrLeave_27 rfl (lv_at0 hl) ?_
    refine gf_X3_11 hC rfl hK hP 0 rfl rfl dX3_holdOrLeave_28 ?_
    refine lv_iload hx hb dX3_holdOrLeave_31 (lv_at4 hl) ?_
    refine aldC hC hK hP 1 rfl (vin (by decide +kernel)) (k := 6) (by decide +kernel) (v := kc6) (hh6) dX3_holdOrLeave_33 ?_
    refine vV (wr := [(h0, oX3 bb hd bo le bi), (hd, cA G 13 hf), (kc0, oX1 km0), (km0, iA G 36 fk0), (kc1, oX1 km1), (km1, iA G 36 fk1), (kc2, oX1 km2), (km2, iA G 36 fk2), (kc3, oX1 km3), (km3, iA G 36 fk3), (kc4, oX1 km4), (km4, iA G 36 fk4), (kc5, oX1 km5), (km5, iA G 36 fk5), (kc8, oX1 km8), (km8, iA G 36 fk8), (kc9, oX1 km9), (km9, iA G 36 fk9), (kc10, oX1 km10), (km10, iA G 36 fk10), (kc11, oX1 km11), (km11, iA G 36 fk11), (kc12, oX1 km12), (km12, iA G 36 fk12), (bb, oX0 bpersons bpapers bstamps bversions blines bsteps bsayings bfindings bwarnings bquestions td vd vl gp), (bstamps, oX8 24 3 bstampsc (nI kbstamps)), (bstampsc, iA G 72 fbstamps)]) hC hK hl hP hD hS hA (c_Cl_copy l G kc7 kc6 km7 fk7 km6 fk6) si_X3_62 [16, 17, 14, 15] [0, 1, 2, 3, 4, 5, 6, 7, 8, 9, 10, 11, 12, 13, 18, 19, 20, 21, 22, 23, 24, 25, 26, 27, 28, 29, 30] sm_16_17_14_15 fm_16_17_14_15 nd_16_17_14_15 sm_0_1_2_3_4_5_6_7_8_9_10_11_12_13_18_19_20_21_22_23_24_25_26_27_28_29_30 nd_0_1_2_3_4_5_6_7_8_9_10_11_12_13_18_19_20_21_22_23_24_25_26_27_28_29_30 dj_16_17_14_15__0_1_2_3_4_5_6_7_8_9_10_11_12_13_18_19_20_21_22_23_24_25_26_27_28_29_30 rfl rfl rfl rfl rfl (Nat.le_of_ble_eq_true rfl) ⟨by simp only [RM]; omega, by simp only [RM]; omega⟩ ⟨Nat.le_of_ble_eq_true rfl, Nat.le_of_ble_eq_true rfl⟩ dX3_holdOrLeave_34 (fun f1705 H locs hr703 hP hD hS => ?_)
    try dsimp only at hr703
    refine Kpdr (ws := [(h0, oX3 bb hd bo le bi), (hd, cA G 13 hf), (kc0, oX1 km0), (km0, iA G 36 fk0), (kc1, oX1 km1), (km1, iA G 36 fk1), (kc2, oX1 km2), (km2, iA G 36 fk2), (kc3, oX1 km3), (km3, iA G 36 fk3), (kc4, oX1 km4), (km4, iA G 36 fk4), (kc5, oX1 km5), (km5, iA G 36 fk5), (kc8, oX1 km8), (km8, iA G 36 fk8), (kc9, oX1 km9), (km9, iA G 36 fk9), (kc10, oX1 km10), (km10, iA G 36 fk10), (kc11, oX1 km11), (km11, iA G 36 fk11), (kc12, oX1 km12), (km12, iA G 36 fk12), (bb, oX0 bpersons bpapers bstamps bversions blines bsteps bsayings bfindings bwarnings bquestions td vd vl gp), (bstamps, oX8 24 3 bstampsc (nI kbstamps)), (bstampsc, iA G 72 fbstamps), (kc7, oX1 km7), (km7, iA G 36 f1705), (kc6, oX1 km6), (km6, iA G 36 fk6)]) hP hD (fun hP hD => ?_)
    refine lv_aload_n hx hb dX3_holdOrLeave_37 rfl (lv_at0 hl) ?_
    refine lv_iload_n hx hb dX3_holdOrLeave_38 rfl (lv_at1 hl) ?_
    refine lv_aload_n hx hb dX3_holdOrLeave_39 rfl (lv_at0 hl) ?_
    refine gf_X3_11 hC rfl hK hP 0 rfl rfl dX3_holdOrLeave_40 ?_
    refine lv_iload hx hb dX3_holdOrLeave_43 (lv_at4 hl) ?_
    refine lv_iconst (v := 1) hx hb dX3_holdOrLeave_45 (by decide) ?_
    refine lv_iadd hx hb dX3_holdOrLeave_46 ?_
    refine eqi (x1 := 7) (by decide) ?_
    refine aldC hC hK hP 1 rfl (vin (by decide +kernel)) (k := 7) (by decide +kernel) (v := kc7) (hh7) dX3_holdOrLeave_47 ?_
    refine iV (wr := [(hd, cA G 13 hf), (kc0, oX1 km0), (km0, iA G 36 fk0), (kc1, oX1 km1), (km1, iA G 36 fk1), (kc2, oX1 km2), (km2, iA G 36 fk2), (kc3, oX1 km3), (km3, iA G 36 fk3), (kc4, oX1 km4), (km4, iA G 36 fk4), (kc5, oX1 km5), (km5, iA G 36 fk5), (kc8, oX1 km8), (km8, iA G 36 fk8), (kc9, oX1 km9), (km9, iA G 36 fk9), (kc10, oX1 km10), (km10, iA G 36 fk10), (kc11, oX1 km11), (km11, iA G 36 fk11), (kc12, oX1 km12), (km12, iA G 36 fk12), (kc6, oX1 km6), (km6, iA G 36 fk6)]) hC hK hl hP hD hS hA (c_isRight l G h0 (nI j) kc7 bb hd bo le bi bpersons bpapers bstamps bversions blines bsteps bsayings bfindings bwarnings bquestions td vd vl gp bstampsc kbstamps fbstamps km7 f1705 (hkbstamps)) si_X3_66 [0, 24, 25, 26, 27, 28] [1, 2, 3, 4, 5, 6, 7, 8, 9, 10, 11, 12, 13, 14, 15, 16, 17, 18, 19, 20, 21, 22, 23, 29, 30] sm_0_24_25_26_27_28 fm_0_24_25_26_27_28 nd_0_24_25_26_27_28 sm_1_2_3_4_5_6_7_8_9_10_11_12_13_14_15_16_17_18_19_20_21_22_23_29_30 nd_1_2_3_4_5_6_7_8_9_10_11_12_13_14_15_16_17_18_19_20_21_22_23_29_30 dj_0_24_25_26_27_28__1_2_3_4_5_6_7_8_9_10_11_12_13_14_15_16_17_18_19_20_21_22_23_29_30 rfl rfl rfl rfl rfl (Nat.le_of_ble_eq_true rfl) ⟨by simp only [RM]; omega, by simp only [RM]; omega⟩ ⟨Nat.le_of_ble_eq_true rfl, Nat.le_of_ble_eq_true rfl⟩ dX3_holdOrLeave_48 (fun r706 gx708 H locs hr706 hP hD hS => ?_)
    try dsimp only at hr706
    refine Kpdr (ws := [(hd, cA G 13 hf), (kc0, oX1 km0), (km0, iA G 36 fk0), (kc1, oX1 km1), (km1, iA G 36 fk1), (kc2, oX1 km2), (km2, iA G 36 fk2), (kc3, oX1 km3), (km3, iA G 36 fk3), (kc4, oX1 km4), (km4, iA G 36 fk4), (kc5, oX1 km5), (km5, iA G 36 fk5), (kc8, oX1 km8), (km8, iA G 36 fk8), (kc9, oX1 km9), (km9, iA G 36 fk9), (kc10, oX1 km10), (km10, iA G 36 fk10), (kc11, oX1 km11), (km11, iA G 36 fk11), (kc12, oX1 km12), (km12, iA G 36 fk12), (kc6, oX1 km6), (km6, iA G 36 fk6), (h0, oX3 bb hd bo le bi), (bb, oX0 bpersons bpapers bstamps bversions blines bsteps bsayings bfindings bwarnings bquestions td vd vl gp), (bstamps, oX8 24 3 bstampsc (nI kbstamps)), (bstampsc, iA G 72 fbstamps), (kc7, oX1 km7), (km7, iA G 36 gx708)]) hP hD (fun hP hD => ?_)
    rcases hr706 with rfl | rfl
    · refine lv_if_eq (tgt := 67) hx hb dX3_holdOrLeave_51 (by decide) (fun c9 => absurd c9 (by decide)) (fun _ => ?_)
      refine lv_aload_n hx hb dX3_holdOrLeave_54 rfl (lv_at0 hl) ?_
      refine lv_iload_n hx hb dX3_holdOrLeave_55 rfl (lv_at1 hl) ?_
      refine lv_iconst (v := 1) hx hb dX3_holdOrLeave_56 (by decide) ?_
      refine lv_isub hx hb dX3_holdOrLeave_57 ?_
      refine lv_iload_n hx hb dX3_holdOrLeave_58 rfl (lv_at2 hl) ?_
      refine lv_iload_n hx hb dX3_holdOrLeave_59 rfl (lv_at3 hl) ?_
      refine lv_iload hx hb dX3_holdOrLeave_60 (lv_at4 hl) ?_
      refine lv_iconst (v := 1) hx hb dX3_holdOrLeave_62 (by decide) ?_
      refine lv_iadd hx hb dX3_holdOrLeave_63 ?_
      refine eqi (x1 := 7) (by decide) ?_
      refine vV (wr := []) hC hK hl hP hD hS hA (ihS j (by omega) h0 wo co 7 bb hd bo le bi hf kc0 km0 fk0 kc1 km1 fk1 kc2 km2 fk2 kc3 km3 fk3 kc4 km4 fk4 kc5 km5 fk5 kc6 km6 fk6 kc7 km7 gx708 kc8 km8 fk8 kc9 km9 fk9 kc10 km10 fk10 kc11 km11 fk11 kc12 km12 fk12 bpersons bpapers bstamps bversions blines bsteps bsayings bfindings bwarnings bquestions td vd vl gp bstampsc kbstamps fbstamps (by omega) (by omega) (hh0) (hh1) (hh2) (hh3) (hh4) (hh5) (hh6) (hh7) (hh8) (hh9) (hh10) (hh11) (hh12)) si_X3_55 [25, 0, 1, 2, 3, 4, 5, 6, 7, 8, 9, 10, 11, 12, 23, 24, 29, 30, 13, 14, 15, 16, 17, 18, 19, 20, 21, 22, 26, 27, 28] [] sm_25_0_1_2_3_4_5_6_7_8_9_10_11_12_23_24_29_30_13_14_15_16_17_18_19_20_21_22_26_27_28 fm_25_0_1_2_3_4_5_6_7_8_9_10_11_12_23_24_29_30_13_14_15_16_17_18_19_20_21_22_26_27_28 nd_25_0_1_2_3_4_5_6_7_8_9_10_11_12_23_24_29_30_13_14_15_16_17_18_19_20_21_22_26_27_28 rfl rfl (by decide) rfl rfl rfl rfl rfl (Nat.le_of_ble_eq_true rfl) ⟨by simp only [RM]; omega, by simp only [RM]; omega⟩ ⟨Nat.le_of_ble_eq_true rfl, Nat.le_of_ble_eq_true rfl⟩ dX3_holdOrLeave_64 (Ktu15 fun le1712 bi1713 gk0714 gk1715 gk2716 gk3717 gk4718 gk5719 gk6720 gk7721 gk8722 gk9723 gk10724 gk11725 gk12726 => ?_)
      intro H locs hr710 hP hD hS
      try dsimp only at hr710
      refine Kpdr (ws := [(h0, oX3 bb hd bo le1712 bi1713), (hd, cA G 13 hf), (kc0, oX1 km0), (km0, iA G 36 gk0714), (kc1, oX1 km1), (km1, iA G 36 gk1715), (kc2, oX1 km2), (km2, iA G 36 gk2716), (kc3, oX1 km3), (km3, iA G 36 gk3717), (kc4, oX1 km4), (km4, iA G 36 gk4718), (kc5, oX1 km5), (km5, iA G 36 gk5719), (kc6, oX1 km6), (km6, iA G 36 gk6720), (kc7, oX1 km7), (km7, iA G 36 gk7721), (kc8, oX1 km8), (km8, iA G 36 gk8722), (kc9, oX1 km9), (km9, iA G 36 gk9723), (kc10, oX1 km10), (km10, iA G 36 gk10724), (kc11, oX1 km11), (km11, iA G 36 gk11725), (kc12, oX1 km12), (km12, iA G 36 gk12726), (bb, oX0 bpersons bpapers bstamps bversions blines bsteps bsayings bfindings bwarnings bquestions td vd vl gp), (bstamps, oX8 24 3 bstampsc (nI kbstamps)), (bstampsc, iA G 72 fbstamps)]) hP hD (fun hP hD => ?_)
      refine lv_aload_n hx hb dX3_holdOrLeave_67 rfl (lv_at0 hl) ?_
      refine lv_iload_n hx hb dX3_holdOrLeave_68 rfl (lv_at1 hl) ?_
      refine lv_iconst (v := 1) hx hb dX3_holdOrLeave_69 (by decide) ?_
      refine lv_isub hx hb dX3_holdOrLeave_70 ?_
      refine lv_iload_n hx hb dX3_holdOrLeave_71 rfl (lv_at2 hl) ?_
      refine lv_iconst (v := 1) hx hb dX3_holdOrLeave_72 (by decide) ?_
      refine lv_iload_n hx hb dX3_holdOrLeave_73 rfl (lv_at1 hl) ?_
      refine lv_ishl hx hb dX3_holdOrLeave_74 ?_
      refine lv_ior hx hb dX3_holdOrLeave_75 ?_
      refine lv_iload_n hx hb dX3_holdOrLeave_76 rfl (lv_at3 hl) ?_
      refine lv_iconst (v := 1) hx hb dX3_holdOrLeave_77 (by decide) ?_
      refine lv_iadd hx hb dX3_holdOrLeave_78 ?_
      refine lv_iload hx hb dX3_holdOrLeave_79 (lv_at4 hl) ?_
      refine vV (wr := []) hC hK hl hP hD hS hA (ihS j (by omega) h0 (wo ||| (1 <<< ((nI j) &&& 31))) (co + 1) 6 bb hd bo le1712 bi1713 hf kc0 km0 gk0714 kc1 km1 gk1715 kc2 km2 gk2716 kc3 km3 gk3717 kc4 km4 gk4718 kc5 km5 gk5719 kc6 km6 gk6720 kc7 km7 gk7721 kc8 km8 gk8722 kc9 km9 gk9723 kc10 km10 gk10724 kc11 km11 gk11725 kc12 km12 gk12726 bpersons bpapers bstamps bversions blines bsteps bsayings bfindings bwarnings bquestions td vd vl gp bstampsc kbstamps fbstamps (by omega) (by omega) (hh0) (hh1) (hh2) (hh3) (hh4) (hh5) (hh6) (hh7) (hh8) (hh9) (hh10) (hh11) (hh12)) si_X3_55 [0, 1, 2, 3, 4, 5, 6, 7, 8, 9, 10, 11, 12, 13, 14, 15, 16, 17, 18, 19, 20, 21, 22, 23, 24, 25, 26, 27, 28, 29, 30] [] sm_0_1_2_3_4_5_6_7_8_9_10_11_12_13_14_15_16_17_18_19_20_21_22_23_24_25_26_27_28_29_30 fm_0_1_2_3_4_5_6_7_8_9_10_11_12_13_14_15_16_17_18_19_20_21_22_23_24_25_26_27_28_29_30 nd_0_1_2_3_4_5_6_7_8_9_10_11_12_13_14_15_16_17_18_19_20_21_22_23_24_25_26_27_28_29_30 rfl rfl (by decide) rfl rfl rfl rfl rfl (Nat.le_of_ble_eq_true rfl) ⟨by simp only [RM]; omega, by simp only [RM]; omega⟩ ⟨Nat.le_of_ble_eq_true rfl, Nat.le_of_ble_eq_true rfl⟩ dX3_holdOrLeave_81 (Ktu15 fun le1729 bi1730 gk0731 gk1732 gk2733 gk3734 gk4735 gk5736 gk6737 gk7738 gk8739 gk9740 gk10741 gk11742 gk12743 => ?_)
      intro H locs hr727 hP hD hS
      try dsimp only at hr727
      refine Kpdr (ws := [(h0, oX3 bb hd bo le1729 bi1730), (hd, cA G 13 hf), (kc0, oX1 km0), (km0, iA G 36 gk0731), (kc1, oX1 km1), (km1, iA G 36 gk1732), (kc2, oX1 km2), (km2, iA G 36 gk2733), (kc3, oX1 km3), (km3, iA G 36 gk3734), (kc4, oX1 km4), (km4, iA G 36 gk4735), (kc5, oX1 km5), (km5, iA G 36 gk5736), (kc6, oX1 km6), (km6, iA G 36 gk6737), (kc7, oX1 km7), (km7, iA G 36 gk7738), (kc8, oX1 km8), (km8, iA G 36 gk8739), (kc9, oX1 km9), (km9, iA G 36 gk9740), (kc10, oX1 km10), (km10, iA G 36 gk10741), (kc11, oX1 km11), (km11, iA G 36 gk11742), (kc12, oX1 km12), (km12, iA G 36 gk12743), (bb, oX0 bpersons bpapers bstamps bversions blines bsteps bsayings bfindings bwarnings bquestions td vd vl gp), (bstamps, oX8 24 3 bstampsc (nI kbstamps)), (bstampsc, iA G 72 fbstamps)]) hP hD (fun hP hD => ?_)
      exact toQ hQ0 (RV hC hP hD hS [0, 1, 2, 3, 4, 5, 6, 7, 8, 9, 10, 11, 12, 13, 14, 15, 16, 17, 18, 19, 20, 21, 22, 23, 24, 25, 26, 27, 28, 29, 30] (le1729, bi1730, gk0731, gk1732, gk2733, gk3734, gk4735, gk5736, gk6737, gk7738, gk8739, gk9740, gk10741, gk11742, gk12743) rfl rfl (by decide) (trivial) dX3_holdOrLeave_84)
    · refine lv_if_eq (tgt := 67) hx hb dX3_holdOrLeave_51 (by decide) (fun _ => ?_) (fun c9 => absurd (by decide) c9)
      refine lv_aload_n hx hb dX3_holdOrLeave_67 rfl (lv_at0 hl) ?_
      refine lv_iload_n hx hb dX3_holdOrLeave_68 rfl (lv_at1 hl) ?_
      refine lv_iconst (v := 1) hx hb dX3_holdOrLeave_69 (by decide) ?_
      refine lv_isub hx hb dX3_holdOrLeave_70 ?_
      refine lv_iload_n hx hb dX3_holdOrLeave_71 rfl (lv_at2 hl) ?_
      refine lv_iconst (v := 1) hx hb dX3_holdOrLeave_72 (by decide) ?_
      refine lv_iload_n hx hb dX3_holdOrLeave_73 rfl (lv_at1 hl) ?_
      refine lv_ishl hx hb dX3_holdOrLeave_74 ?_
      refine lv_ior hx hb dX3_holdOrLeave_75 ?_
      refine lv_iload_n hx hb dX3_holdOrLeave_76 rfl (lv_at3 hl) ?_
      refine lv_iconst (v := 1) hx hb dX3_holdOrLeave_77 (by decide) ?_
      refine lv_iadd hx hb dX3_holdOrLeave_78 ?_
      refine lv_iload hx hb dX3_holdOrLeave_79 (lv_at4 hl) ?_
      refine vV (wr := []) hC hK hl hP hD hS hA (ihS j (by omega) h0 (wo ||| (1 <<< ((nI j) &&& 31))) (co + 1) 6 bb hd bo le bi hf kc0 km0 fk0 kc1 km1 fk1 kc2 km2 fk2 kc3 km3 fk3 kc4 km4 fk4 kc5 km5 fk5 kc6 km6 fk6 kc7 km7 gx708 kc8 km8 fk8 kc9 km9 fk9 kc10 km10 fk10 kc11 km11 fk11 kc12 km12 fk12 bpersons bpapers bstamps bversions blines bsteps bsayings bfindings bwarnings bquestions td vd vl gp bstampsc kbstamps fbstamps (by omega) (by omega) (hh0) (hh1) (hh2) (hh3) (hh4) (hh5) (hh6) (hh7) (hh8) (hh9) (hh10) (hh11) (hh12)) si_X3_55 [25, 0, 1, 2, 3, 4, 5, 6, 7, 8, 9, 10, 11, 12, 23, 24, 29, 30, 13, 14, 15, 16, 17, 18, 19, 20, 21, 22, 26, 27, 28] [] sm_25_0_1_2_3_4_5_6_7_8_9_10_11_12_23_24_29_30_13_14_15_16_17_18_19_20_21_22_26_27_28 fm_25_0_1_2_3_4_5_6_7_8_9_10_11_12_23_24_29_30_13_14_15_16_17_18_19_20_21_22_26_27_28 nd_25_0_1_2_3_4_5_6_7_8_9_10_11_12_23_24_29_30_13_14_15_16_17_18_19_20_21_22_26_27_28 rfl rfl (by decide) rfl rfl rfl rfl rfl (Nat.le_of_ble_eq_true rfl) ⟨by simp only [RM]; omega, by simp only [RM]; omega⟩ ⟨Nat.le_of_ble_eq_true rfl, Nat.le_of_ble_eq_true rfl⟩ dX3_holdOrLeave_81 (Ktu15 fun le1746 bi1747 gk0748 gk1749 gk2750 gk3751 gk4752 gk5753 gk6754 gk7755 gk8756 gk9757 gk10758 gk11759 gk12760 => ?_)
      intro H locs hr744 hP hD hS
      try dsimp only at hr744
      refine Kpdr (ws := [(h0, oX3 bb hd bo le1746 bi1747), (hd, cA G 13 hf), (kc0, oX1 km0), (km0, iA G 36 gk0748), (kc1, oX1 km1), (km1, iA G 36 gk1749), (kc2, oX1 km2), (km2, iA G 36 gk2750), (kc3, oX1 km3), (km3, iA G 36 gk3751), (kc4, oX1 km4), (km4, iA G 36 gk4752), (kc5, oX1 km5), (km5, iA G 36 gk5753), (kc6, oX1 km6), (km6, iA G 36 gk6754), (kc7, oX1 km7), (km7, iA G 36 gk7755), (kc8, oX1 km8), (km8, iA G 36 gk8756), (kc9, oX1 km9), (km9, iA G 36 gk9757), (kc10, oX1 km10), (km10, iA G 36 gk10758), (kc11, oX1 km11), (km11, iA G 36 gk11759), (kc12, oX1 km12), (km12, iA G 36 gk12760), (bb, oX0 bpersons bpapers bstamps bversions blines bsteps bsayings bfindings bwarnings bquestions td vd vl gp), (bstamps, oX8 24 3 bstampsc (nI kbstamps)), (bstampsc, iA G 72 fbstamps)]) hP hD (fun hP hD => ?_)
      exact toQ hQ0 (RV hC hP hD hS [0, 1, 2, 3, 4, 5, 6, 7, 8, 9, 10, 11, 12, 13, 14, 15, 16, 17, 18, 19, 20, 21, 22, 23, 24, 25, 26, 27, 28, 29, 30] (le1746, bi1747, gk0748, gk1749, gk2750, gk3751, gk4752, gk5753, gk6754, gk7755, gk8756, gk9757, gk10758, gk11759, gk12760) rfl rfl (by decide) (trivial) dX3_holdOrLeave_84)
  · have hl : lv_has ls 5 [(0, .ref h0), (1, .int (nI j)), (2, .int wo), (3, .int co), (4, .int 7)] := hl
    refine lv_iload hx hb dX3_holdOrLeave_0 (lv_at4 hl) ?_
    refine lv_if_lt (tgt := 17) hx hb dX3_holdOrLeave_2 (by decide) (fun c9 => absurd c9 (by decide)) (fun _ => ?_)
    refine lv_iload hx hb dX3_holdOrLeave_5 (lv_at4 hl) ?_
    refine lv_iconst (v := 1) hx hb dX3_holdOrLeave_7 (by decide) ?_
    refine lv_iadd hx hb dX3_holdOrLeave_8 ?_
    refine eqi (x1 := 8) (by decide) ?_
    refine lv_aload_n hx hb dX3_holdOrLeave_9 rfl (lv_at0 hl) ?_
    refine gf_X3_11 hC rfl hK hP 0 rfl rfl dX3_holdOrLeave_10 ?_
    refine va_alen (v := 13) hx hb hK.1 hP 1 1 rfl rfl (show Int32.ofNat 13 = 13 by decide) dX3_holdOrLeave_13 ?_
    refine lv_icmp_lt (tgt := 18) hx hb dX3_holdOrLeave_14 (by decide) (fun _ => ?_) (fun c9 => absurd (by decide) c9)
    refine lv_aload_n hx hb dX3_holdOrLeave_18 rfl (lv_at0 hl) ?_
    refine gf_X3_11 hC rfl hK hP 0 rfl rfl dX3_holdOrLeave_19 ?_
    refine lv_iload hx hb dX3_holdOrLeave_22 (lv_at4 hl) ?_
    refine lv_iconst (v := 1) hx hb dX3_holdOrLeave_24 (by decide) ?_
    refine lv_iadd hx hb dX3_holdOrLeave_25 ?_
    refine eqi (x1 := 8) (by decide) ?_
    refine aldC hC hK hP 1 rfl (vin (by decide +kernel)) (k := 8) (by decide +kernel) (v := kc8) (hh8) dX3_holdOrLeave_26 ?_
    refine lv_aload_n hx hb dX3_holdOrLeave_27 rfl (lv_at0 hl) ?_
    refine gf_X3_11 hC rfl hK hP 0 rfl rfl dX3_holdOrLeave_28 ?_
    refine lv_iload hx hb dX3_holdOrLeave_31 (lv_at4 hl) ?_
    refine aldC hC hK hP 1 rfl (vin (by decide +kernel)) (k := 7) (by decide +kernel) (v := kc7) (hh7) dX3_holdOrLeave_33 ?_
    refine vV (wr := [(h0, oX3 bb hd bo le bi), (hd, cA G 13 hf), (kc0, oX1 km0), (km0, iA G 36 fk0), (kc1, oX1 km1), (km1, iA G 36 fk1), (kc2, oX1 km2), (km2, iA G 36 fk2), (kc3, oX1 km3), (km3, iA G 36 fk3), (kc4, oX1 km4), (km4, iA G 36 fk4), (kc5, oX1 km5), (km5, iA G 36 fk5), (kc6, oX1 km6), (km6, iA G 36 fk6), (kc9, oX1 km9), (km9, iA G 36 fk9), (kc10, oX1 km10), (km10, iA G 36 fk10), (kc11, oX1 km11), (km11, iA G 36 fk11), (kc12, oX1 km12), (km12, iA G 36 fk12), (bb, oX0 bpersons bpapers bstamps bversions blines bsteps bsayings bfindings bwarnings bquestions td vd vl gp), (bstamps, oX8 24 3 bstampsc (nI kbstamps)), (bstampsc, iA G 72 fbstamps)]) hC hK hl hP hD hS hA (c_Cl_copy l G kc8 kc7 km8 fk8 km7 fk7) si_X3_62 [18, 19, 16, 17] [0, 1, 2, 3, 4, 5, 6, 7, 8, 9, 10, 11, 12, 13, 14, 15, 20, 21, 22, 23, 24, 25, 26, 27, 28, 29, 30] sm_18_19_16_17 fm_18_19_16_17 nd_18_19_16_17 sm_0_1_2_3_4_5_6_7_8_9_10_11_12_13_14_15_20_21_22_23_24_25_26_27_28_29_30 nd_0_1_2_3_4_5_6_7_8_9_10_11_12_13_14_15_20_21_22_23_24_25_26_27_28_29_30 dj_18_19_16_17__0_1_2_3_4_5_6_7_8_9_10_11_12_13_14_15_20_21_22_23_24_25_26_27_28_29_30 rfl rfl rfl rfl rfl (Nat.le_of_ble_eq_true rfl) ⟨by simp only [RM]; omega, by simp only [RM]; omega⟩ ⟨Nat.le_of_ble_eq_true rfl, Nat.le_of_ble_eq_true rfl⟩ dX3_holdOrLeave_34 (fun f1763 H locs hr761 hP hD hS => ?_)
    try dsimp only at hr761
    refine Kpdr (ws := [(h0, oX3 bb hd bo le bi), (hd, cA G 13 hf), (kc0, oX1 km0), (km0, iA G 36 fk0), (kc1, oX1 km1), (km1, iA G 36 fk1), (kc2, oX1 km2), (km2, iA G 36 fk2), (kc3, oX1 km3), (km3, iA G 36 fk3), (kc4, oX1 km4), (km4, iA G 36 fk4), (kc5, oX1 km5), (km5, iA G 36 fk5), (kc6, oX1 km6), (km6, iA G 36 fk6), (kc9, oX1 km9), (km9, iA G 36 fk9), (kc10, oX1 km10), (km10, iA G 36 fk10), (kc11, oX1 km11), (km11, iA G 36 fk11), (kc12, oX1 km12), (km12, iA G 36 fk12), (bb, oX0 bpersons bpapers bstamps bversions blines bsteps bsayings bfindings bwarnings bquestions td vd vl gp), (bstamps, oX8 24 3 bstampsc (nI kbstamps)), (bstampsc, iA G 72 fbstamps), (kc8, oX1 km8), (km8, iA G 36 f1763), (kc7, oX1 km7), (km7, iA G 36 fk7)]) hP hD (fun hP hD => ?_)
    refine lv_aload_n hx hb dX3_holdOrLeave_37 rfl (lv_at0 hl) ?_
    refine lv_iload_n hx hb dX3_holdOrLeave_38 rfl (lv_at1 hl) ?_
    refine lv_aload_n hx hb dX3_holdOrLeave_39 rfl (lv_at0 hl) ?_
    refine gf_X3_11 hC rfl hK hP 0 rfl rfl dX3_holdOrLeave_40 ?_
    refine lv_iload hx hb dX3_holdOrLeave_43 (lv_at4 hl) ?_
    refine lv_iconst (v := 1) hx hb dX3_holdOrLeave_45 (by decide) ?_
    refine lv_iadd hx hb dX3_holdOrLeave_46 ?_
    refine eqi (x1 := 8) (by decide) ?_
    refine aldC hC hK hP 1 rfl (vin (by decide +kernel)) (k := 8) (by decide +kernel) (v := kc8) (hh8) dX3_holdOrLeave_47 ?_
    refine iV (wr := [(hd, cA G 13 hf), (kc0, oX1 km0), (km0, iA G 36 fk0), (kc1, oX1 km1), (km1, iA G 36 fk1), (kc2, oX1 km2), (km2, iA G 36 fk2), (kc3, oX1 km3), (km3, iA G 36 fk3), (kc4, oX1 km4), (km4, iA G 36 fk4), (kc5, oX1 km5), (km5, iA G 36 fk5), (kc6, oX1 km6), (km6, iA G 36 fk6), (kc9, oX1 km9), (km9, iA G 36 fk9), (kc10, oX1 km10), (km10, iA G 36 fk10), (kc11, oX1 km11), (km11, iA G 36 fk11), (kc12, oX1 km12), (km12, iA G 36 fk12), (kc7, oX1 km7), (km7, iA G 36 fk7)]) hC hK hl hP hD hS hA (c_isRight l G h0 (nI j) kc8 bb hd bo le bi bpersons bpapers bstamps bversions blines bsteps bsayings bfindings bwarnings bquestions td vd vl gp bstampsc kbstamps fbstamps km8 f1763 (hkbstamps)) si_X3_66 [0, 24, 25, 26, 27, 28] [1, 2, 3, 4, 5, 6, 7, 8, 9, 10, 11, 12, 13, 14, 15, 16, 17, 18, 19, 20, 21, 22, 23, 29, 30] sm_0_24_25_26_27_28 fm_0_24_25_26_27_28 nd_0_24_25_26_27_28 sm_1_2_3_4_5_6_7_8_9_10_11_12_13_14_15_16_17_18_19_20_21_22_23_29_30 nd_1_2_3_4_5_6_7_8_9_10_11_12_13_14_15_16_17_18_19_20_21_22_23_29_30 dj_0_24_25_26_27_28__1_2_3_4_5_6_7_8_9_10_11_12_13_14_15_16_17_18_19_20_21_22_23_29_30 rfl rfl rfl rfl rfl (Nat.le_of_ble_eq_true rfl) ⟨by simp only [RM]; omega, by simp only [RM]; omega⟩ ⟨Nat.le_of_ble_eq_true rfl, Nat.le_of_ble_eq_true rfl⟩ dX3_holdOrLeave_48 (fun r764 gx766 H locs hr764 hP hD hS => ?_)
    try dsimp only at hr764
    refine Kpdr (ws := [(hd, cA G 13 hf), (kc0, oX1 km0), (km0, iA G 36 fk0), (kc1, oX1 km1), (km1, iA G 36 fk1), (kc2, oX1 km2), (km2, iA G 36 fk2), (kc3, oX1 km3), (km3, iA G 36 fk3), (kc4, oX1 km4), (km4, iA G 36 fk4), (kc5, oX1 km5), (km5, iA G 36 fk5), (kc6, oX1 km6), (km6, iA G 36 fk6), (kc9, oX1 km9), (km9, iA G 36 fk9), (kc10, oX1 km10), (km10, iA G 36 fk10), (kc11, oX1 km11), (km11, iA G 36 fk11), (kc12, oX1 km12), (km12, iA G 36 fk12), (kc7, oX1 km7), (km7, iA G 36 fk7), (h0, oX3 bb hd bo le bi), (bb, oX0 bpersons bpapers bstamps bversions blines bsteps bsayings bfindings bwarnings bquestions td vd vl gp), (bstamps, oX8 24 3 bstampsc (nI kbstamps)), (bstampsc, iA G 72 fbstamps), (kc8, oX1 km8), (km8, iA G 36 gx766)]) hP hD (fun hP hD => ?_)
    rcases hr764 with rfl | rfl
    · refine lv_if_eq (tgt := 67) hx hb dX3_holdOrLeave_51 (by decide) (fun c9 => absurd c9 (by decide)) (fun _ => ?_)
      refine lv_aload_n hx hb dX3_holdOrLeave_54 rfl (lv_at0 hl) ?_
      refine lv_iload_n hx hb dX3_holdOrLeave_55 rfl (lv_at1 hl) ?_
      refine lv_iconst (v := 1) hx hb dX3_holdOrLeave_56 (by decide) ?_
      refine lv_isub hx hb dX3_holdOrLeave_57 ?_
      refine lv_iload_n hx hb dX3_holdOrLeave_58 rfl (lv_at2 hl) ?_
      refine lv_iload_n hx hb dX3_holdOrLeave_59 rfl (lv_at3 hl) ?_
      refine lv_iload hx hb dX3_holdOrLeave_60 (lv_at4 hl) ?_
      refine lv_iconst (v := 1) hx hb dX3_holdOrLeave_62 (by decide) ?_
      refine lv_iadd hx hb dX3_holdOrLeave_63 ?_
      refine eqi (x1 := 8) (by decide) ?_
      refine vV (wr := []) hC hK hl hP hD hS hA (ihS j (by omega) h0 wo co 8 bb hd bo le bi hf kc0 km0 fk0 kc1 km1 fk1 kc2 km2 fk2 kc3 km3 fk3 kc4 km4 fk4 kc5 km5 fk5 kc6 km6 fk6 kc7 km7 fk7 kc8 km8 gx766 kc9 km9 fk9 kc10 km10 fk10 kc11 km11 fk11 kc12 km12 fk12 bpersons bpapers bstamps bversions blines bsteps bsayings bfindings bwarnings bquestions td vd vl gp bstampsc kbstamps fbstamps (by omega) (by omega) (hh0) (hh1) (hh2) (hh3) (hh4) (hh5) (hh6) (hh7) (hh8) (hh9) (hh10) (hh11) (hh12)) si_X3_55 [25, 0, 1, 2, 3, 4, 5, 6, 7, 8, 9, 10, 11, 12, 13, 14, 23, 24, 29, 30, 15, 16, 17, 18, 19, 20, 21, 22, 26, 27, 28] [] sm_25_0_1_2_3_4_5_6_7_8_9_10_11_12_13_14_23_24_29_30_15_16_17_18_19_20_21_22_26_27_28 fm_25_0_1_2_3_4_5_6_7_8_9_10_11_12_13_14_23_24_29_30_15_16_17_18_19_20_21_22_26_27_28 nd_25_0_1_2_3_4_5_6_7_8_9_10_11_12_13_14_23_24_29_30_15_16_17_18_19_20_21_22_26_27_28 rfl rfl (by decide) rfl rfl rfl rfl rfl (Nat.le_of_ble_eq_true rfl) ⟨by simp only [RM]; omega, by simp only [RM]; omega⟩ ⟨Nat.le_of_ble_eq_true rfl, Nat.le_of_ble_eq_true rfl⟩ dX3_holdOrLeave_64 (Ktu15 fun le1770 bi1771 gk0772 gk1773 gk2774 gk3775 gk4776 gk5777 gk6778 gk7779 gk8780 gk9781 gk10782 gk11783 gk12784 => ?_)
      intro H locs hr768 hP hD hS
      try dsimp only at hr768
      refine Kpdr (ws := [(h0, oX3 bb hd bo le1770 bi1771), (hd, cA G 13 hf), (kc0, oX1 km0), (km0, iA G 36 gk0772), (kc1, oX1 km1), (km1, iA G 36 gk1773), (kc2, oX1 km2), (km2, iA G 36 gk2774), (kc3, oX1 km3), (km3, iA G 36 gk3775), (kc4, oX1 km4), (km4, iA G 36 gk4776), (kc5, oX1 km5), (km5, iA G 36 gk5777), (kc6, oX1 km6), (km6, iA G 36 gk6778), (kc7, oX1 km7), (km7, iA G 36 gk7779), (kc8, oX1 km8), (km8, iA G 36 gk8780), (kc9, oX1 km9), (km9, iA G 36 gk9781), (kc10, oX1 km10), (km10, iA G 36 gk10782), (kc11, oX1 km11), (km11, iA G 36 gk11783), (kc12, oX1 km12), (km12, iA G 36 gk12784), (bb, oX0 bpersons bpapers bstamps bversions blines bsteps bsayings bfindings bwarnings bquestions td vd vl gp), (bstamps, oX8 24 3 bstampsc (nI kbstamps)), (bstampsc, iA G 72 fbstamps)]) hP hD (fun hP hD => ?_)
      refine lv_aload_n hx hb dX3_holdOrLeave_67 rfl (lv_at0 hl) ?_
      refine lv_iload_n hx hb dX3_holdOrLeave_68 rfl (lv_at1 hl) ?_
      refine lv_iconst (v := 1) hx hb dX3_holdOrLeave_69 (by decide) ?_
      refine lv_isub hx hb dX3_holdOrLeave_70 ?_
      refine lv_iload_n hx hb dX3_holdOrLeave_71 rfl (lv_at2 hl) ?_
      refine lv_iconst (v := 1) hx hb dX3_holdOrLeave_72 (by decide) ?_
      refine lv_iload_n hx hb dX3_holdOrLeave_73 rfl (lv_at1 hl) ?_
      refine lv_ishl hx hb dX3_holdOrLeave_74 ?_
      refine lv_ior hx hb dX3_holdOrLeave_75 ?_
      refine lv_iload_n hx hb dX3_holdOrLeave_76 rfl (lv_at3 hl) ?_
      refine lv_iconst (v := 1) hx hb dX3_holdOrLeave_77 (by decide) ?_
      refine lv_iadd hx hb dX3_holdOrLeave_78 ?_
      refine lv_iload hx hb dX3_holdOrLeave_79 (lv_at4 hl) ?_
      refine vV (wr := []) hC hK hl hP hD hS hA (ihS j (by omega) h0 (wo ||| (1 <<< ((nI j) &&& 31))) (co + 1) 7 bb hd bo le1770 bi1771 hf kc0 km0 gk0772 kc1 km1 gk1773 kc2 km2 gk2774 kc3 km3 gk3775 kc4 km4 gk4776 kc5 km5 gk5777 kc6 km6 gk6778 kc7 km7 gk7779 kc8 km8 gk8780 kc9 km9 gk9781 kc10 km10 gk10782 kc11 km11 gk11783 kc12 km12 gk12784 bpersons bpapers bstamps bversions blines bsteps bsayings bfindings bwarnings bquestions td vd vl gp bstampsc kbstamps fbstamps (by omega) (by omega) (hh0) (hh1) (hh2) (hh3) (hh4) (hh5) (hh6) (hh7) (hh8) (hh9) (hh10) (hh11) (hh12)) si_X3_55 [0, 1, 2, 3, 4, 5, 6, 7, 8, 9, 10, 11, 12, 13, 14, 15, 16, 17, 18, 19, 20, 21, 22, 23, 24, 25, 26, 27, 28, 29, 30] [] sm_0_1_2_3_4_5_6_7_8_9_10_11_12_13_14_15_16_17_18_19_20_21_22_23_24_25_26_27_28_29_30 fm_0_1_2_3_4_5_6_7_8_9_10_11_12_13_14_15_16_17_18_19_20_21_22_23_24_25_26_27_28_29_30 nd_0_1_2_3_4_5_6_7_8_9_10_11_12_13_14_15_16_17_18_19_20_21_22_23_24_25_26_27_28_29_30 rfl rfl (by decide) rfl rfl rfl rfl rfl (Nat.le_of_ble_eq_true rfl) ⟨by simp only [RM]; omega, by simp only [RM]; omega⟩ ⟨Nat.le_of_ble_eq_true rfl, Nat.le_of_ble_eq_true rfl⟩ dX3_holdOrLeave_81 (Ktu15 fun le1787 bi1788 gk0789 gk1790 gk2791 gk3792 gk4793 gk5794 gk6795 gk7796 gk8797 gk9798 gk10799 gk11800 gk12801 => ?_)
      intro H locs hr785 hP hD hS
      try dsimp only at hr785
      refine Kpdr (ws := [(h0, oX3 bb hd bo le1787 bi1788), (hd, cA G 13 hf), (kc0, oX1 km0), (km0, iA G 36 gk0789), (kc1, oX1 km1), (km1, iA G 36 gk1790), (kc2, oX1 km2), (km2, iA G 36 gk2791), (kc3, oX1 km3), (km3, iA G 36 gk3792), (kc4, oX1 km4), (km4, iA G 36 gk4793), (kc5, oX1 km5), (km5, iA G 36 gk5794), (kc6, oX1 km6), (km6, iA G 36 gk6795), (kc7, oX1 km7), (km7, iA G 36 gk7796), (kc8, oX1 km8), (km8, iA G 36 gk8797), (kc9, oX1 km9), (km9, iA G 36 gk9798), (kc10, oX1 km10), (km10, iA G 36 gk10799), (kc11, oX1 km11), (km11, iA G 36 gk11800), (kc12, oX1 km12), (km12, iA G 36 gk12801), (bb, oX0 bpersons bpapers bstamps bversions blines bsteps bsayings bfindings bwarnings bquestions td vd vl gp), (bstamps, oX8 24 3 bstampsc (nI kbstamps)), (bstampsc, iA G 72 fbstamps)]) hP hD (fun hP hD => ?_)
      exact toQ hQ0 (RV hC hP hD hS [0, 1, 2, 3, 4, 5, 6, 7, 8, 9, 10, 11, 12, 13, 14, 15, 16, 17, 18, 19, 20, 21, 22, 23, 24, 25, 26, 27, 28, 29, 30] (le1787, bi1788, gk0789, gk1790, gk2791, gk3792, gk4793, gk5794, gk6795, gk7796, gk8797, gk9798, gk10799, gk11800, gk12801) rfl rfl (by decide) (trivial) dX3_holdOrLeave_84)
    · refine lv_if_eq (tgt := 67) hx hb dX3_holdOrLeave_51 (by decide) (fun _ => ?_) (fun c9 => absurd (by decide) c9)
      refine lv_aload_n hx hb dX3_holdOrLeave_67 rfl (lv_at0 hl) ?_
      refine lv_iload_n hx hb dX3_holdOrLeave_68 rfl (lv_at1 hl) ?_
      refine lv_iconst (v := 1) hx hb dX3_holdOrLeave_69 (by decide) ?_
      refine lv_isub hx hb dX3_holdOrLeave_70 ?_
      refine lv_iload_n hx hb dX3_holdOrLeave_71 rfl (lv_at2 hl) ?_
      refine lv_iconst (v := 1) hx hb dX3_holdOrLeave_72 (by decide) ?_
      refine lv_iload_n hx hb dX3_holdOrLeave_73 rfl (lv_at1 hl) ?_
      refine lv_ishl hx hb dX3_holdOrLeave_74 ?_
      refine lv_ior hx hb dX3_holdOrLeave_75 ?_
      refine lv_iload_n hx hb dX3_holdOrLeave_76 rfl (lv_at3 hl) ?_
      refine lv_iconst (v := 1) hx hb dX3_holdOrLeave_77 (by decide) ?_
      refine lv_iadd hx hb dX3_holdOrLeave_78 ?_
      refine lv_iload hx hb dX3_holdOrLeave_79 (lv_at4 hl) ?_
      refine vV (wr := []) hC hK hl hP hD hS hA (ihS j (by omega) h0 (wo ||| (1 <<< ((nI j) &&& 31))) (co + 1) 7 bb hd bo le bi hf kc0 km0 fk0 kc1 km1 fk1 kc2 km2 fk2 kc3 km3 fk3 kc4 km4 fk4 kc5 km5 fk5 kc6 km6 fk6 kc7 km7 fk7 kc8 km8 gx766 kc9 km9 fk9 kc10 km10 fk10 kc11 km11 fk11 kc12 km12 fk12 bpersons bpapers bstamps bversions blines bsteps bsayings bfindings bwarnings bquestions td vd vl gp bstampsc kbstamps fbstamps (by omega) (by omega) (hh0) (hh1) (hh2) (hh3) (hh4) (hh5) (hh6) (hh7) (hh8) (hh9) (hh10) (hh11) (hh12)) si_X3_55 [25, 0, 1, 2, 3, 4, 5, 6, 7, 8, 9, 10, 11, 12, 13, 14, 23, 24, 29, 30, 15, 16, 17, 18, 19, 20, 21, 22, 26, 27, 28] [] sm_25_0_1_2_3_4_5_6_7_8_9_10_11_12_13_14_23_24_29_30_15_16_17_18_19_20_21_22_26_27_28 fm_25_0_1_2_3_4_5_6_7_8_9_10_11_12_13_14_23_24_29_30_15_16_17_18_19_20_21_22_26_27_28 nd_25_0_1_2_3_4_5_6_7_8_9_10_11_12_13_14_23_24_29_30_15_16_17_18_19_20_21_22_26_27_28 rfl rfl (by decide) rfl rfl rfl rfl rfl (Nat.le_of_ble_eq_true rfl) ⟨by simp only [RM]; omega, by simp only [RM]; omega⟩ ⟨Nat.le_of_ble_eq_true rfl, Nat.le_of_ble_eq_true rfl⟩ dX3_holdOrLeave_81 (Ktu15 fun le1804 bi1805 gk0806 gk1807 gk2808 gk3809 gk4810 gk5811 gk6812 gk7813 gk8814 gk9815 gk10816 gk11817 gk12818 => ?_)
      intro H locs hr802 hP hD hS
      try dsimp only at hr802
      refine Kpdr (ws := [(h0, oX3 bb hd bo le1804 bi1805), (hd, cA G 13 hf), (kc0, oX1 km0), (km0, iA G 36 gk0806), (kc1, oX1 km1), (km1, iA G 36 gk1807), (kc2, oX1 km2), (km2, iA G 36 gk2808), (kc3, oX1 km3), (km3, iA G 36 gk3809), (kc4, oX1 km4), (km4, iA G 36 gk4810), (kc5, oX1 km5), (km5, iA G 36 gk5811), (kc6, oX1 km6), (km6, iA G 36 gk6812), (kc7, oX1 km7), (km7, iA G 36 gk7813), (kc8, oX1 km8), (km8, iA G 36 gk8814), (kc9, oX1 km9), (km9, iA G 36 gk9815), (kc10, oX1 km10), (km10, iA G 36 gk10816), (kc11, oX1 km11), (km11, iA G 36 gk11817), (kc12, oX1 km12), (km12, iA G 36 gk12818), (bb, oX0 bpersons bpapers bstamps bversions blines bsteps bsayings bfindings bwarnings bquestions td vd vl gp), (bstamps, oX8 24 3 bstampsc (nI kbstamps)), (bstampsc, iA G 72 fbstamps)]) hP hD (fun hP hD => ?_)
      exact toQ hQ0 (RV hC hP hD hS [0, 1, 2, 3, 4, 5, 6, 7, 8, 9, 10, 11, 12, 13, 14, 15, 16, 17, 18, 19, 20, 21, 22, 23, 24, 25, 26, 27, 28, 29, 30] (le1804, bi1805, gk0806, gk1807, gk2808, gk3809, gk4810, gk5811, gk6812, gk7813, gk8814, gk9815, gk10816, gk11817, gk12818) rfl rfl (by decide) (trivial) dX3_holdOrLeave_84)
  · have hl : lv_has ls 5 [(0, .ref h0), (1, .int (nI j)), (2, .int wo), (3, .int co), (4, .int 8)] := hl
    refine lv_iload hx hb dX3_holdOrLeave_0 (lv_at4 hl) ?_
    refine lv_if_lt (tgt := 17) hx hb dX3_holdOrLeave_2 (by decide) (fun c9 => absurd c9 (by decide)) (fun _ => ?_)
    refine lv_iload hx hb dX3_holdOrLeave_5 (lv_at4 hl) ?_
    refine lv_iconst (v := 1) hx hb dX3_holdOrLeave_7 (by decide) ?_
    refine lv_iadd hx hb dX3_holdOrLeave_8 ?_
    refine eqi (x1 := 9) (by decide) ?_
    refine lv_aload_n hx hb dX3_holdOrLeave_9 rfl (lv_at0 hl) ?_
    refine gf_X3_11 hC rfl hK hP 0 rfl rfl dX3_holdOrLeave_10 ?_
    refine va_alen (v := 13) hx hb hK.1 hP 1 1 rfl rfl (show Int32.ofNat 13 = 13 by decide) dX3_holdOrLeave_13 ?_
    refine lv_icmp_lt (tgt := 18) hx hb dX3_holdOrLeave_14 (by decide) (fun _ => ?_) (fun c9 => absurd (by decide) c9)
    refine lv_aload_n hx hb dX3_holdOrLeave_18 rfl (lv_at0 hl) ?_
    refine gf_X3_11 hC rfl hK hP 0 rfl rfl dX3_holdOrLeave_19 ?_
    refine lv_iload hx hb dX3_holdOrLeave_22 (lv_at4 hl) ?_
    refine lv_iconst (v := 1) hx hb dX3_holdOrLeave_24 (by decide) ?_
    refine lv_iadd hx hb dX3_holdOrLeave_25 ?_
    refine eqi (x1 := 9) (by decide) ?_
    refine aldC hC hK hP 1 rfl (vin (by decide +kernel)) (k := 9) (by decide +kernel) (v := kc9) (hh9) dX3_holdOrLeave_26 ?_
    refine lv_aload_n hx hb dX3_holdOrLeave_27 rfl (lv_at0 hl) ?_
    refine gf_X3_11 hC rfl hK hP 0 rfl rfl dX3_holdOrLeave_28 ?_
    refine lv_iload hx hb dX3_holdOrLeave_31 (lv_at4 hl) ?_
    refine aldC hC hK hP 1 rfl (vin (by decide +kernel)) (k := 8) (by decide +kernel) (v := kc8) (hh8) dX3_holdOrLeave_33 ?_
    refine vV (wr := [(h0, oX3 bb hd bo le bi), (hd, cA G 13 hf), (kc0, oX1 km0), (km0, iA G 36 fk0), (kc1, oX1 km1), (km1, iA G 36 fk1), (kc2, oX1 km2), (km2, iA G 36 fk2), (kc3, oX1 km3), (km3, iA G 36 fk3), (kc4, oX1 km4), (km4, iA G 36 fk4), (kc5, oX1 km5), (km5, iA G 36 fk5), (kc6, oX1 km6), (km6, iA G 36 fk6), (kc7, oX1 km7), (km7, iA G 36 fk7), (kc10, oX1 km10), (km10, iA G 36 fk10), (kc11, oX1 km11), (km11, iA G 36 fk11), (kc12, oX1 km12), (km12, iA G 36 fk12), (bb, oX0 bpersons bpapers bstamps bversions blines bsteps bsayings bfindings bwarnings bquestions td vd vl gp), (bstamps, oX8 24 3 bstampsc (nI kbstamps)), (bstampsc, iA G 72 fbstamps)]) hC hK hl hP hD hS hA (c_Cl_copy l G kc9 kc8 km9 fk9 km8 fk8) si_X3_62 [20, 21, 18, 19] [0, 1, 2, 3, 4, 5, 6, 7, 8, 9, 10, 11, 12, 13, 14, 15, 16, 17, 22, 23, 24, 25, 26, 27, 28, 29, 30] sm_20_21_18_19 fm_20_21_18_19 nd_20_21_18_19 sm_0_1_2_3_4_5_6_7_8_9_10_11_12_13_14_15_16_17_22_23_24_25_26_27_28_29_30 nd_0_1_2_3_4_5_6_7_8_9_10_11_12_13_14_15_16_17_22_23_24_25_26_27_28_29_30 dj_20_21_18_19__0_1_2_3_4_5_6_7_8_9_10_11_12_13_14_15_16_17_22_23_24_25_26_27_28_29_30 rfl rfl rfl rfl rfl (Nat.le_of_ble_eq_true rfl) ⟨by simp only [RM]; omega, by simp only [RM]; omega⟩ ⟨Nat.le_of_ble_eq_true rfl, Nat.le_of_ble_eq_true rfl⟩ dX3_holdOrLeave_34 (fun f1821 H locs hr819 hP hD hS => ?_)
    try dsimp only at hr819
    refine Kpdr (ws := [(h0, oX3 bb hd bo le bi), (hd, cA G 13 hf), (kc0, oX1 km0), (km0, iA G 36 fk0), (kc1, oX1 km1), (km1, iA G 36 fk1), (kc2, oX1 km2), (km2, iA G 36 fk2), (kc3, oX1 km3), (km3, iA G 36 fk3), (kc4, oX1 km4), (km4, iA G 36 fk4), (kc5, oX1 km5), (km5, iA G 36 fk5), (kc6, oX1 km6), (km6, iA G 36 fk6), (kc7, oX1 km7), (km7, iA G 36 fk7), (kc10, oX1 km10), (km10, iA G 36 fk10), (kc11, oX1 km11), (km11, iA G 36 fk11), (kc12, oX1 km12), (km12, iA G 36 fk12), (bb, oX0 bpersons bpapers bstamps bversions blines bsteps bsayings bfindings bwarnings bquestions td vd vl gp), (bstamps, oX8 24 3 bstampsc (nI kbstamps)), (bstampsc, iA G 72 fbstamps), (kc9, oX1 km9), (km9, iA G 36 f1821), (kc8, oX1 km8), (km8, iA G 36 fk8)]) hP hD (fun hP hD => ?_)
    refine lv_aload_n hx hb dX3_holdOrLeave_37 rfl (lv_at0 hl) ?_
    refine lv_iload_n hx hb dX3_holdOrLeave_38 rfl (lv_at1 hl) ?_
    refine lv_aload_n hx hb dX3_holdOrLeave_39 rfl (lv_at0 hl) ?_
    refine gf_X3_11 hC rfl hK hP 0 rfl rfl dX3_holdOrLeave_40 ?_
    refine lv_iload hx hb dX3_holdOrLeave_43 (lv_at4 hl) ?_
    refine lv_iconst (v := 1) hx hb dX3_holdOrLeave_45 (by decide) ?_
    refine lv_iadd hx hb dX3_holdOrLeave_46 ?_
    refine eqi (x1 := 9) (by decide) ?_
    refine aldC hC hK hP 1 rfl (vin (by decide +kernel)) (k := 9) (by decide +kernel) (v := kc9) (hh9) dX3_holdOrLeave_47 ?_
    refine iV (wr := [(hd, cA G 13 hf), (kc0, oX1 km0), (km0, iA G 36 fk0), (kc1, oX1 km1), (km1, iA G 36 fk1), (kc2, oX1 km2), (km2, iA G 36 fk2), (kc3, oX1 km3), (km3, iA G 36 fk3), (kc4, oX1 km4), (km4, iA G 36 fk4), (kc5, oX1 km5), (km5, iA G 36 fk5), (kc6, oX1 km6), (km6, iA G 36 fk6), (kc7, oX1 km7), (km7, iA G 36 fk7), (kc10, oX1 km10), (km10, iA G 36 fk10), (kc11, oX1 km11), (km11, iA G 36 fk11), (kc12, oX1 km12), (km12, iA G 36 fk12), (kc8, oX1 km8), (km8, iA G 36 fk8)]) hC hK hl hP hD hS hA (c_isRight l G h0 (nI j) kc9 bb hd bo le bi bpersons bpapers bstamps bversions blines bsteps bsayings bfindings bwarnings bquestions td vd vl gp bstampsc kbstamps fbstamps km9 f1821 (hkbstamps)) si_X3_66 [0, 24, 25, 26, 27, 28] [1, 2, 3, 4, 5, 6, 7, 8, 9, 10, 11, 12, 13, 14, 15, 16, 17, 18, 19, 20, 21, 22, 23, 29, 30] sm_0_24_25_26_27_28 fm_0_24_25_26_27_28 nd_0_24_25_26_27_28 sm_1_2_3_4_5_6_7_8_9_10_11_12_13_14_15_16_17_18_19_20_21_22_23_29_30 nd_1_2_3_4_5_6_7_8_9_10_11_12_13_14_15_16_17_18_19_20_21_22_23_29_30 dj_0_24_25_26_27_28__1_2_3_4_5_6_7_8_9_10_11_12_13_14_15_16_17_18_19_20_21_22_23_29_30 rfl rfl rfl rfl rfl (Nat.le_of_ble_eq_true rfl) ⟨by simp only [RM]; omega, by simp only [RM]; omega⟩ ⟨Nat.le_of_ble_eq_true rfl, Nat.le_of_ble_eq_true rfl⟩ dX3_holdOrLeave_48 (fun r822 gx824 H locs hr822 hP hD hS => ?_)
    try dsimp only at hr822
    refine Kpdr (ws := [(hd, cA G 13 hf), (kc0, oX1 km0), (km0, iA G 36 fk0), (kc1, oX1 km1), (km1, iA G 36 fk1), (kc2, oX1 km2), (km2, iA G 36 fk2), (kc3, oX1 km3), (km3, iA G 36 fk3), (kc4, oX1 km4), (km4, iA G 36 fk4), (kc5, oX1 km5), (km5, iA G 36 fk5), (kc6, oX1 km6), (km6, iA G 36 fk6), (kc7, oX1 km7), (km7, iA G 36 fk7), (kc10, oX1 km10), (km10, iA G 36 fk10), (kc11, oX1 km11), (km11, iA G 36 fk11), (kc12, oX1 km12), (km12, iA G 36 fk12), (kc8, oX1 km8), (km8, iA G 36 fk8), (h0, oX3 bb hd bo le bi), (bb, oX0 bpersons bpapers bstamps bversions blines bsteps bsayings bfindings bwarnings bquestions td vd vl gp), (bstamps, oX8 24 3 bstampsc (nI kbstamps)), (bstampsc, iA G 72 fbstamps), (kc9, oX1 km9), (km9, iA G 36 gx824)]) hP hD (fun hP hD => ?_)
    rcases hr822 with rfl | rfl
    · refine lv_if_eq (tgt := 67) hx hb dX3_holdOrLeave_51 (by decide) (fun c9 => absurd c9 (by decide)) (fun _ => ?_)
      refine lv_aload_n hx hb dX3_holdOrLeave_54 rfl (lv_at0 hl) ?_
      refine lv_iload_n hx hb dX3_holdOrLeave_55 rfl (lv_at1 hl) ?_
      refine lv_iconst (v := 1) hx hb dX3_holdOrLeave_56 (by decide) ?_
      refine lv_isub hx hb dX3_holdOrLeave_57 ?_
      refine lv_iload_n hx hb dX3_holdOrLeave_58 rfl (lv_at2 hl) ?_
      refine lv_iload_n hx hb dX3_holdOrLeave_59 rfl (lv_at3 hl) ?_
      refine lv_iload hx hb dX3_holdOrLeave_60 (lv_at4 hl) ?_
      refine lv_iconst (v := 1) hx hb dX3_holdOrLeave_62 (by decide) ?_
      refine lv_iadd hx hb dX3_holdOrLeave_63 ?_
      refine eqi (x1 := 9) (by decide) ?_
      refine vV (wr := []) hC hK hl hP hD hS hA (ihS j (by omega) h0 wo co 9 bb hd bo le bi hf kc0 km0 fk0 kc1 km1 fk1 kc2 km2 fk2 kc3 km3 fk3 kc4 km4 fk4 kc5 km5 fk5 kc6 km6 fk6 kc7 km7 fk7 kc8 km8 fk8 kc9 km9 gx824 kc10 km10 fk10 kc11 km11 fk11 kc12 km12 fk12 bpersons bpapers bstamps bversions blines bsteps bsayings bfindings bwarnings bquestions td vd vl gp bstampsc kbstamps fbstamps (by omega) (by omega) (hh0) (hh1) (hh2) (hh3) (hh4) (hh5) (hh6) (hh7) (hh8) (hh9) (hh10) (hh11) (hh12)) si_X3_55 [25, 0, 1, 2, 3, 4, 5, 6, 7, 8, 9, 10, 11, 12, 13, 14, 15, 16, 23, 24, 29, 30, 17, 18, 19, 20, 21, 22, 26, 27, 28] [] sm_25_0_1_2_3_4_5_6_7_8_9_10_11_12_13_14_15_16_23_24_29_30_17_18_19_20_21_22_26_27_28 fm_25_0_1_2_3_4_5_6_7_8_9_10_11_12_13_14_15_16_23_24_29_30_17_18_19_20_21_22_26_27_28 nd_25_0_1_2_3_4_5_6_7_8_9_10_11_12_13_14_15_16_23_24_29_30_17_18_19_20_21_22_26_27_28 rfl rfl (by decide) rfl rfl rfl rfl rfl (Nat.le_of_ble_eq_true rfl) ⟨by simp only [RM]; omega, by simp only [RM]; omega⟩ ⟨Nat.le_of_ble_eq_true rfl, Nat.le_of_ble_eq_true rfl⟩ dX3_holdOrLeave_64 (Ktu15 fun le1828 bi1829 gk0830 gk1831 gk2832 gk3833 gk4834 gk5835 gk6836 gk7837 gk8838 gk9839 gk10840 gk11841 gk12842 => ?_)
      intro H locs hr826 hP hD hS
      try dsimp only at hr826
      refine Kpdr (ws := [(h0, oX3 bb hd bo le1828 bi1829), (hd, cA G 13 hf), (kc0, oX1 km0), (km0, iA G 36 gk0830), (kc1, oX1 km1), (km1, iA G 36 gk1831), (kc2, oX1 km2), (km2, iA G 36 gk2832), (kc3, oX1 km3), (km3, iA G 36 gk3833), (kc4, oX1 km4), (km4, iA G 36 gk4834), (kc5, oX1 km5), (km5, iA G 36 gk5835), (kc6, oX1 km6), (km6, iA G 36 gk6836), (kc7, oX1 km7), (km7, iA G 36 gk7837), (kc8, oX1 km8), (km8, iA G 36 gk8838), (kc9, oX1 km9), (km9, iA G 36 gk9839), (kc10, oX1 km10), (km10, iA G 36 gk10840), (kc11, oX1 km11), (km11, iA G 36 gk11841), (kc12, oX1 km12), (km12, iA G 36 gk12842), (bb, oX0 bpersons bpapers bstamps bversions blines bsteps bsayings bfindings bwarnings bquestions td vd vl gp), (bstamps, oX8 24 3 bstampsc (nI kbstamps)), (bstampsc, iA G 72 fbstamps)]) hP hD (fun hP hD => ?_)
      refine lv_aload_n hx hb dX3_holdOrLeave_67 rfl (lv_at0 hl) ?_
      refine lv_iload_n hx hb dX3_holdOrLeave_68 rfl (lv_at1 hl) ?_
      refine lv_iconst (v := 1) hx hb dX3_holdOrLeave_69 (by decide) ?_
      refine lv_isub hx hb dX3_holdOrLeave_70 ?_
      refine lv_iload_n hx hb dX3_holdOrLeave_71 rfl (lv_at2 hl) ?_
      refine lv_iconst (v := 1) hx hb dX3_holdOrLeave_72 (by decide) ?_
      refine lv_iload_n hx hb dX3_holdOrLeave_73 rfl (lv_at1 hl) ?_
      refine lv_ishl hx hb dX3_holdOrLeave_74 ?_
      refine lv_ior hx hb dX3_holdOrLeave_75 ?_
      refine lv_iload_n hx hb dX3_holdOrLeave_76 rfl (lv_at3 hl) ?_
      refine lv_iconst (v := 1) hx hb dX3_holdOrLeave_77 (by decide) ?_
      refine lv_iadd hx hb dX3_holdOrLeave_78 ?_
      refine lv_iload hx hb dX3_holdOrLeave_79 (lv_at4 hl) ?_
      refine vV (wr := []) hC hK hl hP hD hS hA (ihS j (by omega) h0 (wo ||| (1 <<< ((nI j) &&& 31))) (co + 1) 8 bb hd bo le1828 bi1829 hf kc0 km0 gk0830 kc1 km1 gk1831 kc2 km2 gk2832 kc3 km3 gk3833 kc4 km4 gk4834 kc5 km5 gk5835 kc6 km6 gk6836 kc7 km7 gk7837 kc8 km8 gk8838 kc9 km9 gk9839 kc10 km10 gk10840 kc11 km11 gk11841 kc12 km12 gk12842 bpersons bpapers bstamps bversions blines bsteps bsayings bfindings bwarnings bquestions td vd vl gp bstampsc kbstamps fbstamps (by omega) (by omega) (hh0) (hh1) (hh2) (hh3) (hh4) (hh5) (hh6) (hh7) (hh8) (hh9) (hh10) (hh11) (hh12)) si_X3_55 [0, 1, 2, 3, 4, 5, 6, 7, 8, 9, 10, 11, 12, 13, 14, 15, 16, 17, 18, 19, 20, 21, 22, 23, 24, 25, 26, 27, 28, 29, 30] [] sm_0_1_2_3_4_5_6_7_8_9_10_11_12_13_14_15_16_17_18_19_20_21_22_23_24_25_26_27_28_29_30 fm_0_1_2_3_4_5_6_7_8_9_10_11_12_13_14_15_16_17_18_19_20_21_22_23_24_25_26_27_28_29_30 nd_0_1_2_3_4_5_6_7_8_9_10_11_12_13_14_15_16_17_18_19_20_21_22_23_24_25_26_27_28_29_30 rfl rfl (by decide) rfl rfl rfl rfl rfl (Nat.le_of_ble_eq_true rfl) ⟨by simp only [RM]; omega, by simp only [RM]; omega⟩ ⟨Nat.le_of_ble_eq_true rfl, Nat.le_of_ble_eq_true rfl⟩ dX3_holdOrLeave_81 (Ktu15 fun le1845 bi1846 gk0847 gk1848 gk2849 gk3850 gk4851 gk5852 gk6853 gk7854 gk8855 gk9856 gk10857 gk11858 gk12859 => ?_)
      intro H locs hr843 hP hD hS
      try dsimp only at hr843
      refine Kpdr (ws := [(h0, oX3 bb hd bo le1845 bi1846), (hd, cA G 13 hf), (kc0, oX1 km0), (km0, iA G 36 gk0847), (kc1, oX1 km1), (km1, iA G 36 gk1848), (kc2, oX1 km2), (km2, iA G 36 gk2849), (kc3, oX1 km3), (km3, iA G 36 gk3850), (kc4, oX1 km4), (km4, iA G 36 gk4851), (kc5, oX1 km5), (km5, iA G 36 gk5852), (kc6, oX1 km6), (km6, iA G 36 gk6853), (kc7, oX1 km7), (km7, iA G 36 gk7854), (kc8, oX1 km8), (km8, iA G 36 gk8855), (kc9, oX1 km9), (km9, iA G 36 gk9856), (kc10, oX1 km10), (km10, iA G 36 gk10857), (kc11, oX1 km11), (km11, iA G 36 gk11858), (kc12, oX1 km12), (km12, iA G 36 gk12859), (bb, oX0 bpersons bpapers bstamps bversions blines bsteps bsayings bfindings bwarnings bquestions td vd vl gp), (bstamps, oX8 24 3 bstampsc (nI kbstamps)), (bstampsc, iA G 72 fbstamps)]) hP hD (fun hP hD => ?_)
      exact toQ hQ0 (RV hC hP hD hS [0, 1, 2, 3, 4, 5, 6, 7, 8, 9, 10, 11, 12, 13, 14, 15, 16, 17, 18, 19, 20, 21, 22, 23, 24, 25, 26, 27, 28, 29, 30] (le1845, bi1846, gk0847, gk1848, gk2849, gk3850, gk4851, gk5852, gk6853, gk7854, gk8855, gk9856, gk10857, gk11858, gk12859) rfl rfl (by decide) (trivial) dX3_holdOrLeave_84)
    · refine lv_if_eq (tgt := 67) hx hb dX3_holdOrLeave_51 (by decide) (fun _ => ?_) (fun c9 => absurd (by decide) c9)
      refine lv_aload_n hx hb dX3_holdOrLeave_67 rfl (lv_at0 hl) ?_
      refine lv_iload_n hx hb dX3_holdOrLeave_68 rfl (lv_at1 hl) ?_
      refine lv_iconst (v := 1) hx hb dX3_holdOrLeave_69 (by decide) ?_
      refine lv_isub hx hb dX3_holdOrLeave_70 ?_
      refine lv_iload_n hx hb dX3_holdOrLeave_71 rfl (lv_at2 hl) ?_
      refine lv_iconst (v := 1) hx hb dX3_holdOrLeave_72 (by decide) ?_
      refine lv_iload_n hx hb dX3_holdOrLeave_73 rfl (lv_at1 hl) ?_
      refine lv_ishl hx hb dX3_holdOrLeave_74 ?_
      refine lv_ior hx hb dX3_holdOrLeave_75 ?_
      refine lv_iload_n hx hb dX3_holdOrLeave_76 rfl (lv_at3 hl) ?_
      refine lv_iconst (v := 1) hx hb dX3_holdOrLeave_77 (by decide) ?_
      refine lv_iadd hx hb dX3_holdOrLeave_78 ?_
      refine lv_iload hx hb dX3_holdOrLeave_79 (lv_at4 hl) ?_
      refine vV (wr := []) hC hK hl hP hD hS hA (ihS j (by omega) h0 (wo ||| (1 <<< ((nI j) &&& 31))) (co + 1) 8 bb hd bo le bi hf kc0 km0 fk0 kc1 km1 fk1 kc2 km2 fk2 kc3 km3 fk3 kc4 km4 fk4 kc5 km5 fk5 kc6 km6 fk6 kc7 km7 fk7 kc8 km8 fk8 kc9 km9 gx824 kc10 km10 fk10 kc11 km11 fk11 kc12 km12 fk12 bpersons bpapers bstamps bversions blines bsteps bsayings bfindings bwarnings bquestions td vd vl gp bstampsc kbstamps fbstamps (by omega) (by omega) (hh0) (hh1) (hh2) (hh3) (hh4) (hh5) (hh6) (hh7) (hh8) (hh9) (hh10) (hh11) (hh12)) si_X3_55 [25, 0, 1, 2, 3, 4, 5, 6, 7, 8, 9, 10, 11, 12, 13, 14, 15, 16, 23, 24, 29, 30, 17, 18, 19, 20, 21, 22, 26, 27, 28] [] sm_25_0_1_2_3_4_5_6_7_8_9_10_11_12_13_14_15_16_23_24_29_30_17_18_19_20_21_22_26_27_28 fm_25_0_1_2_3_4_5_6_7_8_9_10_11_12_13_14_15_16_23_24_29_30_17_18_19_20_21_22_26_27_28 nd_25_0_1_2_3_4_5_6_7_8_9_10_11_12_13_14_15_16_23_24_29_30_17_18_19_20_21_22_26_27_28 rfl rfl (by decide) rfl rfl rfl rfl rfl (Nat.le_of_ble_eq_true rfl) ⟨by simp only [RM]; omega, by simp only [RM]; omega⟩ ⟨Nat.le_of_ble_eq_true rfl, Nat.le_of_ble_eq_true rfl⟩ dX3_holdOrLeave_81 (Ktu15 fun le1862 bi1863 gk0864 gk1865 gk2866 gk3867 gk4868 gk5869 gk6870 gk7871 gk8872 gk9873 gk10874 gk11875 gk12876 => ?_)
      intro H locs hr860 hP hD hS
      try dsimp only at hr860
      refine Kpdr (ws := [(h0, oX3 bb hd bo le1862 bi1863), (hd, cA G 13 hf), (kc0, oX1 km0), (km0, iA G 36 gk0864), (kc1, oX1 km1), (km1, iA G 36 gk1865), (kc2, oX1 km2), (km2, iA G 36 gk2866), (kc3, oX1 km3), (km3, iA G 36 gk3867), (kc4, oX1 km4), (km4, iA G 36 gk4868), (kc5, oX1 km5), (km5, iA G 36 gk5869), (kc6, oX1 km6), (km6, iA G 36 gk6870), (kc7, oX1 km7), (km7, iA G 36 gk7871), (kc8, oX1 km8), (km8, iA G 36 gk8872), (kc9, oX1 km9), (km9, iA G 36 gk9873), (kc10, oX1 km10), (km10, iA G 36 gk10874), (kc11, oX1 km11), (km11, iA G 36 gk11875), (kc12, oX1 km12), (km12, iA G 36 gk12876), (bb, oX0 bpersons bpapers bstamps bversions blines bsteps bsayings bfindings bwarnings bquestions td vd vl gp), (bstamps, oX8 24 3 bstampsc (nI kbstamps)), (bstampsc, iA G 72 fbstamps)]) hP hD (fun hP hD => ?_)
      exact toQ hQ0 (RV hC hP hD hS [0, 1, 2, 3, 4, 5, 6, 7, 8, 9, 10, 11, 12, 13, 14, 15, 16, 17, 18, 19, 20, 21, 22, 23, 24, 25, 26, 27, 28, 29, 30] (le1862, bi1863, gk0864, gk1865, gk2866, gk3867, gk4868, gk5869, gk6870, gk7871, gk8872, gk9873, gk10874, gk11875, gk12876) rfl rfl (by decide) (trivial) dX3_holdOrLeave_84)
  · have hl : lv_has ls 5 [(0, .ref h0), (1, .int (nI j)), (2, .int wo), (3, .int co), (4, .int 9)] := hl
    refine lv_iload hx hb dX3_holdOrLeave_0 (lv_at4 hl) ?_
    refine lv_if_lt (tgt := 17) hx hb dX3_holdOrLeave_2 (by decide) (fun c9 => absurd c9 (by decide)) (fun _ => ?_)
    refine lv_iload hx hb dX3_holdOrLeave_5 (lv_at4 hl) ?_
    refine lv_iconst (v := 1) hx hb dX3_holdOrLeave_7 (by decide) ?_
    refine lv_iadd hx hb dX3_holdOrLeave_8 ?_
    refine eqi (x1 := 10) (by decide) ?_
    refine lv_aload_n hx hb dX3_holdOrLeave_9 rfl (lv_at0 hl) ?_
    refine gf_X3_11 hC rfl hK hP 0 rfl rfl dX3_holdOrLeave_10 ?_
    refine va_alen (v := 13) hx hb hK.1 hP 1 1 rfl rfl (show Int32.ofNat 13 = 13 by decide) dX3_holdOrLeave_13 ?_
    refine lv_icmp_lt (tgt := 18) hx hb dX3_holdOrLeave_14 (by decide) (fun _ => ?_) (fun c9 => absurd (by decide) c9)
    refine lv_aload_n hx hb dX3_holdOrLeave_18 rfl (lv_at0 hl) ?_
    refine gf_X3_11 hC rfl hK hP 0 rfl rfl dX3_holdOrLeave_19 ?_
    refine lv_iload hx hb dX3_holdOrLeave_22 (lv_at4 hl) ?_
    refine lv_iconst (v := 1) hx hb dX3_holdOrLeave_24 (by decide) ?_
    refine lv_iadd hx hb dX3_holdOrLeave_25 ?_
    refine eqi (x1 := 10) (by decide) ?_
    refine aldC hC hK hP 1 rfl (vin (by decide +kernel)) (k := 10) (by decide +kernel) (v := kc10) (hh10) dX3_holdOrLeave_26 ?_
    refine lv_aload_n hx hb dX3_holdOrLeave_27 rfl (lv_at0 hl) ?_
    refine gf_X3_11 hC rfl hK hP 0 rfl rfl dX3_holdOrLeave_28 ?_
    refine lv_iload hx hb dX3_holdOrLeave_31 (lv_at4 hl) ?_
    refine aldC hC hK hP 1 rfl (vin (by decide +kernel)) (k := 9) (by decide +kernel) (v := kc9) (hh9) dX3_holdOrLeave_33 ?_
    refine vV (wr := [(h0, oX3 bb hd bo le bi), (hd, cA G 13 hf), (kc0, oX1 km0), (km0, iA G 36 fk0), (kc1, oX1 km1), (km1, iA G 36 fk1), (kc2, oX1 km2), (km2, iA G 36 fk2), (kc3, oX1 km3), (km3, iA G 36 fk3), (kc4, oX1 km4), (km4, iA G 36 fk4), (kc5, oX1 km5), (km5, iA G 36 fk5), (kc6, oX1 km6), (km6, iA G 36 fk6), (kc7, oX1 km7), (km7, iA G 36 fk7), (kc8, oX1 km8), (km8, iA G 36 fk8), (kc11, oX1 km11), (km11, iA G 36 fk11), (kc12, oX1 km12), (km12, iA G 36 fk12), (bb, oX0 bpersons bpapers bstamps bversions blines bsteps bsayings bfindings bwarnings bquestions td vd vl gp), (bstamps, oX8 24 3 bstampsc (nI kbstamps)), (bstampsc, iA G 72 fbstamps)]) hC hK hl hP hD hS hA (c_Cl_copy l G kc10 kc9 km10 fk10 km9 fk9) si_X3_62 [22, 23, 20, 21] [0, 1, 2, 3, 4, 5, 6, 7, 8, 9, 10, 11, 12, 13, 14, 15, 16, 17, 18, 19, 24, 25, 26, 27, 28, 29, 30] sm_22_23_20_21 fm_22_23_20_21 nd_22_23_20_21 sm_0_1_2_3_4_5_6_7_8_9_10_11_12_13_14_15_16_17_18_19_24_25_26_27_28_29_30 nd_0_1_2_3_4_5_6_7_8_9_10_11_12_13_14_15_16_17_18_19_24_25_26_27_28_29_30 dj_22_23_20_21__0_1_2_3_4_5_6_7_8_9_10_11_12_13_14_15_16_17_18_19_24_25_26_27_28_29_30 rfl rfl rfl rfl rfl (Nat.le_of_ble_eq_true rfl) ⟨by simp only [RM]; omega, by simp only [RM]; omega⟩ ⟨Nat.le_of_ble_eq_true rfl, Nat.le_of_ble_eq_true rfl⟩ dX3_holdOrLeave_34 (fun f1879 H locs hr877 hP hD hS => ?_)
    try dsimp only at hr877
    refine Kpdr (ws := [(h0, oX3 bb hd bo le bi), (hd, cA G 13 hf), (kc0, oX1 km0), (km0, iA G 36 fk0), (kc1, oX1 km1), (km1, iA G 36 fk1), (kc2, oX1 km2), (km2, iA G 36 fk2), (kc3, oX1 km3), (km3, iA G 36 fk3), (kc4, oX1 km4), (km4, iA G 36 fk4), (kc5, oX1 km5), (km5, iA G 36 fk5), (kc6, oX1 km6), (km6, iA G 36 fk6), (kc7, oX1 km7), (km7, iA G 36 fk7), (kc8, oX1 km8), (km8, iA G 36 fk8), (kc11, oX1 km11), (km11, iA G 36 fk11), (kc12, oX1 km12), (km12, iA G 36 fk12), (bb, oX0 bpersons bpapers bstamps bversions blines bsteps bsayings bfindings bwarnings bquestions td vd vl gp), (bstamps, oX8 24 3 bstampsc (nI kbstamps)), (bstampsc, iA G 72 fbstamps), (kc10, oX1 km10), (km10, iA G 36 f1879), (kc9, oX1 km9), (km9, iA G 36 fk9)]) hP hD (fun hP hD => ?_)
    refine lv_aload_n hx hb dX3_holdOrLeave_37 rfl (lv_at0 hl) ?_
    refine lv_iload_n hx hb dX3_holdOrLeave_38 rfl (lv_at1 hl) ?_
    refine lv_aload_n hx hb dX3_holdOrLeave_39 rfl (lv_at0 hl) ?_
    refine gf_X3_11 hC rfl hK hP 0 rfl rfl dX3_holdOrLeave_40 ?_
    refine lv_iload hx hb dX3_holdOrLeave_43 (lv_at4 hl) ?_
    refine lv_iconst (v := 1) hx hb dX3_holdOrLeave_45 (by decide) ?_
    refine lv_iadd hx hb dX3_holdOrLeave_46 ?_
    refine eqi (x1 := 10) (by decide) ?_
    refine aldC hC hK hP 1 rfl (vin (by decide +kernel)) (k := 10) (by decide +kernel) (v := kc10) (hh10) dX3_holdOrLeave_47 ?_
    refine iV (wr := [(hd, cA G 13 hf), (kc0, oX1 km0), (km0, iA G 36 fk0), (kc1, oX1 km1), (km1, iA G 36 fk1), (kc2, oX1 km2), (km2, iA G 36 fk2), (kc3, oX1 km3), (km3, iA G 36 fk3), (kc4, oX1 km4), (km4, iA G 36 fk4), (kc5, oX1 km5), (km5, iA G 36 fk5), (kc6, oX1 km6), (km6, iA G 36 fk6), (kc7, oX1 km7), (km7, iA G 36 fk7), (kc8, oX1 km8), (km8, iA G 36 fk8), (kc11, oX1 km11), (km11, iA G 36 fk11), (kc12, oX1 km12), (km12, iA G 36 fk12), (kc9, oX1 km9), (km9, iA G 36 fk9)]) hC hK hl hP hD hS hA (c_isRight l G h0 (nI j) kc10 bb hd bo le bi bpersons bpapers bstamps bversions blines bsteps bsayings bfindings bwarnings bquestions td vd vl gp bstampsc kbstamps fbstamps km10 f1879 (hkbstamps)) si_X3_66 [0, 24, 25, 26, 27, 28] [1, 2, 3, 4, 5, 6, 7, 8, 9, 10, 11, 12, 13, 14, 15, 16, 17, 18, 19, 20, 21, 22, 23, 29, 30] sm_0_24_25_26_27_28 fm_0_24_25_26_27_28 nd_0_24_25_26_27_28 sm_1_2_3_4_5_6_7_8_9_10_11_12_13_14_15_16_17_18_19_20_21_22_23_29_30 nd_1_2_3_4_5_6_7_8_9_10_11_12_13_14_15_16_17_18_19_20_21_22_23_29_30 dj_0_24_25_26_27_28__1_2_3_4_5_6_7_8_9_10_11_12_13_14_15_16_17_18_19_20_21_22_23_29_30 rfl rfl rfl rfl rfl (Nat.le_of_ble_eq_true rfl) ⟨by simp only [RM]; omega, by simp only [RM]; omega⟩ ⟨Nat.le_of_ble_eq_true rfl, Nat.le_of_ble_eq_true rfl⟩ dX3_holdOrLeave_48 (fun r880 gx882 H locs hr880 hP hD hS => ?_)
    try dsimp only at hr880
    refine Kpdr (ws := [(hd, cA G 13 hf), (kc0, oX1 km0), (km0, iA G 36 fk0), (kc1, oX1 km1), (km1, iA G 36 fk1), (kc2, oX1 km2), (km2, iA G 36 fk2), (kc3, oX1 km3), (km3, iA G 36 fk3), (kc4, oX1 km4), (km4, iA G 36 fk4), (kc5, oX1 km5), (km5, iA G 36 fk5), (kc6, oX1 km6), (km6, iA G 36 fk6), (kc7, oX1 km7), (km7, iA G 36 fk7), (kc8, oX1 km8), (km8, iA G 36 fk8), (kc11, oX1 km11), (km11, iA G 36 fk11), (kc12, oX1 km12), (km12, iA G 36 fk12), (kc9, oX1 km9), (km9, iA G 36 fk9), (h0, oX3 bb hd bo le bi), (bb, oX0 bpersons bpapers bstamps bversions blines bsteps bsayings bfindings bwarnings bquestions td vd vl gp), (bstamps, oX8 24 3 bstampsc (nI kbstamps)), (bstampsc, iA G 72 fbstamps), (kc10, oX1 km10), (km10, iA G 36 gx882)]) hP hD (fun hP hD => ?_)
    rcases hr880 with rfl | rfl
    · refine lv_if_eq (tgt := 67) hx hb dX3_holdOrLeave_51 (by decide) (fun c9 => absurd c9 (by decide)) (fun _ => ?_)
      refine lv_aload_n hx hb dX3_holdOrLeave_54 rfl (lv_at0 hl) ?_
      refine lv_iload_n hx hb dX3_holdOrLeave_55 rfl (lv_at1 hl) ?_
      refine lv_iconst (v := 1) hx hb dX3_holdOrLeave_56 (by decide) ?_
      refine lv_isub hx hb dX3_holdOrLeave_57 ?_
      refine lv_iload_n hx hb dX3_holdOrLeave_58 rfl (lv_at2 hl) ?_
      refine lv_iload_n hx hb dX3_holdOrLeave_59 rfl (lv_at3 hl) ?_
      refine lv_iload hx hb dX3_holdOrLeave_60 (lv_at4 hl) ?_
      refine lv_iconst (v := 1) hx hb dX3_holdOrLeave_62 (by decide) ?_
      refine lv_iadd hx hb dX3_holdOrLeave_63 ?_
      refine eqi (x1 := 10) (by decide) ?_
      refine vV (wr := []) hC hK hl hP hD hS hA (ihS j (by omega) h0 wo co 10 bb hd bo le bi hf kc0 km0 fk0 kc1 km1 fk1 kc2 km2 fk2 kc3 km3 fk3 kc4 km4 fk4 kc5 km5 fk5 kc6 km6 fk6 kc7 km7 fk7 kc8 km8 fk8 kc9 km9 fk9 kc10 km10 gx882 kc11 km11 fk11 kc12 km12 fk12 bpersons bpapers bstamps bversions blines bsteps bsayings bfindings bwarnings bquestions td vd vl gp bstampsc kbstamps fbstamps (by omega) (by omega) (hh0) (hh1) (hh2) (hh3) (hh4) (hh5) (hh6) (hh7) (hh8) (hh9) (hh10) (hh11) (hh12)) si_X3_55 [25, 0, 1, 2, 3, 4, 5, 6, 7, 8, 9, 10, 11, 12, 13, 14, 15, 16, 17, 18, 23, 24, 29, 30, 19, 20, 21, 22, 26, 27, 28] [] sm_25_0_1_2_3_4_5_6_7_8_9_10_11_12_13_14_15_16_17_18_23_24_29_30_19_20_21_22_26_27_28 fm_25_0_1_2_3_4_5_6_7_8_9_10_11_12_13_14_15_16_17_18_23_24_29_30_19_20_21_22_26_27_28 nd_25_0_1_2_3_4_5_6_7_8_9_10_11_12_13_14_15_16_17_18_23_24_29_30_19_20_21_22_26_27_28 rfl rfl (by decide) rfl rfl rfl rfl rfl (Nat.le_of_ble_eq_true rfl) ⟨by simp only [RM]; omega, by simp only [RM]; omega⟩ ⟨Nat.le_of_ble_eq_true rfl, Nat.le_of_ble_eq_true rfl⟩ dX3_holdOrLeave_64 (Ktu15 fun le1886 bi1887 gk0888 gk1889 gk2890 gk3891 gk4892 gk5893 gk6894 gk7895 gk8896 gk9897 gk10898 gk11899 gk12900 => ?_)
      intro H locs hr884 hP hD hS
      try dsimp only at hr884
      refine Kpdr (ws := [(h0, oX3 bb hd bo le1886 bi1887), (hd, cA G 13 hf), (kc0, oX1 km0), (km0, iA G 36 gk0888), (kc1, oX1 km1), (km1, iA G 36 gk1889), (kc2, oX1 km2), (km2, iA G 36 gk2890), (kc3, oX1 km3), (km3, iA G 36 gk3891), (kc4, oX1 km4), (km4, iA G 36 gk4892), (kc5, oX1 km5), (km5, iA G 36 gk5893), (kc6, oX1 km6), (km6, iA G 36 gk6894), (kc7, oX1 km7), (km7, iA G 36 gk7895), (kc8, oX1 km8), (km8, iA G 36 gk8896), (kc9, oX1 km9), (km9, iA G 36 gk9897), (kc10, oX1 km10), (km10, iA G 36 gk10898), (kc11, oX1 km11), (km11, iA G 36 gk11899), (kc12, oX1 km12), (km12, iA G 36 gk12900), (bb, oX0 bpersons bpapers bstamps bversions blines bsteps bsayings bfindings bwarnings bquestions td vd vl gp), (bstamps, oX8 24 3 bstampsc (nI kbstamps)), (bstampsc, iA G 72 fbstamps)]) hP hD (fun hP hD => ?_)
      refine lv_aload_n hx hb dX3_holdOrLeave_67 rfl (lv_at0 hl) ?_
      refine lv_iload_n hx hb dX3_holdOrLeave_68 rfl (lv_at1 hl) ?_
      refine lv_iconst (v := 1) hx hb dX3_holdOrLeave_69 (by decide) ?_
      refine lv_isub hx hb dX3_holdOrLeave_70 ?_
      refine lv_iload_n hx hb dX3_holdOrLeave_71 rfl (lv_at2 hl) ?_
      refine lv_iconst (v := 1) hx hb dX3_holdOrLeave_72 (by decide) ?_
      refine lv_iload_n hx hb dX3_holdOrLeave_73 rfl (lv_at1 hl) ?_
      refine lv_ishl hx hb dX3_holdOrLeave_74 ?_
      refine lv_ior hx hb dX3_holdOrLeave_75 ?_
      refine lv_iload_n hx hb dX3_holdOrLeave_76 rfl (lv_at3 hl) ?_
      refine lv_iconst (v := 1) hx hb dX3_holdOrLeave_77 (by decide) ?_
      refine lv_iadd hx hb dX3_holdOrLeave_78 ?_
      refine lv_iload hx hb dX3_holdOrLeave_79 (lv_at4 hl) ?_
      refine vV (wr := []) hC hK hl hP hD hS hA (ihS j (by omega) h0 (wo ||| (1 <<< ((nI j) &&& 31))) (co + 1) 9 bb hd bo le1886 bi1887 hf kc0 km0 gk0888 kc1 km1 gk1889 kc2 km2 gk2890 kc3 km3 gk3891 kc4 km4 gk4892 kc5 km5 gk5893 kc6 km6 gk6894 kc7 km7 gk7895 kc8 km8 gk8896 kc9 km9 gk9897 kc10 km10 gk10898 kc11 km11 gk11899 kc12 km12 gk12900 bpersons bpapers bstamps bversions blines bsteps bsayings bfindings bwarnings bquestions td vd vl gp bstampsc kbstamps fbstamps (by omega) (by omega) (hh0) (hh1) (hh2) (hh3) (hh4) (hh5) (hh6) (hh7) (hh8) (hh9) (hh10) (hh11) (hh12)) si_X3_55 [0, 1, 2, 3, 4, 5, 6, 7, 8, 9, 10, 11, 12, 13, 14, 15, 16, 17, 18, 19, 20, 21, 22, 23, 24, 25, 26, 27, 28, 29, 30] [] sm_0_1_2_3_4_5_6_7_8_9_10_11_12_13_14_15_16_17_18_19_20_21_22_23_24_25_26_27_28_29_30 fm_0_1_2_3_4_5_6_7_8_9_10_11_12_13_14_15_16_17_18_19_20_21_22_23_24_25_26_27_28_29_30 nd_0_1_2_3_4_5_6_7_8_9_10_11_12_13_14_15_16_17_18_19_20_21_22_23_24_25_26_27_28_29_30 rfl rfl (by decide) rfl rfl rfl rfl rfl (Nat.le_of_ble_eq_true rfl) ⟨by simp only [RM]; omega, by simp only [RM]; omega⟩ ⟨Nat.le_of_ble_eq_true rfl, Nat.le_of_ble_eq_true rfl⟩ dX3_holdOrLeave_81 (Ktu15 fun le1903 bi1904 gk0905 gk1906 gk2907 gk3908 gk4909 gk5910 gk6911 gk7912 gk8913 gk9914 gk10915 gk11916 gk12917 => ?_)
      intro H locs hr901 hP hD hS
      try dsimp only at hr901
      refine Kpdr (ws := [(h0, oX3 bb hd bo le1903 bi1904), (hd, cA G 13 hf), (kc0, oX1 km0), (km0, iA G 36 gk0905), (kc1, oX1 km1), (km1, iA G 36 gk1906), (kc2, oX1 km2), (km2, iA G 36 gk2907), (kc3, oX1 km3), (km3, iA G 36 gk3908), (kc4, oX1 km4), (km4, iA G 36 gk4909), (kc5, oX1 km5), (km5, iA G 36 gk5910), (kc6, oX1 km6), (km6, iA G 36 gk6911), (kc7, oX1 km7), (km7, iA G 36 gk7912), (kc8, oX1 km8), (km8, iA G 36 gk8913), (kc9, oX1 km9), (km9, iA G 36 gk9914), (kc10, oX1 km10), (km10, iA G 36 gk10915), (kc11, oX1 km11), (km11, iA G 36 gk11916), (kc12, oX1 km12), (km12, iA G 36 gk12917), (bb, oX0 bpersons bpapers bstamps bversions blines bsteps bsayings bfindings bwarnings bquestions td vd vl gp), (bstamps, oX8 24 3 bstampsc (nI kbstamps)), (bstampsc, iA G 72 fbstamps)]) hP hD (fun hP hD => ?_)
      exact toQ hQ0 (RV hC hP hD hS [0, 1, 2, 3, 4, 5, 6, 7, 8, 9, 10, 11, 12, 13, 14, 15, 16, 17, 18, 19, 20, 21, 22, 23, 24, 25, 26, 27, 28, 29, 30] (le1903, bi1904, gk0905, gk1906, gk2907, gk3908, gk4909, gk5910, gk6911, gk7912, gk8913, gk9914, gk10915, gk11916, gk12917) rfl rfl (by decide) (trivial) dX3_holdOrLeave_84)
    · refine lv_if_eq (tgt := 67) hx hb dX3_holdOrLeave_51 (by decide) (fun _ => ?_) (fun c9 => absurd (by decide) c9)
      refine lv_aload_n hx hb dX3_holdOrLeave_67 rfl (lv_at0 hl) ?_
      refine lv_iload_n hx hb dX3_holdOrLeave_68 rfl (lv_at1 hl) ?_
      refine lv_iconst (v := 1) hx hb dX3_holdOrLeave_69 (by decide) ?_
      refine lv_isub hx hb dX3_holdOrLeave_70 ?_
      refine lv_iload_n hx hb dX3_holdOrLeave_71 rfl (lv_at2 hl) ?_
      refine lv_iconst (v := 1) hx hb dX3_holdOrLeave_72 (by decide) ?_
      refine lv_iload_n hx hb dX3_holdOrLeave_73 rfl (lv_at1 hl) ?_
      refine lv_ishl hx hb dX3_holdOrLeave_74 ?_
      refine lv_ior hx hb dX3_holdOrLeave_75 ?_
      refine lv_iload_n hx hb dX3_holdOrLeave_76 rfl (lv_at3 hl) ?_
      refine lv_iconst (v := 1) hx hb dX3_holdOrLeave_77 (by decide) ?_
      refine lv_iadd hx hb dX3_holdOrLeave_78 ?_
      refine lv_iload hx hb dX3_holdOrLeave_79 (lv_at4 hl) ?_
      refine vV (wr := []) hC hK hl hP hD hS hA (ihS j (by omega) h0 (wo ||| (1 <<< ((nI j) &&& 31))) (co + 1) 9 bb hd bo le bi hf kc0 km0 fk0 kc1 km1 fk1 kc2 km2 fk2 kc3 km3 fk3 kc4 km4 fk4 kc5 km5 fk5 kc6 km6 fk6 kc7 km7 fk7 kc8 km8 fk8 kc9 km9 fk9 kc10 km10 gx882 kc11 km11 fk11 kc12 km12 fk12 bpersons bpapers bstamps bversions blines bsteps bsayings bfindings bwarnings bquestions td vd vl gp bstampsc kbstamps fbstamps (by omega) (by omega) (hh0) (hh1) (hh2) (hh3) (hh4) (hh5) (hh6) (hh7) (hh8) (hh9) (hh10) (hh11) (hh12)) si_X3_55 [25, 0, 1, 2, 3, 4, 5, 6, 7, 8, 9, 10, 11, 12, 13, 14, 15, 16, 17, 18, 23, 24, 29, 30, 19, 20, 21, 22, 26, 27, 28] [] sm_25_0_1_2_3_4_5_6_7_8_9_10_11_12_13_14_15_16_17_18_23_24_29_30_19_20_21_22_26_27_28 fm_25_0_1_2_3_4_5_6_7_8_9_10_11_12_13_14_15_16_17_18_23_24_29_30_19_20_21_22_26_27_28 nd_25_0_1_2_3_4_5_6_7_8_9_10_11_12_13_14_15_16_17_18_23_24_29_30_19_20_21_22_26_27_28 rfl rfl (by decide) rfl rfl rfl rfl rfl (Nat.le_of_ble_eq_true rfl) ⟨by simp only [RM]; omega, by simp only [RM]; omega⟩ ⟨Nat.le_of_ble_eq_true rfl, Nat.le_of_ble_eq_true rfl⟩ dX3_holdOrLeave_81 (Ktu15 fun le1920 bi1921 gk0922 gk1923 gk2924 gk3925 gk4926 gk5927 gk6928 gk7929 gk8930 gk9931 gk10932 gk11933 gk12934 => ?_)
      intro H locs hr918 hP hD hS
      try dsimp only at hr918
      refine Kpdr (ws := [(h0, oX3 bb hd bo le1920 bi1921), (hd, cA G 13 hf), (kc0, oX1 km0), (km0, iA G 36 gk0922), (kc1, oX1 km1), (km1, iA G 36 gk1923), (kc2, oX1 km2), (km2, iA G 36 gk2924), (kc3, oX1 km3), (km3, iA G 36 gk3925), (kc4, oX1 km4), (km4, iA G 36 gk4926), (kc5, oX1 km5), (km5, iA G 36 gk5927), (kc6, oX1 km6), (km6, iA G 36 gk6928), (kc7, oX1 km7), (km7, iA G 36 gk7929), (kc8, oX1 km8), (km8, iA G 36 gk8930), (kc9, oX1 km9), (km9, iA G 36 gk9931), (kc10, oX1 km10), (km10, iA G 36 gk10932), (kc11, oX1 km11), (km11, iA G 36 gk11933), (kc12, oX1 km12), (km12, iA G 36 gk12934), (bb, oX0 bpersons bpapers bstamps bversions blines bsteps bsayings bfindings bwarnings bquestions td vd vl gp), (bstamps, oX8 24 3 bstampsc (nI kbstamps)), (bstampsc, iA G 72 fbstamps)]) hP hD (fun hP hD => ?_)
      exact toQ hQ0 (RV hC hP hD hS [0, 1, 2, 3, 4, 5, 6, 7, 8, 9, 10, 11, 12, 13, 14, 15, 16, 17, 18, 19, 20, 21, 22, 23, 24, 25, 26, 27, 28, 29, 30] (le1920, bi1921, gk0922, gk1923, gk2924, gk3925, gk4926, gk5927, gk6928, gk7929, gk8930, gk9931, gk10932, gk11933, gk12934) rfl rfl (by decide) (trivial) dX3_holdOrLeave_84)
  · have hl : lv_has ls 5 [(0, .ref h0), (1, .int (nI j)), (2, .int wo), (3, .int co), (4, .int 10)] := hl
    refine lv_iload hx hb dX3_holdOrLeave_0 (lv_at4 hl) ?_
    refine lv_if_lt (tgt := 17) hx hb dX3_holdOrLeave_2 (by decide) (fun c9 => absurd c9 (by decide)) (fun _ => ?_)
    refine lv_iload hx hb dX3_holdOrLeave_5 (lv_at4 hl) ?_
    refine lv_iconst (v := 1) hx hb dX3_holdOrLeave_7 (by decide) ?_
    refine lv_iadd hx hb dX3_holdOrLeave_8 ?_
    refine eqi (x1 := 11) (by decide) ?_
    refine lv_aload_n hx hb dX3_holdOrLeave_9 rfl (lv_at0 hl) ?_
    refine gf_X3_11 hC rfl hK hP 0 rfl rfl dX3_holdOrLeave_10 ?_
    refine va_alen (v := 13) hx hb hK.1 hP 1 1 rfl rfl (show Int32.ofNat 13 = 13 by decide) dX3_holdOrLeave_13 ?_
    refine lv_icmp_lt (tgt := 18) hx hb dX3_holdOrLeave_14 (by decide) (fun _ => ?_) (fun c9 => absurd (by decide) c9)
    refine lv_aload_n hx hb dX3_holdOrLeave_18 rfl (lv_at0 hl) ?_
    refine gf_X3_11 hC rfl hK hP 0 rfl rfl dX3_holdOrLeave_19 ?_
    refine lv_iload hx hb dX3_holdOrLeave_22 (lv_at4 hl) ?_
    refine lv_iconst (v := 1) hx hb dX3_holdOrLeave_24 (by decide) ?_
    refine lv_iadd hx hb dX3_holdOrLeave_25 ?_
    refine eqi (x1 := 11) (by decide) ?_
    refine aldC hC hK hP 1 rfl (vin (by decide +kernel)) (k := 11) (by decide +kernel) (v := kc11) (hh11) dX3_holdOrLeave_26 ?_
    refine lv_aload_n hx hb dX3_holdOrLeave_27 rfl (lv_at0 hl) ?_
    refine gf_X3_11 hC rfl hK hP 0 rfl rfl dX3_holdOrLeave_28 ?_
    refine lv_iload hx hb dX3_holdOrLeave_31 (lv_at4 hl) ?_
    refine aldC hC hK hP 1 rfl (vin (by decide +kernel)) (k := 10) (by decide +kernel) (v := kc10) (hh10) dX3_holdOrLeave_33 ?_
    refine vV (wr := [(h0, oX3 bb hd bo le bi), (hd, cA G 13 hf), (kc0, oX1 km0), (km0, iA G 36 fk0), (kc1, oX1 km1), (km1, iA G 36 fk1), (kc2, oX1 km2), (km2, iA G 36 fk2), (kc3, oX1 km3), (km3, iA G 36 fk3), (kc4, oX1 km4), (km4, iA G 36 fk4), (kc5, oX1 km5), (km5, iA G 36 fk5), (kc6, oX1 km6), (km6, iA G 36 fk6), (kc7, oX1 km7), (km7, iA G 36 fk7), (kc8, oX1 km8), (km8, iA G 36 fk8), (kc9, oX1 km9), (km9, iA G 36 fk9), (kc12, oX1 km12), (km12, iA G 36 fk12), (bb, oX0 bpersons bpapers bstamps bversions blines bsteps bsayings bfindings bwarnings bquestions td vd vl gp), (bstamps, oX8 24 3 bstampsc (nI kbstamps)), (bstampsc, iA G 72 fbstamps)]) hC hK hl hP hD hS hA (c_Cl_copy l G kc11 kc10 km11 fk11 km10 fk10) si_X3_62 [24, 25, 22, 23] [0, 1, 2, 3, 4, 5, 6, 7, 8, 9, 10, 11, 12, 13, 14, 15, 16, 17, 18, 19, 20, 21, 26, 27, 28, 29, 30] sm_24_25_22_23 fm_24_25_22_23 nd_24_25_22_23 sm_0_1_2_3_4_5_6_7_8_9_10_11_12_13_14_15_16_17_18_19_20_21_26_27_28_29_30 nd_0_1_2_3_4_5_6_7_8_9_10_11_12_13_14_15_16_17_18_19_20_21_26_27_28_29_30 dj_24_25_22_23__0_1_2_3_4_5_6_7_8_9_10_11_12_13_14_15_16_17_18_19_20_21_26_27_28_29_30 rfl rfl rfl rfl rfl (Nat.le_of_ble_eq_true rfl) ⟨by simp only [RM]; omega, by simp only [RM]; omega⟩ ⟨Nat.le_of_ble_eq_true rfl, Nat.le_of_ble_eq_true rfl⟩ dX3_holdOrLeave_34 (fun f1937 H locs hr935 hP hD hS => ?_)
    try dsimp only at hr935
    refine Kpdr (ws := [(h0, oX3 bb hd bo le bi), (hd, cA G 13 hf), (kc0, oX1 km0), (km0, iA G 36 fk0), (kc1, oX1 km1), (km1, iA G 36 fk1), (kc2, oX1 km2), (km2, iA G 36 fk2), (kc3, oX1 km3), (km3, iA G 36 fk3), (kc4, oX1 km4), (km4, iA G 36 fk4), (kc5, oX1 km5), (km5, iA G 36 fk5), (kc6, oX1 km6), (km6, iA G 36 fk6), (kc7, oX1 km7), (km7, iA G 36 fk7), (kc8, oX1 km8), (km8, iA G 36 fk8), (kc9, oX1 km9), (km9, iA G 36 fk9), (kc12, oX1 km12), (km12, iA G 36 fk12), (bb, oX0 bpersons bpapers bstamps bversions blines bsteps bsayings bfindings bwarnings bquestions td vd vl gp), (bstamps, oX8 24 3 bstampsc (nI kbstamps)), (bstampsc, iA G 72 fbstamps), (kc11, oX1 km11), (km11, iA G 36 f1937), (kc10, oX1 km10), (km10, iA G 36 fk10)]) hP hD (fun hP hD => ?_)
    refine lv_aload_n hx hb dX3_holdOrLeave_37 rfl (lv_at0 hl) ?_
    refine lv_iload_n hx hb dX3_holdOrLeave_38 rfl (lv_at1 hl) ?_
    refine lv_aload_n hx hb dX3_holdOrLeave_39 rfl (lv_at0 hl) ?_
    refine gf_X3_11 hC rfl hK hP 0 rfl rfl dX3_holdOrLeave_40 ?_
    refine lv_iload hx hb dX3_holdOrLeave_43 (lv_at4 hl) ?_
    refine lv_iconst (v := 1) hx hb dX3_holdOrLeave_45 (by decide) ?_
    refine lv_iadd hx hb dX3_holdOrLeave_46 ?_
    refine eqi (x1 := 11) (by decide) ?_
    refine aldC hC hK hP 1 rfl (vin (by decide +kernel)) (k := 11) (by decide +kernel) (v := kc11) (hh11) dX3_holdOrLeave_47 ?_
    refine iV (wr := [(hd, cA G 13 hf), (kc0, oX1 km0), (km0, iA G 36 fk0), (kc1, oX1 km1), (km1, iA G 36 fk1), (kc2, oX1 km2), (km2, iA G 36 fk2), (kc3, oX1 km3), (km3, iA G 36 fk3), (kc4, oX1 km4), (km4, iA G 36 fk4), (kc5, oX1 km5), (km5, iA G 36 fk5), (kc6, oX1 km6), (km6, iA G 36 fk6), (kc7, oX1 km7), (km7, iA G 36 fk7), (kc8, oX1 km8), (km8, iA G 36 fk8), (kc9, oX1 km9), (km9, iA G 36 fk9), (kc12, oX1 km12), (km12, iA G 36 fk12), (kc10, oX1 km10), (km10, iA G 36 fk10)]) hC hK hl hP hD hS hA (c_isRight l G h0 (nI j) kc11 bb hd bo le bi bpersons bpapers bstamps bversions blines bsteps bsayings bfindings bwarnings bquestions td vd vl gp bstampsc kbstamps fbstamps km11 f1937 (hkbstamps)) si_X3_66 [0, 24, 25, 26, 27, 28] [1, 2, 3, 4, 5, 6, 7, 8, 9, 10, 11, 12, 13, 14, 15, 16, 17, 18, 19, 20, 21, 22, 23, 29, 30] sm_0_24_25_26_27_28 fm_0_24_25_26_27_28 nd_0_24_25_26_27_28 sm_1_2_3_4_5_6_7_8_9_10_11_12_13_14_15_16_17_18_19_20_21_22_23_29_30 nd_1_2_3_4_5_6_7_8_9_10_11_12_13_14_15_16_17_18_19_20_21_22_23_29_30 dj_0_24_25_26_27_28__1_2_3_4_5_6_7_8_9_10_11_12_13_14_15_16_17_18_19_20_21_22_23_29_30 rfl rfl rfl rfl rfl (Nat.le_of_ble_eq_true rfl) ⟨by simp only [RM]; omega, by simp only [RM]; omega⟩ ⟨Nat.le_of_ble_eq_true rfl, Nat.le_of_ble_eq_true rfl⟩ dX3_holdOrLeave_48 (fun r938 gx940 H locs hr938 hP hD hS => ?_)
    try dsimp only at hr938
    refine Kpdr (ws := [(hd, cA G 13 hf), (kc0, oX1 km0), (km0, iA G 36 fk0), (kc1, oX1 km1), (km1, iA G 36 fk1), (kc2, oX1 km2), (km2, iA G 36 fk2), (kc3, oX1 km3), (km3, iA G 36 fk3), (kc4, oX1 km4), (km4, iA G 36 fk4), (kc5, oX1 km5), (km5, iA G 36 fk5), (kc6, oX1 km6), (km6, iA G 36 fk6), (kc7, oX1 km7), (km7, iA G 36 fk7), (kc8, oX1 km8), (km8, iA G 36 fk8), (kc9, oX1 km9), (km9, iA G 36 fk9), (kc12, oX1 km12), (km12, iA G 36 fk12), (kc10, oX1 km10), (km10, iA G 36 fk10), (h0, oX3 bb hd bo le bi), (bb, oX0 bpersons bpapers bstamps bversions blines bsteps bsayings bfindings bwarnings bquestions td vd vl gp), (bstamps, oX8 24 3 bstampsc (nI kbstamps)), (bstampsc, iA G 72 fbstamps), (kc11, oX1 km11), (km11, iA G 36 gx940)]) hP hD (fun hP hD => ?_)
    rcases hr938 with rfl | rfl
    · refine lv_if_eq (tgt := 67) hx hb dX3_holdOrLeave_51 (by decide) (fun c9 => absurd c9 (by decide)) (fun _ => ?_)
      refine lv_aload_n hx hb dX3_holdOrLeave_54 rfl (lv_at0 hl) ?_
      refine lv_iload_n hx hb dX3_holdOrLeave_55 rfl (lv_at1 hl) ?_
      refine lv_iconst (v := 1) hx hb dX3_holdOrLeave_56 (by decide) ?_
      refine lv_isub hx hb dX3_holdOrLeave_57 ?_
      refine lv_iload_n hx hb dX3_holdOrLeave_58 rfl (lv_at2 hl) ?_
      refine lv_iload_n hx hb dX3_holdOrLeave_59 rfl (lv_at3 hl) ?_
      refine lv_iload hx hb dX3_holdOrLeave_60 (lv_at4 hl) ?_
      refine lv_iconst (v := 1) hx hb dX3_holdOrLeave_62 (by decide) ?_
      refine lv_iadd hx hb dX3_holdOrLeave_63 ?_
      refine eqi (x1 := 11) (by decide) ?_
      refine vV (wr := []) hC hK hl hP hD hS hA (ihS j (by omega) h0 wo co 11 bb hd bo le bi hf kc0 km0 fk0 kc1 km1 fk1 kc2 km2 fk2 kc3 km3 fk3 kc4 km4 fk4 kc5 km5 fk5 kc6 km6 fk6 kc7 km7 fk7 kc8 km8 fk8 kc9 km9 fk9 kc10 km10 fk10 kc11 km11 gx940 kc12 km12 fk12 bpersons bpapers bstamps bversions blines bsteps bsayings bfindings bwarnings bquestions td vd vl gp bstampsc kbstamps fbstamps (by omega) (by omega) (hh0) (hh1) (hh2) (hh3) (hh4) (hh5) (hh6) (hh7) (hh8) (hh9) (hh10) (hh11) (hh12)) si_X3_55 [25, 0, 1, 2, 3, 4, 5, 6, 7, 8, 9, 10, 11, 12, 13, 14, 15, 16, 17, 18, 19, 20, 23, 24, 29, 30, 21, 22, 26, 27, 28] [] sm_25_0_1_2_3_4_5_6_7_8_9_10_11_12_13_14_15_16_17_18_19_20_23_24_29_30_21_22_26_27_28 fm_25_0_1_2_3_4_5_6_7_8_9_10_11_12_13_14_15_16_17_18_19_20_23_24_29_30_21_22_26_27_28 nd_25_0_1_2_3_4_5_6_7_8_9_10_11_12_13_14_15_16_17_18_19_20_23_24_29_30_21_22_26_27_28 rfl rfl (by decide) rfl rfl rfl rfl rfl (Nat.le_of_ble_eq_true rfl) ⟨by simp only [RM]; omega, by simp only [RM]; omega⟩ ⟨Nat.le_of_ble_eq_true rfl, Nat.le_of_ble_eq_true rfl⟩ dX3_holdOrLeave_64 (Ktu15 fun le1944 bi1945 gk0946 gk1947 gk2948 gk3949 gk4950 gk5951 gk6952 gk7953 gk8954 gk9955 gk10956 gk11957 gk12958 => ?_)
      intro H locs hr942 hP hD hS
      try dsimp only at hr942
      refine Kpdr (ws := [(h0, oX3 bb hd bo le1944 bi1945), (hd, cA G 13 hf), (kc0, oX1 km0), (km0, iA G 36 gk0946), (kc1, oX1 km1), (km1, iA G 36 gk1947), (kc2, oX1 km2), (km2, iA G 36 gk2948), (kc3, oX1 km3), (km3, iA G 36 gk3949), (kc4, oX1 km4), (km4, iA G 36 gk4950), (kc5, oX1 km5), (km5, iA G 36 gk5951), (kc6, oX1 km6), (km6, iA G 36 gk6952), (kc7, oX1 km7), (km7, iA G 36 gk7953), (kc8, oX1 km8), (km8, iA G 36 gk8954), (kc9, oX1 km9), (km9, iA G 36 gk9955), (kc10, oX1 km10), (km10, iA G 36 gk10956), (kc11, oX1 km11), (km11, iA G 36 gk11957), (kc12, oX1 km12), (km12, iA G 36 gk12958), (bb, oX0 bpersons bpapers bstamps bversions blines bsteps bsayings bfindings bwarnings bquestions td vd vl gp), (bstamps, oX8 24 3 bstampsc (nI kbstamps)), (bstampsc, iA G 72 fbstamps)]) hP hD (fun hP hD => ?_)
      refine lv_aload_n hx hb dX3_holdOrLeave_67 rfl (lv_at0 hl) ?_
      refine lv_iload_n hx hb dX3_holdOrLeave_68 rfl (lv_at1 hl) ?_
      refine lv_iconst (v := 1) hx hb dX3_holdOrLeave_69 (by decide) ?_
      refine lv_isub hx hb dX3_holdOrLeave_70 ?_
      refine lv_iload_n hx hb dX3_holdOrLeave_71 rfl (lv_at2 hl) ?_
      refine lv_iconst (v := 1) hx hb dX3_holdOrLeave_72 (by decide) ?_
      refine lv_iload_n hx hb dX3_holdOrLeave_73 rfl (lv_at1 hl) ?_
      refine lv_ishl hx hb dX3_holdOrLeave_74 ?_
      refine lv_ior hx hb dX3_holdOrLeave_75 ?_
      refine lv_iload_n hx hb dX3_holdOrLeave_76 rfl (lv_at3 hl) ?_
      refine lv_iconst (v := 1) hx hb dX3_holdOrLeave_77 (by decide) ?_
      refine lv_iadd hx hb dX3_holdOrLeave_78 ?_
      refine lv_iload hx hb dX3_holdOrLeave_79 (lv_at4 hl) ?_
      refine vV (wr := []) hC hK hl hP hD hS hA (ihS j (by omega) h0 (wo ||| (1 <<< ((nI j) &&& 31))) (co + 1) 10 bb hd bo le1944 bi1945 hf kc0 km0 gk0946 kc1 km1 gk1947 kc2 km2 gk2948 kc3 km3 gk3949 kc4 km4 gk4950 kc5 km5 gk5951 kc6 km6 gk6952 kc7 km7 gk7953 kc8 km8 gk8954 kc9 km9 gk9955 kc10 km10 gk10956 kc11 km11 gk11957 kc12 km12 gk12958 bpersons bpapers bstamps bversions blines bsteps bsayings bfindings bwarnings bquestions td vd vl gp bstampsc kbstamps fbstamps (by omega) (by omega) (hh0) (hh1) (hh2) (hh3) (hh4) (hh5) (hh6) (hh7) (hh8) (hh9) (hh10) (hh11) (hh12)) si_X3_55 [0, 1, 2, 3, 4, 5, 6, 7, 8, 9, 10, 11, 12, 13, 14, 15, 16, 17, 18, 19, 20, 21, 22, 23, 24, 25, 26, 27, 28, 29, 30] [] sm_0_1_2_3_4_5_6_7_8_9_10_11_12_13_14_15_16_17_18_19_20_21_22_23_24_25_26_27_28_29_30 fm_0_1_2_3_4_5_6_7_8_9_10_11_12_13_14_15_16_17_18_19_20_21_22_23_24_25_26_27_28_29_30 nd_0_1_2_3_4_5_6_7_8_9_10_11_12_13_14_15_16_17_18_19_20_21_22_23_24_25_26_27_28_29_30 rfl rfl (by decide) rfl rfl rfl rfl rfl (Nat.le_of_ble_eq_true rfl) ⟨by simp only [RM]; omega, by simp only [RM]; omega⟩ ⟨Nat.le_of_ble_eq_true rfl, Nat.le_of_ble_eq_true rfl⟩ dX3_holdOrLeave_81 (Ktu15 fun le1961 bi1962 gk0963 gk1964 gk2965 gk3966 gk4967 gk5968 gk6969 gk7970 gk8971 gk9972 gk10973 gk11974 gk12975 => ?_)
      intro H locs hr959 hP hD hS
      try dsimp only at hr959
      refine Kpdr (ws := [(h0, oX3 bb hd bo le1961 bi1962), (hd, cA G 13 hf), (kc0, oX1 km0), (km0, iA G 36 gk0963), (kc1, oX1 km1), (km1, iA G 36 gk1964), (kc2, oX1 km2), (km2, iA G 36 gk2965), (kc3, oX1 km3), (km3, iA G 36 gk3966), (kc4, oX1 km4), (km4, iA G 36 gk4967), (kc5, oX1 km5), (km5, iA G 36 gk5968), (kc6, oX1 km6), (km6, iA G 36 gk6969), (kc7, oX1 km7), (km7, iA G 36 gk7970), (kc8, oX1 km8), (km8, iA G 36 gk8971), (kc9, oX1 km9), (km9, iA G 36 gk9972), (kc10, oX1 km10), (km10, iA G 36 gk10973), (kc11, oX1 km11), (km11, iA G 36 gk11974), (kc12, oX1 km12), (km12, iA G 36 gk12975), (bb, oX0 bpersons bpapers bstamps bversions blines bsteps bsayings bfindings bwarnings bquestions td vd vl gp), (bstamps, oX8 24 3 bstampsc (nI kbstamps)), (bstampsc, iA G 72 fbstamps)]) hP hD (fun hP hD => ?_)
      exact toQ hQ0 (RV hC hP hD hS [0, 1, 2, 3, 4, 5, 6, 7, 8, 9, 10, 11, 12, 13, 14, 15, 16, 17, 18, 19, 20, 21, 22, 23, 24, 25, 26, 27, 28, 29, 30] (le1961, bi1962, gk0963, gk1964, gk2965, gk3966, gk4967, gk5968, gk6969, gk7970, gk8971, gk9972, gk10973, gk11974, gk12975) rfl rfl (by decide) (trivial) dX3_holdOrLeave_84)
    · refine lv_if_eq (tgt := 67) hx hb dX3_holdOrLeave_51 (by decide) (fun _ => ?_) (fun c9 => absurd (by decide) c9)
      refine lv_aload_n hx hb dX3_holdOrLeave_67 rfl (lv_at0 hl) ?_
      refine lv_iload_n hx hb dX3_holdOrLeave_68 rfl (lv_at1 hl) ?_
      refine lv_iconst (v := 1) hx hb dX3_holdOrLeave_69 (by decide) ?_
      refine lv_isub hx hb dX3_holdOrLeave_70 ?_
      refine lv_iload_n hx hb dX3_holdOrLeave_71 rfl (lv_at2 hl) ?_
      refine lv_iconst (v := 1) hx hb dX3_holdOrLeave_72 (by decide) ?_
      refine lv_iload_n hx hb dX3_holdOrLeave_73 rfl (lv_at1 hl) ?_
      refine lv_ishl hx hb dX3_holdOrLeave_74 ?_
      refine lv_ior hx hb dX3_holdOrLeave_75 ?_
      refine lv_iload_n hx hb dX3_holdOrLeave_76 rfl (lv_at3 hl) ?_
      refine lv_iconst (v := 1) hx hb dX3_holdOrLeave_77 (by decide) ?_
      refine lv_iadd hx hb dX3_holdOrLeave_78 ?_
      refine lv_iload hx hb dX3_holdOrLeave_79 (lv_at4 hl) ?_
      refine vV (wr := []) hC hK hl hP hD hS hA (ihS j (by omega) h0 (wo ||| (1 <<< ((nI j) &&& 31))) (co + 1) 10 bb hd bo le bi hf kc0 km0 fk0 kc1 km1 fk1 kc2 km2 fk2 kc3 km3 fk3 kc4 km4 fk4 kc5 km5 fk5 kc6 km6 fk6 kc7 km7 fk7 kc8 km8 fk8 kc9 km9 fk9 kc10 km10 fk10 kc11 km11 gx940 kc12 km12 fk12 bpersons bpapers bstamps bversions blines bsteps bsayings bfindings bwarnings bquestions td vd vl gp bstampsc kbstamps fbstamps (by omega) (by omega) (hh0) (hh1) (hh2) (hh3) (hh4) (hh5) (hh6) (hh7) (hh8) (hh9) (hh10) (hh11) (hh12)) si_X3_55 [25, 0, 1, 2, 3, 4, 5, 6, 7, 8, 9, 10, 11, 12, 13, 14, 15, 16, 17, 18, 19, 20, 23, 24, 29, 30, 21, 22, 26, 27, 28] [] sm_25_0_1_2_3_4_5_6_7_8_9_10_11_12_13_14_15_16_17_18_19_20_23_24_29_30_21_22_26_27_28 fm_25_0_1_2_3_4_5_6_7_8_9_10_11_12_13_14_15_16_17_18_19_20_23_24_29_30_21_22_26_27_28 nd_25_0_1_2_3_4_5_6_7_8_9_10_11_12_13_14_15_16_17_18_19_20_23_24_29_30_21_22_26_27_28 rfl rfl (by decide) rfl rfl rfl rfl rfl (Nat.le_of_ble_eq_true rfl) ⟨by simp only [RM]; omega, by simp only [RM]; omega⟩ ⟨Nat.le_of_ble_eq_true rfl, Nat.le_of_ble_eq_true rfl⟩ dX3_holdOrLeave_81 (Ktu15 fun le1978 bi1979 gk0980 gk1981 gk2982 gk3983 gk4984 gk5985 gk6986 gk7987 gk8988 gk9989 gk10990 gk11991 gk12992 => ?_)
      intro H locs hr976 hP hD hS
      try dsimp only at hr976
      refine Kpdr (ws := [(h0, oX3 bb hd bo le1978 bi1979), (hd, cA G 13 hf), (kc0, oX1 km0), (km0, iA G 36 gk0980), (kc1, oX1 km1), (km1, iA G 36 gk1981), (kc2, oX1 km2), (km2, iA G 36 gk2982), (kc3, oX1 km3), (km3, iA G 36 gk3983), (kc4, oX1 km4), (km4, iA G 36 gk4984), (kc5, oX1 km5), (km5, iA G 36 gk5985), (kc6, oX1 km6), (km6, iA G 36 gk6986), (kc7, oX1 km7), (km7, iA G 36 gk7987), (kc8, oX1 km8), (km8, iA G 36 gk8988), (kc9, oX1 km9), (km9, iA G 36 gk9989), (kc10, oX1 km10), (km10, iA G 36 gk10990), (kc11, oX1 km11), (km11, iA G 36 gk11991), (kc12, oX1 km12), (km12, iA G 36 gk12992), (bb, oX0 bpersons bpapers bstamps bversions blines bsteps bsayings bfindings bwarnings bquestions td vd vl gp), (bstamps, oX8 24 3 bstampsc (nI kbstamps)), (bstampsc, iA G 72 fbstamps)]) hP hD (fun hP hD => ?_)
      exact toQ hQ0 (RV hC hP hD hS [0, 1, 2, 3, 4, 5, 6, 7, 8, 9, 10, 11, 12, 13, 14, 15, 16, 17, 18, 19, 20, 21, 22, 23, 24, 25, 26, 27, 28, 29, 30] (le1978, bi1979, gk0980, gk1981, gk2982, gk3983, gk4984, gk5985, gk6986, gk7987, gk8988, gk9989, gk10990, gk11991, gk12992) rfl rfl (by decide) (trivial) dX3_holdOrLeave_84)
  · have hl : lv_has ls 5 [(0, .ref h0), (1, .int (nI j)), (2, .int wo), (3, .int co), (4, .int 11)] := hl
    refine lv_iload hx hb dX3_holdOrLeave_0 (lv_at4 hl) ?_
    refine lv_if_lt (tgt := 17) hx hb dX3_holdOrLeave_2 (by decide) (fun c9 => absurd c9 (by decide)) (fun _ => ?_)
    refine lv_iload hx hb dX3_holdOrLeave_5 (lv_at4 hl) ?_
    refine lv_iconst (v := 1) hx hb dX3_holdOrLeave_7 (by decide) ?_
    refine lv_iadd hx hb dX3_holdOrLeave_8 ?_
    refine eqi (x1 := 12) (by decide) ?_
    refine lv_aload_n hx hb dX3_holdOrLeave_9 rfl (lv_at0 hl) ?_
    refine gf_X3_11 hC rfl hK hP 0 rfl rfl dX3_holdOrLeave_10 ?_
    refine va_alen (v := 13) hx hb hK.1 hP 1 1 rfl rfl (show Int32.ofNat 13 = 13 by decide) dX3_holdOrLeave_13 ?_
    refine lv_icmp_lt (tgt := 18) hx hb dX3_holdOrLeave_14 (by decide) (fun _ => ?_) (fun c9 => absurd (by decide) c9)
    refine lv_aload_n hx hb dX3_holdOrLeave_18 rfl (lv_at0 hl) ?_
    refine gf_X3_11 hC rfl hK hP 0 rfl rfl dX3_holdOrLeave_19 ?_
    refine lv_iload hx hb dX3_holdOrLeave_22 (lv_at4 hl) ?_
    refine lv_iconst (v := 1) hx hb dX3_holdOrLeave_24 (by decide) ?_
    refine lv_iadd hx hb dX3_holdOrLeave_25 ?_
    refine eqi (x1 := 12) (by decide) ?_
    refine aldC hC hK hP 1 rfl (vin (by decide +kernel)) (k := 12) (by decide +kernel) (v := kc12) (hh12) dX3_holdOrLeave_26 ?_
    refine lv_aload_n hx hb dX3_holdOrLeave_27 rfl (lv_at0 hl) ?_
    refine gf_X3_11 hC rfl hK hP 0 rfl rfl dX3_holdOrLeave_28 ?_
    refine lv_iload hx hb dX3_holdOrLeave_31 (lv_at4 hl) ?_
    refine aldC hC hK hP 1 rfl (vin (by decide +kernel)) (k := 11) (by decide +kernel) (v := kc11) (hh11) dX3_holdOrLeave_33 ?_
    refine vV (wr := [(h0, oX3 bb hd bo le bi), (hd, cA G 13 hf), (kc0, oX1 km0), (km0, iA G 36 fk0), (kc1, oX1 km1), (km1, iA G 36 fk1), (kc2, oX1 km2), (km2, iA G 36 fk2), (kc3, oX1 km3), (km3, iA G 36 fk3), (kc4, oX1 km4), (km4, iA G 36 fk4), (kc5, oX1 km5), (km5, iA G 36 fk5), (kc6, oX1 km6), (km6, iA G 36 fk6), (kc7, oX1 km7), (km7, iA G 36 fk7), (kc8, oX1 km8), (km8, iA G 36 fk8), (kc9, oX1 km9), (km9, iA G 36 fk9), (kc10, oX1 km10), (km10, iA G 36 fk10), (bb, oX0 bpersons bpapers bstamps bversions blines bsteps bsayings bfindings bwarnings bquestions td vd vl gp), (bstamps, oX8 24 3 bstampsc (nI kbstamps)), (bstampsc, iA G 72 fbstamps)]) hC hK hl hP hD hS hA (c_Cl_copy l G kc12 kc11 km12 fk12 km11 fk11) si_X3_62 [26, 27, 24, 25] [0, 1, 2, 3, 4, 5, 6, 7, 8, 9, 10, 11, 12, 13, 14, 15, 16, 17, 18, 19, 20, 21, 22, 23, 28, 29, 30] sm_26_27_24_25 fm_26_27_24_25 nd_26_27_24_25 sm_0_1_2_3_4_5_6_7_8_9_10_11_12_13_14_15_16_17_18_19_20_21_22_23_28_29_30 nd_0_1_2_3_4_5_6_7_8_9_10_11_12_13_14_15_16_17_18_19_20_21_22_23_28_29_30 dj_26_27_24_25__0_1_2_3_4_5_6_7_8_9_10_11_12_13_14_15_16_17_18_19_20_21_22_23_28_29_30 rfl rfl rfl rfl rfl (Nat.le_of_ble_eq_true rfl) ⟨by simp only [RM]; omega, by simp only [RM]; omega⟩ ⟨Nat.le_of_ble_eq_true rfl, Nat.le_of_ble_eq_true rfl⟩ dX3_holdOrLeave_34 (fun f1995 H locs hr993 hP hD hS => ?_)
    try dsimp only at hr993
    refine Kpdr (ws := [(h0, oX3 bb hd bo le bi), (hd, cA G 13 hf), (kc0, oX1 km0), (km0, iA G 36 fk0), (kc1, oX1 km1), (km1, iA G 36 fk1), (kc2, oX1 km2), (km2, iA G 36 fk2), (kc3, oX1 km3), (km3, iA G 36 fk3), (kc4, oX1 km4), (km4, iA G 36 fk4), (kc5, oX1 km5), (km5, iA G 36 fk5), (kc6, oX1 km6), (km6, iA G 36 fk6), (kc7, oX1 km7), (km7, iA G 36 fk7), (kc8, oX1 km8), (km8, iA G 36 fk8), (kc9, oX1 km9), (km9, iA G 36 fk9), (kc10, oX1 km10), (km10, iA G 36 fk10), (bb, oX0 bpersons bpapers bstamps bversions blines bsteps bsayings bfindings bwarnings bquestions td vd vl gp), (bstamps, oX8 24 3 bstampsc (nI kbstamps)), (bstampsc, iA G 72 fbstamps), (kc12, oX1 km12), (km12, iA G 36 f1995), (kc11, oX1 km11), (km11, iA G 36 fk11)]) hP hD (fun hP hD => ?_)
    refine lv_aload_n hx hb dX3_holdOrLeave_37 rfl (lv_at0 hl) ?_
    refine lv_iload_n hx hb dX3_holdOrLeave_38 rfl (lv_at1 hl) ?_
    refine lv_aload_n hx hb dX3_holdOrLeave_39 rfl (lv_at0 hl) ?_
    refine gf_X3_11 hC rfl hK hP 0 rfl rfl dX3_holdOrLeave_40 ?_
    refine lv_iload hx hb dX3_holdOrLeave_43 (lv_at4 hl) ?_
    refine lv_iconst (v := 1) hx hb dX3_holdOrLeave_45 (by decide) ?_
    refine lv_iadd hx hb dX3_holdOrLeave_46 ?_
    refine eqi (x1 := 12) (by decide) ?_
    refine aldC hC hK hP 1 rfl (vin (by decide +kernel)) (k := 12) (by decide +kernel) (v := kc12) (hh12) dX3_holdOrLeave_47 ?_
    refine iV (wr := [(hd, cA G 13 hf), (kc0, oX1 km0), (km0, iA G 36 fk0), (kc1, oX1 km1), (km1, iA G 36 fk1), (kc2, oX1 km2), (km2, iA G 36 fk2), (kc3, oX1 km3), (km3, iA G 36 fk3), (kc4, oX1 km4), (km4, iA G 36 fk4), (kc5, oX1 km5), (km5, iA G 36 fk5), (kc6, oX1 km6), (km6, iA G 36 fk6), (kc7, oX1 km7), (km7, iA G 36 fk7), (kc8, oX1 km8), (km8, iA G 36 fk8), (kc9, oX1 km9), (km9, iA G 36 fk9), (kc10, oX1 km10), (km10, iA G 36 fk10), (kc11, oX1 km11), (km11, iA G 36 fk11)]) hC hK hl hP hD hS hA (c_isRight l G h0 (nI j) kc12 bb hd bo le bi bpersons bpapers bstamps bversions blines bsteps bsayings bfindings bwarnings bquestions td vd vl gp bstampsc kbstamps fbstamps km12 f1995 (hkbstamps)) si_X3_66 [0, 24, 25, 26, 27, 28] [1, 2, 3, 4, 5, 6, 7, 8, 9, 10, 11, 12, 13, 14, 15, 16, 17, 18, 19, 20, 21, 22, 23, 29, 30] sm_0_24_25_26_27_28 fm_0_24_25_26_27_28 nd_0_24_25_26_27_28 sm_1_2_3_4_5_6_7_8_9_10_11_12_13_14_15_16_17_18_19_20_21_22_23_29_30 nd_1_2_3_4_5_6_7_8_9_10_11_12_13_14_15_16_17_18_19_20_21_22_23_29_30 dj_0_24_25_26_27_28__1_2_3_4_5_6_7_8_9_10_11_12_13_14_15_16_17_18_19_20_21_22_23_29_30 rfl rfl rfl rfl rfl (Nat.le_of_ble_eq_true rfl) ⟨by simp only [RM]; omega, by simp only [RM]; omega⟩ ⟨Nat.le_of_ble_eq_true rfl, Nat.le_of_ble_eq_true rfl⟩ dX3_holdOrLeave_48 (fun r996 gx998 H locs hr996 hP hD hS => ?_)
    try dsimp only at hr996
    refine Kpdr (ws := [(hd, cA G 13 hf), (kc0, oX1 km0), (km0, iA G 36 fk0), (kc1, oX1 km1), (km1, iA G 36 fk1), (kc2, oX1 km2), (km2, iA G 36 fk2), (kc3, oX1 km3), (km3, iA G 36 fk3), (kc4, oX1 km4), (km4, iA G 36 fk4), (kc5, oX1 km5), (km5, iA G 36 fk5), (kc6, oX1 km6), (km6, iA G 36 fk6), (kc7, oX1 km7), (km7, iA G 36 fk7), (kc8, oX1 km8), (km8, iA G 36 fk8), (kc9, oX1 km9), (km9, iA G 36 fk9), (kc10, oX1 km10), (km10, iA G 36 fk10), (kc11, oX1 km11), (km11, iA G 36 fk11), (h0, oX3 bb hd bo le bi), (bb, oX0 bpersons bpapers bstamps bversions blines bsteps bsayings bfindings bwarnings bquestions td vd vl gp), (bstamps, oX8 24 3 bstampsc (nI kbstamps)), (bstampsc, iA G 72 fbstamps), (kc12, oX1 km12), (km12, iA G 36 gx998)]) hP hD (fun hP hD => ?_)
    rcases hr996 with rfl | rfl
    · refine lv_if_eq (tgt := 67) hx hb dX3_holdOrLeave_51 (by decide) (fun c9 => absurd c9 (by decide)) (fun _ => ?_)
      refine lv_aload_n hx hb dX3_holdOrLeave_54 rfl (lv_at0 hl) ?_
      refine lv_iload_n hx hb dX3_holdOrLeave_55 rfl (lv_at1 hl) ?_
      refine lv_iconst (v := 1) hx hb dX3_holdOrLeave_56 (by decide) ?_
      refine lv_isub hx hb dX3_holdOrLeave_57 ?_
      refine lv_iload_n hx hb dX3_holdOrLeave_58 rfl (lv_at2 hl) ?_
      refine lv_iload_n hx hb dX3_holdOrLeave_59 rfl (lv_at3 hl) ?_
      refine lv_iload hx hb dX3_holdOrLeave_60 (lv_at4 hl) ?_
      refine lv_iconst (v := 1) hx hb dX3_holdOrLeave_62 (by decide) ?_
      refine lv_iadd hx hb dX3_holdOrLeave_63 ?_
      refine eqi (x1 := 12) (by decide) ?_
      refine vV (wr := []) hC hK hl hP hD hS hA (ihS j (by omega) h0 wo co 12 bb hd bo le bi hf kc0 km0 fk0 kc1 km1 fk1 kc2 km2 fk2 kc3 km3 fk3 kc4 km4 fk4 kc5 km5 fk5 kc6 km6 fk6 kc7 km7 fk7 kc8 km8 fk8 kc9 km9 fk9 kc10 km10 fk10 kc11 km11 fk11 kc12 km12 gx998 bpersons bpapers bstamps bversions blines bsteps bsayings bfindings bwarnings bquestions td vd vl gp bstampsc kbstamps fbstamps (by omega) (by omega) (hh0) (hh1) (hh2) (hh3) (hh4) (hh5) (hh6) (hh7) (hh8) (hh9) (hh10) (hh11) (hh12)) si_X3_55 [25, 0, 1, 2, 3, 4, 5, 6, 7, 8, 9, 10, 11, 12, 13, 14, 15, 16, 17, 18, 19, 20, 21, 22, 23, 24, 29, 30, 26, 27, 28] [] sm_25_0_1_2_3_4_5_6_7_8_9_10_11_12_13_14_15_16_17_18_19_20_21_22_23_24_29_30_26_27_28 fm_25_0_1_2_3_4_5_6_7_8_9_10_11_12_13_14_15_16_17_18_19_20_21_22_23_24_29_30_26_27_28 nd_25_0_1_2_3_4_5_6_7_8_9_10_11_12_13_14_15_16_17_18_19_20_21_22_23_24_29_30_26_27_28 rfl rfl (by decide) rfl rfl rfl rfl rfl (Nat.le_of_ble_eq_true rfl) ⟨by simp only [RM]; omega, by simp only [RM]; omega⟩ ⟨Nat.le_of_ble_eq_true rfl, Nat.le_of_ble_eq_true rfl⟩ dX3_holdOrLeave_64 (Ktu15 fun le11002 bi11003 gk01004 gk11005 gk21006 gk31007 gk41008 gk51009 gk61010 gk71011 gk81012 gk91013 gk101014 gk111015 gk121016 => ?_)
      intro H locs hr1000 hP hD hS
      try dsimp only at hr1000
      refine Kpdr (ws := [(h0, oX3 bb hd bo le11002 bi11003), (hd, cA G 13 hf), (kc0, oX1 km0), (km0, iA G 36 gk01004), (kc1, oX1 km1), (km1, iA G 36 gk11005), (kc2, oX1 km2), (km2, iA G 36 gk21006), (kc3, oX1 km3), (km3, iA G 36 gk31007), (kc4, oX1 km4), (km4, iA G 36 gk41008), (kc5, oX1 km5), (km5, iA G 36 gk51009), (kc6, oX1 km6), (km6, iA G 36 gk61010), (kc7, oX1 km7), (km7, iA G 36 gk71011), (kc8, oX1 km8), (km8, iA G 36 gk81012), (kc9, oX1 km9), (km9, iA G 36 gk91013), (kc10, oX1 km10), (km10, iA G 36 gk101014), (kc11, oX1 km11), (km11, iA G 36 gk111015), (kc12, oX1 km12), (km12, iA G 36 gk121016), (bb, oX0 bpersons bpapers bstamps bversions blines bsteps bsayings bfindings bwarnings bquestions td vd vl gp), (bstamps, oX8 24 3 bstampsc (nI kbstamps)), (bstampsc, iA G 72 fbstamps)]) hP hD (fun hP hD => ?_)
      refine lv_aload_n hx hb dX3_holdOrLeave_67 rfl (lv_at0 hl) ?_
      refine lv_iload_n hx hb dX3_holdOrLeave_68 rfl (lv_at1 hl) ?_
      refine lv_iconst (v := 1) hx hb dX3_holdOrLeave_69 (by decide) ?_
      refine lv_isub hx hb dX3_holdOrLeave_70 ?_
      refine lv_iload_n hx hb dX3_holdOrLeave_71 rfl (lv_at2 hl) ?_
      refine lv_iconst (v := 1) hx hb dX3_holdOrLeave_72 (by decide) ?_
      refine lv_iload_n hx hb dX3_holdOrLeave_73 rfl (lv_at1 hl) ?_
      refine lv_ishl hx hb dX3_holdOrLeave_74 ?_
      refine lv_ior hx hb dX3_holdOrLeave_75 ?_
      refine lv_iload_n hx hb dX3_holdOrLeave_76 rfl (lv_at3 hl) ?_
      refine lv_iconst (v := 1) hx hb dX3_holdOrLeave_77 (by decide) ?_
      refine lv_iadd hx hb dX3_holdOrLeave_78 ?_
      refine lv_iload hx hb dX3_holdOrLeave_79 (lv_at4 hl) ?_
      refine vV (wr := []) hC hK hl hP hD hS hA (ihS j (by omega) h0 (wo ||| (1 <<< ((nI j) &&& 31))) (co + 1) 11 bb hd bo le11002 bi11003 hf kc0 km0 gk01004 kc1 km1 gk11005 kc2 km2 gk21006 kc3 km3 gk31007 kc4 km4 gk41008 kc5 km5 gk51009 kc6 km6 gk61010 kc7 km7 gk71011 kc8 km8 gk81012 kc9 km9 gk91013 kc10 km10 gk101014 kc11 km11 gk111015 kc12 km12 gk121016 bpersons bpapers bstamps bversions blines bsteps bsayings bfindings bwarnings bquestions td vd vl gp bstampsc kbstamps fbstamps (by omega) (by omega) (hh0) (hh1) (hh2) (hh3) (hh4) (hh5) (hh6) (hh7) (hh8) (hh9) (hh10) (hh11) (hh12)) si_X3_55 [0, 1, 2, 3, 4, 5, 6, 7, 8, 9, 10, 11, 12, 13, 14, 15, 16, 17, 18, 19, 20, 21, 22, 23, 24, 25, 26, 27, 28, 29, 30] [] sm_0_1_2_3_4_5_6_7_8_9_10_11_12_13_14_15_16_17_18_19_20_21_22_23_24_25_26_27_28_29_30 fm_0_1_2_3_4_5_6_7_8_9_10_11_12_13_14_15_16_17_18_19_20_21_22_23_24_25_26_27_28_29_30 nd_0_1_2_3_4_5_6_7_8_9_10_11_12_13_14_15_16_17_18_19_20_21_22_23_24_25_26_27_28_29_30 rfl rfl (by decide) rfl rfl rfl rfl rfl (Nat.le_of_ble_eq_true rfl) ⟨by simp only [RM]; omega, by simp only [RM]; omega⟩ ⟨Nat.le_of_ble_eq_true rfl, Nat.le_of_ble_eq_true rfl⟩ dX3_holdOrLeave_81 (Ktu15 fun le11019 bi11020 gk01021 gk11022 gk21023 gk31024 gk41025 gk51026 gk61027 gk71028 gk81029 gk91030 gk101031 gk111032 gk121033 => ?_)
      intro H locs hr1017 hP hD hS
      try dsimp only at hr1017
      refine Kpdr (ws := [(h0, oX3 bb hd bo le11019 bi11020), (hd, cA G 13 hf), (kc0, oX1 km0), (km0, iA G 36 gk01021), (kc1, oX1 km1), (km1, iA G 36 gk11022), (kc2, oX1 km2), (km2, iA G 36 gk21023), (kc3, oX1 km3), (km3, iA G 36 gk31024), (kc4, oX1 km4), (km4, iA G 36 gk41025), (kc5, oX1 km5), (km5, iA G 36 gk51026), (kc6, oX1 km6), (km6, iA G 36 gk61027), (kc7, oX1 km7), (km7, iA G 36 gk71028), (kc8, oX1 km8), (km8, iA G 36 gk81029), (kc9, oX1 km9), (km9, iA G 36 gk91030), (kc10, oX1 km10), (km10, iA G 36 gk101031), (kc11, oX1 km11), (km11, iA G 36 gk111032), (kc12, oX1 km12), (km12, iA G 36 gk121033), (bb, oX0 bpersons bpapers bstamps bversions blines bsteps bsayings bfindings bwarnings bquestions td vd vl gp), (bstamps, oX8 24 3 bstampsc (nI kbstamps)), (bstampsc, iA G 72 fbstamps)]) hP hD (fun hP hD => ?_)
      exact toQ hQ0 (RV hC hP hD hS [0, 1, 2, 3, 4, 5, 6, 7, 8, 9, 10, 11, 12, 13, 14, 15, 16, 17, 18, 19, 20, 21, 22, 23, 24, 25, 26, 27, 28, 29, 30] (le11019, bi11020, gk01021, gk11022, gk21023, gk31024, gk41025, gk51026, gk61027, gk71028, gk81029, gk91030, gk101031, gk111032, gk121033) rfl rfl (by decide) (trivial) dX3_holdOrLeave_84)
    · refine lv_if_eq (tgt := 67) hx hb dX3_holdOrLeave_51 (by decide) (fun _ => ?_) (fun c9 => absurd (by decide) c9)
      refine lv_aload_n hx hb dX3_holdOrLeave_67 rfl (lv_at0 hl) ?_
      refine lv_iload_n hx hb dX3_holdOrLeave_68 rfl (lv_at1 hl) ?_
      refine lv_iconst (v := 1) hx hb dX3_holdOrLeave_69 (by decide) ?_
      refine lv_isub hx hb dX3_holdOrLeave_70 ?_
      refine lv_iload_n hx hb dX3_holdOrLeave_71 rfl (lv_at2 hl) ?_
      refine lv_iconst (v := 1) hx hb dX3_holdOrLeave_72 (by decide) ?_
      refine lv_iload_n hx hb dX3_holdOrLeave_73 rfl (lv_at1 hl) ?_
      refine lv_ishl hx hb dX3_holdOrLeave_74 ?_
      refine lv_ior hx hb dX3_holdOrLeave_75 ?_
      refine lv_iload_n hx hb dX3_holdOrLeave_76 rfl (lv_at3 hl) ?_
      refine lv_iconst (v := 1) hx hb dX3_holdOrLeave_77 (by decide) ?_
      refine lv_iadd hx hb dX3_holdOrLeave_78 ?_
      refine lv_iload hx hb dX3_holdOrLeave_79 (lv_at4 hl) ?_
      refine vV (wr := []) hC hK hl hP hD hS hA (ihS j (by omega) h0 (wo ||| (1 <<< ((nI j) &&& 31))) (co + 1) 11 bb hd bo le bi hf kc0 km0 fk0 kc1 km1 fk1 kc2 km2 fk2 kc3 km3 fk3 kc4 km4 fk4 kc5 km5 fk5 kc6 km6 fk6 kc7 km7 fk7 kc8 km8 fk8 kc9 km9 fk9 kc10 km10 fk10 kc11 km11 fk11 kc12 km12 gx998 bpersons bpapers bstamps bversions blines bsteps bsayings bfindings bwarnings bquestions td vd vl gp bstampsc kbstamps fbstamps (by omega) (by omega) (hh0) (hh1) (hh2) (hh3) (hh4) (hh5) (hh6) (hh7) (hh8) (hh9) (hh10) (hh11) (hh12)) si_X3_55 [25, 0, 1, 2, 3, 4, 5, 6, 7, 8, 9, 10, 11, 12, 13, 14, 15, 16, 17, 18, 19, 20, 21, 22, 23, 24, 29, 30, 26, 27, 28] [] sm_25_0_1_2_3_4_5_6_7_8_9_10_11_12_13_14_15_16_17_18_19_20_21_22_23_24_29_30_26_27_28 fm_25_0_1_2_3_4_5_6_7_8_9_10_11_12_13_14_15_16_17_18_19_20_21_22_23_24_29_30_26_27_28 nd_25_0_1_2_3_4_5_6_7_8_9_10_11_12_13_14_15_16_17_18_19_20_21_22_23_24_29_30_26_27_28 rfl rfl (by decide) rfl rfl rfl rfl rfl (Nat.le_of_ble_eq_true rfl) ⟨by simp only [RM]; omega, by simp only [RM]; omega⟩ ⟨Nat.le_of_ble_eq_true rfl, Nat.le_of_ble_eq_true rfl⟩ dX3_holdOrLeave_81 (Ktu15 fun le11036 bi11037 gk01038 gk11039 gk21040 gk31041 gk41042 gk51043 gk61044 gk71045 gk81046 gk91047 gk101048 gk111049 gk121050 => ?_)
      intro H locs hr1034 hP hD hS
      try dsimp only at hr1034
      refine Kpdr (ws := [(h0, oX3 bb hd bo le11036 bi11037), (hd, cA G 13 hf), (kc0, oX1 km0), (km0, iA G 36 gk01038), (kc1, oX1 km1), (km1, iA G 36 gk11039), (kc2, oX1 km2), (km2, iA G 36 gk21040), (kc3, oX1 km3), (km3, iA G 36 gk31041), (kc4, oX1 km4), (km4, iA G 36 gk41042), (kc5, oX1 km5), (km5, iA G 36 gk51043), (kc6, oX1 km6), (km6, iA G 36 gk61044), (kc7, oX1 km7), (km7, iA G 36 gk71045), (kc8, oX1 km8), (km8, iA G 36 gk81046), (kc9, oX1 km9), (km9, iA G 36 gk91047), (kc10, oX1 km10), (km10, iA G 36 gk101048), (kc11, oX1 km11), (km11, iA G 36 gk111049), (kc12, oX1 km12), (km12, iA G 36 gk121050), (bb, oX0 bpersons bpapers bstamps bversions blines bsteps bsayings bfindings bwarnings bquestions td vd vl gp), (bstamps, oX8 24 3 bstampsc (nI kbstamps)), (bstampsc, iA G 72 fbstamps)]) hP hD (fun hP hD => ?_)
      exact toQ hQ0 (RV hC hP hD hS [0, 1, 2, 3, 4, 5, 6, 7, 8, 9, 10, 11, 12, 13, 14, 15, 16, 17, 18, 19, 20, 21, 22, 23, 24, 25, 26, 27, 28, 29, 30] (le11036, bi11037, gk01038, gk11039, gk21040, gk31041, gk41042, gk51043, gk61044, gk71045, gk81046, gk91047, gk101048, gk111049, gk121050) rfl rfl (by decide) (trivial) dX3_holdOrLeave_84)
  · have hl : lv_has ls 5 [(0, .ref h0), (1, .int (nI j)), (2, .int wo), (3, .int co), (4, .int 12)] := hl
    refine lv_iload hx hb dX3_holdOrLeave_0 (lv_at4 hl) ?_
    refine lv_if_lt (tgt := 17) hx hb dX3_holdOrLeave_2 (by decide) (fun c9 => absurd c9 (by decide)) (fun _ => ?_)
    refine lv_iload hx hb dX3_holdOrLeave_5 (lv_at4 hl) ?_
    refine lv_iconst (v := 1) hx hb dX3_holdOrLeave_7 (by decide) ?_
    refine lv_iadd hx hb dX3_holdOrLeave_8 ?_
    refine eqi (x1 := 13) (by decide) ?_
    refine lv_aload_n hx hb dX3_holdOrLeave_9 rfl (lv_at0 hl) ?_
    refine gf_X3_11 hC rfl hK hP 0 rfl rfl dX3_holdOrLeave_10 ?_
    refine va_alen (v := 13) hx hb hK.1 hP 1 1 rfl rfl (show Int32.ofNat 13 = 13 by decide) dX3_holdOrLeave_13 ?_
    refine lv_icmp_lt (tgt := 18) hx hb dX3_holdOrLeave_14 (by decide) (fun c9 => absurd c9 (by decide)) (fun _ => ?_)
    exact toQ hQ0 (RV hC hP hD hS [0, 1, 2, 3, 4, 5, 6, 7, 8, 9, 10, 11, 12, 13, 14, 15, 16, 17, 18, 19, 20, 21, 22, 23, 24, 25, 26, 27, 28, 29, 30] (le, bi, fk0, fk1, fk2, fk3, fk4, fk5, fk6, fk7, fk8, fk9, fk10, fk11, fk12) rfl rfl (by decide) (trivial) dX3_holdOrLeave_17)
def K_c_search_step (l : Launch) (G : GG) (mn : Nat) (h0 : Nat) (wo : Int32) (co : Int32) (lv : Nat) (bb : Nat) (hd : Nat) (bo : Int32) (le : Int32) (bi : Int32) (hf : Nat → Option Nat) (kc0 : Nat) (km0 : Nat) (fk0 : Nat → Int32) (kc1 : Nat) (km1 : Nat) (fk1 : Nat → Int32) (kc2 : Nat) (km2 : Nat) (fk2 : Nat → Int32) (kc3 : Nat) (km3 : Nat) (fk3 : Nat → Int32) (kc4 : Nat) (km4 : Nat) (fk4 : Nat → Int32) (kc5 : Nat) (km5 : Nat) (fk5 : Nat → Int32) (kc6 : Nat) (km6 : Nat) (fk6 : Nat → Int32) (kc7 : Nat) (km7 : Nat) (fk7 : Nat → Int32) (kc8 : Nat) (km8 : Nat) (fk8 : Nat → Int32) (kc9 : Nat) (km9 : Nat) (fk9 : Nat → Int32) (kc10 : Nat) (km10 : Nat) (fk10 : Nat → Int32) (kc11 : Nat) (km11 : Nat) (fk11 : Nat → Int32) (kc12 : Nat) (km12 : Nat) (fk12 : Nat → Int32) (bpersons : Nat) (bpapers : Nat) (bstamps : Nat) (bversions : Nat) (blines : Nat) (bsteps : Nat) (bsayings : Nat) (bfindings : Nat) (bwarnings : Nat) (bquestions : Nat) (td : Int32) (vd : Int32) (vl : Int32) (gp : Int32) (bstampsc : Nat) (kbstamps : Nat) (fbstamps : Nat → Int32) : Prop := MV l G yX3_search cX3_search 6 (6 + 2 * mn) 0 0 [.ref h0, .int (nI mn - 1), .int wo, .int co, .int (nI lv)] [(h0, oX3 bb hd bo le bi), (hd, cA G 13 hf), (kc0, oX1 km0), (km0, iA G 36 fk0), (kc1, oX1 km1), (km1, iA G 36 fk1), (kc2, oX1 km2), (km2, iA G 36 fk2), (kc3, oX1 km3), (km3, iA G 36 fk3), (kc4, oX1 km4), (km4, iA G 36 fk4), (kc5, oX1 km5), (km5, iA G 36 fk5), (kc6, oX1 km6), (km6, iA G 36 fk6), (kc7, oX1 km7), (km7, iA G 36 fk7), (kc8, oX1 km8), (km8, iA G 36 fk8), (kc9, oX1 km9), (km9, iA G 36 fk9), (kc10, oX1 km10), (km10, iA G 36 fk10), (kc11, oX1 km11), (km11, iA G 36 fk11), (kc12, oX1 km12), (km12, iA G 36 fk12), (bb, oX0 bpersons bpapers bstamps bversions blines bsteps bsayings bfindings bwarnings bquestions td vd vl gp), (bstamps, oX8 24 3 bstampsc (nI kbstamps)), (bstampsc, iA G 72 fbstamps)] (fun u : Int32 × Int32 × (Nat → Int32) × (Nat → Int32) × (Nat → Int32) × (Nat → Int32) × (Nat → Int32) × (Nat → Int32) × (Nat → Int32) × (Nat → Int32) × (Nat → Int32) × (Nat → Int32) × (Nat → Int32) × (Nat → Int32) × (Nat → Int32) => True) (fun u : Int32 × Int32 × (Nat → Int32) × (Nat → Int32) × (Nat → Int32) × (Nat → Int32) × (Nat → Int32) × (Nat → Int32) × (Nat → Int32) × (Nat → Int32) × (Nat → Int32) × (Nat → Int32) × (Nat → Int32) × (Nat → Int32) × (Nat → Int32) => [(h0, oX3 bb hd bo u.1 u.2.1), (hd, cA G 13 hf), (kc0, oX1 km0), (km0, iA G 36 u.2.2.1), (kc1, oX1 km1), (km1, iA G 36 u.2.2.2.1), (kc2, oX1 km2), (km2, iA G 36 u.2.2.2.2.1), (kc3, oX1 km3), (km3, iA G 36 u.2.2.2.2.2.1), (kc4, oX1 km4), (km4, iA G 36 u.2.2.2.2.2.2.1), (kc5, oX1 km5), (km5, iA G 36 u.2.2.2.2.2.2.2.1), (kc6, oX1 km6), (km6, iA G 36 u.2.2.2.2.2.2.2.2.1), (kc7, oX1 km7), (km7, iA G 36 u.2.2.2.2.2.2.2.2.2.1), (kc8, oX1 km8), (km8, iA G 36 u.2.2.2.2.2.2.2.2.2.2.1), (kc9, oX1 km9), (km9, iA G 36 u.2.2.2.2.2.2.2.2.2.2.2.1), (kc10, oX1 km10), (km10, iA G 36 u.2.2.2.2.2.2.2.2.2.2.2.2.1), (kc11, oX1 km11), (km11, iA G 36 u.2.2.2.2.2.2.2.2.2.2.2.2.2.1), (kc12, oX1 km12), (km12, iA G 36 u.2.2.2.2.2.2.2.2.2.2.2.2.2.2), (bb, oX0 bpersons bpapers bstamps bversions blines bsteps bsayings bfindings bwarnings bquestions td vd vl gp), (bstamps, oX8 24 3 bstampsc (nI kbstamps)), (bstampsc, iA G 72 fbstamps)])
set_option maxHeartbeats 4000000 in
set_option maxRecDepth 100000 in
theorem c_search_step (l : Launch) (G : GG) (mn : Nat) (h0 : Nat) (wo : Int32) (co : Int32) (lv : Nat) (bb : Nat) (hd : Nat) (bo : Int32) (le : Int32) (bi : Int32) (hf : Nat → Option Nat) (kc0 : Nat) (km0 : Nat) (fk0 : Nat → Int32) (kc1 : Nat) (km1 : Nat) (fk1 : Nat → Int32) (kc2 : Nat) (km2 : Nat) (fk2 : Nat → Int32) (kc3 : Nat) (km3 : Nat) (fk3 : Nat → Int32) (kc4 : Nat) (km4 : Nat) (fk4 : Nat → Int32) (kc5 : Nat) (km5 : Nat) (fk5 : Nat → Int32) (kc6 : Nat) (km6 : Nat) (fk6 : Nat → Int32) (kc7 : Nat) (km7 : Nat) (fk7 : Nat → Int32) (kc8 : Nat) (km8 : Nat) (fk8 : Nat → Int32) (kc9 : Nat) (km9 : Nat) (fk9 : Nat → Int32) (kc10 : Nat) (km10 : Nat) (fk10 : Nat → Int32) (kc11 : Nat) (km11 : Nat) (fk11 : Nat → Int32) (kc12 : Nat) (km12 : Nat) (fk12 : Nat → Int32) (bpersons : Nat) (bpapers : Nat) (bstamps : Nat) (bversions : Nat) (blines : Nat) (bsteps : Nat) (bsayings : Nat) (bfindings : Nat) (bwarnings : Nat) (bquestions : Nat) (td : Int32) (vd : Int32) (vl : Int32) (gp : Int32) (bstampsc : Nat) (kbstamps : Nat) (fbstamps : Nat → Int32) (hm : mn ≤ 12) (hkbstamps : kbstamps ≤ 24) (hlv : lv ≤ 12) (hh0 : hf 0 = some kc0) (hh1 : hf 1 = some kc1) (hh2 : hf 2 = some kc2) (hh3 : hf 3 = some kc3) (hh4 : hf 4 = some kc4) (hh5 : hf 5 = some kc5) (hh6 : hf 6 = some kc6) (hh7 : hf 7 = some kc7) (hh8 : hf 8 = some kc8) (hh9 : hf 9 = some kc9) (hh10 : hf 10 = some kc10) (hh11 : hf 11 = some kc11) (hh12 : hf 12 = some kc12) (ihS : ∀ m9, m9 < mn → ∀ (h0 : Nat) (wo : Int32) (co : Int32) (lv : Nat) (bb : Nat) (hd : Nat) (bo : Int32) (le : Int32) (bi : Int32) (hf : Nat → Option Nat) (kc0 : Nat) (km0 : Nat) (fk0 : Nat → Int32) (kc1 : Nat) (km1 : Nat) (fk1 : Nat → Int32) (kc2 : Nat) (km2 : Nat) (fk2 : Nat → Int32) (kc3 : Nat) (km3 : Nat) (fk3 : Nat → Int32) (kc4 : Nat) (km4 : Nat) (fk4 : Nat → Int32) (kc5 : Nat) (km5 : Nat) (fk5 : Nat → Int32) (kc6 : Nat) (km6 : Nat) (fk6 : Nat → Int32) (kc7 : Nat) (km7 : Nat) (fk7 : Nat → Int32) (kc8 : Nat) (km8 : Nat) (fk8 : Nat → Int32) (kc9 : Nat) (km9 : Nat) (fk9 : Nat → Int32) (kc10 : Nat) (km10 : Nat) (fk10 : Nat → Int32) (kc11 : Nat) (km11 : Nat) (fk11 : Nat → Int32) (kc12 : Nat) (km12 : Nat) (fk12 : Nat → Int32) (bpersons : Nat) (bpapers : Nat) (bstamps : Nat) (bversions : Nat) (blines : Nat) (bsteps : Nat) (bsayings : Nat) (bfindings : Nat) (bwarnings : Nat) (bquestions : Nat) (td : Int32) (vd : Int32) (vl : Int32) (gp : Int32) (bstampsc : Nat) (kbstamps : Nat) (fbstamps : Nat → Int32) (hkbstamps : kbstamps ≤ 24) (hlv : lv ≤ 12) (hh0 : hf 0 = some kc0) (hh1 : hf 1 = some kc1) (hh2 : hf 2 = some kc2) (hh3 : hf 3 = some kc3) (hh4 : hf 4 = some kc4) (hh5 : hf 5 = some kc5) (hh6 : hf 6 = some kc6) (hh7 : hf 7 = some kc7) (hh8 : hf 8 = some kc8) (hh9 : hf 9 = some kc9) (hh10 : hf 10 = some kc10) (hh11 : hf 11 = some kc11) (hh12 : hf 12 = some kc12), MV l G yX3_search cX3_search 6 (6 + 2 * m9) 0 0 [.ref h0, .int (nI m9 - 1), .int wo, .int co, .int (nI lv)] [(h0, oX3 bb hd bo le bi), (hd, cA G 13 hf), (kc0, oX1 km0), (km0, iA G 36 fk0), (kc1, oX1 km1), (km1, iA G 36 fk1), (kc2, oX1 km2), (km2, iA G 36 fk2), (kc3, oX1 km3), (km3, iA G 36 fk3), (kc4, oX1 km4), (km4, iA G 36 fk4), (kc5, oX1 km5), (km5, iA G 36 fk5), (kc6, oX1 km6), (km6, iA G 36 fk6), (kc7, oX1 km7), (km7, iA G 36 fk7), (kc8, oX1 km8), (km8, iA G 36 fk8), (kc9, oX1 km9), (km9, iA G 36 fk9), (kc10, oX1 km10), (km10, iA G 36 fk10), (kc11, oX1 km11), (km11, iA G 36 fk11), (kc12, oX1 km12), (km12, iA G 36 fk12), (bb, oX0 bpersons bpapers bstamps bversions blines bsteps bsayings bfindings bwarnings bquestions td vd vl gp), (bstamps, oX8 24 3 bstampsc (nI kbstamps)), (bstampsc, iA G 72 fbstamps)] (fun u : Int32 × Int32 × (Nat → Int32) × (Nat → Int32) × (Nat → Int32) × (Nat → Int32) × (Nat → Int32) × (Nat → Int32) × (Nat → Int32) × (Nat → Int32) × (Nat → Int32) × (Nat → Int32) × (Nat → Int32) × (Nat → Int32) × (Nat → Int32) => True) (fun u : Int32 × Int32 × (Nat → Int32) × (Nat → Int32) × (Nat → Int32) × (Nat → Int32) × (Nat → Int32) × (Nat → Int32) × (Nat → Int32) × (Nat → Int32) × (Nat → Int32) × (Nat → Int32) × (Nat → Int32) × (Nat → Int32) × (Nat → Int32) => [(h0, oX3 bb hd bo u.1 u.2.1), (hd, cA G 13 hf), (kc0, oX1 km0), (km0, iA G 36 u.2.2.1), (kc1, oX1 km1), (km1, iA G 36 u.2.2.2.1), (kc2, oX1 km2), (km2, iA G 36 u.2.2.2.2.1), (kc3, oX1 km3), (km3, iA G 36 u.2.2.2.2.2.1), (kc4, oX1 km4), (km4, iA G 36 u.2.2.2.2.2.2.1), (kc5, oX1 km5), (km5, iA G 36 u.2.2.2.2.2.2.2.1), (kc6, oX1 km6), (km6, iA G 36 u.2.2.2.2.2.2.2.2.1), (kc7, oX1 km7), (km7, iA G 36 u.2.2.2.2.2.2.2.2.2.1), (kc8, oX1 km8), (km8, iA G 36 u.2.2.2.2.2.2.2.2.2.2.1), (kc9, oX1 km9), (km9, iA G 36 u.2.2.2.2.2.2.2.2.2.2.2.1), (kc10, oX1 km10), (km10, iA G 36 u.2.2.2.2.2.2.2.2.2.2.2.2.1), (kc11, oX1 km11), (km11, iA G 36 u.2.2.2.2.2.2.2.2.2.2.2.2.2.1), (kc12, oX1 km12), (km12, iA G 36 u.2.2.2.2.2.2.2.2.2.2.2.2.2.2), (bb, oX0 bpersons bpapers bstamps bversions blines bsteps bsayings bfindings bwarnings bquestions td vd vl gp), (bstamps, oX8 24 3 bstampsc (nI kbstamps)), (bstampsc, iA G 72 fbstamps)])) : K_c_search_step l G mn h0 wo co lv bb hd bo le bi hf kc0 km0 fk0 kc1 km1 fk1 kc2 km2 fk2 kc3 km3 fk3 kc4 km4 fk4 kc5 km5 fk5 kc6 km6 fk6 kc7 km7 fk7 kc8 km8 fk8 kc9 km9 fk9 kc10 km10 fk10 kc11 km11 fk11 kc12 km12 fk12 bpersons bpapers bstamps bversions blines bsteps bsayings bfindings bwarnings bquestions td vd vl gp bstampsc kbstamps fbstamps := by
  refine MV.start (by decide +kernel) (Nat.le_of_ble_eq_true rfl) ?_
  intro p e s m below meth c A ls hC hK hP hD hS hA hl
  refine absQ (fun Q0 hQ0 => ?_)
  have hl : lv_has ls 6 [(0, .ref h0), (1, .int (nI mn - 1)), (2, .int wo), (3, .int co), (4, .int (nI lv))] := hl
  refine Kan8 hC (fun hx hb hr hml hB hown hlocks hnm => ?_)
  refine lv_iload_n hx hb dX3_search_0 rfl (lv_at3 hl) ?_
  refine lv_aload_n hx hb dX3_search_1 rfl (lv_at0 hl) ?_
  refine gf_X3_26 hC rfl hK hP 0 rfl rfl dX3_search_2 ?_
  refine lv_icmp_lt (tgt := 9) hx hb dX3_search_5 (by decide) (fun c_5_1051 => ?_) (fun c_5_1051 => ?_)
  · refine lv_iload_n hx hb dX3_search_9 rfl (lv_at1 hl) ?_
    refine lv_istore (lv' := [(5, .int (nI mn - 1)), (0, .ref h0), (1, .int (nI mn - 1)), (2, .int wo), (3, .int co), (4, .int (nI lv))]) hx hb dX3_search_10 hl (by decide) rfl (fun ls hl => ?_)
    have keyJ : ∀ (j : Nat), j ≤ mn → ∀ (ls : Array Slot), lv_has ls 6 [(5, .int (nI j - 1)), (0, .ref h0), (1, .int (nI mn - 1)), (2, .int wo), (3, .int co), (4, .int (nI lv))] → W p l e (RM (6 + 2 * mn) 0 0) s m ([.ref h0, .int (nI mn - 1), .int wo, .int co, .int (nI lv)] : List Value).toArray below meth c s.heap [] 0 0 Q0 (F0 m 12 ls []) := by
      intro j
      induction j with
      | zero =>
        intro hj ls hl
        have hl : lv_has ls 6 [(5, .int (-1)), (0, .ref h0), (1, .int (nI mn - 1)), (2, .int wo), (3, .int co), (4, .int (nI lv))] := hl
        refine lv_iload hx hb dX3_search_12 (lv_at0 hl) ?_
        refine lv_if_lt (tgt := 35) hx hb dX3_search_14 (by decide) (fun _ => ?_) (fun c9 => absurd (by decide) c9)
        refine lv_iload hx hb dX3_search_35 (lv_at0 hl) ?_
        refine lv_if_ge (tgt := 53) hx hb dX3_search_37 (by decide) (fun c9 => absurd c9 (by decide)) (fun _ => ?_)
        refine lv_aload_n hx hb dX3_search_40 rfl (lv_at1 hl) ?_
        refine lv_iload_n hx hb dX3_search_41 rfl (lv_at4 hl) ?_
        refine pf_X3_26 hC rfl hK hP hD hS 0 (ws' := [(h0, oX3 bb hd bo co bi), (hd, cA G 13 hf), (kc0, oX1 km0), (km0, iA G 36 fk0), (kc1, oX1 km1), (km1, iA G 36 fk1), (kc2, oX1 km2), (km2, iA G 36 fk2), (kc3, oX1 km3), (km3, iA G 36 fk3), (kc4, oX1 km4), (km4, iA G 36 fk4), (kc5, oX1 km5), (km5, iA G 36 fk5), (kc6, oX1 km6), (km6, iA G 36 fk6), (kc7, oX1 km7), (km7, iA G 36 fk7), (kc8, oX1 km8), (km8, iA G 36 fk8), (kc9, oX1 km9), (km9, iA G 36 fk9), (kc10, oX1 km10), (km10, iA G 36 fk10), (kc11, oX1 km11), (km11, iA G 36 fk11), (kc12, oX1 km12), (km12, iA G 36 fk12), (bb, oX0 bpersons bpapers bstamps bversions blines bsteps bsayings bfindings bwarnings bquestions td vd vl gp), (bstamps, oX8 24 3 bstampsc (nI kbstamps)), (bstampsc, iA G 72 fbstamps)]) rfl (Nat.le_of_ble_eq_true rfl) rfl rfl rfl dX3_search_42 (fun H locs hP hD hS => ?_)
        refine lv_aload_n hx hb dX3_search_45 rfl (lv_at1 hl) ?_
        refine lv_iload_n hx hb dX3_search_46 rfl (lv_at3 hl) ?_
        refine pf_X3_29 hC rfl hK hP hD hS 0 (ws' := [(h0, oX3 bb hd bo co wo), (hd, cA G 13 hf), (kc0, oX1 km0), (km0, iA G 36 fk0), (kc1, oX1 km1), (km1, iA G 36 fk1), (kc2, oX1 km2), (km2, iA G 36 fk2), (kc3, oX1 km3), (km3, iA G 36 fk3), (kc4, oX1 km4), (km4, iA G 36 fk4), (kc5, oX1 km5), (km5, iA G 36 fk5), (kc6, oX1 km6), (km6, iA G 36 fk6), (kc7, oX1 km7), (km7, iA G 36 fk7), (kc8, oX1 km8), (km8, iA G 36 fk8), (kc9, oX1 km9), (km9, iA G 36 fk9), (kc10, oX1 km10), (km10, iA G 36 fk10), (kc11, oX1 km11), (km11, iA G 36 fk11), (kc12, oX1 km12), (km12, iA G 36 fk12), (bb, oX0 bpersons bpapers bstamps bversions blines bsteps bsayings bfindings bwarnings bquestions td vd vl gp), (bstamps, oX8 24 3 bstampsc (nI kbstamps)), (bstampsc, iA G 72 fbstamps)]) rfl (Nat.le_of_ble_eq_true rfl) rfl rfl rfl dX3_search_47 (fun H locs hP hD hS => ?_)
        refine lv_goto (tgt := 63) hx hb dX3_search_50 (by decide) ?_
        exact toQ hQ0 (RV hC hP hD hS [0, 1, 2, 3, 4, 5, 6, 7, 8, 9, 10, 11, 12, 13, 14, 15, 16, 17, 18, 19, 20, 21, 22, 23, 24, 25, 26, 27, 28, 29, 30] (co, wo, fk0, fk1, fk2, fk3, fk4, fk5, fk6, fk7, fk8, fk9, fk10, fk11, fk12) rfl rfl (by decide) (trivial) dX3_search_63)
      | succ j ihJ =>
        intro hj ls hl
        have hl : lv_has ls 6 [(5, .int (nI j)), (0, .ref h0), (1, .int (nI mn - 1)), (2, .int wo), (3, .int co), (4, .int (nI lv))] := by rw [nI_sub1] at hl; exact hl
        refine lv_iload hx hb dX3_search_12 (lv_at0 hl) ?_
        refine lv_if_lt (tgt := 35) hx hb dX3_search_14 (by decide) (fun c9 => absurd c9 (nI_pos (by omega))) (fun _ => ?_)
        refine lv_aload_n hx hb dX3_search_17 rfl (lv_at1 hl) ?_
        refine gf_X3_22 hC rfl hK hP 0 rfl rfl dX3_search_18 ?_
        refine lv_iload hx hb dX3_search_21 (lv_at0 hl) ?_
        refine pSN hC hK hl (c_hasBit l G bo (nI j)) si_X3_44 rfl rfl (Nat.le_of_ble_eq_true rfl) ⟨by simp only [RM]; omega, by simp only [RM]; omega⟩ ⟨by first | exact Nat.le_of_ble_eq_true rfl | exact Nat.zero_le _, by first | exact Nat.le_of_ble_eq_true rfl | exact Nat.zero_le _⟩ dX3_search_23 (Kors (Keqa fun a1053 => ?_) (Keqa fun a1053 => ?_))
        · refine lv_if_ne (tgt := 35) hx hb dX3_search_26 (by decide) (fun _ => ?_) (fun c9 => absurd c9 (by decide))
          refine lv_iload hx hb dX3_search_35 (lv_at0 hl) ?_
          refine lv_if_ge (tgt := 53) hx hb dX3_search_37 (by decide) (fun _ => ?_) (fun c9 => absurd (nI_pos' (by omega)) c9)
          refine lv_aload_n hx hb dX3_search_53 rfl (lv_at1 hl) ?_
          refine lv_iload hx hb dX3_search_54 (lv_at0 hl) ?_
          refine lv_iload_n hx hb dX3_search_56 rfl (lv_at3 hl) ?_
          refine lv_iload_n hx hb dX3_search_57 rfl (lv_at4 hl) ?_
          refine lv_iload hx hb dX3_search_58 (lv_at5 hl) ?_
          refine vV (wr := []) hC hK hl hP hD hS hA (c_hold l G mn j h0 wo co lv bb hd bo le bi hf kc0 km0 fk0 kc1 km1 fk1 kc2 km2 fk2 kc3 km3 fk3 kc4 km4 fk4 kc5 km5 fk5 kc6 km6 fk6 kc7 km7 fk7 kc8 km8 fk8 kc9 km9 fk9 kc10 km10 fk10 kc11 km11 fk11 kc12 km12 fk12 bpersons bpapers bstamps bversions blines bsteps bsayings bfindings bwarnings bquestions td vd vl gp bstampsc kbstamps fbstamps (by omega) (by omega) (by omega) (hh0) (hh1) (hh2) (hh3) (hh4) (hh5) (hh6) (hh7) (hh8) (hh9) (hh10) (hh11) (hh12) ihS) si_X3_59 [0, 1, 2, 3, 4, 5, 6, 7, 8, 9, 10, 11, 12, 13, 14, 15, 16, 17, 18, 19, 20, 21, 22, 23, 24, 25, 26, 27, 28, 29, 30] [] sm_0_1_2_3_4_5_6_7_8_9_10_11_12_13_14_15_16_17_18_19_20_21_22_23_24_25_26_27_28_29_30 fm_0_1_2_3_4_5_6_7_8_9_10_11_12_13_14_15_16_17_18_19_20_21_22_23_24_25_26_27_28_29_30 nd_0_1_2_3_4_5_6_7_8_9_10_11_12_13_14_15_16_17_18_19_20_21_22_23_24_25_26_27_28_29_30 rfl rfl (by decide) rfl rfl rfl rfl rfl (Nat.le_of_ble_eq_true rfl) ⟨by simp only [RM]; omega, by simp only [RM]; omega⟩ ⟨Nat.le_of_ble_eq_true rfl, Nat.le_of_ble_eq_true rfl⟩ dX3_search_60 (Ktu15 fun le11056 bi11057 gk01058 gk11059 gk21060 gk31061 gk41062 gk51063 gk61064 gk71065 gk81066 gk91067 gk101068 gk111069 gk121070 => ?_)
          intro H locs hr1054 hP hD hS
          try dsimp only at hr1054
          refine Kpdr (ws := [(h0, oX3 bb hd bo le11056 bi11057), (hd, cA G 13 hf), (kc0, oX1 km0), (km0, iA G 36 gk01058), (kc1, oX1 km1), (km1, iA G 36 gk11059), (kc2, oX1 km2), (km2, iA G 36 gk21060), (kc3, oX1 km3), (km3, iA G 36 gk31061), (kc4, oX1 km4), (km4, iA G 36 gk41062), (kc5, oX1 km5), (km5, iA G 36 gk51063), (kc6, oX1 km6), (km6, iA G 36 gk61064), (kc7, oX1 km7), (km7, iA G 36 gk71065), (kc8, oX1 km8), (km8, iA G 36 gk81066), (kc9, oX1 km9), (km9, iA G 36 gk91067), (kc10, oX1 km10), (km10, iA G 36 gk101068), (kc11, oX1 km11), (km11, iA G 36 gk111069), (kc12, oX1 km12), (km12, iA G 36 gk121070), (bb, oX0 bpersons bpapers bstamps bversions blines bsteps bsayings bfindings bwarnings bquestions td vd vl gp), (bstamps, oX8 24 3 bstampsc (nI kbstamps)), (bstampsc, iA G 72 fbstamps)]) hP hD (fun hP hD => ?_)
          exact toQ hQ0 (RV hC hP hD hS [0, 1, 2, 3, 4, 5, 6, 7, 8, 9, 10, 11, 12, 13, 14, 15, 16, 17, 18, 19, 20, 21, 22, 23, 24, 25, 26, 27, 28, 29, 30] (le11056, bi11057, gk01058, gk11059, gk21060, gk31061, gk41062, gk51063, gk61064, gk71065, gk81066, gk91067, gk101068, gk111069, gk121070) rfl rfl (by decide) (trivial) dX3_search_63)
        · refine lv_if_ne (tgt := 35) hx hb dX3_search_26 (by decide) (fun c9 => absurd (by decide) c9) (fun _ => ?_)
          refine lv_iinc (v := nI j - 1) (lv' := [(5, .int (nI j - 1)), (0, .ref h0), (1, .int (nI mn - 1)), (2, .int wo), (3, .int co), (4, .int (nI lv))]) hx hb dX3_search_29 hl (k := 0) rfl (nI_dec _) (by decide) rfl (fun ls hl => ?_)
          refine lv_goto (tgt := 12) hx hb dX3_search_32 (by decide) ?_
          exact ihJ (by omega) _ (lv_sub hl [0, 1, 2, 3, 4, 5] rfl)
    exact keyJ mn (Nat.le_refl mn) _ hl
  · exact toQ hQ0 (RV hC hP hD hS [0, 1, 2, 3, 4, 5, 6, 7, 8, 9, 10, 11, 12, 13, 14, 15, 16, 17, 18, 19, 20, 21, 22, 23, 24, 25, 26, 27, 28, 29, 30] (le, bi, fk0, fk1, fk2, fk3, fk4, fk5, fk6, fk7, fk8, fk9, fk10, fk11, fk12) rfl rfl (by decide) (trivial) dX3_search_8)
theorem c_search (l : Launch) (G : GG) : ∀ (mn : Nat), mn ≤ 12 → ∀ (h0 : Nat) (wo : Int32) (co : Int32) (lv : Nat) (bb : Nat) (hd : Nat) (bo : Int32) (le : Int32) (bi : Int32) (hf : Nat → Option Nat) (kc0 : Nat) (km0 : Nat) (fk0 : Nat → Int32) (kc1 : Nat) (km1 : Nat) (fk1 : Nat → Int32) (kc2 : Nat) (km2 : Nat) (fk2 : Nat → Int32) (kc3 : Nat) (km3 : Nat) (fk3 : Nat → Int32) (kc4 : Nat) (km4 : Nat) (fk4 : Nat → Int32) (kc5 : Nat) (km5 : Nat) (fk5 : Nat → Int32) (kc6 : Nat) (km6 : Nat) (fk6 : Nat → Int32) (kc7 : Nat) (km7 : Nat) (fk7 : Nat → Int32) (kc8 : Nat) (km8 : Nat) (fk8 : Nat → Int32) (kc9 : Nat) (km9 : Nat) (fk9 : Nat → Int32) (kc10 : Nat) (km10 : Nat) (fk10 : Nat → Int32) (kc11 : Nat) (km11 : Nat) (fk11 : Nat → Int32) (kc12 : Nat) (km12 : Nat) (fk12 : Nat → Int32) (bpersons : Nat) (bpapers : Nat) (bstamps : Nat) (bversions : Nat) (blines : Nat) (bsteps : Nat) (bsayings : Nat) (bfindings : Nat) (bwarnings : Nat) (bquestions : Nat) (td : Int32) (vd : Int32) (vl : Int32) (gp : Int32) (bstampsc : Nat) (kbstamps : Nat) (fbstamps : Nat → Int32) (hkbstamps : kbstamps ≤ 24) (hlv : lv ≤ 12) (hh0 : hf 0 = some kc0) (hh1 : hf 1 = some kc1) (hh2 : hf 2 = some kc2) (hh3 : hf 3 = some kc3) (hh4 : hf 4 = some kc4) (hh5 : hf 5 = some kc5) (hh6 : hf 6 = some kc6) (hh7 : hf 7 = some kc7) (hh8 : hf 8 = some kc8) (hh9 : hf 9 = some kc9) (hh10 : hf 10 = some kc10) (hh11 : hf 11 = some kc11) (hh12 : hf 12 = some kc12), MV l G yX3_search cX3_search 6 (6 + 2 * mn) 0 0 [.ref h0, .int (nI mn - 1), .int wo, .int co, .int (nI lv)] [(h0, oX3 bb hd bo le bi), (hd, cA G 13 hf), (kc0, oX1 km0), (km0, iA G 36 fk0), (kc1, oX1 km1), (km1, iA G 36 fk1), (kc2, oX1 km2), (km2, iA G 36 fk2), (kc3, oX1 km3), (km3, iA G 36 fk3), (kc4, oX1 km4), (km4, iA G 36 fk4), (kc5, oX1 km5), (km5, iA G 36 fk5), (kc6, oX1 km6), (km6, iA G 36 fk6), (kc7, oX1 km7), (km7, iA G 36 fk7), (kc8, oX1 km8), (km8, iA G 36 fk8), (kc9, oX1 km9), (km9, iA G 36 fk9), (kc10, oX1 km10), (km10, iA G 36 fk10), (kc11, oX1 km11), (km11, iA G 36 fk11), (kc12, oX1 km12), (km12, iA G 36 fk12), (bb, oX0 bpersons bpapers bstamps bversions blines bsteps bsayings bfindings bwarnings bquestions td vd vl gp), (bstamps, oX8 24 3 bstampsc (nI kbstamps)), (bstampsc, iA G 72 fbstamps)] (fun u : Int32 × Int32 × (Nat → Int32) × (Nat → Int32) × (Nat → Int32) × (Nat → Int32) × (Nat → Int32) × (Nat → Int32) × (Nat → Int32) × (Nat → Int32) × (Nat → Int32) × (Nat → Int32) × (Nat → Int32) × (Nat → Int32) × (Nat → Int32) => True) (fun u : Int32 × Int32 × (Nat → Int32) × (Nat → Int32) × (Nat → Int32) × (Nat → Int32) × (Nat → Int32) × (Nat → Int32) × (Nat → Int32) × (Nat → Int32) × (Nat → Int32) × (Nat → Int32) × (Nat → Int32) × (Nat → Int32) × (Nat → Int32) => [(h0, oX3 bb hd bo u.1 u.2.1), (hd, cA G 13 hf), (kc0, oX1 km0), (km0, iA G 36 u.2.2.1), (kc1, oX1 km1), (km1, iA G 36 u.2.2.2.1), (kc2, oX1 km2), (km2, iA G 36 u.2.2.2.2.1), (kc3, oX1 km3), (km3, iA G 36 u.2.2.2.2.2.1), (kc4, oX1 km4), (km4, iA G 36 u.2.2.2.2.2.2.1), (kc5, oX1 km5), (km5, iA G 36 u.2.2.2.2.2.2.2.1), (kc6, oX1 km6), (km6, iA G 36 u.2.2.2.2.2.2.2.2.1), (kc7, oX1 km7), (km7, iA G 36 u.2.2.2.2.2.2.2.2.2.1), (kc8, oX1 km8), (km8, iA G 36 u.2.2.2.2.2.2.2.2.2.2.1), (kc9, oX1 km9), (km9, iA G 36 u.2.2.2.2.2.2.2.2.2.2.2.1), (kc10, oX1 km10), (km10, iA G 36 u.2.2.2.2.2.2.2.2.2.2.2.2.1), (kc11, oX1 km11), (km11, iA G 36 u.2.2.2.2.2.2.2.2.2.2.2.2.2.1), (kc12, oX1 km12), (km12, iA G 36 u.2.2.2.2.2.2.2.2.2.2.2.2.2.2), (bb, oX0 bpersons bpapers bstamps bversions blines bsteps bsayings bfindings bwarnings bquestions td vd vl gp), (bstamps, oX8 24 3 bstampsc (nI kbstamps)), (bstampsc, iA G 72 fbstamps)]) := by
  intro mn
  induction mn using Nat.strongRecOn with
  | ind mn ih =>
    intro hm h0 wo co lv bb hd bo le bi hf kc0 km0 fk0 kc1 km1 fk1 kc2 km2 fk2 kc3 km3 fk3 kc4 km4 fk4 kc5 km5 fk5 kc6 km6 fk6 kc7 km7 fk7 kc8 km8 fk8 kc9 km9 fk9 kc10 km10 fk10 kc11 km11 fk11 kc12 km12 fk12 bpersons bpapers bstamps bversions blines bsteps bsayings bfindings bwarnings bquestions td vd vl gp bstampsc kbstamps fbstamps hkbstamps hlv hh0 hh1 hh2 hh3 hh4 hh5 hh6 hh7 hh8 hh9 hh10 hh11 hh12
    exact c_search_step l G mn h0 wo co lv bb hd bo le bi hf kc0 km0 fk0 kc1 km1 fk1 kc2 km2 fk2 kc3 km3 fk3 kc4 km4 fk4 kc5 km5 fk5 kc6 km6 fk6 kc7 km7 fk7 kc8 km8 fk8 kc9 km9 fk9 kc10 km10 fk10 kc11 km11 fk11 kc12 km12 fk12 bpersons bpapers bstamps bversions blines bsteps bsayings bfindings bwarnings bquestions td vd vl gp bstampsc kbstamps fbstamps hm hkbstamps hlv hh0 hh1 hh2 hh3 hh4 hh5 hh6 hh7 hh8 hh9 hh10 hh11 hh12 (fun m9 h9 => ih m9 h9 (by omega))
def K_c_fewest (l : Launch) (G : GG) (h0 : Nat) (pp : Int32) (bb : Nat) (hd : Nat) (bo : Int32) (le : Int32) (bi : Int32) (hf : Nat → Option Nat) (kc0 : Nat) (km0 : Nat) (fk0 : Nat → Int32) (kc1 : Nat) (km1 : Nat) (fk1 : Nat → Int32) (kc2 : Nat) (km2 : Nat) (fk2 : Nat → Int32) (kc3 : Nat) (km3 : Nat) (fk3 : Nat → Int32) (kc4 : Nat) (km4 : Nat) (fk4 : Nat → Int32) (kc5 : Nat) (km5 : Nat) (fk5 : Nat → Int32) (kc6 : Nat) (km6 : Nat) (fk6 : Nat → Int32) (kc7 : Nat) (km7 : Nat) (fk7 : Nat → Int32) (kc8 : Nat) (km8 : Nat) (fk8 : Nat → Int32) (kc9 : Nat) (km9 : Nat) (fk9 : Nat → Int32) (kc10 : Nat) (km10 : Nat) (fk10 : Nat → Int32) (kc11 : Nat) (km11 : Nat) (fk11 : Nat → Int32) (kc12 : Nat) (km12 : Nat) (fk12 : Nat → Int32) (bpersons : Nat) (bpapers : Nat) (bstamps : Nat) (bversions : Nat) (blines : Nat) (bsteps : Nat) (bsayings : Nat) (bfindings : Nat) (bwarnings : Nat) (bquestions : Nat) (td : Int32) (vd : Int32) (vl : Int32) (gp : Int32) (bstampsc : Nat) (kbstamps : Nat) (fbstamps : Nat → Int32) (bpapersc : Nat) (kbpapers : Nat) (fbpapers : Nat → Int32) : Prop := MI l G yX3_fewest cX3_fewest 3 (some .int) 40 0 0 [.ref h0, .int pp] [(h0, oX3 bb hd bo le bi), (hd, cA G 13 hf), (kc0, oX1 km0), (km0, iA G 36 fk0), (kc1, oX1 km1), (km1, iA G 36 fk1), (kc2, oX1 km2), (km2, iA G 36 fk2), (kc3, oX1 km3), (km3, iA G 36 fk3), (kc4, oX1 km4), (km4, iA G 36 fk4), (kc5, oX1 km5), (km5, iA G 36 fk5), (kc6, oX1 km6), (km6, iA G 36 fk6), (kc7, oX1 km7), (km7, iA G 36 fk7), (kc8, oX1 km8), (km8, iA G 36 fk8), (kc9, oX1 km9), (km9, iA G 36 fk9), (kc10, oX1 km10), (km10, iA G 36 fk10), (kc11, oX1 km11), (km11, iA G 36 fk11), (kc12, oX1 km12), (km12, iA G 36 fk12), (bb, oX0 bpersons bpapers bstamps bversions blines bsteps bsayings bfindings bwarnings bquestions td vd vl gp), (bstamps, oX8 24 3 bstampsc (nI kbstamps)), (bstampsc, iA G 72 fbstamps), (bpapers, oX8 12 6 bpapersc (nI kbpapers)), (bpapersc, iA G 72 fbpapers)] (fun (r : Int32) (u : Int32 × Int32 × (Nat → Int32) × (Nat → Int32) × (Nat → Int32) × (Nat → Int32) × (Nat → Int32) × (Nat → Int32) × (Nat → Int32) × (Nat → Int32) × (Nat → Int32) × (Nat → Int32) × (Nat → Int32) × (Nat → Int32) × (Nat → Int32) × Int32) => (True)) (fun u : Int32 × Int32 × (Nat → Int32) × (Nat → Int32) × (Nat → Int32) × (Nat → Int32) × (Nat → Int32) × (Nat → Int32) × (Nat → Int32) × (Nat → Int32) × (Nat → Int32) × (Nat → Int32) × (Nat → Int32) × (Nat → Int32) × (Nat → Int32) × Int32 => [(h0, oX3 bb hd u.2.2.2.2.2.2.2.2.2.2.2.2.2.2.2 u.1 u.2.1), (hd, cA G 13 hf), (kc0, oX1 km0), (km0, iA G 36 u.2.2.1), (kc1, oX1 km1), (km1, iA G 36 u.2.2.2.1), (kc2, oX1 km2), (km2, iA G 36 u.2.2.2.2.1), (kc3, oX1 km3), (km3, iA G 36 u.2.2.2.2.2.1), (kc4, oX1 km4), (km4, iA G 36 u.2.2.2.2.2.2.1), (kc5, oX1 km5), (km5, iA G 36 u.2.2.2.2.2.2.2.1), (kc6, oX1 km6), (km6, iA G 36 u.2.2.2.2.2.2.2.2.1), (kc7, oX1 km7), (km7, iA G 36 u.2.2.2.2.2.2.2.2.2.1), (kc8, oX1 km8), (km8, iA G 36 u.2.2.2.2.2.2.2.2.2.2.1), (kc9, oX1 km9), (km9, iA G 36 u.2.2.2.2.2.2.2.2.2.2.2.1), (kc10, oX1 km10), (km10, iA G 36 u.2.2.2.2.2.2.2.2.2.2.2.2.1), (kc11, oX1 km11), (km11, iA G 36 u.2.2.2.2.2.2.2.2.2.2.2.2.2.1), (kc12, oX1 km12), (km12, iA G 36 u.2.2.2.2.2.2.2.2.2.2.2.2.2.2.1), (bb, oX0 bpersons bpapers bstamps bversions blines bsteps bsayings bfindings bwarnings bquestions td vd vl gp), (bstamps, oX8 24 3 bstampsc (nI kbstamps)), (bstampsc, iA G 72 fbstamps), (bpapers, oX8 12 6 bpapersc (nI kbpapers)), (bpapersc, iA G 72 fbpapers)])
set_option maxHeartbeats 4000000 in
set_option maxRecDepth 100000 in
theorem c_fewest (l : Launch) (G : GG) (h0 : Nat) (pp : Int32) (bb : Nat) (hd : Nat) (bo : Int32) (le : Int32) (bi : Int32) (hf : Nat → Option Nat) (kc0 : Nat) (km0 : Nat) (fk0 : Nat → Int32) (kc1 : Nat) (km1 : Nat) (fk1 : Nat → Int32) (kc2 : Nat) (km2 : Nat) (fk2 : Nat → Int32) (kc3 : Nat) (km3 : Nat) (fk3 : Nat → Int32) (kc4 : Nat) (km4 : Nat) (fk4 : Nat → Int32) (kc5 : Nat) (km5 : Nat) (fk5 : Nat → Int32) (kc6 : Nat) (km6 : Nat) (fk6 : Nat → Int32) (kc7 : Nat) (km7 : Nat) (fk7 : Nat → Int32) (kc8 : Nat) (km8 : Nat) (fk8 : Nat → Int32) (kc9 : Nat) (km9 : Nat) (fk9 : Nat → Int32) (kc10 : Nat) (km10 : Nat) (fk10 : Nat → Int32) (kc11 : Nat) (km11 : Nat) (fk11 : Nat → Int32) (kc12 : Nat) (km12 : Nat) (fk12 : Nat → Int32) (bpersons : Nat) (bpapers : Nat) (bstamps : Nat) (bversions : Nat) (blines : Nat) (bsteps : Nat) (bsayings : Nat) (bfindings : Nat) (bwarnings : Nat) (bquestions : Nat) (td : Int32) (vd : Int32) (vl : Int32) (gp : Int32) (bstampsc : Nat) (kbstamps : Nat) (fbstamps : Nat → Int32) (bpapersc : Nat) (kbpapers : Nat) (fbpapers : Nat → Int32) (hkbstamps : kbstamps ≤ 24) (hkbpapers : kbpapers ≤ 12) (hh0 : hf 0 = some kc0) (hh1 : hf 1 = some kc1) (hh2 : hf 2 = some kc2) (hh3 : hf 3 = some kc3) (hh4 : hf 4 = some kc4) (hh5 : hf 5 = some kc5) (hh6 : hf 6 = some kc6) (hh7 : hf 7 = some kc7) (hh8 : hf 8 = some kc8) (hh9 : hf 9 = some kc9) (hh10 : hf 10 = some kc10) (hh11 : hf 11 = some kc11) (hh12 : hf 12 = some kc12) : K_c_fewest l G h0 pp bb hd bo le bi hf kc0 km0 fk0 kc1 km1 fk1 kc2 km2 fk2 kc3 km3 fk3 kc4 km4 fk4 kc5 km5 fk5 kc6 km6 fk6 kc7 km7 fk7 kc8 km8 fk8 kc9 km9 fk9 kc10 km10 fk10 kc11 km11 fk11 kc12 km12 fk12 bpersons bpapers bstamps bversions blines bsteps bsayings bfindings bwarnings bquestions td vd vl gp bstampsc kbstamps fbstamps bpapersc kbpapers fbpapers := by
  refine MI.start (by decide +kernel) (Nat.le_of_ble_eq_true rfl) ?_
  intro p e s m below meth c A ls hC hK hP hD hS hA hl
  refine absQ (fun Q0 hQ0 => ?_)
  have hl : lv_has ls 3 [(0, .ref h0), (1, .int pp)] := hl
  refine Kan8 hC (fun hx hb hr hml hB hown hlocks hnm => ?_)
  refine lv_aload_n hx hb dX3_fewest_0 rfl (lv_at0 hl) ?_
  refine lv_iconst (v := 0) hx hb dX3_fewest_1 (by decide) ?_
  refine pf_X3_22 hC rfl hK hP hD hS 0 (ws' := [(h0, oX3 bb hd 0 le bi), (hd, cA G 13 hf), (kc0, oX1 km0), (km0, iA G 36 fk0), (kc1, oX1 km1), (km1, iA G 36 fk1), (kc2, oX1 km2), (km2, iA G 36 fk2), (kc3, oX1 km3), (km3, iA G 36 fk3), (kc4, oX1 km4), (km4, iA G 36 fk4), (kc5, oX1 km5), (km5, iA G 36 fk5), (kc6, oX1 km6), (km6, iA G 36 fk6), (kc7, oX1 km7), (km7, iA G 36 fk7), (kc8, oX1 km8), (km8, iA G 36 fk8), (kc9, oX1 km9), (km9, iA G 36 fk9), (kc10, oX1 km10), (km10, iA G 36 fk10), (kc11, oX1 km11), (km11, iA G 36 fk11), (kc12, oX1 km12), (km12, iA G 36 fk12), (bb, oX0 bpersons bpapers bstamps bversions blines bsteps bsayings bfindings bwarnings bquestions td vd vl gp), (bstamps, oX8 24 3 bstampsc (nI kbstamps)), (bstampsc, iA G 72 fbstamps), (bpapers, oX8 12 6 bpapersc (nI kbpapers)), (bpapersc, iA G 72 fbpapers)]) rfl (Nat.le_of_ble_eq_true rfl) rfl rfl rfl dX3_fewest_2 (fun H locs hP hD hS => ?_)
  refine lv_iconst (v := 0) hx hb dX3_fewest_5 (by decide) ?_
  refine lv_istore_n (lv' := [(2, .int 0), (0, .ref h0), (1, .int pp)]) hx hb dX3_fewest_6 rfl hl (by decide) rfl (fun ls hl => ?_)
  have keyP : ∀ (nP kP : Nat) (wbo : Int32) (H : Heap) (locs : List Loc) (ls : Array Slot), kP + nP = kbpapers → va_PD G A [(h0, oX3 bb hd wbo le bi), (hd, cA G 13 hf), (kc0, oX1 km0), (km0, iA G 36 fk0), (kc1, oX1 km1), (km1, iA G 36 fk1), (kc2, oX1 km2), (km2, iA G 36 fk2), (kc3, oX1 km3), (km3, iA G 36 fk3), (kc4, oX1 km4), (km4, iA G 36 fk4), (kc5, oX1 km5), (km5, iA G 36 fk5), (kc6, oX1 km6), (km6, iA G 36 fk6), (kc7, oX1 km7), (km7, iA G 36 fk7), (kc8, oX1 km8), (km8, iA G 36 fk8), (kc9, oX1 km9), (km9, iA G 36 fk9), (kc10, oX1 km10), (km10, iA G 36 fk10), (kc11, oX1 km11), (km11, iA G 36 fk11), (kc12, oX1 km12), (km12, iA G 36 fk12), (bb, oX0 bpersons bpapers bstamps bversions blines bsteps bsayings bfindings bwarnings bquestions td vd vl gp), (bstamps, oX8 24 3 bstampsc (nI kbstamps)), (bstampsc, iA G 72 fbstamps), (bpapers, oX8 12 6 bpapersc (nI kbpapers)), (bpapersc, iA G 72 fbpapers)] H → va_S A s.heap H locs → lv_has ls 3 [(2, .int (nI kP)), (0, .ref h0), (1, .int pp)] → W p l e (RM 40 0 0) s m ([.ref h0, .int pp] : List Value).toArray below meth c H locs 0 0 Q0 (F0 m 7 ls []) := by
    intro nP
    induction nP with
    | zero =>
      intro kP wbo H locs ls hkP hPD hS hl
      refine Kan2 hPD (fun hP hD => ?_)
      obtain rfl : kbpapers = kP := by omega
      have hl : lv_has ls 3 [(2, .int (nI kbpapers)), (0, .ref h0), (1, .int pp)] := hl
      refine lv_iload_n hx hb dX3_fewest_7 rfl (lv_at0 hl) ?_
      refine lv_aload_n hx hb dX3_fewest_8 rfl (lv_at1 hl) ?_
      refine gf_X3_17 hC rfl hK hP 0 rfl rfl dX3_fewest_9 ?_
      refine gf_X3_32 hC rfl hK hP 28 rfl rfl dX3_fewest_12 ?_
      refine pV hC hK hl hP hD (c_T_count l G bpapers 12 6 bpapersc kbpapers) si_X3_38 [31] sm_31 fm_31 nd_31 rfl rfl rfl rfl rfl (Nat.le_of_ble_eq_true rfl) rm_40_1_1 ⟨by first | exact Nat.le_of_ble_eq_true rfl | exact Nat.zero_le _, by first | exact Nat.le_of_ble_eq_true rfl | exact Nat.zero_le _⟩ dX3_fewest_15 (Keqr ?_)
      refine lv_icmp_ge (tgt := 59) hx hb dX3_fewest_18 (by decide) (fun _ => ?_) (fun c9 => absurd (Int32.le_refl _) c9)
      refine lv_aload_n hx hb dX3_fewest_59 rfl (lv_at1 hl) ?_
      refine lv_bipush (v := 13) hx hb dX3_fewest_60 (by decide) ?_
      refine pf_X3_26 hC rfl hK hP hD hS 0 (ws' := [(h0, oX3 bb hd wbo 13 bi), (hd, cA G 13 hf), (kc0, oX1 km0), (km0, iA G 36 fk0), (kc1, oX1 km1), (km1, iA G 36 fk1), (kc2, oX1 km2), (km2, iA G 36 fk2), (kc3, oX1 km3), (km3, iA G 36 fk3), (kc4, oX1 km4), (km4, iA G 36 fk4), (kc5, oX1 km5), (km5, iA G 36 fk5), (kc6, oX1 km6), (km6, iA G 36 fk6), (kc7, oX1 km7), (km7, iA G 36 fk7), (kc8, oX1 km8), (km8, iA G 36 fk8), (kc9, oX1 km9), (km9, iA G 36 fk9), (kc10, oX1 km10), (km10, iA G 36 fk10), (kc11, oX1 km11), (km11, iA G 36 fk11), (kc12, oX1 km12), (km12, iA G 36 fk12), (bb, oX0 bpersons bpapers bstamps bversions blines bsteps bsayings bfindings bwarnings bquestions td vd vl gp), (bstamps, oX8 24 3 bstampsc (nI kbstamps)), (bstampsc, iA G 72 fbstamps), (bpapers, oX8 12 6 bpapersc (nI kbpapers)), (bpapersc, iA G 72 fbpapers)]) rfl (Nat.le_of_ble_eq_true rfl) rfl rfl rfl dX3_fewest_62 (fun H locs hP hD hS => ?_)
      refine lv_aload_n hx hb dX3_fewest_65 rfl (lv_at1 hl) ?_
      refine lv_iconst (v := 0) hx hb dX3_fewest_66 (by decide) ?_
      refine pf_X3_29 hC rfl hK hP hD hS 0 (ws' := [(h0, oX3 bb hd wbo 13 0), (hd, cA G 13 hf), (kc0, oX1 km0), (km0, iA G 36 fk0), (kc1, oX1 km1), (km1, iA G 36 fk1), (kc2, oX1 km2), (km2, iA G 36 fk2), (kc3, oX1 km3), (km3, iA G 36 fk3), (kc4, oX1 km4), (km4, iA G 36 fk4), (kc5, oX1 km5), (km5, iA G 36 fk5), (kc6, oX1 km6), (km6, iA G 36 fk6), (kc7, oX1 km7), (km7, iA G 36 fk7), (kc8, oX1 km8), (km8, iA G 36 fk8), (kc9, oX1 km9), (km9, iA G 36 fk9), (kc10, oX1 km10), (km10, iA G 36 fk10), (kc11, oX1 km11), (km11, iA G 36 fk11), (kc12, oX1 km12), (km12, iA G 36 fk12), (bb, oX0 bpersons bpapers bstamps bversions blines bsteps bsayings bfindings bwarnings bquestions td vd vl gp), (bstamps, oX8 24 3 bstampsc (nI kbstamps)), (bstampsc, iA G 72 fbstamps), (bpapers, oX8 12 6 bpapersc (nI kbpapers)), (bpapersc, iA G 72 fbpapers)]) rfl (Nat.le_of_ble_eq_true rfl) rfl rfl rfl dX3_fewest_67 (fun H locs hP hD hS => ?_)
      refine lv_aload_n hx hb dX3_fewest_70 rfl (lv_at1 hl) ?_
      refine gf_X3_11 hC rfl hK hP 0 rfl rfl dX3_fewest_71 ?_
      refine lv_iconst (v := 0) hx hb dX3_fewest_74 (by decide) ?_
      refine aldC hC hK hP 1 rfl (vin (by decide +kernel)) (k := 0) (by decide +kernel) (v := kc0) (hh0) dX3_fewest_75 ?_
      refine vV (wr := [(h0, oX3 bb hd wbo 13 0), (hd, cA G 13 hf), (kc1, oX1 km1), (km1, iA G 36 fk1), (kc2, oX1 km2), (km2, iA G 36 fk2), (kc3, oX1 km3), (km3, iA G 36 fk3), (kc4, oX1 km4), (km4, iA G 36 fk4), (kc5, oX1 km5), (km5, iA G 36 fk5), (kc6, oX1 km6), (km6, iA G 36 fk6), (kc7, oX1 km7), (km7, iA G 36 fk7), (kc8, oX1 km8), (km8, iA G 36 fk8), (kc9, oX1 km9), (km9, iA G 36 fk9), (kc10, oX1 km10), (km10, iA G 36 fk10), (kc11, oX1 km11), (km11, iA G 36 fk11), (kc12, oX1 km12), (km12, iA G 36 fk12), (bb, oX0 bpersons bpapers bstamps bversions blines bsteps bsayings bfindings bwarnings bquestions td vd vl gp), (bstamps, oX8 24 3 bstampsc (nI kbstamps)), (bstampsc, iA G 72 fbstamps), (bpapers, oX8 12 6 bpapersc (nI kbpapers)), (bpapersc, iA G 72 fbpapers)]) hC hK hl hP hD hS hA (c_free l G kc0 km0 fk0) si_X3_52 [2, 3] [0, 1, 4, 5, 6, 7, 8, 9, 10, 11, 12, 13, 14, 15, 16, 17, 18, 19, 20, 21, 22, 23, 24, 25, 26, 27, 28, 29, 30, 31, 32] sm_2_3 fm_2_3 nd_2_3 sm_0_1_4_5_6_7_8_9_10_11_12_13_14_15_16_17_18_19_20_21_22_23_24_25_26_27_28_29_30_31_32 nd_0_1_4_5_6_7_8_9_10_11_12_13_14_15_16_17_18_19_20_21_22_23_24_25_26_27_28_29_30_31_32 dj_2_3__0_1_4_5_6_7_8_9_10_11_12_13_14_15_16_17_18_19_20_21_22_23_24_25_26_27_28_29_30_31_32 rfl rfl rfl rfl rfl (Nat.le_of_ble_eq_true rfl) rm_40_1_4 ⟨Nat.le_of_ble_eq_true rfl, Nat.le_of_ble_eq_true rfl⟩ dX3_fewest_76 (fun f11075 H locs hr1073 hP hD hS => ?_)
      try dsimp only at hr1073
      refine Kpdr (ws := [(h0, oX3 bb hd wbo 13 0), (hd, cA G 13 hf), (kc1, oX1 km1), (km1, iA G 36 fk1), (kc2, oX1 km2), (km2, iA G 36 fk2), (kc3, oX1 km3), (km3, iA G 36 fk3), (kc4, oX1 km4), (km4, iA G 36 fk4), (kc5, oX1 km5), (km5, iA G 36 fk5), (kc6, oX1 km6), (km6, iA G 36 fk6), (kc7, oX1 km7), (km7, iA G 36 fk7), (kc8, oX1 km8), (km8, iA G 36 fk8), (kc9, oX1 km9), (km9, iA G 36 fk9), (kc10, oX1 km10), (km10, iA G 36 fk10), (kc11, oX1 km11), (km11, iA G 36 fk11), (kc12, oX1 km12), (km12, iA G 36 fk12), (bb, oX0 bpersons bpapers bstamps bversions blines bsteps bsayings bfindings bwarnings bquestions td vd vl gp), (bstamps, oX8 24 3 bstampsc (nI kbstamps)), (bstampsc, iA G 72 fbstamps), (bpapers, oX8 12 6 bpapersc (nI kbpapers)), (bpapersc, iA G 72 fbpapers), (kc0, oX1 km0), (km0, iA G 36 f11075)]) hP hD (fun hP hD => ?_)
      refine lv_aload_n hx hb dX3_fewest_79 rfl (lv_at1 hl) ?_
      refine lv_bipush (v := 11) hx hb dX3_fewest_80 (by decide) ?_
      refine lv_iconst (v := 0) hx hb dX3_fewest_82 (by decide) ?_
      refine lv_iconst (v := 0) hx hb dX3_fewest_83 (by decide) ?_
      refine lv_iconst (v := 0) hx hb dX3_fewest_84 (by decide) ?_
      refine vV (wr := [(bpapers, oX8 12 6 bpapersc (nI kbpapers)), (bpapersc, iA G 72 fbpapers)]) hC hK hl hP hD hS hA (c_search l G 12 (by omega) h0 0 0 0 bb hd wbo 13 0 hf kc0 km0 f11075 kc1 km1 fk1 kc2 km2 fk2 kc3 km3 fk3 kc4 km4 fk4 kc5 km5 fk5 kc6 km6 fk6 kc7 km7 fk7 kc8 km8 fk8 kc9 km9 fk9 kc10 km10 fk10 kc11 km11 fk11 kc12 km12 fk12 bpersons bpapers bstamps bversions blines bsteps bsayings bfindings bwarnings bquestions td vd vl gp bstampsc kbstamps fbstamps (by omega) (by omega) (hh0) (hh1) (hh2) (hh3) (hh4) (hh5) (hh6) (hh7) (hh8) (hh9) (hh10) (hh11) (hh12)) si_X3_55 [0, 1, 31, 32, 2, 3, 4, 5, 6, 7, 8, 9, 10, 11, 12, 13, 14, 15, 16, 17, 18, 19, 20, 21, 22, 23, 24, 25, 26, 27, 28] [29, 30] sm_0_1_31_32_2_3_4_5_6_7_8_9_10_11_12_13_14_15_16_17_18_19_20_21_22_23_24_25_26_27_28 fm_0_1_31_32_2_3_4_5_6_7_8_9_10_11_12_13_14_15_16_17_18_19_20_21_22_23_24_25_26_27_28 nd_0_1_31_32_2_3_4_5_6_7_8_9_10_11_12_13_14_15_16_17_18_19_20_21_22_23_24_25_26_27_28 sm_29_30 nd_29_30 dj_0_1_31_32_2_3_4_5_6_7_8_9_10_11_12_13_14_15_16_17_18_19_20_21_22_23_24_25_26_27_28__29_30 rfl rfl rfl rfl rfl (Nat.le_of_ble_eq_true rfl) ⟨Nat.le_of_ble_eq_true rfl, Nat.le_of_ble_eq_true rfl⟩ ⟨Nat.le_of_ble_eq_true rfl, Nat.le_of_ble_eq_true rfl⟩ dX3_fewest_85 (Ktu15 fun le11078 bi11079 gk01080 gk11081 gk21082 gk31083 gk41084 gk51085 gk61086 gk71087 gk81088 gk91089 gk101090 gk111091 gk121092 => ?_)
      intro H locs hr1076 hP hD hS
      try dsimp only at hr1076
      refine Kpdr (ws := [(bpapers, oX8 12 6 bpapersc (nI kbpapers)), (bpapersc, iA G 72 fbpapers), (h0, oX3 bb hd wbo le11078 bi11079), (hd, cA G 13 hf), (kc0, oX1 km0), (km0, iA G 36 gk01080), (kc1, oX1 km1), (km1, iA G 36 gk11081), (kc2, oX1 km2), (km2, iA G 36 gk21082), (kc3, oX1 km3), (km3, iA G 36 gk31083), (kc4, oX1 km4), (km4, iA G 36 gk41084), (kc5, oX1 km5), (km5, iA G 36 gk51085), (kc6, oX1 km6), (km6, iA G 36 gk61086), (kc7, oX1 km7), (km7, iA G 36 gk71087), (kc8, oX1 km8), (km8, iA G 36 gk81088), (kc9, oX1 km9), (km9, iA G 36 gk91089), (kc10, oX1 km10), (km10, iA G 36 gk101090), (kc11, oX1 km11), (km11, iA G 36 gk111091), (kc12, oX1 km12), (km12, iA G 36 gk121092), (bb, oX0 bpersons bpapers bstamps bversions blines bsteps bsayings bfindings bwarnings bquestions td vd vl gp), (bstamps, oX8 24 3 bstampsc (nI kbstamps)), (bstampsc, iA G 72 fbstamps)]) hP hD (fun hP hD => ?_)
      refine lv_aload_n hx hb dX3_fewest_88 rfl (lv_at1 hl) ?_
      refine gf_X3_29 hC rfl hK hP 2 rfl rfl dX3_fewest_89 ?_
      exact toQ hQ0 (RI (v := bi11079) hC hP hD hS [2, 3, 4, 5, 6, 7, 8, 9, 10, 11, 12, 13, 14, 15, 16, 17, 18, 19, 20, 21, 22, 23, 24, 25, 26, 27, 28, 29, 30, 31, 32, 0, 1] (le11078, bi11079, gk01080, gk11081, gk21082, gk31083, gk41084, gk51085, gk61086, gk71087, gk81088, gk91089, gk101090, gk111091, gk121092, wbo) rfl rfl (by decide) (trivial) rfl dX3_fewest_92)
    | succ nP ihP =>
      intro kP wbo H locs ls hkP hPD hS hl
      refine Kan2 hPD (fun hP hD => ?_)
      refine lv_iload_n hx hb dX3_fewest_7 rfl (lv_at0 hl) ?_
      refine lv_aload_n hx hb dX3_fewest_8 rfl (lv_at1 hl) ?_
      refine gf_X3_17 hC rfl hK hP 0 rfl rfl dX3_fewest_9 ?_
      refine gf_X3_32 hC rfl hK hP 28 rfl rfl dX3_fewest_12 ?_
      refine pV hC hK hl hP hD (c_T_count l G bpapers 12 6 bpapersc kbpapers) si_X3_38 [31] sm_31 fm_31 nd_31 rfl rfl rfl rfl rfl (Nat.le_of_ble_eq_true rfl) rm_40_1_1 ⟨by first | exact Nat.le_of_ble_eq_true rfl | exact Nat.zero_le _, by first | exact Nat.le_of_ble_eq_true rfl | exact Nat.zero_le _⟩ dX3_fewest_15 (Keqr ?_)
      refine lv_icmp_ge (tgt := 59) hx hb dX3_fewest_18 (by decide) (fun c9 => absurd c9 (nI_ge (a := kP) (b := kbpapers) (by omega) (by omega))) (fun _ => ?_)
      refine lv_iload_n hx hb dX3_fewest_21 rfl (lv_at2 hl) ?_
      refine lv_iload_n hx hb dX3_fewest_22 rfl (lv_at0 hl) ?_
      refine pSN hC hK hl (c_hasBit l G pp (nI kP)) si_X3_44 rfl rfl (Nat.le_of_ble_eq_true rfl) rm_40_1_2 ⟨by first | exact Nat.le_of_ble_eq_true rfl | exact Nat.zero_le _, by first | exact Nat.le_of_ble_eq_true rfl | exact Nat.zero_le _⟩ dX3_fewest_23 (Kors (Keqa fun a1096 => ?_) (Keqa fun a1096 => ?_))
      · refine lv_if_eq (tgt := 53) hx hb dX3_fewest_26 (by decide) (fun c9 => absurd c9 (by decide)) (fun _ => ?_)
        refine lv_aload_n hx hb dX3_fewest_29 rfl (lv_at1 hl) ?_
        refine gf_X3_17 hC rfl hK hP 0 rfl rfl dX3_fewest_30 ?_
        refine lv_iload_n hx hb dX3_fewest_33 rfl (lv_at0 hl) ?_
        refine pV hC hK hl hP hD (c_countStamps l G bb (nI kP) bpersons bpapers bstamps bversions blines bsteps bsayings bfindings bwarnings bquestions td vd vl gp bstampsc kbstamps fbstamps (hkbstamps)) si_X3_48 [28, 29, 30] sm_28_29_30 fm_28_29_30 nd_28_29_30 rfl rfl rfl rfl rfl (Nat.le_of_ble_eq_true rfl) rm_40_3_4 ⟨by first | exact Nat.le_of_ble_eq_true rfl | exact Nat.zero_le _, by first | exact Nat.le_of_ble_eq_true rfl | exact Nat.zero_le _⟩ dX3_fewest_34 (fun r1097 hr1097 => ?_)
        refine lv_iconst (v := 1) hx hb dX3_fewest_37 (by decide) ?_
        refine lv_icmp_le (tgt := 53) hx hb dX3_fewest_38 (by decide) (fun c_38_1098 => ?_) (fun c_38_1098 => ?_)
        · refine lv_iinc (v := nI (kP + 1)) (lv' := [(2, .int (nI (kP + 1))), (0, .ref h0), (1, .int pp)]) hx hb dX3_fewest_53 hl (k := 0) rfl (nI_1 _) (by decide) rfl (fun ls hl => ?_)
          refine lv_goto (tgt := 7) hx hb dX3_fewest_56 (by decide) ?_
          exact ihP (kP + 1) wbo _ _ _ (by omega) (And.intro hP hD) hS (lv_sub hl [0, 1, 2] rfl)
        · refine lv_aload_n hx hb dX3_fewest_41 rfl (lv_at1 hl) ?_
          refine lv_dup hx hb dX3_fewest_42 rfl ?_
          refine gf_X3_22 hC rfl hK hP 0 rfl rfl dX3_fewest_43 ?_
          refine lv_iconst (v := 1) hx hb dX3_fewest_46 (by decide) ?_
          refine lv_iload_n hx hb dX3_fewest_47 rfl (lv_at0 hl) ?_
          refine lv_ishl hx hb dX3_fewest_48 ?_
          refine lv_ior hx hb dX3_fewest_49 ?_
          refine pf_X3_22 hC rfl hK hP hD hS 0 (ws' := [(h0, oX3 bb hd (wbo ||| (1 <<< ((nI kP) &&& 31))) le bi), (hd, cA G 13 hf), (kc0, oX1 km0), (km0, iA G 36 fk0), (kc1, oX1 km1), (km1, iA G 36 fk1), (kc2, oX1 km2), (km2, iA G 36 fk2), (kc3, oX1 km3), (km3, iA G 36 fk3), (kc4, oX1 km4), (km4, iA G 36 fk4), (kc5, oX1 km5), (km5, iA G 36 fk5), (kc6, oX1 km6), (km6, iA G 36 fk6), (kc7, oX1 km7), (km7, iA G 36 fk7), (kc8, oX1 km8), (km8, iA G 36 fk8), (kc9, oX1 km9), (km9, iA G 36 fk9), (kc10, oX1 km10), (km10, iA G 36 fk10), (kc11, oX1 km11), (km11, iA G 36 fk11), (kc12, oX1 km12), (km12, iA G 36 fk12), (bb, oX0 bpersons bpapers bstamps bversions blines bsteps bsayings bfindings bwarnings bquestions td vd vl gp), (bstamps, oX8 24 3 bstampsc (nI kbstamps)), (bstampsc, iA G 72 fbstamps), (bpapers, oX8 12 6 bpapersc (nI kbpapers)), (bpapersc, iA G 72 fbpapers)]) rfl (Nat.le_of_ble_eq_true rfl) rfl rfl rfl dX3_fewest_50 (fun H locs hP hD hS => ?_)
          refine lv_iinc (v := nI (kP + 1)) (lv' := [(2, .int (nI (kP + 1))), (0, .ref h0), (1, .int pp)]) hx hb dX3_fewest_53 hl (k := 0) rfl (nI_1 _) (by decide) rfl (fun ls hl => ?_)
          refine lv_goto (tgt := 7) hx hb dX3_fewest_56 (by decide) ?_
          exact ihP (kP + 1) (wbo ||| (1 <<< ((nI kP) &&& 31))) _ _ _ (by omega) (And.intro hP hD) hS (lv_sub hl [0, 1, 2] rfl)
      · refine lv_if_eq (tgt := 53) hx hb dX3_fewest_26 (by decide) (fun _ => ?_) (fun c9 => absurd (by decide) c9)
        refine lv_iinc (v := nI (kP + 1)) (lv' := [(2, .int (nI (kP + 1))), (0, .ref h0), (1, .int pp)]) hx hb dX3_fewest_53 hl (k := 0) rfl (nI_1 _) (by decide) rfl (fun ls hl => ?_)
        refine lv_goto (tgt := 7) hx hb dX3_fewest_56 (by decide) ?_
        exact ihP (kP + 1) wbo _ _ _ (by omega) (And.intro hP hD) hS (lv_sub hl [0, 1, 2] rfl)
  exact keyP kbpapers 0 0 _ _ _ (by omega) (And.intro hP hD) hS (lv_sub hl [0, 1, 2] rfl)
