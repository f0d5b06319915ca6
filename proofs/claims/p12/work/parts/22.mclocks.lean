section WR
variable {p : Program} {l : Launch} {e : Env} {R : Room} {s : State} {m : MethodId} {args : Array Value} {below : List Frame} {meth : Method} {c : Code} {H : Heap} {locs : List Loc} {cells slots : Nat} {Q : State → Prop}
variable {pc : Nat} {ls : Array Slot} {rest : List Value} {G : GG} {ws : va_W} {A : Nat → Prop} {y0 : MethodName} {b0 : ByteArray} {mL0 : Nat} {rt0 : Option FieldType} {a : Nat} {H0 : Heap}
end WR
def MB (f : Nat → Int32) : Prop := ∀ i : Nat, i < 36 → (f i).toInt ≤ 120
/-- a paper has a stamp, whatever the count's name -/
def HCnt (f : Nat → Int32) (p : Int32) : Prop := ∀ k : Nat, k ≤ 24 → f 6 = nI k → 1 ≤ cntS f p k
theorem HCnt.mk {f : Nat → Int32} {p : Int32} {k6 : Nat} (hk : k6 ≤ 24) (e : f 6 = nI k6) (h : 1 ≤ cntS f p k6) : HCnt f p := by
  intro k hk9 e9
  obtain rfl : k = k6 := (nI_eq (by omega) (by omega)).mp (e9.symm.trans e)
  exact h
theorem MB.setc {f : Nat → Int32} {k : Nat} {v : Int32} (h : MB f) (hv : v.toInt ≤ 120) : MB (upd f k v) := by
  intro i hi
  unfold upd
  by_cases e : i = k
  · rw [if_pos e]; exact hv
  · rw [if_neg e]; exact h i hi
theorem MB.min {f : Nat → Int32} {k : Nat} {v x : Int32} (h : MB f) (hk : k < 36) (hx : x = if v < f k then v else f k) : MB (upd f k x) := by
  refine h.setc ?_
  have h1 := h k hk
  rw [hx]
  by_cases c : v < f k
  · rw [if_pos c]
    rw [Int32.lt_iff_toInt_lt] at c
    omega
  · rw [if_neg c]; exact h1
theorem nI_sb {a : Nat} (h : 1 ≤ a) : nI a - 1 = nI (a - 1) := by
  obtain ⟨b, rfl⟩ : ∃ b, a = b + 1 := ⟨a - 1, by omega⟩
  rw [nI_sub1]
  rfl
theorem nI_nz {a : Nat} (h : ¬ nI a = 0) : 1 ≤ a := by
  cases a with
  | zero => exact absurd rfl h
  | succ b => omega
theorem bmod32 {x : Int} (h1 : -2147483648 ≤ x) (h2 : x ≤ 2147483647) : x.bmod (2 ^ 32) = x := by
  rw [Int.bmod_eq_of_le] <;> omega
theorem ti_add {a b : Int32} (h1 : -2147483648 ≤ a.toInt + b.toInt) (h2 : a.toInt + b.toInt ≤ 2147483647) : (a + b).toInt = a.toInt + b.toInt := by
  rw [Int32.toInt_add]
  exact bmod32 h1 h2
theorem ti_lo (a : Int32) : -2147483648 ≤ a.toInt := by
  have := Int32.le_toInt a
  omega
theorem ti_hi (a : Int32) : a.toInt ≤ 2147483647 := by
  have := Int32.toInt_lt a
  omega
theorem toB {h : Nat} {y : Int32} (hh : h ≤ 999) (hy : y.toInt ≤ 120) : (nI h - -y).toInt ≤ 1119 := by
  have e : nI h - -y = nI h + y := by rw [Int32.sub_eq_add_neg, Int32.neg_neg]
  have h1 := nI_ti (n := h) (by omega)
  have h2 := ti_lo y
  rw [e, ti_add (by omega) (by omega)]
  omega
theorem addB {x : Int32} {s : Nat} (hx : x.toInt ≤ 1119) (hs : s ≤ 48) : (x + nI s).toInt ≤ 1167 := by
  have h1 := nI_ti (n := s) (by omega)
  have h2 := ti_lo x
  rw [ti_add (by omega) (by omega)]
  omega
section WR
variable {p : Program} {l : Launch} {e : Env} {R : Room} {s : State} {m : MethodId} {args : Array Value} {below : List Frame} {meth : Method} {c : Code} {H : Heap} {locs : List Loc} {cells slots : Nat} {Q : State → Prop}
variable {pc : Nat} {ls : Array Slot} {rest : List Value} {G : GG} {ws : va_W} {A : Nat → Prop} {y0 : MethodName} {b0 : ByteArray} {mL0 : Nat} {rt0 : Option FieldType} {a : Nat} {H0 : Heap}
theorem gX12_stampsOf_0 : (decode cX12_stampsOf 0 = .ok (.iconst 0, 1)) ∧ (decode cX12_stampsOf 1 = .ok (.istore_n 2, 1)) ∧ (decode cX12_stampsOf 2 = .ok (.iconst 0, 1)) ∧ (decode cX12_stampsOf 3 = .ok (.istore_n 3, 1)) ∧ (decode cX12_stampsOf 4 = .ok (.iload_n 3, 1)) ∧ (decode cX12_stampsOf 5 = .ok (.aload_n 0, 1)) ∧ (decode cX12_stampsOf 6 = .ok (.getfield 9, 3)) ∧ (decode cX12_stampsOf 9 = .ok (.bipush 6, 2)) ∧ (decode cX12_stampsOf 11 = .ok (.iaload, 1)) ∧ (decode cX12_stampsOf 12 = .ok (.if_icmp .ge 32, 3)) := by decide +kernel
theorem gX12_stampsOf_2 : (decode cX12_stampsOf 28 = .ok (.if_icmp .ne 7, 3)) ∧ (decode cX12_stampsOf 31 = .ok (.iconst 1, 1)) ∧ (decode cX12_stampsOf 32 = .ok (.goto 4, 3)) ∧ (decode cX12_stampsOf 35 = .ok (.iconst 0, 1)) ∧ (decode cX12_stampsOf 36 = .ok (.iadd, 1)) ∧ (decode cX12_stampsOf 37 = .ok (.istore_n 2, 1)) ∧ (decode cX12_stampsOf 38 = .ok (.iinc 3 1, 3)) ∧ (decode cX12_stampsOf 41 = .ok (.goto (-37), 3)) ∧ (decode cX12_stampsOf 44 = .ok (.iload_n 2, 1)) ∧ (decode cX12_stampsOf 45 = .ok (.ireturn, 1)) := by decide +kernel
theorem gX12_stampsOf_1 : (decode cX12_stampsOf 15 = .ok (.iload_n 2, 1)) ∧ (decode cX12_stampsOf 16 = .ok (.aload_n 0, 1)) ∧ (decode cX12_stampsOf 17 = .ok (.getfield 9, 3)) ∧ (decode cX12_stampsOf 20 = .ok (.bipush 104, 2)) ∧ (decode cX12_stampsOf 22 = .ok (.iconst 3, 1)) ∧ (decode cX12_stampsOf 23 = .ok (.iload_n 3, 1)) ∧ (decode cX12_stampsOf 24 = .ok (.imul, 1)) ∧ (decode cX12_stampsOf 25 = .ok (.iadd, 1)) ∧ (decode cX12_stampsOf 26 = .ok (.iaload, 1)) ∧ (decode cX12_stampsOf 27 = .ok (.iload_n 1, 1)) := by decide +kernel
theorem gX12_stampAt_0 : (decode cX12_stampAt 0 = .ok (.iload_n 2, 1)) ∧ (decode cX12_stampAt 1 = .ok (.istore_n 3, 1)) ∧ (decode cX12_stampAt 2 = .ok (.iconst 0, 1)) ∧ (decode cX12_stampAt 3 = .ok (.istore 4, 2)) ∧ (decode cX12_stampAt 5 = .ok (.iload 4, 2)) ∧ (decode cX12_stampAt 7 = .ok (.aload_n 0, 1)) ∧ (decode cX12_stampAt 8 = .ok (.getfield 9, 3)) ∧ (decode cX12_stampAt 11 = .ok (.bipush 6, 2)) ∧ (decode cX12_stampAt 13 = .ok (.iaload, 1)) ∧ (decode cX12_stampAt 14 = .ok (.if_icmp .ge 35, 3)) := by decide +kernel
theorem gX12_stampAt_1 : (decode cX12_stampAt 17 = .ok (.aload_n 0, 1)) ∧ (decode cX12_stampAt 18 = .ok (.getfield 9, 3)) ∧ (decode cX12_stampAt 21 = .ok (.bipush 104, 2)) ∧ (decode cX12_stampAt 23 = .ok (.iconst 3, 1)) ∧ (decode cX12_stampAt 24 = .ok (.iload 4, 2)) ∧ (decode cX12_stampAt 26 = .ok (.imul, 1)) ∧ (decode cX12_stampAt 27 = .ok (.iadd, 1)) ∧ (decode cX12_stampAt 28 = .ok (.iaload, 1)) ∧ (decode cX12_stampAt 29 = .ok (.iload_n 1, 1)) ∧ (decode cX12_stampAt 30 = .ok (.if_icmp .ne 13, 3)) := by decide +kernel
theorem gX12_stampAt_2 : (decode cX12_stampAt 33 = .ok (.iload_n 3, 1)) ∧ (decode cX12_stampAt 34 = .ok (.ifCond .ne 6, 3)) ∧ (decode cX12_stampAt 37 = .ok (.iload 4, 2)) ∧ (decode cX12_stampAt 39 = .ok (.ireturn, 1)) ∧ (decode cX12_stampAt 40 = .ok (.iinc 3 (-1), 3)) ∧ (decode cX12_stampAt 43 = .ok (.iinc 4 1, 3)) ∧ (decode cX12_stampAt 46 = .ok (.goto (-41), 3)) ∧ (decode cX12_stampAt 49 = .ok (.iconst (-1), 1)) ∧ (decode cX12_stampAt 50 = .ok (.ireturn, 1)) := by decide +kernel
theorem gX12_atMost_0 : (decode cX12_atMost 0 = .ok (.aload_n 0, 1)) ∧ (decode cX12_atMost 1 = .ok (.getfield 26, 3)) ∧ (decode cX12_atMost 4 = .ok (.bipush 6, 2)) ∧ (decode cX12_atMost 6 = .ok (.iload_n 1, 1)) ∧ (decode cX12_atMost 7 = .ok (.imul, 1)) ∧ (decode cX12_atMost 8 = .ok (.iload_n 2, 1)) ∧ (decode cX12_atMost 9 = .ok (.iadd, 1)) ∧ (decode cX12_atMost 10 = .ok (.aload_n 0, 1)) ∧ (decode cX12_atMost 11 = .ok (.getfield 26, 3)) ∧ (decode cX12_atMost 14 = .ok (.bipush 6, 2)) := by decide +kernel
theorem m_1040 : Cond.fieldLink RX12 26 "InquiryBenchModel" "more" "[I" ∈ BW := iB_BW55 _ (List.mem_of_getElem? (i := 9) rfl)
theorem gf_X12_26 (hC : CX p s m meth c y0 b0 mL0 rt0 args) (hy0 : y0.cls = RX12) (hK : KK G s) (hP : va_P G.1 vwCl ws H) (q0 : Nat) {fs : List Value} {v : Value} (he : ws[q0]? = some (a, .inr (12, fs))) (hv : fs[10]? = some v) (hdg : decode b0 pc = .ok (.getfield 26, 3)) (kk : W p l e R s m args below meth c H locs cells slots Q (F0 m (pc + 3) ls (v :: rest))) : W p l e R s m args below meth c H locs cells slots Q (F0 m pc ls (.ref a :: rest)) := by
  obtain ⟨hx, hb, hr, hml, hB, hown, hlocks, hnm⟩ := hC
  rw [hy0] at hown
  exact va_get (ci := 12) (C := RX12) (T := TX12) (N := 41) hx hb hB in_X12 hown hK.1 hP q0 he rfl 10 (by decide) (hB _ m_1040) (fun _ h => h) hv hdg kk
theorem gX12_atMost_1 : (decode cX12_atMost 16 = .ok (.iload_n 1, 1)) ∧ (decode cX12_atMost 17 = .ok (.imul, 1)) ∧ (decode cX12_atMost 18 = .ok (.iload_n 2, 1)) ∧ (decode cX12_atMost 19 = .ok (.iadd, 1)) ∧ (decode cX12_atMost 20 = .ok (.iaload, 1)) ∧ (decode cX12_atMost 21 = .ok (.iload_n 3, 1)) ∧ (decode cX12_atMost 22 = .ok (.invokestatic 137, 3)) ∧ (decode cX12_atMost 25 = .ok (.iastore, 1)) ∧ (decode cX12_atMost 26 = .ok (.return_, 1)) := by decide +kernel
theorem m_1165 : Cond.methodLink RX12 137 Lib.Math.min.name ∈ BW := iB_BW62 _ (List.mem_of_getElem? (i := 13) rfl)
theorem gX12_findClocks_0 : (decode cX12_findClocks 0 = .ok (.iconst 0, 1)) ∧ (decode cX12_findClocks 1 = .ok (.istore_n 1, 1)) ∧ (decode cX12_findClocks 2 = .ok (.iload_n 1, 1)) ∧ (decode cX12_findClocks 3 = .ok (.bipush 6, 2)) ∧ (decode cX12_findClocks 5 = .ok (.if_icmp .ge 58, 3)) ∧ (decode cX12_findClocks 8 = .ok (.iconst 0, 1)) ∧ (decode cX12_findClocks 9 = .ok (.istore_n 2, 1)) ∧ (decode cX12_findClocks 10 = .ok (.iload_n 2, 1)) ∧ (decode cX12_findClocks 11 = .ok (.bipush 6, 2)) ∧ (decode cX12_findClocks 13 = .ok (.if_icmp .ge 44, 3)) := by decide +kernel
theorem gX12_findClocks_3 : (decode cX12_findClocks 51 = .ok (.iinc 2 1, 3)) ∧ (decode cX12_findClocks 54 = .ok (.goto (-44), 3)) ∧ (decode cX12_findClocks 57 = .ok (.iinc 1 1, 3)) ∧ (decode cX12_findClocks 60 = .ok (.goto (-58), 3)) ∧ (decode cX12_findClocks 63 = .ok (.iconst 0, 1)) ∧ (decode cX12_findClocks 64 = .ok (.istore_n 1, 1)) ∧ (decode cX12_findClocks 65 = .ok (.iload_n 1, 1)) ∧ (decode cX12_findClocks 66 = .ok (.aload_n 0, 1)) ∧ (decode cX12_findClocks 67 = .ok (.getfield 9, 3)) ∧ (decode cX12_findClocks 70 = .ok (.iconst 5, 1)) := by decide +kernel
theorem gX12_findClocks_4 : (decode cX12_findClocks 71 = .ok (.iaload, 1)) ∧ (decode cX12_findClocks 72 = .ok (.if_icmp .ge 144, 3)) ∧ (decode cX12_findClocks 75 = .ok (.aload_n 0, 1)) ∧ (decode cX12_findClocks 76 = .ok (.iload_n 1, 1)) ∧ (decode cX12_findClocks 77 = .ok (.invokevirtual 103, 3)) ∧ (decode cX12_findClocks 80 = .ok (.ifCond .eq 11, 3)) ∧ (decode cX12_findClocks 83 = .ok (.aload_n 0, 1)) ∧ (decode cX12_findClocks 84 = .ok (.iload_n 1, 1)) ∧ (decode cX12_findClocks 85 = .ok (.invokevirtual 130, 3)) ∧ (decode cX12_findClocks 88 = .ok (.goto 4, 3)) := by decide +kernel
theorem gX12_findClocks_13 : (decode cX12_findClocks 216 = .ok (.iconst 0, 1)) ∧ (decode cX12_findClocks 217 = .ok (.istore_n 1, 1)) ∧ (decode cX12_findClocks 218 = .ok (.iload_n 1, 1)) ∧ (decode cX12_findClocks 219 = .ok (.bipush 6, 2)) ∧ (decode cX12_findClocks 221 = .ok (.if_icmp .ge 66, 3)) ∧ (decode cX12_findClocks 224 = .ok (.iconst 0, 1)) ∧ (decode cX12_findClocks 225 = .ok (.istore_n 2, 1)) ∧ (decode cX12_findClocks 226 = .ok (.iload_n 2, 1)) ∧ (decode cX12_findClocks 227 = .ok (.bipush 6, 2)) ∧ (decode cX12_findClocks 229 = .ok (.if_icmp .ge 52, 3)) := by decide +kernel
theorem gX12_findClocks_17 : (decode cX12_findClocks 281 = .ok (.iinc 1 1, 3)) ∧ (decode cX12_findClocks 284 = .ok (.goto (-66), 3)) ∧ (decode cX12_findClocks 287 = .ok (.iconst 0, 1)) ∧ (decode cX12_findClocks 288 = .ok (.istore_n 1, 1)) ∧ (decode cX12_findClocks 289 = .ok (.iconst 0, 1)) ∧ (decode cX12_findClocks 290 = .ok (.istore_n 2, 1)) ∧ (decode cX12_findClocks 291 = .ok (.iload_n 2, 1)) ∧ (decode cX12_findClocks 292 = .ok (.bipush 6, 2)) ∧ (decode cX12_findClocks 294 = .ok (.if_icmp .ge 33, 3)) ∧ (decode cX12_findClocks 297 = .ok (.iload_n 1, 1)) := by decide +kernel
theorem gX12_findClocks_19 : (decode cX12_findClocks 315 = .ok (.iconst 1, 1)) ∧ (decode cX12_findClocks 316 = .ok (.goto 4, 3)) ∧ (decode cX12_findClocks 319 = .ok (.iconst 0, 1)) ∧ (decode cX12_findClocks 320 = .ok (.istore_n 1, 1)) ∧ (decode cX12_findClocks 321 = .ok (.iinc 2 1, 3)) ∧ (decode cX12_findClocks 324 = .ok (.goto (-33), 3)) ∧ (decode cX12_findClocks 327 = .ok (.iload_n 1, 1)) ∧ (decode cX12_findClocks 328 = .ok (.ireturn, 1)) := by decide +kernel
theorem gX12_findClocks_18 : (decode cX12_findClocks 298 = .ok (.ifCond .ne 17, 3)) ∧ (decode cX12_findClocks 301 = .ok (.aload_n 0, 1)) ∧ (decode cX12_findClocks 302 = .ok (.getfield 26, 3)) ∧ (decode cX12_findClocks 305 = .ok (.bipush 6, 2)) ∧ (decode cX12_findClocks 307 = .ok (.iload_n 2, 1)) ∧ (decode cX12_findClocks 308 = .ok (.imul, 1)) ∧ (decode cX12_findClocks 309 = .ok (.iload_n 2, 1)) ∧ (decode cX12_findClocks 310 = .ok (.iadd, 1)) ∧ (decode cX12_findClocks 311 = .ok (.iaload, 1)) ∧ (decode cX12_findClocks 312 = .ok (.ifCond .ge 7, 3)) := by decide +kernel
theorem gX12_findClocks_14 : (decode cX12_findClocks 232 = .ok (.iconst 0, 1)) ∧ (decode cX12_findClocks 233 = .ok (.istore_n 3, 1)) ∧ (decode cX12_findClocks 234 = .ok (.iload_n 3, 1)) ∧ (decode cX12_findClocks 235 = .ok (.bipush 6, 2)) ∧ (decode cX12_findClocks 237 = .ok (.if_icmp .ge 38, 3)) ∧ (decode cX12_findClocks 240 = .ok (.aload_n 0, 1)) ∧ (decode cX12_findClocks 241 = .ok (.iload_n 2, 1)) ∧ (decode cX12_findClocks 242 = .ok (.iload_n 3, 1)) ∧ (decode cX12_findClocks 243 = .ok (.aload_n 0, 1)) ∧ (decode cX12_findClocks 244 = .ok (.getfield 26, 3)) := by decide +kernel
theorem gX12_findClocks_16 : (decode cX12_findClocks 261 = .ok (.imul, 1)) ∧ (decode cX12_findClocks 262 = .ok (.iload_n 3, 1)) ∧ (decode cX12_findClocks 263 = .ok (.iadd, 1)) ∧ (decode cX12_findClocks 264 = .ok (.iaload, 1)) ∧ (decode cX12_findClocks 265 = .ok (.iadd, 1)) ∧ (decode cX12_findClocks 266 = .ok (.invokevirtual 145, 3)) ∧ (decode cX12_findClocks 269 = .ok (.iinc 3 1, 3)) ∧ (decode cX12_findClocks 272 = .ok (.goto (-38), 3)) ∧ (decode cX12_findClocks 275 = .ok (.iinc 2 1, 3)) ∧ (decode cX12_findClocks 278 = .ok (.goto (-52), 3)) := by decide +kernel
theorem gX12_findClocks_15 : (decode cX12_findClocks 247 = .ok (.bipush 6, 2)) ∧ (decode cX12_findClocks 249 = .ok (.iload_n 2, 1)) ∧ (decode cX12_findClocks 250 = .ok (.imul, 1)) ∧ (decode cX12_findClocks 251 = .ok (.iload_n 1, 1)) ∧ (decode cX12_findClocks 252 = .ok (.iadd, 1)) ∧ (decode cX12_findClocks 253 = .ok (.iaload, 1)) ∧ (decode cX12_findClocks 254 = .ok (.aload_n 0, 1)) ∧ (decode cX12_findClocks 255 = .ok (.getfield 26, 3)) ∧ (decode cX12_findClocks 258 = .ok (.bipush 6, 2)) ∧ (decode cX12_findClocks 260 = .ok (.iload_n 1, 1)) := by decide +kernel
theorem m_1164 : Cond.code yX12_atMost cX12_atMost 4 none ∈ BW := iB_BW62 _ (List.mem_of_getElem? (i := 12) rfl)
theorem m_1162 : Cond.methodLink RX12 145 yX12_atMost ∈ BW := iB_BW62 _ (List.mem_of_getElem? (i := 10) rfl)
theorem m_1163 : Cond.instanceMethod yX12_atMost ∈ BW := iB_BW62 _ (List.mem_of_getElem? (i := 11) rfl)
theorem m_62 : Cond.selects RX12 yX12_atMost yX12_atMost ∈ BW := iB_BW3 _ (List.mem_of_getElem? (i := 2) rfl)
theorem si_X12_145 : SV RX12 RX12 145 yX12_atMost cX12_atMost 4 none 3 := ⟨⟨m_1162, m_1163, m_62, m_115, m_1164⟩, rfl, nK_RX12.1, nK_RX12.2, pd_4⟩
theorem m_1137 : Cond.code yX12_stampsOf cX12_stampsOf 4 (some .int) ∈ BW := iB_BW61 _ (List.mem_of_getElem? (i := 5) rfl)
theorem m_1135 : Cond.methodLink RX12 130 yX12_stampsOf ∈ BW := iB_BW61 _ (List.mem_of_getElem? (i := 3) rfl)
theorem m_1136 : Cond.instanceMethod yX12_stampsOf ∈ BW := iB_BW61 _ (List.mem_of_getElem? (i := 4) rfl)
theorem m_57 : Cond.selects RX12 yX12_stampsOf yX12_stampsOf ∈ BW := iB_BW2 _ (List.mem_of_getElem? (i := 17) rfl)
theorem si_X12_130 : SV RX12 RX12 130 yX12_stampsOf cX12_stampsOf 4 (some .int) 1 := ⟨⟨m_1135, m_1136, m_57, m_115, m_1137⟩, rfl, nK_RX12.1, nK_RX12.2, pd_7⟩
theorem gX12_findClocks_5 : (decode cX12_findClocks 91 = .ok (.iconst 0, 1)) ∧ (decode cX12_findClocks 92 = .ok (.istore_n 2, 1)) ∧ (decode cX12_findClocks 93 = .ok (.iconst 1, 1)) ∧ (decode cX12_findClocks 94 = .ok (.istore_n 3, 1)) ∧ (decode cX12_findClocks 95 = .ok (.iload_n 3, 1)) ∧ (decode cX12_findClocks 96 = .ok (.iload_n 2, 1)) ∧ (decode cX12_findClocks 97 = .ok (.if_icmp .ge 113, 3)) ∧ (decode cX12_findClocks 100 = .ok (.bipush 104, 2)) ∧ (decode cX12_findClocks 102 = .ok (.iconst 3, 1)) ∧ (decode cX12_findClocks 103 = .ok (.aload_n 0, 1)) := by decide +kernel
theorem gX12_findClocks_12 : (decode cX12_findClocks 193 = .ok (.getfield 9, 3)) ∧ (decode cX12_findClocks 196 = .ok (.iconst 3, 1)) ∧ (decode cX12_findClocks 197 = .ok (.iaload, 1)) ∧ (decode cX12_findClocks 198 = .ok (.iload 6, 2)) ∧ (decode cX12_findClocks 200 = .ok (.isub, 1)) ∧ (decode cX12_findClocks 201 = .ok (.invokevirtual 145, 3)) ∧ (decode cX12_findClocks 204 = .ok (.iinc 3 1, 3)) ∧ (decode cX12_findClocks 207 = .ok (.goto (-112), 3)) ∧ (decode cX12_findClocks 210 = .ok (.iinc 1 1, 3)) ∧ (decode cX12_findClocks 213 = .ok (.goto (-148), 3)) := by decide +kernel
theorem gX12_findClocks_6 : (decode cX12_findClocks 104 = .ok (.iload_n 1, 1)) ∧ (decode cX12_findClocks 105 = .ok (.iload_n 3, 1)) ∧ (decode cX12_findClocks 106 = .ok (.iconst 1, 1)) ∧ (decode cX12_findClocks 107 = .ok (.isub, 1)) ∧ (decode cX12_findClocks 108 = .ok (.invokevirtual 142, 3)) ∧ (decode cX12_findClocks 111 = .ok (.imul, 1)) ∧ (decode cX12_findClocks 112 = .ok (.iadd, 1)) ∧ (decode cX12_findClocks 113 = .ok (.istore 4, 2)) ∧ (decode cX12_findClocks 115 = .ok (.bipush 104, 2)) ∧ (decode cX12_findClocks 117 = .ok (.iconst 3, 1)) := by decide +kernel
theorem m_1161 : Cond.code yX12_stampAt cX12_stampAt 5 (some .int) ∈ BW := iB_BW62 _ (List.mem_of_getElem? (i := 9) rfl)
theorem m_1159 : Cond.methodLink RX12 142 yX12_stampAt ∈ BW := iB_BW62 _ (List.mem_of_getElem? (i := 7) rfl)
theorem m_1160 : Cond.instanceMethod yX12_stampAt ∈ BW := iB_BW62 _ (List.mem_of_getElem? (i := 8) rfl)
theorem m_61 : Cond.selects RX12 yX12_stampAt yX12_stampAt ∈ BW := iB_BW3 _ (List.mem_of_getElem? (i := 1) rfl)
theorem si_X12_142 : SV RX12 RX12 142 yX12_stampAt cX12_stampAt 5 (some .int) 2 := ⟨⟨m_1159, m_1160, m_61, m_115, m_1161⟩, rfl, nK_RX12.1, nK_RX12.2, pd_2⟩
theorem gX12_findClocks_7 : (decode cX12_findClocks 118 = .ok (.aload_n 0, 1)) ∧ (decode cX12_findClocks 119 = .ok (.iload_n 1, 1)) ∧ (decode cX12_findClocks 120 = .ok (.iload_n 3, 1)) ∧ (decode cX12_findClocks 121 = .ok (.invokevirtual 142, 3)) ∧ (decode cX12_findClocks 124 = .ok (.imul, 1)) ∧ (decode cX12_findClocks 125 = .ok (.iadd, 1)) ∧ (decode cX12_findClocks 126 = .ok (.istore 5, 2)) ∧ (decode cX12_findClocks 128 = .ok (.aload_n 0, 1)) ∧ (decode cX12_findClocks 129 = .ok (.getfield 9, 3)) ∧ (decode cX12_findClocks 132 = .ok (.iload 5, 2)) := by decide +kernel
theorem gX12_findClocks_8 : (decode cX12_findClocks 134 = .ok (.iconst 2, 1)) ∧ (decode cX12_findClocks 135 = .ok (.iadd, 1)) ∧ (decode cX12_findClocks 136 = .ok (.iaload, 1)) ∧ (decode cX12_findClocks 137 = .ok (.aload_n 0, 1)) ∧ (decode cX12_findClocks 138 = .ok (.getfield 9, 3)) ∧ (decode cX12_findClocks 141 = .ok (.iload 4, 2)) ∧ (decode cX12_findClocks 143 = .ok (.iconst 2, 1)) ∧ (decode cX12_findClocks 144 = .ok (.iadd, 1)) ∧ (decode cX12_findClocks 145 = .ok (.iaload, 1)) ∧ (decode cX12_findClocks 146 = .ok (.isub, 1)) := by decide +kernel
theorem gX12_findClocks_9 : (decode cX12_findClocks 147 = .ok (.istore 6, 2)) ∧ (decode cX12_findClocks 149 = .ok (.aload_n 0, 1)) ∧ (decode cX12_findClocks 150 = .ok (.aload_n 0, 1)) ∧ (decode cX12_findClocks 151 = .ok (.getfield 9, 3)) ∧ (decode cX12_findClocks 154 = .ok (.iload 4, 2)) ∧ (decode cX12_findClocks 156 = .ok (.iconst 1, 1)) ∧ (decode cX12_findClocks 157 = .ok (.iadd, 1)) ∧ (decode cX12_findClocks 158 = .ok (.iaload, 1)) ∧ (decode cX12_findClocks 159 = .ok (.aload_n 0, 1)) ∧ (decode cX12_findClocks 160 = .ok (.getfield 9, 3)) := by decide +kernel
theorem gX12_findClocks_10 : (decode cX12_findClocks 163 = .ok (.iload 5, 2)) ∧ (decode cX12_findClocks 165 = .ok (.iconst 1, 1)) ∧ (decode cX12_findClocks 166 = .ok (.iadd, 1)) ∧ (decode cX12_findClocks 167 = .ok (.iaload, 1)) ∧ (decode cX12_findClocks 168 = .ok (.iload 6, 2)) ∧ (decode cX12_findClocks 170 = .ok (.invokevirtual 145, 3)) ∧ (decode cX12_findClocks 173 = .ok (.aload_n 0, 1)) ∧ (decode cX12_findClocks 174 = .ok (.aload_n 0, 1)) ∧ (decode cX12_findClocks 175 = .ok (.getfield 9, 3)) ∧ (decode cX12_findClocks 178 = .ok (.iload 5, 2)) := by decide +kernel
theorem gX12_findClocks_11 : (decode cX12_findClocks 180 = .ok (.iconst 1, 1)) ∧ (decode cX12_findClocks 181 = .ok (.iadd, 1)) ∧ (decode cX12_findClocks 182 = .ok (.iaload, 1)) ∧ (decode cX12_findClocks 183 = .ok (.aload_n 0, 1)) ∧ (decode cX12_findClocks 184 = .ok (.getfield 9, 3)) ∧ (decode cX12_findClocks 187 = .ok (.iload 4, 2)) ∧ (decode cX12_findClocks 189 = .ok (.iconst 1, 1)) ∧ (decode cX12_findClocks 190 = .ok (.iadd, 1)) ∧ (decode cX12_findClocks 191 = .ok (.iaload, 1)) ∧ (decode cX12_findClocks 192 = .ok (.aload_n 0, 1)) := by decide +kernel
theorem gX12_findClocks_1 : (decode cX12_findClocks 16 = .ok (.aload_n 0, 1)) ∧ (decode cX12_findClocks 17 = .ok (.getfield 26, 3)) ∧ (decode cX12_findClocks 20 = .ok (.bipush 6, 2)) ∧ (decode cX12_findClocks 22 = .ok (.iload_n 1, 1)) ∧ (decode cX12_findClocks 23 = .ok (.imul, 1)) ∧ (decode cX12_findClocks 24 = .ok (.iload_n 2, 1)) ∧ (decode cX12_findClocks 25 = .ok (.iadd, 1)) ∧ (decode cX12_findClocks 26 = .ok (.iload_n 1, 1)) ∧ (decode cX12_findClocks 27 = .ok (.iload_n 2, 1)) ∧ (decode cX12_findClocks 28 = .ok (.if_icmp .ne 7, 3)) := by decide +kernel
theorem gX12_findClocks_2 : (decode cX12_findClocks 31 = .ok (.iconst 0, 1)) ∧ (decode cX12_findClocks 32 = .ok (.goto 18, 3)) ∧ (decode cX12_findClocks 35 = .ok (.iload_n 1, 1)) ∧ (decode cX12_findClocks 36 = .ok (.ifCond .eq 7, 3)) ∧ (decode cX12_findClocks 39 = .ok (.iload_n 2, 1)) ∧ (decode cX12_findClocks 40 = .ok (.ifCond .ne 8, 3)) ∧ (decode cX12_findClocks 43 = .ok (.bipush 60, 2)) ∧ (decode cX12_findClocks 45 = .ok (.goto 5, 3)) ∧ (decode cX12_findClocks 48 = .ok (.bipush 120, 2)) ∧ (decode cX12_findClocks 50 = .ok (.iastore, 1)) := by decide +kernel
theorem gX12_greatest_0 : (decode cX12_greatest 0 = .ok (.aload_n 0, 1)) ∧ (decode cX12_greatest 1 = .ok (.getfield 26, 3)) ∧ (decode cX12_greatest 4 = .ok (.iload_n 1, 1)) ∧ (decode cX12_greatest 5 = .ok (.iaload, 1)) ∧ (decode cX12_greatest 6 = .ok (.ireturn, 1)) := by decide +kernel
theorem gX12_least_0 : (decode cX12_least 0 = .ok (.aload_n 0, 1)) ∧ (decode cX12_least 1 = .ok (.getfield 26, 3)) ∧ (decode cX12_least 4 = .ok (.bipush 6, 2)) ∧ (decode cX12_least 6 = .ok (.iload_n 1, 1)) ∧ (decode cX12_least 7 = .ok (.imul, 1)) ∧ (decode cX12_least 8 = .ok (.iaload, 1)) ∧ (decode cX12_least 9 = .ok (.ineg, 1)) ∧ (decode cX12_least 10 = .ok (.ireturn, 1)) := by decide +kernel
theorem gX12_hours_0 : (decode cX12_hours 0 = .ok (.aload_n 0, 1)) ∧ (decode cX12_hours 1 = .ok (.iload_n 1, 1)) ∧ (decode cX12_hours 2 = .ok (.invokevirtual 130, 3)) ∧ (decode cX12_hours 5 = .ok (.istore 4, 2)) ∧ (decode cX12_hours 7 = .ok (.iload_n 2, 1)) ∧ (decode cX12_hours 8 = .ok (.ifCond .ne 16, 3)) ∧ (decode cX12_hours 11 = .ok (.iload 4, 2)) ∧ (decode cX12_hours 13 = .ok (.ifCond .eq 11, 3)) ∧ (decode cX12_hours 16 = .ok (.aload_n 0, 1)) ∧ (decode cX12_hours 17 = .ok (.iload_n 1, 1)) := by decide +kernel
theorem gX12_hours_1 : (decode cX12_hours 18 = .ok (.invokevirtual 103, 3)) ∧ (decode cX12_hours 21 = .ok (.ifCond .ne 5, 3)) ∧ (decode cX12_hours 24 = .ok (.iconst 0, 1)) ∧ (decode cX12_hours 25 = .ok (.ireturn, 1)) ∧ (decode cX12_hours 26 = .ok (.bipush 104, 2)) ∧ (decode cX12_hours 28 = .ok (.iconst 3, 1)) ∧ (decode cX12_hours 29 = .ok (.aload_n 0, 1)) ∧ (decode cX12_hours 30 = .ok (.iload_n 1, 1)) ∧ (decode cX12_hours 31 = .ok (.iload_n 3, 1)) ∧ (decode cX12_hours 32 = .ok (.ifCond .eq 10, 3)) := by decide +kernel
theorem gX12_hours_2 : (decode cX12_hours 35 = .ok (.iload 4, 2)) ∧ (decode cX12_hours 37 = .ok (.iconst 1, 1)) ∧ (decode cX12_hours 38 = .ok (.isub, 1)) ∧ (decode cX12_hours 39 = .ok (.goto 4, 3)) ∧ (decode cX12_hours 42 = .ok (.iconst 0, 1)) ∧ (decode cX12_hours 43 = .ok (.invokevirtual 142, 3)) ∧ (decode cX12_hours 46 = .ok (.imul, 1)) ∧ (decode cX12_hours 47 = .ok (.iadd, 1)) ∧ (decode cX12_hours 48 = .ok (.istore 5, 2)) ∧ (decode cX12_hours 50 = .ok (.aload_n 0, 1)) := by decide +kernel
theorem gX12_hours_3 : (decode cX12_hours 51 = .ok (.aload_n 0, 1)) ∧ (decode cX12_hours 52 = .ok (.getfield 9, 3)) ∧ (decode cX12_hours 55 = .ok (.iload 5, 2)) ∧ (decode cX12_hours 57 = .ok (.iconst 2, 1)) ∧ (decode cX12_hours 58 = .ok (.iadd, 1)) ∧ (decode cX12_hours 59 = .ok (.iaload, 1)) ∧ (decode cX12_hours 60 = .ok (.aload_n 0, 1)) ∧ (decode cX12_hours 61 = .ok (.aload_n 0, 1)) ∧ (decode cX12_hours 62 = .ok (.getfield 9, 3)) ∧ (decode cX12_hours 65 = .ok (.iload 5, 2)) := by decide +kernel
theorem gX12_hours_4 : (decode cX12_hours 67 = .ok (.iconst 1, 1)) ∧ (decode cX12_hours 68 = .ok (.iadd, 1)) ∧ (decode cX12_hours 69 = .ok (.iaload, 1)) ∧ (decode cX12_hours 70 = .ok (.invokevirtual 155, 3)) ∧ (decode cX12_hours 73 = .ok (.isub, 1)) ∧ (decode cX12_hours 74 = .ok (.putfield 161, 3)) ∧ (decode cX12_hours 77 = .ok (.aload_n 0, 1)) ∧ (decode cX12_hours 78 = .ok (.aload_n 0, 1)) ∧ (decode cX12_hours 79 = .ok (.getfield 9, 3)) ∧ (decode cX12_hours 82 = .ok (.iload 5, 2)) := by decide +kernel
theorem m_1172 : Cond.code yX12_greatest cX12_greatest 2 (some .int) ∈ BW := iB_BW63 _ (List.mem_of_getElem? (i := 0) rfl)
theorem m_1170 : Cond.methodLink RX12 155 yX12_greatest ∈ BW := iB_BW62 _ (List.mem_of_getElem? (i := 18) rfl)
theorem m_1171 : Cond.instanceMethod yX12_greatest ∈ BW := iB_BW62 _ (List.mem_of_getElem? (i := 19) rfl)
theorem m_63 : Cond.selects RX12 yX12_greatest yX12_greatest ∈ BW := iB_BW3 _ (List.mem_of_getElem? (i := 3) rfl)
theorem si_X12_155 : SV RX12 RX12 155 yX12_greatest cX12_greatest 2 (some .int) 1 := ⟨⟨m_1170, m_1171, m_63, m_115, m_1172⟩, rfl, nK_RX12.1, nK_RX12.2, pd_7⟩
theorem m_1041 : Cond.fieldLink RX12 161 "InquiryBenchModel" "fromHou\x72" "I" ∈ BW := iB_BW55 _ (List.mem_of_getElem? (i := 10) rfl)
theorem pf_X12_161 (hC : CX p s m meth c y0 b0 mL0 rt0 args) (hy0 : y0.cls = RX12) (hK : KK G s) (hP : va_P G.1 vwCl ws H) (hD : va_D A ws) (hS : va_S A H0 H locs) (q0 : Nat) {fs : List Value} {v : Value} {ws' : va_W} (he : ws[q0]? = some (a, .inr (12, fs))) (hl : 11 < fs.length) (hws : ws.set q0 (a, .inr (12, fs.set 11 v)) = ws') (hn : narrow .int v = v) (hfit : fits .int v = true) (hdg : decode b0 pc = .ok (.putfield 161, 3)) (kk : ∀ (H1 : Heap) (locs1 : List Loc), va_P G.1 vwCl ws' H1 → va_D A ws' → va_S A H0 H1 locs1 → W p l e R s m args below meth c H1 locs1 cells slots Q (F0 m (pc + 3) ls rest)) : W p l e R s m args below meth c H locs cells slots Q (F0 m pc ls (v :: .ref a :: rest)) := by
  obtain ⟨hx, hb, hr, hml, hB, hown, hlocks, hnm⟩ := hC
  rw [hy0] at hown
  subst hws
  exact va_put (ci := 12) (ty := .int) (C := RX12) (T := TX12) (N := 41) hx hb hB in_X12 tyX12 tyX12_ok nmX12 hown hK.1 hP hD hS q0 he rfl 11 (by decide) (hB _ m_1041) (fun _ h => h) rfl (by decide +kernel) hn hfit hl hdg kk
theorem gX12_hours_5 : (decode cX12_hours 84 = .ok (.iconst 2, 1)) ∧ (decode cX12_hours 85 = .ok (.iadd, 1)) ∧ (decode cX12_hours 86 = .ok (.iaload, 1)) ∧ (decode cX12_hours 87 = .ok (.aload_n 0, 1)) ∧ (decode cX12_hours 88 = .ok (.aload_n 0, 1)) ∧ (decode cX12_hours 89 = .ok (.getfield 9, 3)) ∧ (decode cX12_hours 92 = .ok (.iload 5, 2)) ∧ (decode cX12_hours 94 = .ok (.iconst 1, 1)) ∧ (decode cX12_hours 95 = .ok (.iadd, 1)) ∧ (decode cX12_hours 96 = .ok (.iaload, 1)) := by decide +kernel
theorem gX12_hours_6 : (decode cX12_hours 97 = .ok (.invokevirtual 158, 3)) ∧ (decode cX12_hours 100 = .ok (.isub, 1)) ∧ (decode cX12_hours 101 = .ok (.putfield 164, 3)) ∧ (decode cX12_hours 104 = .ok (.iconst 1, 1)) ∧ (decode cX12_hours 105 = .ok (.ireturn, 1)) := by decide +kernel
theorem m_1175 : Cond.code yX12_least cX12_least 2 (some .int) ∈ BW := iB_BW63 _ (List.mem_of_getElem? (i := 3) rfl)
theorem m_1173 : Cond.methodLink RX12 158 yX12_least ∈ BW := iB_BW63 _ (List.mem_of_getElem? (i := 1) rfl)
theorem m_1174 : Cond.instanceMethod yX12_least ∈ BW := iB_BW63 _ (List.mem_of_getElem? (i := 2) rfl)
theorem m_64 : Cond.selects RX12 yX12_least yX12_least ∈ BW := iB_BW3 _ (List.mem_of_getElem? (i := 4) rfl)
theorem si_X12_158 : SV RX12 RX12 158 yX12_least cX12_least 2 (some .int) 1 := ⟨⟨m_1173, m_1174, m_64, m_115, m_1175⟩, rfl, nK_RX12.1, nK_RX12.2, pd_7⟩
theorem m_1042 : Cond.fieldLink RX12 164 "InquiryBenchModel" "toHou\x72" "I" ∈ BW := iB_BW55 _ (List.mem_of_getElem? (i := 11) rfl)
theorem pf_X12_164 (hC : CX p s m meth c y0 b0 mL0 rt0 args) (hy0 : y0.cls = RX12) (hK : KK G s) (hP : va_P G.1 vwCl ws H) (hD : va_D A ws) (hS : va_S A H0 H locs) (q0 : Nat) {fs : List Value} {v : Value} {ws' : va_W} (he : ws[q0]? = some (a, .inr (12, fs))) (hl : 12 < fs.length) (hws : ws.set q0 (a, .inr (12, fs.set 12 v)) = ws') (hn : narrow .int v = v) (hfit : fits .int v = true) (hdg : decode b0 pc = .ok (.putfield 164, 3)) (kk : ∀ (H1 : Heap) (locs1 : List Loc), va_P G.1 vwCl ws' H1 → va_D A ws' → va_S A H0 H1 locs1 → W p l e R s m args below meth c H1 locs1 cells slots Q (F0 m (pc + 3) ls rest)) : W p l e R s m args below meth c H locs cells slots Q (F0 m pc ls (v :: .ref a :: rest)) := by
  obtain ⟨hx, hb, hr, hml, hB, hown, hlocks, hnm⟩ := hC
  rw [hy0] at hown
  subst hws
  exact va_put (ci := 12) (ty := .int) (C := RX12) (T := TX12) (N := 41) hx hb hB in_X12 tyX12 tyX12_ok nmX12 hown hK.1 hP hD hS q0 he rfl 12 (by decide) (hB _ m_1042) (fun _ h => h) rfl (by decide +kernel) hn hfit hl hdg kk
theorem gX12_inHand_0 : (decode cX12_inHand 0 = .ok (.aload_n 0, 1)) ∧ (decode cX12_inHand 1 = .ok (.iload_n 1, 1)) ∧ (decode cX12_inHand 2 = .ok (.iconst 0, 1)) ∧ (decode cX12_inHand 3 = .ok (.invokevirtual 88, 3)) ∧ (decode cX12_inHand 6 = .ok (.iload_n 2, 1)) ∧ (decode cX12_inHand 7 = .ok (.if_icmp .ne 11, 3)) ∧ (decode cX12_inHand 10 = .ok (.aload_n 0, 1)) ∧ (decode cX12_inHand 11 = .ok (.iload_n 1, 1)) ∧ (decode cX12_inHand 12 = .ok (.iload_n 3, 1)) ∧ (decode cX12_inHand 13 = .ok (.iconst 0, 1)) := by decide +kernel
theorem gX12_inHand_1 : (decode cX12_inHand 14 = .ok (.invokevirtual 167, 3)) ∧ (decode cX12_inHand 17 = .ok (.ireturn, 1)) ∧ (decode cX12_inHand 18 = .ok (.aload_n 0, 1)) ∧ (decode cX12_inHand 19 = .ok (.iload_n 1, 1)) ∧ (decode cX12_inHand 20 = .ok (.iconst 1, 1)) ∧ (decode cX12_inHand 21 = .ok (.invokevirtual 88, 3)) ∧ (decode cX12_inHand 24 = .ok (.iload_n 2, 1)) ∧ (decode cX12_inHand 25 = .ok (.invokestatic 99, 3)) ∧ (decode cX12_inHand 28 = .ok (.ifCond .eq 13, 3)) ∧ (decode cX12_inHand 31 = .ok (.aload_n 0, 1)) := by decide +kernel
theorem gX12_inHand_2 : (decode cX12_inHand 32 = .ok (.iload_n 1, 1)) ∧ (decode cX12_inHand 33 = .ok (.iload_n 3, 1)) ∧ (decode cX12_inHand 34 = .ok (.iconst 1, 1)) ∧ (decode cX12_inHand 35 = .ok (.invokevirtual 167, 3)) ∧ (decode cX12_inHand 38 = .ok (.ifCond .ne 5, 3)) ∧ (decode cX12_inHand 41 = .ok (.iconst 0, 1)) ∧ (decode cX12_inHand 42 = .ok (.ireturn, 1)) ∧ (decode cX12_inHand 43 = .ok (.aload_n 0, 1)) ∧ (decode cX12_inHand 44 = .ok (.dup, 1)) ∧ (decode cX12_inHand 45 = .ok (.getfield 164, 3)) := by decide +kernel
theorem m_1182 : Cond.code yX12_hours cX12_hours 6 (some .boolean) ∈ BW := iB_BW63 _ (List.mem_of_getElem? (i := 10) rfl)
theorem pd_29 : (parseMethodDescriptor "(IZZ)Z").map (fun d => d.parameters.length) = some 3 := by decide +kernel
theorem m_1180 : Cond.methodLink RX12 167 yX12_hours ∈ BW := iB_BW63 _ (List.mem_of_getElem? (i := 8) rfl)
theorem m_1181 : Cond.instanceMethod yX12_hours ∈ BW := iB_BW63 _ (List.mem_of_getElem? (i := 9) rfl)
theorem m_65 : Cond.selects RX12 yX12_hours yX12_hours ∈ BW := iB_BW3 _ (List.mem_of_getElem? (i := 5) rfl)
theorem si_X12_167 : SV RX12 RX12 167 yX12_hours cX12_hours 6 (some .boolean) 3 := ⟨⟨m_1180, m_1181, m_65, m_115, m_1182⟩, rfl, nK_RX12.1, nK_RX12.2, pd_29⟩
theorem gf_X12_164 (hC : CX p s m meth c y0 b0 mL0 rt0 args) (hy0 : y0.cls = RX12) (hK : KK G s) (hP : va_P G.1 vwCl ws H) (q0 : Nat) {fs : List Value} {v : Value} (he : ws[q0]? = some (a, .inr (12, fs))) (hv : fs[12]? = some v) (hdg : decode b0 pc = .ok (.getfield 164, 3)) (kk : W p l e R s m args below meth c H locs cells slots Q (F0 m (pc + 3) ls (v :: rest))) : W p l e R s m args below meth c H locs cells slots Q (F0 m pc ls (.ref a :: rest)) := by
  obtain ⟨hx, hb, hr, hml, hB, hown, hlocks, hnm⟩ := hC
  rw [hy0] at hown
  exact va_get (ci := 12) (C := RX12) (T := TX12) (N := 41) hx hb hB in_X12 hown hK.1 hP q0 he rfl 12 (by decide) (hB _ m_1042) (fun _ h => h) hv hdg kk
theorem gX12_inHand_3 : (decode cX12_inHand 48 = .ok (.aload_n 0, 1)) ∧ (decode cX12_inHand 49 = .ok (.getfield 9, 3)) ∧ (decode cX12_inHand 52 = .ok (.bipush 12, 2)) ∧ (decode cX12_inHand 54 = .ok (.iconst 2, 1)) ∧ (decode cX12_inHand 55 = .ok (.iload_n 2, 1)) ∧ (decode cX12_inHand 56 = .ok (.imul, 1)) ∧ (decode cX12_inHand 57 = .ok (.iadd, 1)) ∧ (decode cX12_inHand 58 = .ok (.iconst 1, 1)) ∧ (decode cX12_inHand 59 = .ok (.iadd, 1)) ∧ (decode cX12_inHand 60 = .ok (.iaload, 1)) := by decide +kernel
theorem gX12_inHand_4 : (decode cX12_inHand 61 = .ok (.iadd, 1)) ∧ (decode cX12_inHand 62 = .ok (.putfield 164, 3)) ∧ (decode cX12_inHand 65 = .ok (.iconst 1, 1)) ∧ (decode cX12_inHand 66 = .ok (.ireturn, 1)) := by decide +kernel
theorem gX12_knewBy_0 : (decode cX12_knewBy 0 = .ok (.aload_n 0, 1)) ∧ (decode cX12_knewBy 1 = .ok (.invokevirtual 148, 3)) ∧ (decode cX12_knewBy 4 = .ok (.istore 4, 2)) ∧ (decode cX12_knewBy 6 = .ok (.ldc 175, 2)) ∧ (decode cX12_knewBy 8 = .ok (.istore 5, 2)) ∧ (decode cX12_knewBy 10 = .ok (.iconst 0, 1)) ∧ (decode cX12_knewBy 11 = .ok (.istore 6, 2)) ∧ (decode cX12_knewBy 13 = .ok (.iload 6, 2)) ∧ (decode cX12_knewBy 15 = .ok (.aload_n 0, 1)) ∧ (decode cX12_knewBy 16 = .ok (.getfield 9, 3)) := by decide +kernel
theorem m_1158 : Cond.code yX12_findClocks cX12_findClocks 7 (some .boolean) ∈ BW := iB_BW62 _ (List.mem_of_getElem? (i := 6) rfl)
theorem m_1156 : Cond.methodLink RX12 148 yX12_findClocks ∈ BW := iB_BW62 _ (List.mem_of_getElem? (i := 4) rfl)
theorem m_1157 : Cond.instanceMethod yX12_findClocks ∈ BW := iB_BW62 _ (List.mem_of_getElem? (i := 5) rfl)
theorem m_60 : Cond.selects RX12 yX12_findClocks yX12_findClocks ∈ BW := iB_BW3 _ (List.mem_of_getElem? (i := 0) rfl)
theorem si_X12_148 : SV RX12 RX12 148 yX12_findClocks cX12_findClocks 7 (some .boolean) 0 := ⟨⟨m_1156, m_1157, m_60, m_115, m_1158⟩, rfl, nK_RX12.1, nK_RX12.2, pd_15⟩
theorem m_1204 : Cond.constant RX12 175 (100000) ∈ BW := iB_BW64 _ (List.mem_of_getElem? (i := 12) rfl)
theorem gX12_knewBy_1 : (decode cX12_knewBy 19 = .ok (.iconst 5, 1)) ∧ (decode cX12_knewBy 20 = .ok (.iaload, 1)) ∧ (decode cX12_knewBy 21 = .ok (.if_icmp .ge 57, 3)) ∧ (decode cX12_knewBy 24 = .ok (.aload_n 0, 1)) ∧ (decode cX12_knewBy 25 = .ok (.iload 6, 2)) ∧ (decode cX12_knewBy 27 = .ok (.iconst 2, 1)) ∧ (decode cX12_knewBy 28 = .ok (.invokevirtual 88, 3)) ∧ (decode cX12_knewBy 31 = .ok (.iload_n 2, 1)) ∧ (decode cX12_knewBy 32 = .ok (.invokestatic 99, 3)) ∧ (decode cX12_knewBy 35 = .ok (.ifCond .eq 37, 3)) := by decide +kernel
theorem gX12_knewBy_3 : (decode cX12_knewBy 57 = .ok (.getfield 164, 3)) ∧ (decode cX12_knewBy 60 = .ok (.goto 7, 3)) ∧ (decode cX12_knewBy 63 = .ok (.aload_n 0, 1)) ∧ (decode cX12_knewBy 64 = .ok (.getfield 161, 3)) ∧ (decode cX12_knewBy 67 = .ok (.invokestatic 137, 3)) ∧ (decode cX12_knewBy 70 = .ok (.istore 5, 2)) ∧ (decode cX12_knewBy 72 = .ok (.iinc 6 1, 3)) ∧ (decode cX12_knewBy 75 = .ok (.goto (-62), 3)) ∧ (decode cX12_knewBy 78 = .ok (.iload 5, 2)) ∧ (decode cX12_knewBy 80 = .ok (.ireturn, 1)) := by decide +kernel
theorem gX12_knewBy_2 : (decode cX12_knewBy 38 = .ok (.aload_n 0, 1)) ∧ (decode cX12_knewBy 39 = .ok (.iload 6, 2)) ∧ (decode cX12_knewBy 41 = .ok (.iload_n 1, 1)) ∧ (decode cX12_knewBy 42 = .ok (.iload 4, 2)) ∧ (decode cX12_knewBy 44 = .ok (.invokevirtual 171, 3)) ∧ (decode cX12_knewBy 47 = .ok (.ifCond .eq 25, 3)) ∧ (decode cX12_knewBy 50 = .ok (.iload 5, 2)) ∧ (decode cX12_knewBy 52 = .ok (.iload_n 3, 1)) ∧ (decode cX12_knewBy 53 = .ok (.ifCond .eq 10, 3)) ∧ (decode cX12_knewBy 56 = .ok (.aload_n 0, 1)) := by decide +kernel
theorem m_1189 : Cond.code yX12_inHand cX12_inHand 4 (some .boolean) ∈ BW := iB_BW63 _ (List.mem_of_getElem? (i := 17) rfl)
theorem pd_30 : (parseMethodDescriptor "(IIZ)Z").map (fun d => d.parameters.length) = some 3 := by decide +kernel
theorem m_1187 : Cond.methodLink RX12 171 yX12_inHand ∈ BW := iB_BW63 _ (List.mem_of_getElem? (i := 15) rfl)
theorem m_1188 : Cond.instanceMethod yX12_inHand ∈ BW := iB_BW63 _ (List.mem_of_getElem? (i := 16) rfl)
theorem m_66 : Cond.selects RX12 yX12_inHand yX12_inHand ∈ BW := iB_BW3 _ (List.mem_of_getElem? (i := 6) rfl)
theorem si_X12_171 : SV RX12 RX12 171 yX12_inHand cX12_inHand 4 (some .boolean) 3 := ⟨⟨m_1187, m_1188, m_66, m_115, m_1189⟩, rfl, nK_RX12.1, nK_RX12.2, pd_30⟩
theorem gf_X12_161 (hC : CX p s m meth c y0 b0 mL0 rt0 args) (hy0 : y0.cls = RX12) (hK : KK G s) (hP : va_P G.1 vwCl ws H) (q0 : Nat) {fs : List Value} {v : Value} (he : ws[q0]? = some (a, .inr (12, fs))) (hv : fs[11]? = some v) (hdg : decode b0 pc = .ok (.getfield 161, 3)) (kk : W p l e R s m args below meth c H locs cells slots Q (F0 m (pc + 3) ls (v :: rest))) : W p l e R s m args below meth c H locs cells slots Q (F0 m pc ls (.ref a :: rest)) := by
  obtain ⟨hx, hb, hr, hml, hB, hown, hlocks, hnm⟩ := hC
  rw [hy0] at hown
  exact va_get (ci := 12) (C := RX12) (T := TX12) (N := 41) hx hb hB in_X12 hown hK.1 hP q0 he rfl 11 (by decide) (hB _ m_1041) (fun _ h => h) hv hdg kk
theorem gX12_doubt_0 : (decode cX12_doubt 0 = .ok (.iconst 0, 1)) ∧ (decode cX12_doubt 1 = .ok (.istore_n 1, 1)) ∧ (decode cX12_doubt 2 = .ok (.bipush 13, 2)) ∧ (decode cX12_doubt 4 = .ok (.istore_n 2, 1)) ∧ (decode cX12_doubt 5 = .ok (.iconst 0, 1)) ∧ (decode cX12_doubt 6 = .ok (.istore_n 3, 1)) ∧ (decode cX12_doubt 7 = .ok (.iload_n 3, 1)) ∧ (decode cX12_doubt 8 = .ok (.iconst 1, 1)) ∧ (decode cX12_doubt 9 = .ok (.aload_n 0, 1)) ∧ (decode cX12_doubt 10 = .ok (.getfield 9, 3)) := by decide +kernel
theorem gX12_doubt_1 : (decode cX12_doubt 13 = .ok (.iconst 5, 1)) ∧ (decode cX12_doubt 14 = .ok (.iaload, 1)) ∧ (decode cX12_doubt 15 = .ok (.ishl, 1)) ∧ (decode cX12_doubt 16 = .ok (.if_icmp .ge 112, 3)) ∧ (decode cX12_doubt 19 = .ok (.iload_n 3, 1)) ∧ (decode cX12_doubt 20 = .ok (.invokestatic 110, 3)) ∧ (decode cX12_doubt 23 = .ok (.iload_n 2, 1)) ∧ (decode cX12_doubt 24 = .ok (.if_icmp .ge 7, 3)) ∧ (decode cX12_doubt 27 = .ok (.iconst 1, 1)) ∧ (decode cX12_doubt 28 = .ok (.goto 4, 3)) := by decide +kernel
theorem gX12_doubt_6 : (decode cX12_doubt 112 = .ok (.iload_n 3, 1)) ∧ (decode cX12_doubt 113 = .ok (.invokestatic 110, 3)) ∧ (decode cX12_doubt 116 = .ok (.istore_n 2, 1)) ∧ (decode cX12_doubt 117 = .ok (.aload_n 0, 1)) ∧ (decode cX12_doubt 118 = .ok (.iconst 0, 1)) ∧ (decode cX12_doubt 119 = .ok (.putfield 96, 3)) ∧ (decode cX12_doubt 122 = .ok (.iinc 3 1, 3)) ∧ (decode cX12_doubt 125 = .ok (.goto (-118), 3)) ∧ (decode cX12_doubt 128 = .ok (.iload_n 1, 1)) ∧ (decode cX12_doubt 129 = .ok (.ireturn, 1)) := by decide +kernel
theorem m_1099 : Cond.code yX12_bits cX12_bits 3 (some .int) ∈ BW := iB_BW58 _ (List.mem_of_getElem? (i := 8) rfl)
theorem m_1097 : Cond.methodLink RX12 110 yX12_bits ∈ BW := iB_BW58 _ (List.mem_of_getElem? (i := 6) rfl)
theorem m_1098 : Cond.static yX12_bits ∈ BW := iB_BW58 _ (List.mem_of_getElem? (i := 7) rfl)
theorem si_X12_110 : SS RX12 110 yX12_bits cX12_bits 3 (some .int) 1 := ⟨⟨m_1097, m_1098, m_115, m_1099⟩, ⟨nK_RX12.1, nK_RX12.2, pd_7⟩⟩
theorem gX12_doubt_2 : (decode cX12_doubt 31 = .ok (.iconst 0, 1)) ∧ (decode cX12_doubt 32 = .ok (.istore 4, 2)) ∧ (decode cX12_doubt 34 = .ok (.iconst 0, 1)) ∧ (decode cX12_doubt 35 = .ok (.istore 5, 2)) ∧ (decode cX12_doubt 37 = .ok (.iload 5, 2)) ∧ (decode cX12_doubt 39 = .ok (.aload_n 0, 1)) ∧ (decode cX12_doubt 40 = .ok (.getfield 9, 3)) ∧ (decode cX12_doubt 43 = .ok (.iconst 5, 1)) ∧ (decode cX12_doubt 44 = .ok (.iaload, 1)) ∧ (decode cX12_doubt 45 = .ok (.if_icmp .ge 48, 3)) := by decide +kernel
theorem gX12_doubt_5 : (decode cX12_doubt 93 = .ok (.iload 4, 2)) ∧ (decode cX12_doubt 95 = .ok (.ifCond .eq 27, 3)) ∧ (decode cX12_doubt 98 = .ok (.aload_n 0, 1)) ∧ (decode cX12_doubt 99 = .ok (.iload_n 3, 1)) ∧ (decode cX12_doubt 100 = .ok (.putfield 96, 3)) ∧ (decode cX12_doubt 103 = .ok (.aload_n 0, 1)) ∧ (decode cX12_doubt 104 = .ok (.invokevirtual 148, 3)) ∧ (decode cX12_doubt 107 = .ok (.ifCond .ne 10, 3)) ∧ (decode cX12_doubt 110 = .ok (.iload_n 3, 1)) ∧ (decode cX12_doubt 111 = .ok (.istore_n 1, 1)) := by decide +kernel
theorem pf_X12_96 (hC : CX p s m meth c y0 b0 mL0 rt0 args) (hy0 : y0.cls = RX12) (hK : KK G s) (hP : va_P G.1 vwCl ws H) (hD : va_D A ws) (hS : va_S A H0 H locs) (q0 : Nat) {fs : List Value} {v : Value} {ws' : va_W} (he : ws[q0]? = some (a, .inr (12, fs))) (hl : 9 < fs.length) (hws : ws.set q0 (a, .inr (12, fs.set 9 v)) = ws') (hn : narrow .int v = v) (hfit : fits .int v = true) (hdg : decode b0 pc = .ok (.putfield 96, 3)) (kk : ∀ (H1 : Heap) (locs1 : List Loc), va_P G.1 vwCl ws' H1 → va_D A ws' → va_S A H0 H1 locs1 → W p l e R s m args below meth c H1 locs1 cells slots Q (F0 m (pc + 3) ls rest)) : W p l e R s m args below meth c H locs cells slots Q (F0 m pc ls (v :: .ref a :: rest)) := by
  obtain ⟨hx, hb, hr, hml, hB, hown, hlocks, hnm⟩ := hC
  rw [hy0] at hown
  subst hws
  exact va_put (ci := 12) (ty := .int) (C := RX12) (T := TX12) (N := 41) hx hb hB in_X12 tyX12 tyX12_ok nmX12 hown hK.1 hP hD hS q0 he rfl 9 (by decide) (hB _ m_1039) (fun _ h => h) rfl (by decide +kernel) hn hfit hl hdg kk
theorem gX12_doubt_3 : (decode cX12_doubt 48 = .ok (.iload 4, 2)) ∧ (decode cX12_doubt 50 = .ok (.ifCond .eq 43, 3)) ∧ (decode cX12_doubt 53 = .ok (.iload_n 3, 1)) ∧ (decode cX12_doubt 54 = .ok (.iload 5, 2)) ∧ (decode cX12_doubt 56 = .ok (.invokestatic 99, 3)) ∧ (decode cX12_doubt 59 = .ok (.ifCond .eq 21, 3)) ∧ (decode cX12_doubt 62 = .ok (.aload_n 0, 1)) ∧ (decode cX12_doubt 63 = .ok (.iload 5, 2)) ∧ (decode cX12_doubt 65 = .ok (.invokevirtual 103, 3)) ∧ (decode cX12_doubt 68 = .ok (.ifCond .eq 16, 3)) := by decide +kernel
theorem gX12_doubt_4 : (decode cX12_doubt 71 = .ok (.aload_n 0, 1)) ∧ (decode cX12_doubt 72 = .ok (.iload 5, 2)) ∧ (decode cX12_doubt 74 = .ok (.invokevirtual 130, 3)) ∧ (decode cX12_doubt 77 = .ok (.ifCond .le 7, 3)) ∧ (decode cX12_doubt 80 = .ok (.iconst 1, 1)) ∧ (decode cX12_doubt 81 = .ok (.goto 4, 3)) ∧ (decode cX12_doubt 84 = .ok (.iconst 0, 1)) ∧ (decode cX12_doubt 85 = .ok (.istore 4, 2)) ∧ (decode cX12_doubt 87 = .ok (.iinc 5 1, 3)) ∧ (decode cX12_doubt 90 = .ok (.goto (-53), 3)) := by decide +kernel
theorem gX12_span_0 : (decode cX12_span 0 = .ok (.iload_n 1, 1)) ∧ (decode cX12_span 1 = .ok (.iconst 0, 1)) ∧ (decode cX12_span 2 = .ok (.iconst 5, 1)) ∧ (decode cX12_span 3 = .ok (.invokestatic 84, 3)) ∧ (decode cX12_span 6 = .ok (.ifCond .ne 5, 3)) ∧ (decode cX12_span 9 = .ok (.iconst (-1), 1)) ∧ (decode cX12_span 10 = .ok (.ireturn, 1)) ∧ (decode cX12_span 11 = .ok (.aload_n 0, 1)) ∧ (decode cX12_span 12 = .ok (.invokevirtual 148, 3)) ∧ (decode cX12_span 15 = .ok (.ifCond .eq 6, 3)) := by decide +kernel
theorem gX12_span_1 : (decode cX12_span 18 = .ok (.bipush (-4), 2)) ∧ (decode cX12_span 20 = .ok (.ireturn, 1)) ∧ (decode cX12_span 21 = .ok (.sipush 1000, 3)) ∧ (decode cX12_span 24 = .ok (.iload_n 2, 1)) ∧ (decode cX12_span 25 = .ok (.ifCond .eq 11, 3)) ∧ (decode cX12_span 28 = .ok (.aload_n 0, 1)) ∧ (decode cX12_span 29 = .ok (.iload_n 1, 1)) ∧ (decode cX12_span 30 = .ok (.invokevirtual 155, 3)) ∧ (decode cX12_span 33 = .ok (.goto 8, 3)) ∧ (decode cX12_span 36 = .ok (.aload_n 0, 1)) := by decide +kernel
theorem gX12_span_2 : (decode cX12_span 37 = .ok (.iload_n 1, 1)) ∧ (decode cX12_span 38 = .ok (.invokevirtual 158, 3)) ∧ (decode cX12_span 41 = .ok (.iadd, 1)) ∧ (decode cX12_span 42 = .ok (.ireturn, 1)) := by decide +kernel
theorem gX12_sent_0 : (decode cX12_sent 0 = .ok (.aload_n 0, 1)) ∧ (decode cX12_sent 1 = .ok (.iload_n 1, 1)) ∧ (decode cX12_sent 2 = .ok (.iconst 5, 1)) ∧ (decode cX12_sent 3 = .ok (.invokevirtual 120, 3)) ∧ (decode cX12_sent 6 = .ok (.ifCond .ne 5, 3)) ∧ (decode cX12_sent 9 = .ok (.iconst (-1), 1)) ∧ (decode cX12_sent 10 = .ok (.ireturn, 1)) ∧ (decode cX12_sent 11 = .ok (.aload_n 0, 1)) ∧ (decode cX12_sent 12 = .ok (.iload_n 1, 1)) ∧ (decode cX12_sent 13 = .ok (.aload_n 0, 1)) := by decide +kernel
theorem m_1110 : Cond.code yX12_is cX12_is 3 (some .boolean) ∈ BW := iB_BW58 _ (List.mem_of_getElem? (i := 19) rfl)
theorem m_1108 : Cond.methodLink RX12 120 yX12_is ∈ BW := iB_BW58 _ (List.mem_of_getElem? (i := 17) rfl)
theorem m_1109 : Cond.instanceMethod yX12_is ∈ BW := iB_BW58 _ (List.mem_of_getElem? (i := 18) rfl)
theorem m_52 : Cond.selects RX12 yX12_is yX12_is ∈ BW := iB_BW2 _ (List.mem_of_getElem? (i := 12) rfl)
theorem si_X12_120 : SV RX12 RX12 120 yX12_is cX12_is 3 (some .boolean) 2 := ⟨⟨m_1108, m_1109, m_52, m_115, m_1110⟩, rfl, nK_RX12.1, nK_RX12.2, pd_3⟩
theorem gX12_sent_1 : (decode cX12_sent 14 = .ok (.invokevirtual 148, 3)) ∧ (decode cX12_sent 17 = .ok (.iconst 1, 1)) ∧ (decode cX12_sent 18 = .ok (.invokevirtual 167, 3)) ∧ (decode cX12_sent 21 = .ok (.ifCond .ne 8, 3)) ∧ (decode cX12_sent 24 = .ok (.bipush (-3), 2)) ∧ (decode cX12_sent 26 = .ok (.goto 22, 3)) ∧ (decode cX12_sent 29 = .ok (.sipush 1000, 3)) ∧ (decode cX12_sent 32 = .ok (.iload_n 2, 1)) ∧ (decode cX12_sent 33 = .ok (.ifCond .eq 10, 3)) ∧ (decode cX12_sent 36 = .ok (.aload_n 0, 1)) := by decide +kernel
theorem gX12_sent_2 : (decode cX12_sent 37 = .ok (.getfield 164, 3)) ∧ (decode cX12_sent 40 = .ok (.goto 7, 3)) ∧ (decode cX12_sent 43 = .ok (.aload_n 0, 1)) ∧ (decode cX12_sent 44 = .ok (.getfield 161, 3)) ∧ (decode cX12_sent 47 = .ok (.iadd, 1)) ∧ (decode cX12_sent 48 = .ok (.ireturn, 1)) := by decide +kernel
theorem gX12_hand_0 : (decode cX12_hand 0 = .ok (.aload_n 0, 1)) ∧ (decode cX12_hand 1 = .ok (.iload_n 1, 1)) ∧ (decode cX12_hand 2 = .ok (.iconst 5, 1)) ∧ (decode cX12_hand 3 = .ok (.invokevirtual 120, 3)) ∧ (decode cX12_hand 6 = .ok (.ifCond .eq 12, 3)) ∧ (decode cX12_hand 9 = .ok (.aload_n 0, 1)) ∧ (decode cX12_hand 10 = .ok (.iload_n 2, 1)) ∧ (decode cX12_hand 11 = .ok (.iconst 4, 1)) ∧ (decode cX12_hand 12 = .ok (.invokevirtual 120, 3)) ∧ (decode cX12_hand 15 = .ok (.ifCond .ne 5, 3)) := by decide +kernel
theorem gX12_hand_1 : (decode cX12_hand 18 = .ok (.iconst (-1), 1)) ∧ (decode cX12_hand 19 = .ok (.ireturn, 1)) ∧ (decode cX12_hand 20 = .ok (.aload_n 0, 1)) ∧ (decode cX12_hand 21 = .ok (.iload_n 1, 1)) ∧ (decode cX12_hand 22 = .ok (.iload_n 2, 1)) ∧ (decode cX12_hand 23 = .ok (.aload_n 0, 1)) ∧ (decode cX12_hand 24 = .ok (.invokevirtual 148, 3)) ∧ (decode cX12_hand 27 = .ok (.invokevirtual 171, 3)) ∧ (decode cX12_hand 30 = .ok (.ifCond .ne 8, 3)) ∧ (decode cX12_hand 33 = .ok (.bipush (-3), 2)) := by decide +kernel
theorem gX12_hand_2 : (decode cX12_hand 35 = .ok (.goto 22, 3)) ∧ (decode cX12_hand 38 = .ok (.sipush 1000, 3)) ∧ (decode cX12_hand 41 = .ok (.iload_n 3, 1)) ∧ (decode cX12_hand 42 = .ok (.ifCond .eq 10, 3)) ∧ (decode cX12_hand 45 = .ok (.aload_n 0, 1)) ∧ (decode cX12_hand 46 = .ok (.getfield 164, 3)) ∧ (decode cX12_hand 49 = .ok (.goto 7, 3)) ∧ (decode cX12_hand 52 = .ok (.aload_n 0, 1)) ∧ (decode cX12_hand 53 = .ok (.getfield 161, 3)) ∧ (decode cX12_hand 56 = .ok (.iadd, 1)) := by decide +kernel
theorem gX12_hand_3 : (decode cX12_hand 57 = .ok (.ireturn, 1)) := by decide +kernel
theorem gX12_before_0 : (decode cX12_before 0 = .ok (.aload_n 0, 1)) ∧ (decode cX12_before 1 = .ok (.iload_n 1, 1)) ∧ (decode cX12_before 2 = .ok (.iconst 5, 1)) ∧ (decode cX12_before 3 = .ok (.invokevirtual 120, 3)) ∧ (decode cX12_before 6 = .ok (.ifCond .eq 17, 3)) ∧ (decode cX12_before 9 = .ok (.aload_n 0, 1)) ∧ (decode cX12_before 10 = .ok (.iload_n 2, 1)) ∧ (decode cX12_before 11 = .ok (.iconst 5, 1)) ∧ (decode cX12_before 12 = .ok (.invokevirtual 120, 3)) ∧ (decode cX12_before 15 = .ok (.ifCond .eq 8, 3)) := by decide +kernel
theorem gX12_before_1 : (decode cX12_before 18 = .ok (.iload_n 1, 1)) ∧ (decode cX12_before 19 = .ok (.iload_n 2, 1)) ∧ (decode cX12_before 20 = .ok (.if_icmp .ne 5, 3)) ∧ (decode cX12_before 23 = .ok (.iconst (-1), 1)) ∧ (decode cX12_before 24 = .ok (.ireturn, 1)) ∧ (decode cX12_before 25 = .ok (.aload_n 0, 1)) ∧ (decode cX12_before 26 = .ok (.invokevirtual 148, 3)) ∧ (decode cX12_before 29 = .ok (.istore_n 3, 1)) ∧ (decode cX12_before 30 = .ok (.aload_n 0, 1)) ∧ (decode cX12_before 31 = .ok (.iload_n 1, 1)) := by decide +kernel
theorem gX12_before_2 : (decode cX12_before 32 = .ok (.iload_n 3, 1)) ∧ (decode cX12_before 33 = .ok (.iconst 1, 1)) ∧ (decode cX12_before 34 = .ok (.invokevirtual 167, 3)) ∧ (decode cX12_before 37 = .ok (.ifCond .eq 13, 3)) ∧ (decode cX12_before 40 = .ok (.aload_n 0, 1)) ∧ (decode cX12_before 41 = .ok (.iload_n 2, 1)) ∧ (decode cX12_before 42 = .ok (.iload_n 3, 1)) ∧ (decode cX12_before 43 = .ok (.iconst 1, 1)) ∧ (decode cX12_before 44 = .ok (.invokevirtual 167, 3)) ∧ (decode cX12_before 47 = .ok (.ifCond .ne 6, 3)) := by decide +kernel
theorem gX12_before_3 : (decode cX12_before 50 = .ok (.bipush (-3), 2)) ∧ (decode cX12_before 52 = .ok (.ireturn, 1)) ∧ (decode cX12_before 53 = .ok (.bipush 104, 2)) ∧ (decode cX12_before 55 = .ok (.iconst 3, 1)) ∧ (decode cX12_before 56 = .ok (.aload_n 0, 1)) ∧ (decode cX12_before 57 = .ok (.iload_n 1, 1)) ∧ (decode cX12_before 58 = .ok (.aload_n 0, 1)) ∧ (decode cX12_before 59 = .ok (.iload_n 1, 1)) ∧ (decode cX12_before 60 = .ok (.invokevirtual 130, 3)) ∧ (decode cX12_before 63 = .ok (.iconst 1, 1)) := by decide +kernel
theorem gX12_before_4 : (decode cX12_before 64 = .ok (.isub, 1)) ∧ (decode cX12_before 65 = .ok (.invokevirtual 142, 3)) ∧ (decode cX12_before 68 = .ok (.imul, 1)) ∧ (decode cX12_before 69 = .ok (.iadd, 1)) ∧ (decode cX12_before 70 = .ok (.istore 4, 2)) ∧ (decode cX12_before 72 = .ok (.bipush 104, 2)) ∧ (decode cX12_before 74 = .ok (.iconst 3, 1)) ∧ (decode cX12_before 75 = .ok (.aload_n 0, 1)) ∧ (decode cX12_before 76 = .ok (.iload_n 2, 1)) ∧ (decode cX12_before 77 = .ok (.aload_n 0, 1)) := by decide +kernel
theorem gX12_before_5 : (decode cX12_before 78 = .ok (.iload_n 2, 1)) ∧ (decode cX12_before 79 = .ok (.invokevirtual 130, 3)) ∧ (decode cX12_before 82 = .ok (.iconst 1, 1)) ∧ (decode cX12_before 83 = .ok (.isub, 1)) ∧ (decode cX12_before 84 = .ok (.invokevirtual 142, 3)) ∧ (decode cX12_before 87 = .ok (.imul, 1)) ∧ (decode cX12_before 88 = .ok (.iadd, 1)) ∧ (decode cX12_before 89 = .ok (.istore 5, 2)) ∧ (decode cX12_before 91 = .ok (.aload_n 0, 1)) ∧ (decode cX12_before 92 = .ok (.getfield 9, 3)) := by decide +kernel
theorem gX12_before_6 : (decode cX12_before 95 = .ok (.iload 5, 2)) ∧ (decode cX12_before 97 = .ok (.iconst 2, 1)) ∧ (decode cX12_before 98 = .ok (.iadd, 1)) ∧ (decode cX12_before 99 = .ok (.iaload, 1)) ∧ (decode cX12_before 100 = .ok (.aload_n 0, 1)) ∧ (decode cX12_before 101 = .ok (.getfield 9, 3)) ∧ (decode cX12_before 104 = .ok (.iload 4, 2)) ∧ (decode cX12_before 106 = .ok (.iconst 2, 1)) ∧ (decode cX12_before 107 = .ok (.iadd, 1)) ∧ (decode cX12_before 108 = .ok (.iaload, 1)) := by decide +kernel
theorem gX12_before_7 : (decode cX12_before 109 = .ok (.isub, 1)) ∧ (decode cX12_before 110 = .ok (.istore 6, 2)) ∧ (decode cX12_before 112 = .ok (.aload_n 0, 1)) ∧ (decode cX12_before 113 = .ok (.getfield 26, 3)) ∧ (decode cX12_before 116 = .ok (.bipush 6, 2)) ∧ (decode cX12_before 118 = .ok (.aload_n 0, 1)) ∧ (decode cX12_before 119 = .ok (.getfield 9, 3)) ∧ (decode cX12_before 122 = .ok (.iload 4, 2)) ∧ (decode cX12_before 124 = .ok (.iconst 1, 1)) ∧ (decode cX12_before 125 = .ok (.iadd, 1)) := by decide +kernel
theorem gX12_before_8 : (decode cX12_before 126 = .ok (.iaload, 1)) ∧ (decode cX12_before 127 = .ok (.imul, 1)) ∧ (decode cX12_before 128 = .ok (.aload_n 0, 1)) ∧ (decode cX12_before 129 = .ok (.getfield 9, 3)) ∧ (decode cX12_before 132 = .ok (.iload 5, 2)) ∧ (decode cX12_before 134 = .ok (.iconst 1, 1)) ∧ (decode cX12_before 135 = .ok (.iadd, 1)) ∧ (decode cX12_before 136 = .ok (.iaload, 1)) ∧ (decode cX12_before 137 = .ok (.iadd, 1)) ∧ (decode cX12_before 138 = .ok (.iaload, 1)) := by decide +kernel
theorem gX12_before_9 : (decode cX12_before 139 = .ok (.istore 7, 2)) ∧ (decode cX12_before 141 = .ok (.aload_n 0, 1)) ∧ (decode cX12_before 142 = .ok (.getfield 26, 3)) ∧ (decode cX12_before 145 = .ok (.bipush 6, 2)) ∧ (decode cX12_before 147 = .ok (.aload_n 0, 1)) ∧ (decode cX12_before 148 = .ok (.getfield 9, 3)) ∧ (decode cX12_before 151 = .ok (.iload 5, 2)) ∧ (decode cX12_before 153 = .ok (.iconst 1, 1)) ∧ (decode cX12_before 154 = .ok (.iadd, 1)) ∧ (decode cX12_before 155 = .ok (.iaload, 1)) := by decide +kernel
theorem gX12_before_10 : (decode cX12_before 156 = .ok (.imul, 1)) ∧ (decode cX12_before 157 = .ok (.aload_n 0, 1)) ∧ (decode cX12_before 158 = .ok (.getfield 9, 3)) ∧ (decode cX12_before 161 = .ok (.iload 4, 2)) ∧ (decode cX12_before 163 = .ok (.iconst 1, 1)) ∧ (decode cX12_before 164 = .ok (.iadd, 1)) ∧ (decode cX12_before 165 = .ok (.iaload, 1)) ∧ (decode cX12_before 166 = .ok (.iadd, 1)) ∧ (decode cX12_before 167 = .ok (.iaload, 1)) ∧ (decode cX12_before 168 = .ok (.ineg, 1)) := by decide +kernel
theorem gX12_before_11 : (decode cX12_before 169 = .ok (.istore 8, 2)) ∧ (decode cX12_before 171 = .ok (.iload 7, 2)) ∧ (decode cX12_before 173 = .ok (.iload 6, 2)) ∧ (decode cX12_before 175 = .ok (.if_icmp .ge 7, 3)) ∧ (decode cX12_before 178 = .ok (.iconst 2, 1)) ∧ (decode cX12_before 179 = .ok (.goto 15, 3)) ∧ (decode cX12_before 182 = .ok (.iload 8, 2)) ∧ (decode cX12_before 184 = .ok (.iload 6, 2)) ∧ (decode cX12_before 186 = .ok (.if_icmp .ge 7, 3)) ∧ (decode cX12_before 189 = .ok (.iconst 1, 1)) := by decide +kernel
theorem gX12_before_12 : (decode cX12_before 190 = .ok (.goto 4, 3)) ∧ (decode cX12_before 193 = .ok (.iconst 0, 1)) ∧ (decode cX12_before 194 = .ok (.ireturn, 1)) := by decide +kernel
end WR
theorem rm_4_2_4 {mc ms : Nat} : 2 + 1 ≤ (RM 4 mc ms).frames ∧ 8 + (4 + 11) + 40 * 2 ≤ (RM 4 mc ms).locals := ⟨by show 2 + 1 ≤ 4; decide, by show 8 + (4 + 11) + 40 * 2 ≤ 40 * 4; decide⟩
theorem fm_0_2 {a0 a1 a2 : Nat × va_E} {l : va_W} : ([0, 2] : List Nat).filterMap (fun i => (a0 :: a1 :: a2 :: l : va_W)[i]?) = ([a0, a2] : va_W) := rfl
theorem dj_0_2__1 : ∀ i ∈ ([1] : List Nat), i ∉ ([0, 2] : List Nat) := by decide
theorem fm_1_0_2 {a0 a1 a2 : Nat × va_E} {l : va_W} : ([1, 0, 2] : List Nat).filterMap (fun i => (a0 :: a1 :: a2 :: l : va_W)[i]?) = ([a1, a0, a2] : va_W) := rfl
theorem nd_1_0_2 : va_nd [1, 0, 2] = true := by decide
theorem sm_1_0_2 {a0 a1 a2 : Nat × va_E} {l : va_W} : ([1, 0, 2] : List Nat).map (fun i => (a0 :: a1 :: a2 :: l : va_W)[i]?) = ([a1, a0, a2] : va_W).map some := rfl
theorem rm_4_2_5 {mc ms : Nat} : 2 + 1 ≤ (RM 4 mc ms).frames ∧ 8 + (5 + 11) + 40 * 2 ≤ (RM 4 mc ms).locals := ⟨by show 2 + 1 ≤ 4; decide, by show 8 + (5 + 11) + 40 * 2 ≤ 40 * 4; decide⟩
theorem rm_3_2_4 {mc ms : Nat} : 2 + 1 ≤ (RM 3 mc ms).frames ∧ 8 + (4 + 11) + 40 * 2 ≤ (RM 3 mc ms).locals := ⟨by show 2 + 1 ≤ 3; decide, by show 8 + (4 + 11) + 40 * 2 ≤ 40 * 3; decide⟩
theorem rm_3_2_5 {mc ms : Nat} : 2 + 1 ≤ (RM 3 mc ms).frames ∧ 8 + (5 + 11) + 40 * 2 ≤ (RM 3 mc ms).locals := ⟨by show 2 + 1 ≤ 3; decide, by show 8 + (5 + 11) + 40 * 2 ≤ 40 * 3; decide⟩
theorem rm_4_3_6 {mc ms : Nat} : 3 + 1 ≤ (RM 4 mc ms).frames ∧ 8 + (6 + 11) + 40 * 3 ≤ (RM 4 mc ms).locals := ⟨by show 3 + 1 ≤ 4; decide, by show 8 + (6 + 11) + 40 * 3 ≤ 40 * 4; decide⟩
theorem rm_5_2_3 {mc ms : Nat} : 2 + 1 ≤ (RM 5 mc ms).frames ∧ 8 + (3 + 11) + 40 * 2 ≤ (RM 5 mc ms).locals := ⟨by show 2 + 1 ≤ 5; decide, by show 8 + (3 + 11) + 40 * 2 ≤ 40 * 5; decide⟩
theorem rm_5_2_4 {mc ms : Nat} : 2 + 1 ≤ (RM 5 mc ms).frames ∧ 8 + (4 + 11) + 40 * 2 ≤ (RM 5 mc ms).locals := ⟨by show 2 + 1 ≤ 5; decide, by show 8 + (4 + 11) + 40 * 2 ≤ 40 * 5; decide⟩
theorem rm_6_4_7 {mc ms : Nat} : 4 + 1 ≤ (RM 6 mc ms).frames ∧ 8 + (7 + 11) + 40 * 4 ≤ (RM 6 mc ms).locals := ⟨by show 4 + 1 ≤ 6; decide, by show 8 + (7 + 11) + 40 * 4 ≤ 40 * 6; decide⟩
theorem rm_6_2_3 {mc ms : Nat} : 2 + 1 ≤ (RM 6 mc ms).frames ∧ 8 + (3 + 11) + 40 * 2 ≤ (RM 6 mc ms).locals := ⟨by show 2 + 1 ≤ 6; decide, by show 8 + (3 + 11) + 40 * 2 ≤ 40 * 6; decide⟩
theorem rm_6_2_4 {mc ms : Nat} : 2 + 1 ≤ (RM 6 mc ms).frames ∧ 8 + (4 + 11) + 40 * 2 ≤ (RM 6 mc ms).locals := ⟨by show 2 + 1 ≤ 6; decide, by show 8 + (4 + 11) + 40 * 2 ≤ 40 * 6; decide⟩
theorem rm_6_2_5 {mc ms : Nat} : 2 + 1 ≤ (RM 6 mc ms).frames ∧ 8 + (5 + 11) + 40 * 2 ≤ (RM 6 mc ms).locals := ⟨by show 2 + 1 ≤ 6; decide, by show 8 + (5 + 11) + 40 * 2 ≤ 40 * 6; decide⟩
def K_m_stampsOf (l : Launch) (G : GG) (k6 : Nat) (h0 : Nat) (pa : Int32) (nw : Nat) (nk : Nat) (mhasKept : Int32) (nt : Nat) (mtaped : Int32) (nr : Nat) (mrowMany : Int32) (mroundOf : Int32) (mroundFrom : Int32) (mouts : Int32) (nm : Nat) (mfromHour : Int32) (mtoHour : Int32) (ns : Nat) (mfrom : Int32) (mto : Int32) (msort : Int32) (misFault : Int32) (mdeep : Int32) (mcoded : Int32) (mlines : Int32) (nl : Nat) (nc : Nat) (nF : Nat) (np : Nat) (ntr : Nat) (nb : Nat) (mbestCost : Int32) (nso : Nat) (nsi : Nat) (nit : Nat) (nsh : Nat) (nsf : Nat) (nss : Nat) (nrc : Nat) (mtraced : Int32) (mdealer : Int32) (mnumber : Int32) (mwhose : Int32) (msize : Int32) (misParted : Int32) (fnw : Nat → Int32) : Prop := MP l G yX12_stampsOf cX12_stampsOf 4 (some .int) 2 [.ref h0, .int pa] [(h0, oX12 nw nk mhasKept nt mtaped nr mrowMany mroundOf mroundFrom mouts nm mfromHour mtoHour ns mfrom mto msort misFault mdeep mcoded mlines nl nc nF np ntr nb mbestCost nso nsi nit nsh nsf nss nrc mtraced mdealer mnumber mwhose msize misParted), (nw, iA G 1662 fnw)] (fun r : Int32 => r = nI (cntS fnw pa k6))
set_option maxHeartbeats 4000000 in
set_option maxRecDepth 100000 in
theorem m_stampsOf (l : Launch) (G : GG) (k6 : Nat) (h0 : Nat) (pa : Int32) (nw : Nat) (nk : Nat) (mhasKept : Int32) (nt : Nat) (mtaped : Int32) (nr : Nat) (mrowMany : Int32) (mroundOf : Int32) (mroundFrom : Int32) (mouts : Int32) (nm : Nat) (mfromHour : Int32) (mtoHour : Int32) (ns : Nat) (mfrom : Int32) (mto : Int32) (msort : Int32) (misFault : Int32) (mdeep : Int32) (mcoded : Int32) (mlines : Int32) (nl : Nat) (nc : Nat) (nF : Nat) (np : Nat) (ntr : Nat) (nb : Nat) (mbestCost : Int32) (nso : Nat) (nsi : Nat) (nit : Nat) (nsh : Nat) (nsf : Nat) (nss : Nat) (nrc : Nat) (mtraced : Int32) (mdealer : Int32) (mnumber : Int32) (mwhose : Int32) (msize : Int32) (misParted : Int32) (fnw : Nat → Int32) (e6 : fnw 6 = nI k6) (hk6 : k6 ≤ 24) : K_m_stampsOf l G k6 h0 pa nw nk mhasKept nt mtaped nr mrowMany mroundOf mroundFrom mouts nm mfromHour mtoHour ns mfrom mto msort misFault mdeep mcoded mlines nl nc nF np ntr nb mbestCost nso nsi nit nsh nsf nss nrc mtraced mdealer mnumber mwhose msize misParted fnw := by
  refine MP.start (by decide +kernel) (Nat.le_of_ble_eq_true rfl) ?_
  intro p e s m below meth c ls hC hK hP hD hl
  refine absQ (fun Q0 hQ0 => ?_)
  have hl : lv_has ls 4 [(0, .ref h0), (1, .int pa)] := hl
  refine Kan8 hC (fun hx hb hr hml hB hown hlocks hnm => ?_)
  refine lv_iconst (v := 0) hx hb gX12_stampsOf_0.1 (by decide) ?_
  refine lv_istore_n (lv' := [(2, .int 0), (0, .ref h0), (1, .int pa)]) hx hb gX12_stampsOf_0.2.1 rfl hl (by decide) rfl (fun ls hl => ?_)
  refine lv_iconst (v := 0) hx hb gX12_stampsOf_0.2.2.1 (by decide) ?_
  refine lv_istore_n (lv' := [(3, .int 0), (2, .int 0), (0, .ref h0), (1, .int pa)]) hx hb gX12_stampsOf_0.2.2.2.1 rfl hl (by decide) rfl (fun ls hl => ?_)
  have keyP : ∀ (nP kP : Nat) (cn : Nat) (ls : Array Slot), kP + nP = k6 → (cn = cntS fnw pa kP) → lv_has ls 4 [(3, .int (nI kP)), (2, .int (nI cn)), (0, .ref h0), (1, .int pa)] → W p l e (RM 2 0 0) s m ([.ref h0, .int pa] : List Value).toArray below meth c s.heap [] 0 0 Q0 (F0 m 4 ls []) := by
    intro nP
    induction nP with
    | zero =>
      intro kP cn ls hkP hcn hl
      obtain rfl : k6 = kP := by omega
      have hl : lv_has ls 4 [(3, .int (nI k6)), (2, .int (nI cn)), (0, .ref h0), (1, .int pa)] := hl
      refine lv_iload_n hx hb gX12_stampsOf_0.2.2.2.2.1 rfl (lv_at0 hl) ?_
      refine lv_aload_n hx hb gX12_stampsOf_0.2.2.2.2.2.1 rfl (lv_at2 hl) ?_
      refine gf_X12_9 hC rfl hK hP 0 rfl rfl gX12_stampsOf_0.2.2.2.2.2.2.1 ?_
      refine lv_bipush (v := 6) hx hb gX12_stampsOf_0.2.2.2.2.2.2.2.1 (by decide) ?_
      refine ald hC hK hP 1 rfl (vin (by decide +kernel)) (k := 6) (by decide +kernel) (v := nI k6) (e6) gX12_stampsOf_0.2.2.2.2.2.2.2.2.1 ?_
      refine lv_icmp_ge (tgt := 44) hx hb gX12_stampsOf_0.2.2.2.2.2.2.2.2.2 (by decide) (fun _ => ?_) (fun c9 => absurd (Int32.le_refl _) c9)
      refine lv_iload_n hx hb gX12_stampsOf_2.2.2.2.2.2.2.2.2.1 rfl (lv_at1 hl) ?_
      refine toQ hQ0 ?_
      exact RP (v := nI cn) hC (congrArg nI hcn) rfl gX12_stampsOf_2.2.2.2.2.2.2.2.2.2
    | succ nP ihP =>
      intro kP cn ls hkP hcn hl
      refine lv_iload_n hx hb gX12_stampsOf_0.2.2.2.2.1 rfl (lv_at0 hl) ?_
      refine lv_aload_n hx hb gX12_stampsOf_0.2.2.2.2.2.1 rfl (lv_at2 hl) ?_
      refine gf_X12_9 hC rfl hK hP 0 rfl rfl gX12_stampsOf_0.2.2.2.2.2.2.1 ?_
      refine lv_bipush (v := 6) hx hb gX12_stampsOf_0.2.2.2.2.2.2.2.1 (by decide) ?_
      refine ald hC hK hP 1 rfl (vin (by decide +kernel)) (k := 6) (by decide +kernel) (v := nI k6) (e6) gX12_stampsOf_0.2.2.2.2.2.2.2.2.1 ?_
      refine lv_icmp_ge (tgt := 44) hx hb gX12_stampsOf_0.2.2.2.2.2.2.2.2.2 (by decide) (fun c9 => absurd c9 (nI_ge (a := kP) (b := k6) (by omega) (by omega))) (fun _ => ?_)
      refine lv_iload_n hx hb gX12_stampsOf_1.1 rfl (lv_at1 hl) ?_
      refine lv_aload_n hx hb gX12_stampsOf_1.2.1 rfl (lv_at2 hl) ?_
      refine gf_X12_9 hC rfl hK hP 0 rfl rfl gX12_stampsOf_1.2.2.1 ?_
      refine lv_bipush (v := 104) hx hb gX12_stampsOf_1.2.2.2.1 (by decide) ?_
      refine lv_iconst (v := 3) hx hb gX12_stampsOf_1.2.2.2.2.1 (by decide) ?_
      refine lv_iload_n hx hb gX12_stampsOf_1.2.2.2.2.2.1 rfl (lv_at0 hl) ?_
      refine lv_imul hx hb gX12_stampsOf_1.2.2.2.2.2.2.1 ?_
      refine eqi (x1 := nI (3 * kP)) (nI_mul 3 kP) ?_
      refine lv_iadd hx hb gX12_stampsOf_1.2.2.2.2.2.2.2.1 ?_
      refine eqi (x1 := nI (104 + 3 * kP)) (nI_add 104 (3 * kP)) ?_
      refine aldN hC hK hP 1 rfl (k := (104 + 3 * kP)) (by omega) (Nat.le_of_ble_eq_true rfl) (v := fnw (104 + 3 * kP)) rfl gX12_stampsOf_1.2.2.2.2.2.2.2.2.1 ?_
      refine lv_topi (fun x5222 ex5222 => ?_)
      refine lv_iload_n hx hb gX12_stampsOf_1.2.2.2.2.2.2.2.2.2 rfl (lv_at3 hl) ?_
      refine lv_icmp_ne (tgt := 35) hx hb gX12_stampsOf_2.1 (by decide) (fun c_28_5223 => ?_) (fun c_28_5223 => ?_)
      · have hcs9 := cntS_f (f := fnw) (p := pa) (n := kP) (fun h9 => c_28_5223 (ex5222.trans h9))
        refine lv_iconst (v := 0) hx hb gX12_stampsOf_2.2.2.2.1 (by decide) ?_
        refine lv_iadd hx hb gX12_stampsOf_2.2.2.2.2.1 ?_
        refine eqi (x1 := nI (cn + 0)) (nI_add cn 0) ?_
        refine lv_istore_n (lv' := [(2, .int (nI (cn + 0))), (3, .int (nI kP)), (0, .ref h0), (1, .int pa)]) hx hb gX12_stampsOf_2.2.2.2.2.2.1 rfl hl (by decide) rfl (fun ls hl => ?_)
        refine lv_iinc (v := nI (kP + 1)) (lv' := [(3, .int (nI (kP + 1))), (2, .int (nI (cn + 0))), (0, .ref h0), (1, .int pa)]) hx hb gX12_stampsOf_2.2.2.2.2.2.2.1 hl (k := 1) rfl (nI_1 _) (by decide) rfl (fun ls hl => ?_)
        refine lv_goto (tgt := 4) hx hb gX12_stampsOf_2.2.2.2.2.2.2.2.1 (by decide) ?_
        exact ihP (kP + 1) (cn + 0) _ (by omega) (by first | assumption | exact Or.inl rfl | exact Or.inr rfl | omega | exact rfl) (lv_sub hl [0, 1, 2, 3] rfl)
      · have hcs9 := cntS_t (f := fnw) (p := pa) (n := kP) (ex5222.symm.trans c_28_5223)
        refine lv_iconst (v := 1) hx hb gX12_stampsOf_2.2.1 (by decide) ?_
        refine lv_goto (tgt := 36) hx hb gX12_stampsOf_2.2.2.1 (by decide) ?_
        refine lv_iadd hx hb gX12_stampsOf_2.2.2.2.2.1 ?_
        refine eqi (x1 := nI (cn + 1)) (nI_add cn 1) ?_
        refine lv_istore_n (lv' := [(2, .int (nI (cn + 1))), (3, .int (nI kP)), (0, .ref h0), (1, .int pa)]) hx hb gX12_stampsOf_2.2.2.2.2.2.1 rfl hl (by decide) rfl (fun ls hl => ?_)
        refine lv_iinc (v := nI (kP + 1)) (lv' := [(3, .int (nI (kP + 1))), (2, .int (nI (cn + 1))), (0, .ref h0), (1, .int pa)]) hx hb gX12_stampsOf_2.2.2.2.2.2.2.1 hl (k := 1) rfl (nI_1 _) (by decide) rfl (fun ls hl => ?_)
        refine lv_goto (tgt := 4) hx hb gX12_stampsOf_2.2.2.2.2.2.2.2.1 (by decide) ?_
        exact ihP (kP + 1) (cn + 1) _ (by omega) (by first | assumption | exact Or.inl rfl | exact Or.inr rfl | omega | exact rfl) (lv_sub hl [0, 1, 2, 3] rfl)
  exact keyP k6 0 0 _ (by omega) (by first | assumption | exact Or.inl rfl | exact Or.inr rfl | omega | exact rfl) (lv_sub hl [0, 1, 2, 3] rfl)
def K_m_stampAt (l : Launch) (G : GG) (k6 : Nat) (h0 : Nat) (pa : Int32) (ji : Nat) (nw : Nat) (nk : Nat) (mhasKept : Int32) (nt : Nat) (mtaped : Int32) (nr : Nat) (mrowMany : Int32) (mroundOf : Int32) (mroundFrom : Int32) (mouts : Int32) (nm : Nat) (mfromHour : Int32) (mtoHour : Int32) (ns : Nat) (mfrom : Int32) (mto : Int32) (msort : Int32) (misFault : Int32) (mdeep : Int32) (mcoded : Int32) (mlines : Int32) (nl : Nat) (nc : Nat) (nF : Nat) (np : Nat) (ntr : Nat) (nb : Nat) (mbestCost : Int32) (nso : Nat) (nsi : Nat) (nit : Nat) (nsh : Nat) (nsf : Nat) (nss : Nat) (nrc : Nat) (mtraced : Int32) (mdealer : Int32) (mnumber : Int32) (mwhose : Int32) (msize : Int32) (misParted : Int32) (fnw : Nat → Int32) : Prop := MP l G yX12_stampAt cX12_stampAt 5 (some .int) 2 [.ref h0, .int pa, .int (nI ji)] [(h0, oX12 nw nk mhasKept nt mtaped nr mrowMany mroundOf mroundFrom mouts nm mfromHour mtoHour ns mfrom mto msort misFault mdeep mcoded mlines nl nc nF np ntr nb mbestCost nso nsi nit nsh nsf nss nrc mtraced mdealer mnumber mwhose msize misParted), (nw, iA G 1662 fnw)] (fun r : Int32 => ∃ s9, (s9 < k6) ∧ r = nI s9)
set_option maxHeartbeats 4000000 in
set_option maxRecDepth 100000 in
theorem m_stampAt (l : Launch) (G : GG) (k6 : Nat) (h0 : Nat) (pa : Int32) (ji : Nat) (nw : Nat) (nk : Nat) (mhasKept : Int32) (nt : Nat) (mtaped : Int32) (nr : Nat) (mrowMany : Int32) (mroundOf : Int32) (mroundFrom : Int32) (mouts : Int32) (nm : Nat) (mfromHour : Int32) (mtoHour : Int32) (ns : Nat) (mfrom : Int32) (mto : Int32) (msort : Int32) (misFault : Int32) (mdeep : Int32) (mcoded : Int32) (mlines : Int32) (nl : Nat) (nc : Nat) (nF : Nat) (np : Nat) (ntr : Nat) (nb : Nat) (mbestCost : Int32) (nso : Nat) (nsi : Nat) (nit : Nat) (nsh : Nat) (nsf : Nat) (nss : Nat) (nrc : Nat) (mtraced : Int32) (mdealer : Int32) (mnumber : Int32) (mwhose : Int32) (msize : Int32) (misParted : Int32) (fnw : Nat → Int32) (e6 : fnw 6 = nI k6) (hk6 : k6 ≤ 24) (hji : ji < cntS fnw pa k6) : K_m_stampAt l G k6 h0 pa ji nw nk mhasKept nt mtaped nr mrowMany mroundOf mroundFrom mouts nm mfromHour mtoHour ns mfrom mto msort misFault mdeep mcoded mlines nl nc nF np ntr nb mbestCost nso nsi nit nsh nsf nss nrc mtraced mdealer mnumber mwhose msize misParted fnw := by
  refine MP.start (by decide +kernel) (Nat.le_of_ble_eq_true rfl) ?_
  intro p e s m below meth c ls hC hK hP hD hl
  refine absQ (fun Q0 hQ0 => ?_)
  have hl : lv_has ls 5 [(0, .ref h0), (1, .int pa), (2, .int (nI ji))] := hl
  refine Kan8 hC (fun hx hb hr hml hB hown hlocks hnm => ?_)
  refine lv_iload_n hx hb gX12_stampAt_0.1 rfl (lv_at2 hl) ?_
  refine lv_istore_n (lv' := [(3, .int (nI ji)), (0, .ref h0), (1, .int pa), (2, .int (nI ji))]) hx hb gX12_stampAt_0.2.1 rfl hl (by decide) rfl (fun ls hl => ?_)
  refine lv_iconst (v := 0) hx hb gX12_stampAt_0.2.2.1 (by decide) ?_
  refine lv_istore (lv' := [(4, .int 0), (3, .int (nI ji)), (0, .ref h0), (1, .int pa), (2, .int (nI ji))]) hx hb gX12_stampAt_0.2.2.2.1 hl (by decide) rfl (fun ls hl => ?_)
  have keyP : ∀ (nP kP : Nat) (lf : Nat) (ls : Array Slot), kP + nP = k6 → (lf + cntS fnw pa kP = ji) → lv_has ls 5 [(4, .int (nI kP)), (3, .int (nI lf)), (0, .ref h0), (1, .int pa), (2, .int (nI ji))] → W p l e (RM 2 0 0) s m ([.ref h0, .int pa, .int (nI ji)] : List Value).toArray below meth c s.heap [] 0 0 Q0 (F0 m 5 ls []) := by
    intro nP
    induction nP with
    | zero =>
      intro kP lf ls hkP hlf hl
      obtain rfl : k6 = kP := by omega
      have hl : lv_has ls 5 [(4, .int (nI k6)), (3, .int (nI lf)), (0, .ref h0), (1, .int pa), (2, .int (nI ji))] := hl
      refine lv_iload hx hb gX12_stampAt_0.2.2.2.2.1 (lv_at0 hl) ?_
      refine lv_aload_n hx hb gX12_stampAt_0.2.2.2.2.2.1 rfl (lv_at2 hl) ?_
      refine gf_X12_9 hC rfl hK hP 0 rfl rfl gX12_stampAt_0.2.2.2.2.2.2.1 ?_
      refine lv_bipush (v := 6) hx hb gX12_stampAt_0.2.2.2.2.2.2.2.1 (by decide) ?_
      refine ald hC hK hP 1 rfl (vin (by decide +kernel)) (k := 6) (by decide +kernel) (v := nI k6) (e6) gX12_stampAt_0.2.2.2.2.2.2.2.2.1 ?_
      refine lv_icmp_ge (tgt := 49) hx hb gX12_stampAt_0.2.2.2.2.2.2.2.2.2 (by decide) (fun _ => ?_) (fun c9 => absurd (Int32.le_refl _) c9)
      exact (show False by omega).elim
    | succ nP ihP =>
      intro kP lf ls hkP hlf hl
      refine lv_iload hx hb gX12_stampAt_0.2.2.2.2.1 (lv_at0 hl) ?_
      refine lv_aload_n hx hb gX12_stampAt_0.2.2.2.2.2.1 rfl (lv_at2 hl) ?_
      refine gf_X12_9 hC rfl hK hP 0 rfl rfl gX12_stampAt_0.2.2.2.2.2.2.1 ?_
      refine lv_bipush (v := 6) hx hb gX12_stampAt_0.2.2.2.2.2.2.2.1 (by decide) ?_
      refine ald hC hK hP 1 rfl (vin (by decide +kernel)) (k := 6) (by decide +kernel) (v := nI k6) (e6) gX12_stampAt_0.2.2.2.2.2.2.2.2.1 ?_
      refine lv_icmp_ge (tgt := 49) hx hb gX12_stampAt_0.2.2.2.2.2.2.2.2.2 (by decide) (fun c9 => absurd c9 (nI_ge (a := kP) (b := k6) (by omega) (by omega))) (fun _ => ?_)
      refine lv_aload_n hx hb gX12_stampAt_1.1 rfl (lv_at2 hl) ?_
      refine gf_X12_9 hC rfl hK hP 0 rfl rfl gX12_stampAt_1.2.1 ?_
      refine lv_bipush (v := 104) hx hb gX12_stampAt_1.2.2.1 (by decide) ?_
      refine lv_iconst (v := 3) hx hb gX12_stampAt_1.2.2.2.1 (by decide) ?_
      refine lv_iload hx hb gX12_stampAt_1.2.2.2.2.1 (lv_at0 hl) ?_
      refine lv_imul hx hb gX12_stampAt_1.2.2.2.2.2.1 ?_
      refine eqi (x1 := nI (3 * kP)) (nI_mul 3 kP) ?_
      refine lv_iadd hx hb gX12_stampAt_1.2.2.2.2.2.2.1 ?_
      refine eqi (x1 := nI (104 + 3 * kP)) (nI_add 104 (3 * kP)) ?_
      refine aldN hC hK hP 1 rfl (k := (104 + 3 * kP)) (by omega) (Nat.le_of_ble_eq_true rfl) (v := fnw (104 + 3 * kP)) rfl gX12_stampAt_1.2.2.2.2.2.2.2.1 ?_
      refine lv_topi (fun x5224 ex5224 => ?_)
      refine lv_iload_n hx hb gX12_stampAt_1.2.2.2.2.2.2.2.2.1 rfl (lv_at3 hl) ?_
      refine lv_icmp_ne (tgt := 43) hx hb gX12_stampAt_1.2.2.2.2.2.2.2.2.2 (by decide) (fun c_30_5225 => ?_) (fun c_30_5225 => ?_)
      · have hcs9 := cntS_f (f := fnw) (p := pa) (n := kP) (fun h9 => c_30_5225 (ex5224.trans h9))
        refine lv_iinc (v := nI (kP + 1)) (lv' := [(4, .int (nI (kP + 1))), (3, .int (nI lf)), (0, .ref h0), (1, .int pa), (2, .int (nI ji))]) hx hb gX12_stampAt_2.2.2.2.2.2.1 hl (k := 0) rfl (nI_1 _) (by decide) rfl (fun ls hl => ?_)
        refine lv_goto (tgt := 5) hx hb gX12_stampAt_2.2.2.2.2.2.2.1 (by decide) ?_
        exact ihP (kP + 1) lf _ (by omega) (by first | assumption | exact Or.inl rfl | exact Or.inr rfl | omega | exact rfl) (lv_sub hl [0, 1, 2, 3, 4] rfl)
      · have hcs9 := cntS_t (f := fnw) (p := pa) (n := kP) (ex5224.symm.trans c_30_5225)
        refine lv_iload_n hx hb gX12_stampAt_2.1 rfl (lv_at1 hl) ?_
        refine lv_if_ne (tgt := 40) hx hb gX12_stampAt_2.2.1 (by decide) (fun c_34_5226 => ?_) (fun c_34_5226 => ?_)
        · have hlf1 := nI_nz c_34_5226
          refine lv_iinc (v := nI (lf - 1)) (lv' := [(3, .int (nI (lf - 1))), (4, .int (nI kP)), (0, .ref h0), (1, .int pa), (2, .int (nI ji))]) hx hb gX12_stampAt_2.2.2.2.2.1 hl (k := 1) rfl ((nI_dec lf).trans (nI_sb (by omega))) (by decide) rfl (fun ls hl => ?_)
          refine lv_iinc (v := nI (kP + 1)) (lv' := [(4, .int (nI (kP + 1))), (3, .int (nI (lf - 1))), (0, .ref h0), (1, .int pa), (2, .int (nI ji))]) hx hb gX12_stampAt_2.2.2.2.2.2.1 hl (k := 1) rfl (nI_1 _) (by decide) rfl (fun ls hl => ?_)
          refine lv_goto (tgt := 5) hx hb gX12_stampAt_2.2.2.2.2.2.2.1 (by decide) ?_
          exact ihP (kP + 1) (lf - 1) _ (by omega) (by first | assumption | exact Or.inl rfl | exact Or.inr rfl | omega | exact rfl) (lv_sub hl [0, 1, 2, 3, 4] rfl)
        · refine lv_iload hx hb gX12_stampAt_2.2.2.1 (lv_at0 hl) ?_
          refine toQ hQ0 ?_
          exact RP (v := nI kP) hC (⟨kP, by omega, rfl⟩) rfl gX12_stampAt_2.2.2.2.1
  exact keyP k6 0 ji _ (by omega) (by first | assumption | exact Or.inl rfl | exact Or.inr rfl | omega | exact rfl) (lv_sub hl [0, 1, 2, 3, 4] rfl)
def K_m_atMost (l : Launch) (G : GG) (h0 : Nat) (jb : Nat) (ja : Nat) (vv : Int32) (nw : Nat) (nk : Nat) (mhasKept : Int32) (nt : Nat) (mtaped : Int32) (nr : Nat) (mrowMany : Int32) (mroundOf : Int32) (mroundFrom : Int32) (mouts : Int32) (nm : Nat) (mfromHour : Int32) (mtoHour : Int32) (ns : Nat) (mfrom : Int32) (mto : Int32) (msort : Int32) (misFault : Int32) (mdeep : Int32) (mcoded : Int32) (mlines : Int32) (nl : Nat) (nc : Nat) (nF : Nat) (np : Nat) (ntr : Nat) (nb : Nat) (mbestCost : Int32) (nso : Nat) (nsi : Nat) (nit : Nat) (nsh : Nat) (nsf : Nat) (nss : Nat) (nrc : Nat) (mtraced : Int32) (mdealer : Int32) (mnumber : Int32) (mwhose : Int32) (msize : Int32) (misParted : Int32) (fnm : Nat → Int32) : Prop := MV l G yX12_atMost cX12_atMost 4 2 0 0 [.ref h0, .int (nI jb), .int (nI ja), .int vv] [(h0, oX12 nw nk mhasKept nt mtaped nr mrowMany mroundOf mroundFrom mouts nm mfromHour mtoHour ns mfrom mto msort misFault mdeep mcoded mlines nl nc nF np ntr nb mbestCost nso nsi nit nsh nsf nss nrc mtraced mdealer mnumber mwhose msize misParted), (nm, iA G 36 fnm)] (fun u : (Nat → Int32) => MB u) (fun u : (Nat → Int32) => [(h0, oX12 nw nk mhasKept nt mtaped nr mrowMany mroundOf mroundFrom mouts nm mfromHour mtoHour ns mfrom mto msort misFault mdeep mcoded mlines nl nc nF np ntr nb mbestCost nso nsi nit nsh nsf nss nrc mtraced mdealer mnumber mwhose msize misParted), (nm, iA G 36 u)])
set_option maxHeartbeats 4000000 in
set_option maxRecDepth 100000 in
theorem m_atMost (l : Launch) (G : GG) (h0 : Nat) (jb : Nat) (ja : Nat) (vv : Int32) (nw : Nat) (nk : Nat) (mhasKept : Int32) (nt : Nat) (mtaped : Int32) (nr : Nat) (mrowMany : Int32) (mroundOf : Int32) (mroundFrom : Int32) (mouts : Int32) (nm : Nat) (mfromHour : Int32) (mtoHour : Int32) (ns : Nat) (mfrom : Int32) (mto : Int32) (msort : Int32) (misFault : Int32) (mdeep : Int32) (mcoded : Int32) (mlines : Int32) (nl : Nat) (nc : Nat) (nF : Nat) (np : Nat) (ntr : Nat) (nb : Nat) (mbestCost : Int32) (nso : Nat) (nsi : Nat) (nit : Nat) (nsh : Nat) (nsf : Nat) (nss : Nat) (nrc : Nat) (mtraced : Int32) (mdealer : Int32) (mnumber : Int32) (mwhose : Int32) (msize : Int32) (misParted : Int32) (fnm : Nat → Int32) (hjb : jb < 6) (hja : ja < 6) (hM : MB fnm) : K_m_atMost l G h0 jb ja vv nw nk mhasKept nt mtaped nr mrowMany mroundOf mroundFrom mouts nm mfromHour mtoHour ns mfrom mto msort misFault mdeep mcoded mlines nl nc nF np ntr nb mbestCost nso nsi nit nsh nsf nss nrc mtraced mdealer mnumber mwhose msize misParted fnm := by
  refine MV.start (by decide +kernel) (Nat.le_of_ble_eq_true rfl) ?_
  intro p e s m below meth c A ls hC hK hP hD hS hA hl
  refine absQ (fun Q0 hQ0 => ?_)
  have hl : lv_has ls 4 [(0, .ref h0), (1, .int (nI jb)), (2, .int (nI ja)), (3, .int vv)] := hl
  refine Kan8 hC (fun hx hb hr hml hB hown hlocks hnm => ?_)
  refine lv_aload_n hx hb gX12_atMost_0.1 rfl (lv_at0 hl) ?_
  refine gf_X12_26 hC rfl hK hP 0 rfl rfl gX12_atMost_0.2.1 ?_
  refine lv_bipush (v := 6) hx hb gX12_atMost_0.2.2.1 (by decide) ?_
  refine lv_iload_n hx hb gX12_atMost_0.2.2.2.1 rfl (lv_at1 hl) ?_
  refine lv_imul hx hb gX12_atMost_0.2.2.2.2.1 ?_
  refine eqi (x1 := nI (6 * jb)) (nI_mul 6 jb) ?_
  refine lv_iload_n hx hb gX12_atMost_0.2.2.2.2.2.1 rfl (lv_at2 hl) ?_
  refine lv_iadd hx hb gX12_atMost_0.2.2.2.2.2.2.1 ?_
  refine eqi (x1 := nI (6 * jb + ja)) (nI_add (6 * jb) ja) ?_
  refine lv_aload_n hx hb gX12_atMost_0.2.2.2.2.2.2.2.1 rfl (lv_at0 hl) ?_
  refine gf_X12_26 hC rfl hK hP 0 rfl rfl gX12_atMost_0.2.2.2.2.2.2.2.2.1 ?_
  refine lv_bipush (v := 6) hx hb gX12_atMost_0.2.2.2.2.2.2.2.2.2 (by decide) ?_
  refine lv_iload_n hx hb gX12_atMost_1.1 rfl (lv_at1 hl) ?_
  refine lv_imul hx hb gX12_atMost_1.2.1 ?_
  refine eqi (x1 := nI (6 * jb)) (nI_mul 6 jb) ?_
  refine lv_iload_n hx hb gX12_atMost_1.2.2.1 rfl (lv_at2 hl) ?_
  refine lv_iadd hx hb gX12_atMost_1.2.2.2.1 ?_
  refine eqi (x1 := nI (6 * jb + ja)) (nI_add (6 * jb) ja) ?_
  refine aldN hC hK hP 1 rfl (k := 6 * jb + ja) (by omega) (Nat.le_of_ble_eq_true rfl) (v := fnm (6 * jb + ja)) (rfl) gX12_atMost_1.2.2.2.2.1 ?_
  refine lv_iload_n hx hb gX12_atMost_1.2.2.2.2.2.1 rfl (lv_at3 hl) ?_
  refine va_mmin hx hb (hml.trans hl.1.symm) hown (hB _ m_1165) (hB _ m_373) (hB _ m_105) (hB _ m_374) (Nat.le_of_ble_eq_true rfl) (Nat.le_of_ble_eq_true rfl) (by first | exact Nat.le_of_ble_eq_true rfl | exact Nat.zero_le _)  (by first | exact Nat.le_of_ble_eq_true rfl | exact Nat.zero_le _) gX12_atMost_1.2.2.2.2.2.2.1 ?_
  refine lv_topi (fun x5227 ex5227 => ?_)
  refine astN hC hK hP hD hS 1 (ws' := [(h0, oX12 nw nk mhasKept nt mtaped nr mrowMany mroundOf mroundFrom mouts nm mfromHour mtoHour ns mfrom mto msort misFault mdeep mcoded mlines nl nc nF np ntr nb mbestCost nso nsi nit nsh nsf nss nrc mtraced mdealer mnumber mwhose msize misParted), (nm, iA G 36 (upd fnm (6 * jb + ja) x5227))]) rfl (k := (6 * jb + ja)) (by omega) (Nat.le_of_ble_eq_true rfl) (rfl) gX12_atMost_1.2.2.2.2.2.2.2.1 (fun H locs hP hD hS => ?_)
  refine toQ hQ0 ?_
  exact RV hC hP hD hS [0, 1] (upd fnm (6 * jb + ja) x5227) rfl rfl (by decide) (MB.min hM (by omega) ex5227) gX12_atMost_1.2.2.2.2.2.2.2.2
def K_m_findClocks (l : Launch) (G : GG) (h0 : Nat) (nw : Nat) (nk : Nat) (mhasKept : Int32) (nt : Nat) (mtaped : Int32) (nr : Nat) (mrowMany : Int32) (mroundOf : Int32) (mroundFrom : Int32) (mouts : Int32) (nm : Nat) (mfromHour : Int32) (mtoHour : Int32) (ns : Nat) (mfrom : Int32) (mto : Int32) (msort : Int32) (misFault : Int32) (mdeep : Int32) (mcoded : Int32) (mlines : Int32) (nl : Nat) (nc : Nat) (nF : Nat) (np : Nat) (ntr : Nat) (nb : Nat) (mbestCost : Int32) (nso : Nat) (nsi : Nat) (nit : Nat) (nsh : Nat) (nsf : Nat) (nss : Nat) (nrc : Nat) (mtraced : Int32) (mdealer : Int32) (mnumber : Int32) (mwhose : Int32) (msize : Int32) (misParted : Int32) (fnw : Nat → Int32) (fnm : Nat → Int32) : Prop := MI l G yX12_findClocks cX12_findClocks 7 (some .boolean) 4 0 0 [.ref h0] [(h0, oX12 nw nk mhasKept nt mtaped nr mrowMany mroundOf mroundFrom mouts nm mfromHour mtoHour ns mfrom mto msort misFault mdeep mcoded mlines nl nc nF np ntr nb mbestCost nso nsi nit nsh nsf nss nrc mtraced mdealer mnumber mwhose msize misParted), (nw, iA G 1662 fnw), (nm, iA G 36 fnm)] (fun (r : Int32) (u : (Nat → Int32)) => (r = 1 ∨ r = 0) ∧ (MB u)) (fun u : (Nat → Int32) => [(h0, oX12 nw nk mhasKept nt mtaped nr mrowMany mroundOf mroundFrom mouts nm mfromHour mtoHour ns mfrom mto msort misFault mdeep mcoded mlines nl nc nF np ntr nb mbestCost nso nsi nit nsh nsf nss nrc mtraced mdealer mnumber mwhose msize misParted), (nw, iA G 1662 fnw), (nm, iA G 36 u)])
set_option maxHeartbeats 4000000 in
set_option maxRecDepth 100000 in
theorem m_findClocks (l : Launch) (G : GG) (h0 : Nat) (nw : Nat) (nk : Nat) (mhasKept : Int32) (nt : Nat) (mtaped : Int32) (nr : Nat) (mrowMany : Int32) (mroundOf : Int32) (mroundFrom : Int32) (mouts : Int32) (nm : Nat) (mfromHour : Int32) (mtoHour : Int32) (ns : Nat) (mfrom : Int32) (mto : Int32) (msort : Int32) (misFault : Int32) (mdeep : Int32) (mcoded : Int32) (mlines : Int32) (nl : Nat) (nc : Nat) (nF : Nat) (np : Nat) (ntr : Nat) (nb : Nat) (mbestCost : Int32) (nso : Nat) (nsi : Nat) (nit : Nat) (nsh : Nat) (nsf : Nat) (nss : Nat) (nrc : Nat) (mtraced : Int32) (mdealer : Int32) (mnumber : Int32) (mwhose : Int32) (msize : Int32) (misParted : Int32) (fnw : Nat → Int32) (fnm : Nat → Int32) (hN : NI fnw) (hM : MB fnm) : K_m_findClocks l G h0 nw nk mhasKept nt mtaped nr mrowMany mroundOf mroundFrom mouts nm mfromHour mtoHour ns mfrom mto msort misFault mdeep mcoded mlines nl nc nF np ntr nb mbestCost nso nsi nit nsh nsf nss nrc mtraced mdealer mnumber mwhose msize misParted fnw fnm := by
  refine MI.start (by decide +kernel) (Nat.le_of_ble_eq_true rfl) ?_
  intro p e s m below meth c A ls hC hK hP hD hS hA hl
  refine absQ (fun Q0 hQ0 => ?_)
  have hl : lv_has ls 7 [(0, .ref h0)] := hl
  refine Kan8 hC (fun hx hb hr hml hB hown hlocks hnm => ?_)
  obtain ⟨kq, hkq, ekq⟩ := NI.nat hN (i := 5) (B := 12) (by decide +kernel) (by decide)
  obtain ⟨k6, hk6, ek6⟩ := NI.nat hN (i := 6) (B := 24) (by decide +kernel) (by decide)
  refine lv_iconst (v := 0) hx hb gX12_findClocks_0.1 (by decide) ?_
  refine lv_istore_n (lv' := [(1, .int 0), (0, .ref h0)]) hx hb gX12_findClocks_0.2.1 rfl hl (by decide) rfl (fun ls hl => ?_)
  have keyA : ∀ (nA kA : Nat) (vA : Nat → Int32) (H : Heap) (locs : List Loc) (ls : Array Slot), kA + nA = 6 → (MB vA) → va_PD G A [(h0, oX12 nw nk mhasKept nt mtaped nr mrowMany mroundOf mroundFrom mouts nm mfromHour mtoHour ns mfrom mto msort misFault mdeep mcoded mlines nl nc nF np ntr nb mbestCost nso nsi nit nsh nsf nss nrc mtraced mdealer mnumber mwhose msize misParted), (nw, iA G 1662 fnw), (nm, iA G 36 vA)] H → va_S A s.heap H locs → lv_has ls 7 [(1, .int (nI kA)), (0, .ref h0)] → W p l e (RM 4 0 0) s m ([.ref h0] : List Value).toArray below meth c H locs 0 0 Q0 (F0 m 2 ls []) := by
    intro nA
    induction nA with
    | zero =>
      intro kA vA H locs ls hkA hvA hPD hS hl
      refine Kan2 hPD (fun hP hD => ?_)
      obtain rfl : 6 = kA := by omega
      have hl : lv_has ls 7 [(1, .int 6), (0, .ref h0)] := hl
      refine lv_iload_n hx hb gX12_findClocks_0.2.2.1 rfl (lv_at0 hl) ?_
      refine lv_bipush (v := 6) hx hb gX12_findClocks_0.2.2.2.1 (by decide) ?_
      refine lv_icmp_ge (tgt := 63) hx hb gX12_findClocks_0.2.2.2.2.1 (by decide) (fun _ => ?_) (fun c9 => absurd (by decide) c9)
      refine lv_iconst (v := 0) hx hb gX12_findClocks_3.2.2.2.2.1 (by decide) ?_
      refine lv_istore_n (lv' := [(1, .int 0), (0, .ref h0)]) hx hb gX12_findClocks_3.2.2.2.2.2.1 rfl hl (by decide) rfl (fun ls hl => ?_)
      have keyC : ∀ (nC kC : Nat) (vC : Nat → Int32) (H : Heap) (locs : List Loc) (ls : Array Slot), kC + nC = kq → (MB vC) → va_PD G A [(h0, oX12 nw nk mhasKept nt mtaped nr mrowMany mroundOf mroundFrom mouts nm mfromHour mtoHour ns mfrom mto msort misFault mdeep mcoded mlines nl nc nF np ntr nb mbestCost nso nsi nit nsh nsf nss nrc mtraced mdealer mnumber mwhose msize misParted), (nw, iA G 1662 fnw), (nm, iA G 36 vC)] H → va_S A s.heap H locs → lv_has ls 7 [(1, .int (nI kC)), (0, .ref h0)] → W p l e (RM 4 0 0) s m ([.ref h0] : List Value).toArray below meth c H locs 0 0 Q0 (F0 m 65 ls []) := by
        intro nC
        induction nC with
        | zero =>
          intro kC vC H locs ls hkC hvC hPD hS hl
          refine Kan2 hPD (fun hP hD => ?_)
          obtain rfl : kq = kC := by omega
          have hl : lv_has ls 7 [(1, .int (nI kq)), (0, .ref h0)] := hl
          refine lv_iload_n hx hb gX12_findClocks_3.2.2.2.2.2.2.1 rfl (lv_at0 hl) ?_
          refine lv_aload_n hx hb gX12_findClocks_3.2.2.2.2.2.2.2.1 rfl (lv_at1 hl) ?_
          refine gf_X12_9 hC rfl hK hP 0 rfl rfl gX12_findClocks_3.2.2.2.2.2.2.2.2.1 ?_
          refine lv_iconst (v := 5) hx hb gX12_findClocks_3.2.2.2.2.2.2.2.2.2 (by decide) ?_
          refine ald hC hK hP 1 rfl (vin (by decide +kernel)) (k := 5) (by decide +kernel) (v := nI kq) (ekq) gX12_findClocks_4.1 ?_
          refine lv_icmp_ge (tgt := 216) hx hb gX12_findClocks_4.2.1 (by decide) (fun _ => ?_) (fun c9 => absurd (Int32.le_refl _) c9)
          refine lv_iconst (v := 0) hx hb gX12_findClocks_13.1 (by decide) ?_
          refine lv_istore_n (lv' := [(1, .int 0), (0, .ref h0)]) hx hb gX12_findClocks_13.2.1 rfl hl (by decide) rfl (fun ls hl => ?_)
          have keyE : ∀ (nE kE : Nat) (vE : Nat → Int32) (H : Heap) (locs : List Loc) (ls : Array Slot), kE + nE = 6 → (MB vE) → va_PD G A [(h0, oX12 nw nk mhasKept nt mtaped nr mrowMany mroundOf mroundFrom mouts nm mfromHour mtoHour ns mfrom mto msort misFault mdeep mcoded mlines nl nc nF np ntr nb mbestCost nso nsi nit nsh nsf nss nrc mtraced mdealer mnumber mwhose msize misParted), (nw, iA G 1662 fnw), (nm, iA G 36 vE)] H → va_S A s.heap H locs → lv_has ls 7 [(1, .int (nI kE)), (0, .ref h0)] → W p l e (RM 4 0 0) s m ([.ref h0] : List Value).toArray below meth c H locs 0 0 Q0 (F0 m 218 ls []) := by
            intro nE
            induction nE with
            | zero =>
              intro kE vE H locs ls hkE hvE hPD hS hl
              refine Kan2 hPD (fun hP hD => ?_)
              obtain rfl : 6 = kE := by omega
              have hl : lv_has ls 7 [(1, .int 6), (0, .ref h0)] := hl
              refine lv_iload_n hx hb gX12_findClocks_13.2.2.1 rfl (lv_at0 hl) ?_
              refine lv_bipush (v := 6) hx hb gX12_findClocks_13.2.2.2.1 (by decide) ?_
              refine lv_icmp_ge (tgt := 287) hx hb gX12_findClocks_13.2.2.2.2.1 (by decide) (fun _ => ?_) (fun c9 => absurd (by decide) c9)
              refine lv_iconst (v := 0) hx hb gX12_findClocks_17.2.2.1 (by decide) ?_
              refine lv_istore_n (lv' := [(1, .int 0), (0, .ref h0)]) hx hb gX12_findClocks_17.2.2.2.1 rfl hl (by decide) rfl (fun ls hl => ?_)
              refine lv_iconst (v := 0) hx hb gX12_findClocks_17.2.2.2.2.1 (by decide) ?_
              refine lv_istore_n (lv' := [(2, .int 0), (1, .int 0), (0, .ref h0)]) hx hb gX12_findClocks_17.2.2.2.2.2.1 rfl hl (by decide) rfl (fun ls hl => ?_)
              have keyH : ∀ (nH kH : Nat) (cl : Int32) (H : Heap) (locs : List Loc) (ls : Array Slot), kH + nH = 6 → (cl = 0 ∨ cl = 1) → va_PD G A [(h0, oX12 nw nk mhasKept nt mtaped nr mrowMany mroundOf mroundFrom mouts nm mfromHour mtoHour ns mfrom mto msort misFault mdeep mcoded mlines nl nc nF np ntr nb mbestCost nso nsi nit nsh nsf nss nrc mtraced mdealer mnumber mwhose msize misParted), (nw, iA G 1662 fnw), (nm, iA G 36 vE)] H → va_S A s.heap H locs → lv_has ls 7 [(2, .int (nI kH)), (1, .int cl), (0, .ref h0)] → W p l e (RM 4 0 0) s m ([.ref h0] : List Value).toArray below meth c H locs 0 0 Q0 (F0 m 291 ls []) := by
                intro nH
                induction nH with
                | zero =>
                  intro kH cl H locs ls hkH hcl hPD hS hl
                  refine Kan2 hPD (fun hP hD => ?_)
                  obtain rfl : 6 = kH := by omega
                  have hl : lv_has ls 7 [(2, .int 6), (1, .int cl), (0, .ref h0)] := hl
                  refine lv_iload_n hx hb gX12_findClocks_17.2.2.2.2.2.2.1 rfl (lv_at0 hl) ?_
                  refine lv_bipush (v := 6) hx hb gX12_findClocks_17.2.2.2.2.2.2.2.1 (by decide) ?_
                  refine lv_icmp_ge (tgt := 327) hx hb gX12_findClocks_17.2.2.2.2.2.2.2.2.1 (by decide) (fun _ => ?_) (fun c9 => absurd (by decide) c9)
                  rcases hcl with rfl | rfl
                  · refine lv_iload_n hx hb gX12_findClocks_19.2.2.2.2.2.2.1 rfl (lv_at1 hl) ?_
                    refine toQ hQ0 ?_
                    exact RI (v := 0) hC hP hD hS [0, 1, 2] vE rfl rfl (by decide) (⟨Or.inr (rfl), by assumption⟩) (by decide +kernel) gX12_findClocks_19.2.2.2.2.2.2.2
                  · refine lv_iload_n hx hb gX12_findClocks_19.2.2.2.2.2.2.1 rfl (lv_at1 hl) ?_
                    refine toQ hQ0 ?_
                    exact RI (v := 1) hC hP hD hS [0, 1, 2] vE rfl rfl (by decide) (⟨Or.inl (rfl), by assumption⟩) (by decide +kernel) gX12_findClocks_19.2.2.2.2.2.2.2
                | succ nH ihH =>
                  intro kH cl H locs ls hkH hcl hPD hS hl
                  refine Kan2 hPD (fun hP hD => ?_)
                  refine lv_iload_n hx hb gX12_findClocks_17.2.2.2.2.2.2.1 rfl (lv_at0 hl) ?_
                  refine lv_bipush (v := 6) hx hb gX12_findClocks_17.2.2.2.2.2.2.2.1 (by decide) ?_
                  refine lv_icmp_ge (tgt := 327) hx hb gX12_findClocks_17.2.2.2.2.2.2.2.2.1 (by decide) (fun c9 => absurd c9 (nI_ge (a := kH) (b := 6) (by omega) (by omega))) (fun _ => ?_)
                  refine lv_iload_n hx hb gX12_findClocks_17.2.2.2.2.2.2.2.2.2 rfl (lv_at1 hl) ?_
                  refine lv_if_ne (tgt := 315) hx hb gX12_findClocks_18.1 (by decide) (fun c_298_5228 => ?_) (fun c_298_5228 => ?_)
                  · refine lv_iconst (v := 1) hx hb gX12_findClocks_19.1 (by decide) ?_
                    refine lv_goto (tgt := 320) hx hb gX12_findClocks_19.2.1 (by decide) ?_
                    refine lv_istore_n (lv' := [(1, .int 1), (2, .int (nI kH)), (0, .ref h0)]) hx hb gX12_findClocks_19.2.2.2.1 rfl hl (by decide) rfl (fun ls hl => ?_)
                    refine lv_iinc (v := nI (kH + 1)) (lv' := [(2, .int (nI (kH + 1))), (1, .int 1), (0, .ref h0)]) hx hb gX12_findClocks_19.2.2.2.2.1 hl (k := 1) rfl (nI_1 _) (by decide) rfl (fun ls hl => ?_)
                    refine lv_goto (tgt := 291) hx hb gX12_findClocks_19.2.2.2.2.2.1 (by decide) ?_
                    exact ihH (kH + 1) 1 _ _ _ (by omega) (by first | assumption | exact Or.inl rfl | exact Or.inr rfl) (And.intro hP hD) hS (lv_sub hl [0, 1, 2] rfl)
                  · refine lv_aload_n hx hb gX12_findClocks_18.2.1 rfl (lv_at2 hl) ?_
                    refine gf_X12_26 hC rfl hK hP 0 rfl rfl gX12_findClocks_18.2.2.1 ?_
                    refine lv_bipush (v := 6) hx hb gX12_findClocks_18.2.2.2.1 (by decide) ?_
                    refine lv_iload_n hx hb gX12_findClocks_18.2.2.2.2.1 rfl (lv_at0 hl) ?_
                    refine lv_imul hx hb gX12_findClocks_18.2.2.2.2.2.1 ?_
                    refine eqi (x1 := nI (6 * kH)) (nI_mul 6 kH) ?_
                    refine lv_iload_n hx hb gX12_findClocks_18.2.2.2.2.2.2.1 rfl (lv_at0 hl) ?_
                    refine lv_iadd hx hb gX12_findClocks_18.2.2.2.2.2.2.2.1 ?_
                    refine eqi (x1 := nI (6 * kH + kH)) (nI_add (6 * kH) kH) ?_
                    refine aldN hC hK hP 2 rfl (k := (6 * kH + kH)) (by omega) (Nat.le_of_ble_eq_true rfl) (v := vE (6 * kH + kH)) rfl gX12_findClocks_18.2.2.2.2.2.2.2.2.1 ?_
                    refine lv_topi (fun x5229 ex5229 => ?_)
                    refine lv_if_ge (tgt := 319) hx hb gX12_findClocks_18.2.2.2.2.2.2.2.2.2 (by decide) (fun c_312_5230 => ?_) (fun c_312_5230 => ?_)
                    · refine lv_iconst (v := 0) hx hb gX12_findClocks_19.2.2.1 (by decide) ?_
                      refine lv_istore_n (lv' := [(1, .int 0), (2, .int (nI kH)), (0, .ref h0)]) hx hb gX12_findClocks_19.2.2.2.1 rfl hl (by decide) rfl (fun ls hl => ?_)
                      refine lv_iinc (v := nI (kH + 1)) (lv' := [(2, .int (nI (kH + 1))), (1, .int 0), (0, .ref h0)]) hx hb gX12_findClocks_19.2.2.2.2.1 hl (k := 1) rfl (nI_1 _) (by decide) rfl (fun ls hl => ?_)
                      refine lv_goto (tgt := 291) hx hb gX12_findClocks_19.2.2.2.2.2.1 (by decide) ?_
                      exact ihH (kH + 1) 0 _ _ _ (by omega) (by first | assumption | exact Or.inl rfl | exact Or.inr rfl) (And.intro hP hD) hS (lv_sub hl [0, 1, 2] rfl)
                    · refine lv_iconst (v := 1) hx hb gX12_findClocks_19.1 (by decide) ?_
                      refine lv_goto (tgt := 320) hx hb gX12_findClocks_19.2.1 (by decide) ?_
                      refine lv_istore_n (lv' := [(1, .int 1), (2, .int (nI kH)), (0, .ref h0)]) hx hb gX12_findClocks_19.2.2.2.1 rfl hl (by decide) rfl (fun ls hl => ?_)
                      refine lv_iinc (v := nI (kH + 1)) (lv' := [(2, .int (nI (kH + 1))), (1, .int 1), (0, .ref h0)]) hx hb gX12_findClocks_19.2.2.2.2.1 hl (k := 1) rfl (nI_1 _) (by decide) rfl (fun ls hl => ?_)
                      refine lv_goto (tgt := 291) hx hb gX12_findClocks_19.2.2.2.2.2.1 (by decide) ?_
                      exact ihH (kH + 1) 1 _ _ _ (by omega) (by first | assumption | exact Or.inl rfl | exact Or.inr rfl) (And.intro hP hD) hS (lv_sub hl [0, 1, 2] rfl)
              exact keyH 6 0 0 _ _ _ (by omega) (by first | assumption | exact Or.inl rfl | exact Or.inr rfl) (And.intro hP hD) hS (lv_sub hl [0, 1, 2] rfl)
            | succ nE ihE =>
              intro kE vE H locs ls hkE hvE hPD hS hl
              refine Kan2 hPD (fun hP hD => ?_)
              refine lv_iload_n hx hb gX12_findClocks_13.2.2.1 rfl (lv_at0 hl) ?_
              refine lv_bipush (v := 6) hx hb gX12_findClocks_13.2.2.2.1 (by decide) ?_
              refine lv_icmp_ge (tgt := 287) hx hb gX12_findClocks_13.2.2.2.2.1 (by decide) (fun c9 => absurd c9 (nI_ge (a := kE) (b := 6) (by omega) (by omega))) (fun _ => ?_)
              refine lv_iconst (v := 0) hx hb gX12_findClocks_13.2.2.2.2.2.1 (by decide) ?_
              refine lv_istore_n (lv' := [(2, .int 0), (1, .int (nI kE)), (0, .ref h0)]) hx hb gX12_findClocks_13.2.2.2.2.2.2.1 rfl hl (by decide) rfl (fun ls hl => ?_)
              have keyY : ∀ (nY kY : Nat) (vY : Nat → Int32) (H : Heap) (locs : List Loc) (ls : Array Slot), kY + nY = 6 → (MB vY) → va_PD G A [(h0, oX12 nw nk mhasKept nt mtaped nr mrowMany mroundOf mroundFrom mouts nm mfromHour mtoHour ns mfrom mto msort misFault mdeep mcoded mlines nl nc nF np ntr nb mbestCost nso nsi nit nsh nsf nss nrc mtraced mdealer mnumber mwhose msize misParted), (nw, iA G 1662 fnw), (nm, iA G 36 vY)] H → va_S A s.heap H locs → lv_has ls 7 [(2, .int (nI kY)), (1, .int (nI kE)), (0, .ref h0)] → W p l e (RM 4 0 0) s m ([.ref h0] : List Value).toArray below meth c H locs 0 0 Q0 (F0 m 226 ls []) := by
                intro nY
                induction nY with
                | zero =>
                  intro kY vY H locs ls hkY hvY hPD hS hl
                  refine Kan2 hPD (fun hP hD => ?_)
                  obtain rfl : 6 = kY := by omega
                  have hl : lv_has ls 7 [(2, .int 6), (1, .int (nI kE)), (0, .ref h0)] := hl
                  refine lv_iload_n hx hb gX12_findClocks_13.2.2.2.2.2.2.2.1 rfl (lv_at0 hl) ?_
                  refine lv_bipush (v := 6) hx hb gX12_findClocks_13.2.2.2.2.2.2.2.2.1 (by decide) ?_
                  refine lv_icmp_ge (tgt := 281) hx hb gX12_findClocks_13.2.2.2.2.2.2.2.2.2 (by decide) (fun _ => ?_) (fun c9 => absurd (by decide) c9)
                  refine lv_iinc (v := nI (kE + 1)) (lv' := [(1, .int (nI (kE + 1))), (2, .int 6), (0, .ref h0)]) hx hb gX12_findClocks_17.1 hl (k := 1) rfl (nI_1 _) (by decide) rfl (fun ls hl => ?_)
                  refine lv_goto (tgt := 218) hx hb gX12_findClocks_17.2.1 (by decide) ?_
                  exact ihE (kE + 1) vY _ _ _ (by omega) (by first | assumption | exact Or.inl rfl | exact Or.inr rfl) (And.intro hP hD) hS (lv_sub hl [0, 2] rfl)
                | succ nY ihY =>
                  intro kY vY H locs ls hkY hvY hPD hS hl
                  refine Kan2 hPD (fun hP hD => ?_)
                  refine lv_iload_n hx hb gX12_findClocks_13.2.2.2.2.2.2.2.1 rfl (lv_at0 hl) ?_
                  refine lv_bipush (v := 6) hx hb gX12_findClocks_13.2.2.2.2.2.2.2.2.1 (by decide) ?_
                  refine lv_icmp_ge (tgt := 281) hx hb gX12_findClocks_13.2.2.2.2.2.2.2.2.2 (by decide) (fun c9 => absurd c9 (nI_ge (a := kY) (b := 6) (by omega) (by omega))) (fun _ => ?_)
                  refine lv_iconst (v := 0) hx hb gX12_findClocks_14.1 (by decide) ?_
                  refine lv_istore_n (lv' := [(3, .int 0), (2, .int (nI kY)), (1, .int (nI kE)), (0, .ref h0)]) hx hb gX12_findClocks_14.2.1 rfl hl (by decide) rfl (fun ls hl => ?_)
                  have keyG : ∀ (nG kG : Nat) (vG : Nat → Int32) (H : Heap) (locs : List Loc) (ls : Array Slot), kG + nG = 6 → (MB vG) → va_PD G A [(h0, oX12 nw nk mhasKept nt mtaped nr mrowMany mroundOf mroundFrom mouts nm mfromHour mtoHour ns mfrom mto msort misFault mdeep mcoded mlines nl nc nF np ntr nb mbestCost nso nsi nit nsh nsf nss nrc mtraced mdealer mnumber mwhose msize misParted), (nw, iA G 1662 fnw), (nm, iA G 36 vG)] H → va_S A s.heap H locs → lv_has ls 7 [(3, .int (nI kG)), (2, .int (nI kY)), (1, .int (nI kE)), (0, .ref h0)] → W p l e (RM 4 0 0) s m ([.ref h0] : List Value).toArray below meth c H locs 0 0 Q0 (F0 m 234 ls []) := by
                    intro nG
                    induction nG with
                    | zero =>
                      intro kG vG H locs ls hkG hvG hPD hS hl
                      refine Kan2 hPD (fun hP hD => ?_)
                      obtain rfl : 6 = kG := by omega
                      have hl : lv_has ls 7 [(3, .int 6), (2, .int (nI kY)), (1, .int (nI kE)), (0, .ref h0)] := hl
                      refine lv_iload_n hx hb gX12_findClocks_14.2.2.1 rfl (lv_at0 hl) ?_
                      refine lv_bipush (v := 6) hx hb gX12_findClocks_14.2.2.2.1 (by decide) ?_
                      refine lv_icmp_ge (tgt := 275) hx hb gX12_findClocks_14.2.2.2.2.1 (by decide) (fun _ => ?_) (fun c9 => absurd (by decide) c9)
                      refine lv_iinc (v := nI (kY + 1)) (lv' := [(2, .int (nI (kY + 1))), (3, .int 6), (1, .int (nI kE)), (0, .ref h0)]) hx hb gX12_findClocks_16.2.2.2.2.2.2.2.2.1 hl (k := 1) rfl (nI_1 _) (by decide) rfl (fun ls hl => ?_)
                      refine lv_goto (tgt := 226) hx hb gX12_findClocks_16.2.2.2.2.2.2.2.2.2 (by decide) ?_
                      exact ihY (kY + 1) vG _ _ _ (by omega) (by first | assumption | exact Or.inl rfl | exact Or.inr rfl) (And.intro hP hD) hS (lv_sub hl [0, 2, 3] rfl)
                    | succ nG ihG =>
                      intro kG vG H locs ls hkG hvG hPD hS hl
                      refine Kan2 hPD (fun hP hD => ?_)
                      refine lv_iload_n hx hb gX12_findClocks_14.2.2.1 rfl (lv_at0 hl) ?_
                      refine lv_bipush (v := 6) hx hb gX12_findClocks_14.2.2.2.1 (by decide) ?_
                      refine lv_icmp_ge (tgt := 275) hx hb gX12_findClocks_14.2.2.2.2.1 (by decide) (fun c9 => absurd c9 (nI_ge (a := kG) (b := 6) (by omega) (by omega))) (fun _ => ?_)
                      refine lv_aload_n hx hb gX12_findClocks_14.2.2.2.2.2.1 rfl (lv_at3 hl) ?_
                      refine lv_iload_n hx hb gX12_findClocks_14.2.2.2.2.2.2.1 rfl (lv_at1 hl) ?_
                      refine lv_iload_n hx hb gX12_findClocks_14.2.2.2.2.2.2.2.1 rfl (lv_at0 hl) ?_
                      refine lv_aload_n hx hb gX12_findClocks_14.2.2.2.2.2.2.2.2.1 rfl (lv_at3 hl) ?_
                      refine gf_X12_26 hC rfl hK hP 0 rfl rfl gX12_findClocks_14.2.2.2.2.2.2.2.2.2 ?_
                      refine lv_bipush (v := 6) hx hb gX12_findClocks_15.1 (by decide) ?_
                      refine lv_iload_n hx hb gX12_findClocks_15.2.1 rfl (lv_at1 hl) ?_
                      refine lv_imul hx hb gX12_findClocks_15.2.2.1 ?_
                      refine eqi (x1 := nI (6 * kY)) (nI_mul 6 kY) ?_
                      refine lv_iload_n hx hb gX12_findClocks_15.2.2.2.1 rfl (lv_at2 hl) ?_
                      refine lv_iadd hx hb gX12_findClocks_15.2.2.2.2.1 ?_
                      refine eqi (x1 := nI (6 * kY + kE)) (nI_add (6 * kY) kE) ?_
                      refine aldN hC hK hP 2 rfl (k := (6 * kY + kE)) (by omega) (Nat.le_of_ble_eq_true rfl) (v := vG (6 * kY + kE)) rfl gX12_findClocks_15.2.2.2.2.2.1 ?_
                      refine lv_topi (fun x5231 ex5231 => ?_)
                      refine lv_aload_n hx hb gX12_findClocks_15.2.2.2.2.2.2.1 rfl (lv_at3 hl) ?_
                      refine gf_X12_26 hC rfl hK hP 0 rfl rfl gX12_findClocks_15.2.2.2.2.2.2.2.1 ?_
                      refine lv_bipush (v := 6) hx hb gX12_findClocks_15.2.2.2.2.2.2.2.2.1 (by decide) ?_
                      refine lv_iload_n hx hb gX12_findClocks_15.2.2.2.2.2.2.2.2.2 rfl (lv_at2 hl) ?_
                      refine lv_imul hx hb gX12_findClocks_16.1 ?_
                      refine eqi (x1 := nI (6 * kE)) (nI_mul 6 kE) ?_
                      refine lv_iload_n hx hb gX12_findClocks_16.2.1 rfl (lv_at0 hl) ?_
                      refine lv_iadd hx hb gX12_findClocks_16.2.2.1 ?_
                      refine eqi (x1 := nI (6 * kE + kG)) (nI_add (6 * kE) kG) ?_
                      refine aldN hC hK hP 2 rfl (k := (6 * kE + kG)) (by omega) (Nat.le_of_ble_eq_true rfl) (v := vG (6 * kE + kG)) rfl gX12_findClocks_16.2.2.2.1 ?_
                      refine lv_topi (fun x5232 ex5232 => ?_)
                      refine lv_iadd hx hb gX12_findClocks_16.2.2.2.2.1 ?_
                      refine vV (wr := [(nw, iA G 1662 fnw)]) hC hK hl hP hD hS hA (m_atMost l G h0 kY kG (x5231 + x5232) nw nk mhasKept nt mtaped nr mrowMany mroundOf mroundFrom mouts nm mfromHour mtoHour ns mfrom mto msort misFault mdeep mcoded mlines nl nc nF np ntr nb mbestCost nso nsi nit nsh nsf nss nrc mtraced mdealer mnumber mwhose msize misParted vG (by omega) (by omega) (hvG)) si_X12_145 [0, 2] [1] sm_0_2 fm_0_2 nd_0_2 sm_1 nd_1 dj_0_2__1 rfl rfl rfl rfl rfl (Nat.le_of_ble_eq_true rfl) rm_4_2_4 ⟨Nat.le_of_ble_eq_true rfl, Nat.le_of_ble_eq_true rfl⟩ gX12_findClocks_16.2.2.2.2.2.1 (fun gnm5235 H locs hr5233 hP hD hS => ?_)
                      try dsimp only at hr5233
                      refine Kpdr (ws := [(nw, iA G 1662 fnw), (h0, oX12 nw nk mhasKept nt mtaped nr mrowMany mroundOf mroundFrom mouts nm mfromHour mtoHour ns mfrom mto msort misFault mdeep mcoded mlines nl nc nF np ntr nb mbestCost nso nsi nit nsh nsf nss nrc mtraced mdealer mnumber mwhose msize misParted), (nm, iA G 36 gnm5235)]) hP hD (fun hP hD => ?_)
                      have w5236 := hr5233
                      refine lv_iinc (v := nI (kG + 1)) (lv' := [(3, .int (nI (kG + 1))), (2, .int (nI kY)), (1, .int (nI kE)), (0, .ref h0)]) hx hb gX12_findClocks_16.2.2.2.2.2.2.1 hl (k := 0) rfl (nI_1 _) (by decide) rfl (fun ls hl => ?_)
                      refine lv_goto (tgt := 234) hx hb gX12_findClocks_16.2.2.2.2.2.2.2.1 (by decide) ?_
                      refine Kpds (ws' := [(h0, oX12 nw nk mhasKept nt mtaped nr mrowMany mroundOf mroundFrom mouts nm mfromHour mtoHour ns mfrom mto msort misFault mdeep mcoded mlines nl nc nF np ntr nb mbestCost nso nsi nit nsh nsf nss nrc mtraced mdealer mnumber mwhose msize misParted), (nw, iA G 1662 fnw), (nm, iA G 36 gnm5235)]) hP hD [1, 0, 2] fm_1_0_2 nd_1_0_2 sm_1_0_2 (fun hP hD => ?_)
                      exact ihG (kG + 1) gnm5235 _ _ _ (by omega) (by first | assumption | exact Or.inl rfl | exact Or.inr rfl) (And.intro hP hD) hS (lv_sub hl [0, 1, 2, 3] rfl)
                  exact keyG 6 0 vY _ _ _ (by omega) (by first | assumption | exact Or.inl rfl | exact Or.inr rfl) (And.intro hP hD) hS (lv_sub hl [0, 1, 2, 3] rfl)
              exact keyY 6 0 vE _ _ _ (by omega) (by first | assumption | exact Or.inl rfl | exact Or.inr rfl) (And.intro hP hD) hS (lv_sub hl [0, 1, 2] rfl)
          exact keyE 6 0 vC _ _ _ (by omega) (by first | assumption | exact Or.inl rfl | exact Or.inr rfl) (And.intro hP hD) hS (lv_sub hl [0, 1] rfl)
        | succ nC ihC =>
          intro kC vC H locs ls hkC hvC hPD hS hl
          refine Kan2 hPD (fun hP hD => ?_)
          refine lv_iload_n hx hb gX12_findClocks_3.2.2.2.2.2.2.1 rfl (lv_at0 hl) ?_
          refine lv_aload_n hx hb gX12_findClocks_3.2.2.2.2.2.2.2.1 rfl (lv_at1 hl) ?_
          refine gf_X12_9 hC rfl hK hP 0 rfl rfl gX12_findClocks_3.2.2.2.2.2.2.2.2.1 ?_
          refine lv_iconst (v := 5) hx hb gX12_findClocks_3.2.2.2.2.2.2.2.2.2 (by decide) ?_
          refine ald hC hK hP 1 rfl (vin (by decide +kernel)) (k := 5) (by decide +kernel) (v := nI kq) (ekq) gX12_findClocks_4.1 ?_
          refine lv_icmp_ge (tgt := 216) hx hb gX12_findClocks_4.2.1 (by decide) (fun c9 => absurd c9 (nI_ge (a := kC) (b := kq) (by omega) (by omega))) (fun _ => ?_)
          refine lv_aload_n hx hb gX12_findClocks_4.2.2.1 rfl (lv_at1 hl) ?_
          refine lv_iload_n hx hb gX12_findClocks_4.2.2.2.1 rfl (lv_at0 hl) ?_
          refine pV hC hK hl hP hD (m_isIn l G h0 kC nw nk mhasKept nt mtaped nr mrowMany mroundOf mroundFrom mouts nm mfromHour mtoHour ns mfrom mto msort misFault mdeep mcoded mlines nl nc nF np ntr nb mbestCost nso nsi nit nsh nsf nss nrc mtraced mdealer mnumber mwhose msize misParted fnw (by omega)) si_X12_103 [0, 1] sm_0_1 fm_0_1 nd_0_1 rfl rfl rfl rfl rfl (Nat.le_of_ble_eq_true rfl) rm_4_2_3 ⟨by first | exact Nat.le_of_ble_eq_true rfl | exact Nat.zero_le _, by first | exact Nat.le_of_ble_eq_true rfl | exact Nat.zero_le _⟩ gX12_findClocks_4.2.2.2.2.1 (Kors (Keqr ?_) (Keqr ?_))
          · refine lv_if_eq (tgt := 91) hx hb gX12_findClocks_4.2.2.2.2.2.1 (by decide) (fun c9 => absurd c9 (by decide)) (fun _ => ?_)
            refine lv_aload_n hx hb gX12_findClocks_4.2.2.2.2.2.2.1 rfl (lv_at1 hl) ?_
            refine lv_iload_n hx hb gX12_findClocks_4.2.2.2.2.2.2.2.1 rfl (lv_at0 hl) ?_
            refine pV hC hK hl hP hD (m_stampsOf l G k6 h0 (nI kC) nw nk mhasKept nt mtaped nr mrowMany mroundOf mroundFrom mouts nm mfromHour mtoHour ns mfrom mto msort misFault mdeep mcoded mlines nl nc nF np ntr nb mbestCost nso nsi nit nsh nsf nss nrc mtraced mdealer mnumber mwhose msize misParted fnw (ek6) (by omega)) si_X12_130 [0, 1] sm_0_1 fm_0_1 nd_0_1 rfl rfl rfl rfl rfl (Nat.le_of_ble_eq_true rfl) rm_4_2_4 ⟨by first | exact Nat.le_of_ble_eq_true rfl | exact Nat.zero_le _, by first | exact Nat.le_of_ble_eq_true rfl | exact Nat.zero_le _⟩ gX12_findClocks_4.2.2.2.2.2.2.2.2.1 (Keqr ?_)
            refine lv_goto (tgt := 92) hx hb gX12_findClocks_4.2.2.2.2.2.2.2.2.2 (by decide) ?_
            refine lv_istore_n (lv' := [(2, .int (nI (cntS fnw (nI kC) k6))), (1, .int (nI kC)), (0, .ref h0)]) hx hb gX12_findClocks_5.2.1 rfl hl (by decide) rfl (fun ls hl => ?_)
            refine lv_iconst (v := 1) hx hb gX12_findClocks_5.2.2.1 (by decide) ?_
            refine lv_istore_n (lv' := [(3, .int 1), (2, .int (nI (cntS fnw (nI kC) k6))), (1, .int (nI kC)), (0, .ref h0)]) hx hb gX12_findClocks_5.2.2.2.1 rfl hl (by decide) rfl (fun ls hl => ?_)
            have hcl9 := cntS_le fnw (nI kC) k6
            rcases Nat.eq_zero_or_pos (cntS fnw (nI kC) k6) with hz9 | hz9
            · refine lv_iload_n hx hb gX12_findClocks_5.2.2.2.2.1 rfl (lv_at0 hl) ?_
              refine lv_iload_n hx hb gX12_findClocks_5.2.2.2.2.2.1 rfl (lv_at1 hl) ?_
              refine lv_icmp_ge (tgt := 210) hx hb gX12_findClocks_5.2.2.2.2.2.2.1 (by decide) (fun _ => ?_) (fun c9 => absurd ((by rw [hz9]; decide)) c9)
              refine lv_iinc (v := nI (kC + 1)) (lv' := [(1, .int (nI (kC + 1))), (3, .int 1), (2, .int (nI (cntS fnw (nI kC) k6))), (0, .ref h0)]) hx hb gX12_findClocks_12.2.2.2.2.2.2.2.2.1 hl (k := 2) rfl (nI_1 _) (by decide) rfl (fun ls hl => ?_)
              refine lv_goto (tgt := 65) hx hb gX12_findClocks_12.2.2.2.2.2.2.2.2.2 (by decide) ?_
              exact ihC (kC + 1) vC _ _ _ (by omega) (by first | assumption | exact Or.inl rfl | exact Or.inr rfl) (And.intro hP hD) hS (lv_sub hl [0, 3] rfl)
            · have keyD : ∀ (nD kD : Nat) (vD : Nat → Int32) (H : Heap) (locs : List Loc) (ls : Array Slot), kD + nD = (cntS fnw (nI kC) k6) → (1 ≤ kD) → (MB vD) → va_PD G A [(h0, oX12 nw nk mhasKept nt mtaped nr mrowMany mroundOf mroundFrom mouts nm mfromHour mtoHour ns mfrom mto msort misFault mdeep mcoded mlines nl nc nF np ntr nb mbestCost nso nsi nit nsh nsf nss nrc mtraced mdealer mnumber mwhose msize misParted), (nw, iA G 1662 fnw), (nm, iA G 36 vD)] H → va_S A s.heap H locs → lv_has ls 7 [(3, .int (nI kD)), (2, .int (nI (cntS fnw (nI kC) k6))), (1, .int (nI kC)), (0, .ref h0)] → W p l e (RM 4 0 0) s m ([.ref h0] : List Value).toArray below meth c H locs 0 0 Q0 (F0 m 95 ls []) := by
                intro nD
                induction nD with
                | zero =>
                  intro kD vD H locs ls hkD hk1 hvD hPD hS hl
                  refine Kan2 hPD (fun hP hD => ?_)
                  obtain rfl : (cntS fnw (nI kC) k6) = kD := by omega
                  have hl : lv_has ls 7 [(3, .int (nI (cntS fnw (nI kC) k6))), (2, .int (nI (cntS fnw (nI kC) k6))), (1, .int (nI kC)), (0, .ref h0)] := hl
                  refine lv_iload_n hx hb gX12_findClocks_5.2.2.2.2.1 rfl (lv_at0 hl) ?_
                  refine lv_iload_n hx hb gX12_findClocks_5.2.2.2.2.2.1 rfl (lv_at1 hl) ?_
                  refine lv_icmp_ge (tgt := 210) hx hb gX12_findClocks_5.2.2.2.2.2.2.1 (by decide) (fun _ => ?_) (fun c9 => absurd (Int32.le_refl _) c9)
                  refine lv_iinc (v := nI (kC + 1)) (lv' := [(1, .int (nI (kC + 1))), (3, .int (nI (cntS fnw (nI kC) k6))), (2, .int (nI (cntS fnw (nI kC) k6))), (0, .ref h0)]) hx hb gX12_findClocks_12.2.2.2.2.2.2.2.2.1 hl (k := 2) rfl (nI_1 _) (by decide) rfl (fun ls hl => ?_)
                  refine lv_goto (tgt := 65) hx hb gX12_findClocks_12.2.2.2.2.2.2.2.2.2 (by decide) ?_
                  exact ihC (kC + 1) vD _ _ _ (by omega) (by first | assumption | exact Or.inl rfl | exact Or.inr rfl) (And.intro hP hD) hS (lv_sub hl [0, 3] rfl)
                | succ nD ihD =>
                  intro kD vD H locs ls hkD hk1 hvD hPD hS hl
                  refine Kan2 hPD (fun hP hD => ?_)
                  refine lv_iload_n hx hb gX12_findClocks_5.2.2.2.2.1 rfl (lv_at0 hl) ?_
                  refine lv_iload_n hx hb gX12_findClocks_5.2.2.2.2.2.1 rfl (lv_at1 hl) ?_
                  refine lv_icmp_ge (tgt := 210) hx hb gX12_findClocks_5.2.2.2.2.2.2.1 (by decide) (fun c9 => absurd c9 (nI_ge (a := kD) (b := (cntS fnw (nI kC) k6)) (by omega) (by omega))) (fun _ => ?_)
                  refine lv_bipush (v := 104) hx hb gX12_findClocks_5.2.2.2.2.2.2.2.1 (by decide) ?_
                  refine lv_iconst (v := 3) hx hb gX12_findClocks_5.2.2.2.2.2.2.2.2.1 (by decide) ?_
                  refine lv_aload_n hx hb gX12_findClocks_5.2.2.2.2.2.2.2.2.2 rfl (lv_at3 hl) ?_
                  refine lv_iload_n hx hb gX12_findClocks_6.1 rfl (lv_at2 hl) ?_
                  refine lv_iload_n hx hb gX12_findClocks_6.2.1 rfl (lv_at0 hl) ?_
                  refine lv_iconst (v := 1) hx hb gX12_findClocks_6.2.2.1 (by decide) ?_
                  refine lv_isub hx hb gX12_findClocks_6.2.2.2.1 ?_
                  refine eqi (x1 := nI (kD - 1)) (nI_sb (by omega)) ?_
                  refine pV hC hK hl hP hD (m_stampAt l G k6 h0 (nI kC) (kD - 1) nw nk mhasKept nt mtaped nr mrowMany mroundOf mroundFrom mouts nm mfromHour mtoHour ns mfrom mto msort misFault mdeep mcoded mlines nl nc nF np ntr nb mbestCost nso nsi nit nsh nsf nss nrc mtraced mdealer mnumber mwhose msize misParted fnw (ek6) (by omega) (by omega)) si_X12_142 [0, 1] sm_0_1 fm_0_1 nd_0_1 rfl rfl rfl rfl rfl (Nat.le_of_ble_eq_true rfl) rm_4_2_5 ⟨by first | exact Nat.le_of_ble_eq_true rfl | exact Nat.zero_le _, by first | exact Nat.le_of_ble_eq_true rfl | exact Nat.zero_le _⟩ gX12_findClocks_6.2.2.2.2.1 (fun r5241 hr5241 => ?_)
                  obtain ⟨s9_5242, hpx5242, rfl⟩ := hr5241
                  try dsimp only at hpx5242
                  refine lv_imul hx hb gX12_findClocks_6.2.2.2.2.2.1 ?_
                  refine eqi (x1 := nI (3 * s9_5242)) (nI_mul 3 s9_5242) ?_
                  refine lv_iadd hx hb gX12_findClocks_6.2.2.2.2.2.2.1 ?_
                  refine eqi (x1 := nI (104 + 3 * s9_5242)) (nI_add 104 (3 * s9_5242)) ?_
                  refine lv_istore (lv' := [(4, .int (nI (104 + 3 * s9_5242))), (3, .int (nI kD)), (2, .int (nI (cntS fnw (nI kC) k6))), (1, .int (nI kC)), (0, .ref h0)]) hx hb gX12_findClocks_6.2.2.2.2.2.2.2.1 hl (by decide) rfl (fun ls hl => ?_)
                  refine lv_bipush (v := 104) hx hb gX12_findClocks_6.2.2.2.2.2.2.2.2.1 (by decide) ?_
                  refine lv_iconst (v := 3) hx hb gX12_findClocks_6.2.2.2.2.2.2.2.2.2 (by decide) ?_
                  refine lv_aload_n hx hb gX12_findClocks_7.1 rfl (lv_at4 hl) ?_
                  refine lv_iload_n hx hb gX12_findClocks_7.2.1 rfl (lv_at3 hl) ?_
                  refine lv_iload_n hx hb gX12_findClocks_7.2.2.1 rfl (lv_at1 hl) ?_
                  refine pV hC hK hl hP hD (m_stampAt l G k6 h0 (nI kC) kD nw nk mhasKept nt mtaped nr mrowMany mroundOf mroundFrom mouts nm mfromHour mtoHour ns mfrom mto msort misFault mdeep mcoded mlines nl nc nF np ntr nb mbestCost nso nsi nit nsh nsf nss nrc mtraced mdealer mnumber mwhose msize misParted fnw (ek6) (by omega) (by omega)) si_X12_142 [0, 1] sm_0_1 fm_0_1 nd_0_1 rfl rfl rfl rfl rfl (Nat.le_of_ble_eq_true rfl) rm_4_2_5 ⟨by first | exact Nat.le_of_ble_eq_true rfl | exact Nat.zero_le _, by first | exact Nat.le_of_ble_eq_true rfl | exact Nat.zero_le _⟩ gX12_findClocks_7.2.2.2.1 (fun r5243 hr5243 => ?_)
                  obtain ⟨s9_5244, hpx5244, rfl⟩ := hr5243
                  try dsimp only at hpx5244
                  refine lv_imul hx hb gX12_findClocks_7.2.2.2.2.1 ?_
                  refine eqi (x1 := nI (3 * s9_5244)) (nI_mul 3 s9_5244) ?_
                  refine lv_iadd hx hb gX12_findClocks_7.2.2.2.2.2.1 ?_
                  refine eqi (x1 := nI (104 + 3 * s9_5244)) (nI_add 104 (3 * s9_5244)) ?_
                  refine lv_istore (lv' := [(5, .int (nI (104 + 3 * s9_5244))), (4, .int (nI (104 + 3 * s9_5242))), (3, .int (nI kD)), (2, .int (nI (cntS fnw (nI kC) k6))), (1, .int (nI kC)), (0, .ref h0)]) hx hb gX12_findClocks_7.2.2.2.2.2.2.1 hl (by decide) rfl (fun ls hl => ?_)
                  refine lv_aload_n hx hb gX12_findClocks_7.2.2.2.2.2.2.2.1 rfl (lv_at5 hl) ?_
                  refine gf_X12_9 hC rfl hK hP 0 rfl rfl gX12_findClocks_7.2.2.2.2.2.2.2.2.1 ?_
                  refine lv_iload hx hb gX12_findClocks_7.2.2.2.2.2.2.2.2.2 (lv_at0 hl) ?_
                  refine lv_iconst (v := 2) hx hb gX12_findClocks_8.1 (by decide) ?_
                  refine lv_iadd hx hb gX12_findClocks_8.2.1 ?_
                  refine eqi (x1 := nI (104 + 3 * s9_5244 + 2)) (nI_add (104 + 3 * s9_5244) 2) ?_
                  refine aldN hC hK hP 1 rfl (k := (104 + 3 * s9_5244 + 2)) (by omega) (Nat.le_of_ble_eq_true rfl) (v := fnw (104 + 3 * s9_5244 + 2)) rfl gX12_findClocks_8.2.2.1 ?_
                  refine lv_topi (fun x5245 ex5245 => ?_)
                  refine lv_aload_n hx hb gX12_findClocks_8.2.2.2.1 rfl (lv_at5 hl) ?_
                  refine gf_X12_9 hC rfl hK hP 0 rfl rfl gX12_findClocks_8.2.2.2.2.1 ?_
                  refine lv_iload hx hb gX12_findClocks_8.2.2.2.2.2.1 (lv_at1 hl) ?_
                  refine lv_iconst (v := 2) hx hb gX12_findClocks_8.2.2.2.2.2.2.1 (by decide) ?_
                  refine lv_iadd hx hb gX12_findClocks_8.2.2.2.2.2.2.2.1 ?_
                  refine eqi (x1 := nI (104 + 3 * s9_5242 + 2)) (nI_add (104 + 3 * s9_5242) 2) ?_
                  refine aldN hC hK hP 1 rfl (k := (104 + 3 * s9_5242 + 2)) (by omega) (Nat.le_of_ble_eq_true rfl) (v := fnw (104 + 3 * s9_5242 + 2)) rfl gX12_findClocks_8.2.2.2.2.2.2.2.2.1 ?_
                  refine lv_topi (fun x5246 ex5246 => ?_)
                  refine lv_isub hx hb gX12_findClocks_8.2.2.2.2.2.2.2.2.2 ?_
                  refine lv_istore (lv' := [(6, .int (x5245 - x5246)), (5, .int (nI (104 + 3 * s9_5244))), (4, .int (nI (104 + 3 * s9_5242))), (3, .int (nI kD)), (2, .int (nI (cntS fnw (nI kC) k6))), (1, .int (nI kC)), (0, .ref h0)]) hx hb gX12_findClocks_9.1 hl (by decide) rfl (fun ls hl => ?_)
                  refine lv_aload_n hx hb gX12_findClocks_9.2.1 rfl (lv_at6 hl) ?_
                  refine lv_aload_n hx hb gX12_findClocks_9.2.2.1 rfl (lv_at6 hl) ?_
                  refine gf_X12_9 hC rfl hK hP 0 rfl rfl gX12_findClocks_9.2.2.2.1 ?_
                  refine lv_iload hx hb gX12_findClocks_9.2.2.2.2.1 (lv_at2 hl) ?_
                  refine lv_iconst (v := 1) hx hb gX12_findClocks_9.2.2.2.2.2.1 (by decide) ?_
                  refine lv_iadd hx hb gX12_findClocks_9.2.2.2.2.2.2.1 ?_
                  refine eqi (x1 := nI (104 + 3 * s9_5242 + 1)) (nI_add (104 + 3 * s9_5242) 1) ?_
                  obtain ⟨cc5247, hcc5247, ecc5247⟩ := NI.nat hN (i := 104 + 3 * s9_5242 + 1) (B := 5) (bnd_st1 (s := s9_5242) rfl (by omega)) (by decide)
                  refine aldN hC hK hP 1 rfl (k := 104 + 3 * s9_5242 + 1) (by omega) (Nat.le_of_ble_eq_true rfl) (v := nI cc5247) (ecc5247) gX12_findClocks_9.2.2.2.2.2.2.2.1 ?_
                  refine lv_aload_n hx hb gX12_findClocks_9.2.2.2.2.2.2.2.2.1 rfl (lv_at6 hl) ?_
                  refine gf_X12_9 hC rfl hK hP 0 rfl rfl gX12_findClocks_9.2.2.2.2.2.2.2.2.2 ?_
                  refine lv_iload hx hb gX12_findClocks_10.1 (lv_at1 hl) ?_
                  refine lv_iconst (v := 1) hx hb gX12_findClocks_10.2.1 (by decide) ?_
                  refine lv_iadd hx hb gX12_findClocks_10.2.2.1 ?_
                  refine eqi (x1 := nI (104 + 3 * s9_5244 + 1)) (nI_add (104 + 3 * s9_5244) 1) ?_
                  obtain ⟨cc5248, hcc5248, ecc5248⟩ := NI.nat hN (i := 104 + 3 * s9_5244 + 1) (B := 5) (bnd_st1 (s := s9_5244) rfl (by omega)) (by decide)
                  refine aldN hC hK hP 1 rfl (k := 104 + 3 * s9_5244 + 1) (by omega) (Nat.le_of_ble_eq_true rfl) (v := nI cc5248) (ecc5248) gX12_findClocks_10.2.2.2.1 ?_
                  refine lv_iload hx hb gX12_findClocks_10.2.2.2.2.1 (lv_at0 hl) ?_
                  refine vV (wr := [(nw, iA G 1662 fnw)]) hC hK hl hP hD hS hA (m_atMost l G h0 cc5247 cc5248 (x5245 - x5246) nw nk mhasKept nt mtaped nr mrowMany mroundOf mroundFrom mouts nm mfromHour mtoHour ns mfrom mto msort misFault mdeep mcoded mlines nl nc nF np ntr nb mbestCost nso nsi nit nsh nsf nss nrc mtraced mdealer mnumber mwhose msize misParted vD (by omega) (by omega) (hvD)) si_X12_145 [0, 2] [1] sm_0_2 fm_0_2 nd_0_2 sm_1 nd_1 dj_0_2__1 rfl rfl rfl rfl rfl (Nat.le_of_ble_eq_true rfl) rm_4_2_4 ⟨Nat.le_of_ble_eq_true rfl, Nat.le_of_ble_eq_true rfl⟩ gX12_findClocks_10.2.2.2.2.2.1 (fun gnm5251 H locs hr5249 hP hD hS => ?_)
                  try dsimp only at hr5249
                  refine Kpdr (ws := [(nw, iA G 1662 fnw), (h0, oX12 nw nk mhasKept nt mtaped nr mrowMany mroundOf mroundFrom mouts nm mfromHour mtoHour ns mfrom mto msort misFault mdeep mcoded mlines nl nc nF np ntr nb mbestCost nso nsi nit nsh nsf nss nrc mtraced mdealer mnumber mwhose msize misParted), (nm, iA G 36 gnm5251)]) hP hD (fun hP hD => ?_)
                  have w5252 := hr5249
                  refine lv_aload_n hx hb gX12_findClocks_10.2.2.2.2.2.2.1 rfl (lv_at6 hl) ?_
                  refine lv_aload_n hx hb gX12_findClocks_10.2.2.2.2.2.2.2.1 rfl (lv_at6 hl) ?_
                  refine gf_X12_9 hC rfl hK hP 1 rfl rfl gX12_findClocks_10.2.2.2.2.2.2.2.2.1 ?_
                  refine lv_iload hx hb gX12_findClocks_10.2.2.2.2.2.2.2.2.2 (lv_at1 hl) ?_
                  refine lv_iconst (v := 1) hx hb gX12_findClocks_11.1 (by decide) ?_
                  refine lv_iadd hx hb gX12_findClocks_11.2.1 ?_
                  refine eqi (x1 := nI (104 + 3 * s9_5244 + 1)) (nI_add (104 + 3 * s9_5244) 1) ?_
                  obtain ⟨cc5253, hcc5253, ecc5253⟩ := NI.nat hN (i := 104 + 3 * s9_5244 + 1) (B := 5) (bnd_st1 (s := s9_5244) rfl (by omega)) (by decide)
                  refine aldN hC hK hP 0 rfl (k := 104 + 3 * s9_5244 + 1) (by omega) (Nat.le_of_ble_eq_true rfl) (v := nI cc5253) (ecc5253) gX12_findClocks_11.2.2.1 ?_
                  refine lv_aload_n hx hb gX12_findClocks_11.2.2.2.1 rfl (lv_at6 hl) ?_
                  refine gf_X12_9 hC rfl hK hP 1 rfl rfl gX12_findClocks_11.2.2.2.2.1 ?_
                  refine lv_iload hx hb gX12_findClocks_11.2.2.2.2.2.1 (lv_at2 hl) ?_
                  refine lv_iconst (v := 1) hx hb gX12_findClocks_11.2.2.2.2.2.2.1 (by decide) ?_
                  refine lv_iadd hx hb gX12_findClocks_11.2.2.2.2.2.2.2.1 ?_
                  refine eqi (x1 := nI (104 + 3 * s9_5242 + 1)) (nI_add (104 + 3 * s9_5242) 1) ?_
                  obtain ⟨cc5254, hcc5254, ecc5254⟩ := NI.nat hN (i := 104 + 3 * s9_5242 + 1) (B := 5) (bnd_st1 (s := s9_5242) rfl (by omega)) (by decide)
                  refine aldN hC hK hP 0 rfl (k := 104 + 3 * s9_5242 + 1) (by omega) (Nat.le_of_ble_eq_true rfl) (v := nI cc5254) (ecc5254) gX12_findClocks_11.2.2.2.2.2.2.2.2.1 ?_
                  refine lv_aload_n hx hb gX12_findClocks_11.2.2.2.2.2.2.2.2.2 rfl (lv_at6 hl) ?_
                  refine gf_X12_9 hC rfl hK hP 1 rfl rfl gX12_findClocks_12.1 ?_
                  refine lv_iconst (v := 3) hx hb gX12_findClocks_12.2.1 (by decide) ?_
                  refine ald hC hK hP 0 rfl (vin (by decide +kernel)) (k := 3) (by decide +kernel) (v := fnw 3) (rfl) gX12_findClocks_12.2.2.1 ?_
                  refine lv_iload hx hb gX12_findClocks_12.2.2.2.1 (lv_at0 hl) ?_
                  refine lv_isub hx hb gX12_findClocks_12.2.2.2.2.1 ?_
                  refine vV (wr := [(nw, iA G 1662 fnw)]) hC hK hl hP hD hS hA (m_atMost l G h0 cc5253 cc5254 ((fnw 3) - (x5245 - x5246)) nw nk mhasKept nt mtaped nr mrowMany mroundOf mroundFrom mouts nm mfromHour mtoHour ns mfrom mto msort misFault mdeep mcoded mlines nl nc nF np ntr nb mbestCost nso nsi nit nsh nsf nss nrc mtraced mdealer mnumber mwhose msize misParted gnm5251 (by omega) (by omega) (w5252)) si_X12_145 [1, 2] [0] sm_1_2 fm_1_2 nd_1_2 sm_0 nd_0 dj_1_2__0 rfl rfl rfl rfl rfl (Nat.le_of_ble_eq_true rfl) rm_4_2_4 ⟨Nat.le_of_ble_eq_true rfl, Nat.le_of_ble_eq_true rfl⟩ gX12_findClocks_12.2.2.2.2.2.1 (fun gnm5257 H locs hr5255 hP hD hS => ?_)
                  try dsimp only at hr5255
                  refine Kpdr (ws := [(nw, iA G 1662 fnw), (h0, oX12 nw nk mhasKept nt mtaped nr mrowMany mroundOf mroundFrom mouts nm mfromHour mtoHour ns mfrom mto msort misFault mdeep mcoded mlines nl nc nF np ntr nb mbestCost nso nsi nit nsh nsf nss nrc mtraced mdealer mnumber mwhose msize misParted), (nm, iA G 36 gnm5257)]) hP hD (fun hP hD => ?_)
                  have w5258 := hr5255
                  refine lv_iinc (v := nI (kD + 1)) (lv' := [(3, .int (nI (kD + 1))), (6, .int (x5245 - x5246)), (5, .int (nI (104 + 3 * s9_5244))), (4, .int (nI (104 + 3 * s9_5242))), (2, .int (nI (cntS fnw (nI kC) k6))), (1, .int (nI kC)), (0, .ref h0)]) hx hb gX12_findClocks_12.2.2.2.2.2.2.1 hl (k := 3) rfl (nI_1 _) (by decide) rfl (fun ls hl => ?_)
                  refine lv_goto (tgt := 95) hx hb gX12_findClocks_12.2.2.2.2.2.2.2.1 (by decide) ?_
                  refine Kpds (ws' := [(h0, oX12 nw nk mhasKept nt mtaped nr mrowMany mroundOf mroundFrom mouts nm mfromHour mtoHour ns mfrom mto msort misFault mdeep mcoded mlines nl nc nF np ntr nb mbestCost nso nsi nit nsh nsf nss nrc mtraced mdealer mnumber mwhose msize misParted), (nw, iA G 1662 fnw), (nm, iA G 36 gnm5257)]) hP hD [1, 0, 2] fm_1_0_2 nd_1_0_2 sm_1_0_2 (fun hP hD => ?_)
                  exact ihD (kD + 1) gnm5257 _ _ _ (by omega) (by first | assumption | exact Or.inl rfl | exact Or.inr rfl | omega) (by first | assumption | exact Or.inl rfl | exact Or.inr rfl | omega) (And.intro hP hD) hS (lv_sub hl [0, 4, 5, 6] rfl)
              exact keyD ((cntS fnw (nI kC) k6) - 1) 1 vC _ _ _ (by omega) (by first | assumption | exact Or.inl rfl | exact Or.inr rfl | omega) (by first | assumption | exact Or.inl rfl | exact Or.inr rfl | omega) (And.intro hP hD) hS (lv_sub hl [0, 1, 2, 3] rfl)
          · refine lv_if_eq (tgt := 91) hx hb gX12_findClocks_4.2.2.2.2.2.1 (by decide) (fun _ => ?_) (fun c9 => absurd (by decide) c9)
            refine lv_iconst (v := 0) hx hb gX12_findClocks_5.1 (by decide) ?_
            refine lv_istore_n (lv' := [(2, .int 0), (1, .int (nI kC)), (0, .ref h0)]) hx hb gX12_findClocks_5.2.1 rfl hl (by decide) rfl (fun ls hl => ?_)
            refine lv_iconst (v := 1) hx hb gX12_findClocks_5.2.2.1 (by decide) ?_
            refine lv_istore_n (lv' := [(3, .int 1), (2, .int 0), (1, .int (nI kC)), (0, .ref h0)]) hx hb gX12_findClocks_5.2.2.2.1 rfl hl (by decide) rfl (fun ls hl => ?_)
            refine lv_iload_n hx hb gX12_findClocks_5.2.2.2.2.1 rfl (lv_at0 hl) ?_
            refine lv_iload_n hx hb gX12_findClocks_5.2.2.2.2.2.1 rfl (lv_at1 hl) ?_
            refine lv_icmp_ge (tgt := 210) hx hb gX12_findClocks_5.2.2.2.2.2.2.1 (by decide) (fun _ => ?_) (fun c9 => absurd (by decide) c9)
            refine lv_iinc (v := nI (kC + 1)) (lv' := [(1, .int (nI (kC + 1))), (3, .int 1), (2, .int 0), (0, .ref h0)]) hx hb gX12_findClocks_12.2.2.2.2.2.2.2.2.1 hl (k := 2) rfl (nI_1 _) (by decide) rfl (fun ls hl => ?_)
            refine lv_goto (tgt := 65) hx hb gX12_findClocks_12.2.2.2.2.2.2.2.2.2 (by decide) ?_
            exact ihC (kC + 1) vC _ _ _ (by omega) (by first | assumption | exact Or.inl rfl | exact Or.inr rfl) (And.intro hP hD) hS (lv_sub hl [0, 3] rfl)
      exact keyC kq 0 vA _ _ _ (by omega) (by first | assumption | exact Or.inl rfl | exact Or.inr rfl) (And.intro hP hD) hS (lv_sub hl [0, 1] rfl)
    | succ nA ihA =>
      intro kA vA H locs ls hkA hvA hPD hS hl
      refine Kan2 hPD (fun hP hD => ?_)
      refine lv_iload_n hx hb gX12_findClocks_0.2.2.1 rfl (lv_at0 hl) ?_
      refine lv_bipush (v := 6) hx hb gX12_findClocks_0.2.2.2.1 (by decide) ?_
      refine lv_icmp_ge (tgt := 63) hx hb gX12_findClocks_0.2.2.2.2.1 (by decide) (fun c9 => absurd c9 (nI_ge (a := kA) (b := 6) (by omega) (by omega))) (fun _ => ?_)
      refine lv_iconst (v := 0) hx hb gX12_findClocks_0.2.2.2.2.2.1 (by decide) ?_
      refine lv_istore_n (lv' := [(2, .int 0), (1, .int (nI kA)), (0, .ref h0)]) hx hb gX12_findClocks_0.2.2.2.2.2.2.1 rfl hl (by decide) rfl (fun ls hl => ?_)
      have keyB : ∀ (nB kB : Nat) (vB : Nat → Int32) (H : Heap) (locs : List Loc) (ls : Array Slot), kB + nB = 6 → (MB vB) → va_PD G A [(h0, oX12 nw nk mhasKept nt mtaped nr mrowMany mroundOf mroundFrom mouts nm mfromHour mtoHour ns mfrom mto msort misFault mdeep mcoded mlines nl nc nF np ntr nb mbestCost nso nsi nit nsh nsf nss nrc mtraced mdealer mnumber mwhose msize misParted), (nw, iA G 1662 fnw), (nm, iA G 36 vB)] H → va_S A s.heap H locs → lv_has ls 7 [(2, .int (nI kB)), (1, .int (nI kA)), (0, .ref h0)] → W p l e (RM 4 0 0) s m ([.ref h0] : List Value).toArray below meth c H locs 0 0 Q0 (F0 m 10 ls []) := by
        intro nB
        induction nB with
        | zero =>
          intro kB vB H locs ls hkB hvB hPD hS hl
          refine Kan2 hPD (fun hP hD => ?_)
          obtain rfl : 6 = kB := by omega
          have hl : lv_has ls 7 [(2, .int 6), (1, .int (nI kA)), (0, .ref h0)] := hl
          refine lv_iload_n hx hb gX12_findClocks_0.2.2.2.2.2.2.2.1 rfl (lv_at0 hl) ?_
          refine lv_bipush (v := 6) hx hb gX12_findClocks_0.2.2.2.2.2.2.2.2.1 (by decide) ?_
          refine lv_icmp_ge (tgt := 57) hx hb gX12_findClocks_0.2.2.2.2.2.2.2.2.2 (by decide) (fun _ => ?_) (fun c9 => absurd (by decide) c9)
          refine lv_iinc (v := nI (kA + 1)) (lv' := [(1, .int (nI (kA + 1))), (2, .int 6), (0, .ref h0)]) hx hb gX12_findClocks_3.2.2.1 hl (k := 1) rfl (nI_1 _) (by decide) rfl (fun ls hl => ?_)
          refine lv_goto (tgt := 2) hx hb gX12_findClocks_3.2.2.2.1 (by decide) ?_
          exact ihA (kA + 1) vB _ _ _ (by omega) (by first | assumption | exact Or.inl rfl | exact Or.inr rfl) (And.intro hP hD) hS (lv_sub hl [0, 2] rfl)
        | succ nB ihB =>
          intro kB vB H locs ls hkB hvB hPD hS hl
          refine Kan2 hPD (fun hP hD => ?_)
          refine lv_iload_n hx hb gX12_findClocks_0.2.2.2.2.2.2.2.1 rfl (lv_at0 hl) ?_
          refine lv_bipush (v := 6) hx hb gX12_findClocks_0.2.2.2.2.2.2.2.2.1 (by decide) ?_
          refine lv_icmp_ge (tgt := 57) hx hb gX12_findClocks_0.2.2.2.2.2.2.2.2.2 (by decide) (fun c9 => absurd c9 (nI_ge (a := kB) (b := 6) (by omega) (by omega))) (fun _ => ?_)
          refine lv_aload_n hx hb gX12_findClocks_1.1 rfl (lv_at2 hl) ?_
          refine gf_X12_26 hC rfl hK hP 0 rfl rfl gX12_findClocks_1.2.1 ?_
          refine lv_bipush (v := 6) hx hb gX12_findClocks_1.2.2.1 (by decide) ?_
          refine lv_iload_n hx hb gX12_findClocks_1.2.2.2.1 rfl (lv_at1 hl) ?_
          refine lv_imul hx hb gX12_findClocks_1.2.2.2.2.1 ?_
          refine eqi (x1 := nI (6 * kA)) (nI_mul 6 kA) ?_
          refine lv_iload_n hx hb gX12_findClocks_1.2.2.2.2.2.1 rfl (lv_at0 hl) ?_
          refine lv_iadd hx hb gX12_findClocks_1.2.2.2.2.2.2.1 ?_
          refine eqi (x1 := nI (6 * kA + kB)) (nI_add (6 * kA) kB) ?_
          refine lv_iload_n hx hb gX12_findClocks_1.2.2.2.2.2.2.2.1 rfl (lv_at1 hl) ?_
          refine lv_iload_n hx hb gX12_findClocks_1.2.2.2.2.2.2.2.2.1 rfl (lv_at0 hl) ?_
          refine lv_icmp_ne (tgt := 35) hx hb gX12_findClocks_1.2.2.2.2.2.2.2.2.2 (by decide) (fun c_28_5259 => ?_) (fun c_28_5259 => ?_)
          · refine lv_iload_n hx hb gX12_findClocks_2.2.2.1 rfl (lv_at1 hl) ?_
            refine lv_if_eq (tgt := 43) hx hb gX12_findClocks_2.2.2.2.1 (by decide) (fun c_36_5260 => ?_) (fun c_36_5260 => ?_)
            · refine lv_bipush (v := 60) hx hb gX12_findClocks_2.2.2.2.2.2.2.1 (by decide) ?_
              refine lv_goto (tgt := 50) hx hb gX12_findClocks_2.2.2.2.2.2.2.2.1 (by decide) ?_
              refine astN hC hK hP hD hS 2 (ws' := [(h0, oX12 nw nk mhasKept nt mtaped nr mrowMany mroundOf mroundFrom mouts nm mfromHour mtoHour ns mfrom mto msort misFault mdeep mcoded mlines nl nc nF np ntr nb mbestCost nso nsi nit nsh nsf nss nrc mtraced mdealer mnumber mwhose msize misParted), (nw, iA G 1662 fnw), (nm, iA G 36 (upd vB (6 * kA + kB) 60))]) rfl (k := (6 * kA + kB)) (by omega) (Nat.le_of_ble_eq_true rfl) (rfl) gX12_findClocks_2.2.2.2.2.2.2.2.2.2 (fun H locs hP hD hS => ?_)
              refine lv_iinc (v := nI (kB + 1)) (lv' := [(2, .int (nI (kB + 1))), (1, .int (nI kA)), (0, .ref h0)]) hx hb gX12_findClocks_3.1 hl (k := 0) rfl (nI_1 _) (by decide) rfl (fun ls hl => ?_)
              refine lv_goto (tgt := 10) hx hb gX12_findClocks_3.2.1 (by decide) ?_
              exact ihB (kB + 1) (upd vB (6 * kA + kB) 60) _ _ _ (by omega) (by first | assumption | exact Or.inl rfl | exact Or.inr rfl | exact MB.setc (by assumption) (by decide)) (And.intro hP hD) hS (lv_sub hl [0, 1, 2] rfl)
            · refine lv_iload_n hx hb gX12_findClocks_2.2.2.2.2.1 rfl (lv_at0 hl) ?_
              refine lv_if_ne (tgt := 48) hx hb gX12_findClocks_2.2.2.2.2.2.1 (by decide) (fun c_40_5261 => ?_) (fun c_40_5261 => ?_)
              · refine lv_bipush (v := 120) hx hb gX12_findClocks_2.2.2.2.2.2.2.2.2.1 (by decide) ?_
                refine astN hC hK hP hD hS 2 (ws' := [(h0, oX12 nw nk mhasKept nt mtaped nr mrowMany mroundOf mroundFrom mouts nm mfromHour mtoHour ns mfrom mto msort misFault mdeep mcoded mlines nl nc nF np ntr nb mbestCost nso nsi nit nsh nsf nss nrc mtraced mdealer mnumber mwhose msize misParted), (nw, iA G 1662 fnw), (nm, iA G 36 (upd vB (6 * kA + kB) 120))]) rfl (k := (6 * kA + kB)) (by omega) (Nat.le_of_ble_eq_true rfl) (rfl) gX12_findClocks_2.2.2.2.2.2.2.2.2.2 (fun H locs hP hD hS => ?_)
                refine lv_iinc (v := nI (kB + 1)) (lv' := [(2, .int (nI (kB + 1))), (1, .int (nI kA)), (0, .ref h0)]) hx hb gX12_findClocks_3.1 hl (k := 0) rfl (nI_1 _) (by decide) rfl (fun ls hl => ?_)
                refine lv_goto (tgt := 10) hx hb gX12_findClocks_3.2.1 (by decide) ?_
                exact ihB (kB + 1) (upd vB (6 * kA + kB) 120) _ _ _ (by omega) (by first | assumption | exact Or.inl rfl | exact Or.inr rfl | exact MB.setc (by assumption) (by decide)) (And.intro hP hD) hS (lv_sub hl [0, 1, 2] rfl)
              · refine lv_bipush (v := 60) hx hb gX12_findClocks_2.2.2.2.2.2.2.1 (by decide) ?_
                refine lv_goto (tgt := 50) hx hb gX12_findClocks_2.2.2.2.2.2.2.2.1 (by decide) ?_
                refine astN hC hK hP hD hS 2 (ws' := [(h0, oX12 nw nk mhasKept nt mtaped nr mrowMany mroundOf mroundFrom mouts nm mfromHour mtoHour ns mfrom mto msort misFault mdeep mcoded mlines nl nc nF np ntr nb mbestCost nso nsi nit nsh nsf nss nrc mtraced mdealer mnumber mwhose msize misParted), (nw, iA G 1662 fnw), (nm, iA G 36 (upd vB (6 * kA + kB) 60))]) rfl (k := (6 * kA + kB)) (by omega) (Nat.le_of_ble_eq_true rfl) (rfl) gX12_findClocks_2.2.2.2.2.2.2.2.2.2 (fun H locs hP hD hS => ?_)
                refine lv_iinc (v := nI (kB + 1)) (lv' := [(2, .int (nI (kB + 1))), (1, .int (nI kA)), (0, .ref h0)]) hx hb gX12_findClocks_3.1 hl (k := 0) rfl (nI_1 _) (by decide) rfl (fun ls hl => ?_)
                refine lv_goto (tgt := 10) hx hb gX12_findClocks_3.2.1 (by decide) ?_
                exact ihB (kB + 1) (upd vB (6 * kA + kB) 60) _ _ _ (by omega) (by first | assumption | exact Or.inl rfl | exact Or.inr rfl | exact MB.setc (by assumption) (by decide)) (And.intro hP hD) hS (lv_sub hl [0, 1, 2] rfl)
          · refine lv_iconst (v := 0) hx hb gX12_findClocks_2.1 (by decide) ?_
            refine lv_goto (tgt := 50) hx hb gX12_findClocks_2.2.1 (by decide) ?_
            refine astN hC hK hP hD hS 2 (ws' := [(h0, oX12 nw nk mhasKept nt mtaped nr mrowMany mroundOf mroundFrom mouts nm mfromHour mtoHour ns mfrom mto msort misFault mdeep mcoded mlines nl nc nF np ntr nb mbestCost nso nsi nit nsh nsf nss nrc mtraced mdealer mnumber mwhose msize misParted), (nw, iA G 1662 fnw), (nm, iA G 36 (upd vB (6 * kA + kB) 0))]) rfl (k := (6 * kA + kB)) (by omega) (Nat.le_of_ble_eq_true rfl) (rfl) gX12_findClocks_2.2.2.2.2.2.2.2.2.2 (fun H locs hP hD hS => ?_)
            refine lv_iinc (v := nI (kB + 1)) (lv' := [(2, .int (nI (kB + 1))), (1, .int (nI kA)), (0, .ref h0)]) hx hb gX12_findClocks_3.1 hl (k := 0) rfl (nI_1 _) (by decide) rfl (fun ls hl => ?_)
            refine lv_goto (tgt := 10) hx hb gX12_findClocks_3.2.1 (by decide) ?_
            exact ihB (kB + 1) (upd vB (6 * kA + kB) 0) _ _ _ (by omega) (by first | assumption | exact Or.inl rfl | exact Or.inr rfl | exact MB.setc (by assumption) (by decide)) (And.intro hP hD) hS (lv_sub hl [0, 1, 2] rfl)
      exact keyB 6 0 vA _ _ _ (by omega) (by first | assumption | exact Or.inl rfl | exact Or.inr rfl | exact MB.setc (by assumption) (by decide)) (And.intro hP hD) hS (lv_sub hl [0, 1, 2] rfl)
  exact keyA 6 0 fnm _ _ _ (by omega) (by first | assumption | exact Or.inl rfl | exact Or.inr rfl) (And.intro hP hD) hS (lv_sub hl [0, 1] rfl)
def K_m_greatest (l : Launch) (G : GG) (h0 : Nat) (jc : Nat) (nw : Nat) (nk : Nat) (mhasKept : Int32) (nt : Nat) (mtaped : Int32) (nr : Nat) (mrowMany : Int32) (mroundOf : Int32) (mroundFrom : Int32) (mouts : Int32) (nm : Nat) (mfromHour : Int32) (mtoHour : Int32) (ns : Nat) (mfrom : Int32) (mto : Int32) (msort : Int32) (misFault : Int32) (mdeep : Int32) (mcoded : Int32) (mlines : Int32) (nl : Nat) (nc : Nat) (nF : Nat) (np : Nat) (ntr : Nat) (nb : Nat) (mbestCost : Int32) (nso : Nat) (nsi : Nat) (nit : Nat) (nsh : Nat) (nsf : Nat) (nss : Nat) (nrc : Nat) (mtraced : Int32) (mdealer : Int32) (mnumber : Int32) (mwhose : Int32) (msize : Int32) (misParted : Int32) (fnm : Nat → Int32) : Prop := MP l G yX12_greatest cX12_greatest 2 (some .int) 1 [.ref h0, .int (nI jc)] [(h0, oX12 nw nk mhasKept nt mtaped nr mrowMany mroundOf mroundFrom mouts nm mfromHour mtoHour ns mfrom mto msort misFault mdeep mcoded mlines nl nc nF np ntr nb mbestCost nso nsi nit nsh nsf nss nrc mtraced mdealer mnumber mwhose msize misParted), (nm, iA G 36 fnm)] (fun r : Int32 => r = fnm jc)
set_option maxHeartbeats 4000000 in
set_option maxRecDepth 100000 in
theorem m_greatest (l : Launch) (G : GG) (h0 : Nat) (jc : Nat) (nw : Nat) (nk : Nat) (mhasKept : Int32) (nt : Nat) (mtaped : Int32) (nr : Nat) (mrowMany : Int32) (mroundOf : Int32) (mroundFrom : Int32) (mouts : Int32) (nm : Nat) (mfromHour : Int32) (mtoHour : Int32) (ns : Nat) (mfrom : Int32) (mto : Int32) (msort : Int32) (misFault : Int32) (mdeep : Int32) (mcoded : Int32) (mlines : Int32) (nl : Nat) (nc : Nat) (nF : Nat) (np : Nat) (ntr : Nat) (nb : Nat) (mbestCost : Int32) (nso : Nat) (nsi : Nat) (nit : Nat) (nsh : Nat) (nsf : Nat) (nss : Nat) (nrc : Nat) (mtraced : Int32) (mdealer : Int32) (mnumber : Int32) (mwhose : Int32) (msize : Int32) (misParted : Int32) (fnm : Nat → Int32) (hjc : jc < 36) : K_m_greatest l G h0 jc nw nk mhasKept nt mtaped nr mrowMany mroundOf mroundFrom mouts nm mfromHour mtoHour ns mfrom mto msort misFault mdeep mcoded mlines nl nc nF np ntr nb mbestCost nso nsi nit nsh nsf nss nrc mtraced mdealer mnumber mwhose msize misParted fnm := by
  refine MP.start (by decide +kernel) (Nat.le_of_ble_eq_true rfl) ?_
  intro p e s m below meth c ls hC hK hP hD hl
  refine absQ (fun Q0 hQ0 => ?_)
  have hl : lv_has ls 2 [(0, .ref h0), (1, .int (nI jc))] := hl
  refine Kan8 hC (fun hx hb hr hml hB hown hlocks hnm => ?_)
  refine lv_aload_n hx hb gX12_greatest_0.1 rfl (lv_at0 hl) ?_
  refine gf_X12_26 hC rfl hK hP 0 rfl rfl gX12_greatest_0.2.1 ?_
  refine lv_iload_n hx hb gX12_greatest_0.2.2.1 rfl (lv_at1 hl) ?_
  refine aldN hC hK hP 1 rfl (k := jc) (by omega) (Nat.le_of_ble_eq_true rfl) (v := fnm jc) (rfl) gX12_greatest_0.2.2.2.1 ?_
  refine toQ hQ0 ?_
  exact RP (v := fnm jc) hC (rfl) rfl gX12_greatest_0.2.2.2.2
def K_m_least (l : Launch) (G : GG) (h0 : Nat) (jc : Nat) (nw : Nat) (nk : Nat) (mhasKept : Int32) (nt : Nat) (mtaped : Int32) (nr : Nat) (mrowMany : Int32) (mroundOf : Int32) (mroundFrom : Int32) (mouts : Int32) (nm : Nat) (mfromHour : Int32) (mtoHour : Int32) (ns : Nat) (mfrom : Int32) (mto : Int32) (msort : Int32) (misFault : Int32) (mdeep : Int32) (mcoded : Int32) (mlines : Int32) (nl : Nat) (nc : Nat) (nF : Nat) (np : Nat) (ntr : Nat) (nb : Nat) (mbestCost : Int32) (nso : Nat) (nsi : Nat) (nit : Nat) (nsh : Nat) (nsf : Nat) (nss : Nat) (nrc : Nat) (mtraced : Int32) (mdealer : Int32) (mnumber : Int32) (mwhose : Int32) (msize : Int32) (misParted : Int32) (fnm : Nat → Int32) : Prop := MP l G yX12_least cX12_least 2 (some .int) 1 [.ref h0, .int (nI jc)] [(h0, oX12 nw nk mhasKept nt mtaped nr mrowMany mroundOf mroundFrom mouts nm mfromHour mtoHour ns mfrom mto msort misFault mdeep mcoded mlines nl nc nF np ntr nb mbestCost nso nsi nit nsh nsf nss nrc mtraced mdealer mnumber mwhose msize misParted), (nm, iA G 36 fnm)] (fun r : Int32 => r = -(fnm (6 * jc)))
set_option maxHeartbeats 4000000 in
set_option maxRecDepth 100000 in
theorem m_least (l : Launch) (G : GG) (h0 : Nat) (jc : Nat) (nw : Nat) (nk : Nat) (mhasKept : Int32) (nt : Nat) (mtaped : Int32) (nr : Nat) (mrowMany : Int32) (mroundOf : Int32) (mroundFrom : Int32) (mouts : Int32) (nm : Nat) (mfromHour : Int32) (mtoHour : Int32) (ns : Nat) (mfrom : Int32) (mto : Int32) (msort : Int32) (misFault : Int32) (mdeep : Int32) (mcoded : Int32) (mlines : Int32) (nl : Nat) (nc : Nat) (nF : Nat) (np : Nat) (ntr : Nat) (nb : Nat) (mbestCost : Int32) (nso : Nat) (nsi : Nat) (nit : Nat) (nsh : Nat) (nsf : Nat) (nss : Nat) (nrc : Nat) (mtraced : Int32) (mdealer : Int32) (mnumber : Int32) (mwhose : Int32) (msize : Int32) (misParted : Int32) (fnm : Nat → Int32) (hjc : jc < 6) : K_m_least l G h0 jc nw nk mhasKept nt mtaped nr mrowMany mroundOf mroundFrom mouts nm mfromHour mtoHour ns mfrom mto msort misFault mdeep mcoded mlines nl nc nF np ntr nb mbestCost nso nsi nit nsh nsf nss nrc mtraced mdealer mnumber mwhose msize misParted fnm := by
  refine MP.start (by decide +kernel) (Nat.le_of_ble_eq_true rfl) ?_
  intro p e s m below meth c ls hC hK hP hD hl
  refine absQ (fun Q0 hQ0 => ?_)
  have hl : lv_has ls 2 [(0, .ref h0), (1, .int (nI jc))] := hl
  refine Kan8 hC (fun hx hb hr hml hB hown hlocks hnm => ?_)
  refine lv_aload_n hx hb gX12_least_0.1 rfl (lv_at0 hl) ?_
  refine gf_X12_26 hC rfl hK hP 0 rfl rfl gX12_least_0.2.1 ?_
  refine lv_bipush (v := 6) hx hb gX12_least_0.2.2.1 (by decide) ?_
  refine lv_iload_n hx hb gX12_least_0.2.2.2.1 rfl (lv_at1 hl) ?_
  refine lv_imul hx hb gX12_least_0.2.2.2.2.1 ?_
  refine eqi (x1 := nI (6 * jc)) (nI_mul 6 jc) ?_
  refine aldN hC hK hP 1 rfl (k := 6 * jc) (by omega) (Nat.le_of_ble_eq_true rfl) (v := fnm (6 * jc)) (rfl) gX12_least_0.2.2.2.2.2.1 ?_
  refine lv_ineg hx hb gX12_least_0.2.2.2.2.2.2.1 ?_
  refine toQ hQ0 ?_
  exact RP (v := -(fnm (6 * jc))) hC (rfl) rfl gX12_least_0.2.2.2.2.2.2.2
def K_m_hours (l : Launch) (G : GG) (h0 : Nat) (jp : Nat) (cl : Int32) (la : Int32) (nw : Nat) (nk : Nat) (mhasKept : Int32) (nt : Nat) (mtaped : Int32) (nr : Nat) (mrowMany : Int32) (mroundOf : Int32) (mroundFrom : Int32) (mouts : Int32) (nm : Nat) (mfromHour : Int32) (mtoHour : Int32) (ns : Nat) (mfrom : Int32) (mto : Int32) (msort : Int32) (misFault : Int32) (mdeep : Int32) (mcoded : Int32) (mlines : Int32) (nl : Nat) (nc : Nat) (nF : Nat) (np : Nat) (ntr : Nat) (nb : Nat) (mbestCost : Int32) (nso : Nat) (nsi : Nat) (nit : Nat) (nsh : Nat) (nsf : Nat) (nss : Nat) (nrc : Nat) (mtraced : Int32) (mdealer : Int32) (mnumber : Int32) (mwhose : Int32) (msize : Int32) (misParted : Int32) (fnw : Nat → Int32) (fnm : Nat → Int32) : Prop := MI l G yX12_hours cX12_hours 6 (some .boolean) 3 0 0 [.ref h0, .int (nI jp), .int cl, .int la] [(h0, oX12 nw nk mhasKept nt mtaped nr mrowMany mroundOf mroundFrom mouts nm mfromHour mtoHour ns mfrom mto msort misFault mdeep mcoded mlines nl nc nF np ntr nb mbestCost nso nsi nit nsh nsf nss nrc mtraced mdealer mnumber mwhose msize misParted), (nw, iA G 1662 fnw), (nm, iA G 36 fnm)] (fun (r : Int32) (u : Int32 × Int32) => ((r = 1 ∧ u.2.toInt ≤ 1119) ∨ r = 0) ∧ (r = 1 → HCnt fnw (nI jp))) (fun u : Int32 × Int32 => [(h0, oX12 nw nk mhasKept nt mtaped nr mrowMany mroundOf mroundFrom mouts nm u.1 u.2 ns mfrom mto msort misFault mdeep mcoded mlines nl nc nF np ntr nb mbestCost nso nsi nit nsh nsf nss nrc mtraced mdealer mnumber mwhose msize misParted), (nw, iA G 1662 fnw), (nm, iA G 36 fnm)])
set_option maxHeartbeats 4000000 in
set_option maxRecDepth 100000 in
theorem m_hours (l : Launch) (G : GG) (h0 : Nat) (jp : Nat) (cl : Int32) (la : Int32) (nw : Nat) (nk : Nat) (mhasKept : Int32) (nt : Nat) (mtaped : Int32) (nr : Nat) (mrowMany : Int32) (mroundOf : Int32) (mroundFrom : Int32) (mouts : Int32) (nm : Nat) (mfromHour : Int32) (mtoHour : Int32) (ns : Nat) (mfrom : Int32) (mto : Int32) (msort : Int32) (misFault : Int32) (mdeep : Int32) (mcoded : Int32) (mlines : Int32) (nl : Nat) (nc : Nat) (nF : Nat) (np : Nat) (ntr : Nat) (nb : Nat) (mbestCost : Int32) (nso : Nat) (nsi : Nat) (nit : Nat) (nsh : Nat) (nsf : Nat) (nss : Nat) (nrc : Nat) (mtraced : Int32) (mdealer : Int32) (mnumber : Int32) (mwhose : Int32) (msize : Int32) (misParted : Int32) (fnw : Nat → Int32) (fnm : Nat → Int32) (hjp : jp < 12) (hN : NI fnw) (hM : MB fnm) : K_m_hours l G h0 jp cl la nw nk mhasKept nt mtaped nr mrowMany mroundOf mroundFrom mouts nm mfromHour mtoHour ns mfrom mto msort misFault mdeep mcoded mlines nl nc nF np ntr nb mbestCost nso nsi nit nsh nsf nss nrc mtraced mdealer mnumber mwhose msize misParted fnw fnm := by
  refine MI.start (by decide +kernel) (Nat.le_of_ble_eq_true rfl) ?_
  intro p e s m below meth c A ls hC hK hP hD hS hA hl
  refine absQ (fun Q0 hQ0 => ?_)
  have hl : lv_has ls 6 [(0, .ref h0), (1, .int (nI jp)), (2, .int cl), (3, .int la)] := hl
  refine Kan8 hC (fun hx hb hr hml hB hown hlocks hnm => ?_)
  obtain ⟨k6, hk6, ek6⟩ := NI.nat hN (i := 6) (B := 24) (by decide +kernel) (by decide)
  refine lv_aload_n hx hb gX12_hours_0.1 rfl (lv_at0 hl) ?_
  refine lv_iload_n hx hb gX12_hours_0.2.1 rfl (lv_at1 hl) ?_
  refine pV hC hK hl hP hD (m_stampsOf l G k6 h0 (nI jp) nw nk mhasKept nt mtaped nr mrowMany mroundOf mroundFrom mouts nm mfromHour mtoHour ns mfrom mto msort misFault mdeep mcoded mlines nl nc nF np ntr nb mbestCost nso nsi nit nsh nsf nss nrc mtraced mdealer mnumber mwhose msize misParted fnw (ek6) (by omega)) si_X12_130 [0, 1] sm_0_1 fm_0_1 nd_0_1 rfl rfl rfl rfl rfl (Nat.le_of_ble_eq_true rfl) rm_3_2_4 ⟨by first | exact Nat.le_of_ble_eq_true rfl | exact Nat.zero_le _, by first | exact Nat.le_of_ble_eq_true rfl | exact Nat.zero_le _⟩ gX12_hours_0.2.2.1 (Keqr ?_)
  refine lv_istore (lv' := [(4, .int (nI (cntS fnw (nI jp) k6))), (0, .ref h0), (1, .int (nI jp)), (2, .int cl), (3, .int la)]) hx hb gX12_hours_0.2.2.2.1 hl (by decide) rfl (fun ls hl => ?_)
  refine lv_iload_n hx hb gX12_hours_0.2.2.2.2.1 rfl (lv_at3 hl) ?_
  refine lv_if_ne (tgt := 24) hx hb gX12_hours_0.2.2.2.2.2.1 (by decide) (fun c_8_5264 => ?_) (fun c_8_5264 => ?_)
  · refine lv_iconst (v := 0) hx hb gX12_hours_1.2.2.1 (by decide) ?_
    refine toQ hQ0 ?_
    exact RI (v := 0) hC hP hD hS [0, 1, 2] (mfromHour, mtoHour) rfl rfl (by decide) (⟨Or.inr rfl, fun h9 => absurd h9 (by decide)⟩) (by decide +kernel) gX12_hours_1.2.2.2.1
  · refine lv_iload hx hb gX12_hours_0.2.2.2.2.2.2.1 (lv_at0 hl) ?_
    refine lv_if_eq (tgt := 24) hx hb gX12_hours_0.2.2.2.2.2.2.2.1 (by decide) (fun c_13_5265 => ?_) (fun c_13_5265 => ?_)
    · refine lv_iconst (v := 0) hx hb gX12_hours_1.2.2.1 (by decide) ?_
      refine toQ hQ0 ?_
      exact RI (v := 0) hC hP hD hS [0, 1, 2] (mfromHour, mtoHour) rfl rfl (by decide) (⟨Or.inr rfl, fun h9 => absurd h9 (by decide)⟩) (by decide +kernel) gX12_hours_1.2.2.2.1
    · have hcp9 := nI_nz c_13_5265
      refine lv_aload_n hx hb gX12_hours_0.2.2.2.2.2.2.2.2.1 rfl (lv_at1 hl) ?_
      refine lv_iload_n hx hb gX12_hours_0.2.2.2.2.2.2.2.2.2 rfl (lv_at2 hl) ?_
      refine pV hC hK hl hP hD (m_isIn l G h0 jp nw nk mhasKept nt mtaped nr mrowMany mroundOf mroundFrom mouts nm mfromHour mtoHour ns mfrom mto msort misFault mdeep mcoded mlines nl nc nF np ntr nb mbestCost nso nsi nit nsh nsf nss nrc mtraced mdealer mnumber mwhose msize misParted fnw (hjp)) si_X12_103 [0, 1] sm_0_1 fm_0_1 nd_0_1 rfl rfl rfl rfl rfl (Nat.le_of_ble_eq_true rfl) rm_3_2_3 ⟨by first | exact Nat.le_of_ble_eq_true rfl | exact Nat.zero_le _, by first | exact Nat.le_of_ble_eq_true rfl | exact Nat.zero_le _⟩ gX12_hours_1.1 (Kors (Keqr ?_) (Keqr ?_))
      · refine lv_if_ne (tgt := 26) hx hb gX12_hours_1.2.1 (by decide) (fun _ => ?_) (fun c9 => absurd c9 (by decide))
        refine lv_bipush (v := 104) hx hb gX12_hours_1.2.2.2.2.1 (by decide) ?_
        refine lv_iconst (v := 3) hx hb gX12_hours_1.2.2.2.2.2.1 (by decide) ?_
        refine lv_aload_n hx hb gX12_hours_1.2.2.2.2.2.2.1 rfl (lv_at1 hl) ?_
        refine lv_iload_n hx hb gX12_hours_1.2.2.2.2.2.2.2.1 rfl (lv_at2 hl) ?_
        refine lv_iload_n hx hb gX12_hours_1.2.2.2.2.2.2.2.2.1 rfl (lv_at4 hl) ?_
        refine lv_if_eq (tgt := 42) hx hb gX12_hours_1.2.2.2.2.2.2.2.2.2 (by decide) (fun c_32_5268 => ?_) (fun c_32_5268 => ?_)
        · refine lv_iconst (v := 0) hx hb gX12_hours_2.2.2.2.2.1 (by decide) ?_
          refine pV hC hK hl hP hD (m_stampAt l G k6 h0 (nI jp) 0 nw nk mhasKept nt mtaped nr mrowMany mroundOf mroundFrom mouts nm mfromHour mtoHour ns mfrom mto msort misFault mdeep mcoded mlines nl nc nF np ntr nb mbestCost nso nsi nit nsh nsf nss nrc mtraced mdealer mnumber mwhose msize misParted fnw (ek6) (by omega) (by omega)) si_X12_142 [0, 1] sm_0_1 fm_0_1 nd_0_1 rfl rfl rfl rfl rfl (Nat.le_of_ble_eq_true rfl) rm_3_2_5 ⟨by first | exact Nat.le_of_ble_eq_true rfl | exact Nat.zero_le _, by first | exact Nat.le_of_ble_eq_true rfl | exact Nat.zero_le _⟩ gX12_hours_2.2.2.2.2.2.1 (fun r5269 hr5269 => ?_)
          obtain ⟨s9_5270, hpx5270, rfl⟩ := hr5269
          try dsimp only at hpx5270
          refine lv_imul hx hb gX12_hours_2.2.2.2.2.2.2.1 ?_
          refine eqi (x1 := nI (3 * s9_5270)) (nI_mul 3 s9_5270) ?_
          refine lv_iadd hx hb gX12_hours_2.2.2.2.2.2.2.2.1 ?_
          refine eqi (x1 := nI (104 + 3 * s9_5270)) (nI_add 104 (3 * s9_5270)) ?_
          refine lv_istore (lv' := [(5, .int (nI (104 + 3 * s9_5270))), (4, .int (nI (cntS fnw (nI jp) k6))), (0, .ref h0), (1, .int (nI jp)), (2, .int cl), (3, .int la)]) hx hb gX12_hours_2.2.2.2.2.2.2.2.2.1 hl (by decide) rfl (fun ls hl => ?_)
          refine lv_aload_n hx hb gX12_hours_2.2.2.2.2.2.2.2.2.2 rfl (lv_at2 hl) ?_
          refine lv_aload_n hx hb gX12_hours_3.1 rfl (lv_at2 hl) ?_
          refine gf_X12_9 hC rfl hK hP 0 rfl rfl gX12_hours_3.2.1 ?_
          refine lv_iload hx hb gX12_hours_3.2.2.1 (lv_at0 hl) ?_
          refine lv_iconst (v := 2) hx hb gX12_hours_3.2.2.2.1 (by decide) ?_
          refine lv_iadd hx hb gX12_hours_3.2.2.2.2.1 ?_
          refine eqi (x1 := nI (104 + 3 * s9_5270 + 2)) (nI_add (104 + 3 * s9_5270) 2) ?_
          obtain ⟨hh5271, hhh5271, ehh5271⟩ := NI.nat hN (i := 104 + 3 * s9_5270 + 2) (B := 999) (bnd_st2 (s := s9_5270) rfl (by omega)) (by decide)
          refine aldN hC hK hP 1 rfl (k := 104 + 3 * s9_5270 + 2) (by omega) (Nat.le_of_ble_eq_true rfl) (v := nI hh5271) (ehh5271) gX12_hours_3.2.2.2.2.2.1 ?_
          refine lv_aload_n hx hb gX12_hours_3.2.2.2.2.2.2.1 rfl (lv_at2 hl) ?_
          refine lv_aload_n hx hb gX12_hours_3.2.2.2.2.2.2.2.1 rfl (lv_at2 hl) ?_
          refine gf_X12_9 hC rfl hK hP 0 rfl rfl gX12_hours_3.2.2.2.2.2.2.2.2.1 ?_
          refine lv_iload hx hb gX12_hours_3.2.2.2.2.2.2.2.2.2 (lv_at0 hl) ?_
          refine lv_iconst (v := 1) hx hb gX12_hours_4.1 (by decide) ?_
          refine lv_iadd hx hb gX12_hours_4.2.1 ?_
          refine eqi (x1 := nI (104 + 3 * s9_5270 + 1)) (nI_add (104 + 3 * s9_5270) 1) ?_
          obtain ⟨cc5272, hcc5272, ecc5272⟩ := NI.nat hN (i := 104 + 3 * s9_5270 + 1) (B := 5) (bnd_st1 (s := s9_5270) rfl (by omega)) (by decide)
          refine aldN hC hK hP 1 rfl (k := 104 + 3 * s9_5270 + 1) (by omega) (Nat.le_of_ble_eq_true rfl) (v := nI cc5272) (ecc5272) gX12_hours_4.2.2.1 ?_
          refine pV hC hK hl hP hD (m_greatest l G h0 cc5272 nw nk mhasKept nt mtaped nr mrowMany mroundOf mroundFrom mouts nm mfromHour mtoHour ns mfrom mto msort misFault mdeep mcoded mlines nl nc nF np ntr nb mbestCost nso nsi nit nsh nsf nss nrc mtraced mdealer mnumber mwhose msize misParted fnm (by omega)) si_X12_155 [0, 2] sm_0_2 fm_0_2 nd_0_2 rfl rfl rfl rfl rfl (Nat.le_of_ble_eq_true rfl) rm_3_1_2 ⟨by first | exact Nat.le_of_ble_eq_true rfl | exact Nat.zero_le _, by first | exact Nat.le_of_ble_eq_true rfl | exact Nat.zero_le _⟩ gX12_hours_4.2.2.2.1 (Keqr ?_)
          refine lv_isub hx hb gX12_hours_4.2.2.2.2.1 ?_
          refine pf_X12_161 hC rfl hK hP hD hS 0 (ws' := [(h0, oX12 nw nk mhasKept nt mtaped nr mrowMany mroundOf mroundFrom mouts nm ((nI hh5271) - (fnm cc5272)) mtoHour ns mfrom mto msort misFault mdeep mcoded mlines nl nc nF np ntr nb mbestCost nso nsi nit nsh nsf nss nrc mtraced mdealer mnumber mwhose msize misParted), (nw, iA G 1662 fnw), (nm, iA G 36 fnm)]) rfl (Nat.le_of_ble_eq_true rfl) rfl rfl rfl gX12_hours_4.2.2.2.2.2.1 (fun H locs hP hD hS => ?_)
          refine lv_aload_n hx hb gX12_hours_4.2.2.2.2.2.2.1 rfl (lv_at2 hl) ?_
          refine lv_aload_n hx hb gX12_hours_4.2.2.2.2.2.2.2.1 rfl (lv_at2 hl) ?_
          refine gf_X12_9 hC rfl hK hP 0 rfl rfl gX12_hours_4.2.2.2.2.2.2.2.2.1 ?_
          refine lv_iload hx hb gX12_hours_4.2.2.2.2.2.2.2.2.2 (lv_at0 hl) ?_
          refine lv_iconst (v := 2) hx hb gX12_hours_5.1 (by decide) ?_
          refine lv_iadd hx hb gX12_hours_5.2.1 ?_
          refine eqi (x1 := nI (104 + 3 * s9_5270 + 2)) (nI_add (104 + 3 * s9_5270) 2) ?_
          obtain ⟨hh5275, hhh5275, ehh5275⟩ := NI.nat hN (i := 104 + 3 * s9_5270 + 2) (B := 999) (bnd_st2 (s := s9_5270) rfl (by omega)) (by decide)
          refine aldN hC hK hP 1 rfl (k := 104 + 3 * s9_5270 + 2) (by omega) (Nat.le_of_ble_eq_true rfl) (v := nI hh5275) (ehh5275) gX12_hours_5.2.2.1 ?_
          refine lv_aload_n hx hb gX12_hours_5.2.2.2.1 rfl (lv_at2 hl) ?_
          refine lv_aload_n hx hb gX12_hours_5.2.2.2.2.1 rfl (lv_at2 hl) ?_
          refine gf_X12_9 hC rfl hK hP 0 rfl rfl gX12_hours_5.2.2.2.2.2.1 ?_
          refine lv_iload hx hb gX12_hours_5.2.2.2.2.2.2.1 (lv_at0 hl) ?_
          refine lv_iconst (v := 1) hx hb gX12_hours_5.2.2.2.2.2.2.2.1 (by decide) ?_
          refine lv_iadd hx hb gX12_hours_5.2.2.2.2.2.2.2.2.1 ?_
          refine eqi (x1 := nI (104 + 3 * s9_5270 + 1)) (nI_add (104 + 3 * s9_5270) 1) ?_
          obtain ⟨cc5276, hcc5276, ecc5276⟩ := NI.nat hN (i := 104 + 3 * s9_5270 + 1) (B := 5) (bnd_st1 (s := s9_5270) rfl (by omega)) (by decide)
          refine aldN hC hK hP 1 rfl (k := 104 + 3 * s9_5270 + 1) (by omega) (Nat.le_of_ble_eq_true rfl) (v := nI cc5276) (ecc5276) gX12_hours_5.2.2.2.2.2.2.2.2.2 ?_
          refine pV hC hK hl hP hD (m_least l G h0 cc5276 nw nk mhasKept nt mtaped nr mrowMany mroundOf mroundFrom mouts nm ((nI hh5271) - (fnm cc5272)) mtoHour ns mfrom mto msort misFault mdeep mcoded mlines nl nc nF np ntr nb mbestCost nso nsi nit nsh nsf nss nrc mtraced mdealer mnumber mwhose msize misParted fnm (by omega)) si_X12_158 [0, 2] sm_0_2 fm_0_2 nd_0_2 rfl rfl rfl rfl rfl (Nat.le_of_ble_eq_true rfl) rm_3_1_2 ⟨by first | exact Nat.le_of_ble_eq_true rfl | exact Nat.zero_le _, by first | exact Nat.le_of_ble_eq_true rfl | exact Nat.zero_le _⟩ gX12_hours_6.1 (Keqr ?_)
          refine lv_isub hx hb gX12_hours_6.2.1 ?_
          refine pf_X12_164 hC rfl hK hP hD hS 0 (ws' := [(h0, oX12 nw nk mhasKept nt mtaped nr mrowMany mroundOf mroundFrom mouts nm ((nI hh5271) - (fnm cc5272)) ((nI hh5275) - (-(fnm (6 * cc5276)))) ns mfrom mto msort misFault mdeep mcoded mlines nl nc nF np ntr nb mbestCost nso nsi nit nsh nsf nss nrc mtraced mdealer mnumber mwhose msize misParted), (nw, iA G 1662 fnw), (nm, iA G 36 fnm)]) rfl (Nat.le_of_ble_eq_true rfl) rfl rfl rfl gX12_hours_6.2.2.1 (fun H locs hP hD hS => ?_)
          refine lv_iconst (v := 1) hx hb gX12_hours_6.2.2.2.1 (by decide) ?_
          refine toQ hQ0 ?_
          exact RI (v := 1) hC hP hD hS [0, 1, 2] ((nI hh5271) - (fnm cc5272), (nI hh5275) - (-(fnm (6 * cc5276)))) rfl rfl (by decide) (⟨Or.inl ⟨rfl, toB (by omega) (hM _ (by omega))⟩, fun _ => HCnt.mk (by omega) ek6 hcp9⟩) (by decide +kernel) gX12_hours_6.2.2.2.2
        · refine lv_iload hx hb gX12_hours_2.1 (lv_at0 hl) ?_
          refine lv_iconst (v := 1) hx hb gX12_hours_2.2.1 (by decide) ?_
          refine lv_isub hx hb gX12_hours_2.2.2.1 ?_
          refine eqi (x1 := nI ((cntS fnw (nI jp) k6) - 1)) (nI_sb (by omega)) ?_
          refine lv_goto (tgt := 43) hx hb gX12_hours_2.2.2.2.1 (by decide) ?_
          refine pV hC hK hl hP hD (m_stampAt l G k6 h0 (nI jp) ((cntS fnw (nI jp) k6) - 1) nw nk mhasKept nt mtaped nr mrowMany mroundOf mroundFrom mouts nm mfromHour mtoHour ns mfrom mto msort misFault mdeep mcoded mlines nl nc nF np ntr nb mbestCost nso nsi nit nsh nsf nss nrc mtraced mdealer mnumber mwhose msize misParted fnw (ek6) (by omega) (by omega)) si_X12_142 [0, 1] sm_0_1 fm_0_1 nd_0_1 rfl rfl rfl rfl rfl (Nat.le_of_ble_eq_true rfl) rm_3_2_5 ⟨by first | exact Nat.le_of_ble_eq_true rfl | exact Nat.zero_le _, by first | exact Nat.le_of_ble_eq_true rfl | exact Nat.zero_le _⟩ gX12_hours_2.2.2.2.2.2.1 (fun r5279 hr5279 => ?_)
          obtain ⟨s9_5280, hpx5280, rfl⟩ := hr5279
          try dsimp only at hpx5280
          refine lv_imul hx hb gX12_hours_2.2.2.2.2.2.2.1 ?_
          refine eqi (x1 := nI (3 * s9_5280)) (nI_mul 3 s9_5280) ?_
          refine lv_iadd hx hb gX12_hours_2.2.2.2.2.2.2.2.1 ?_
          refine eqi (x1 := nI (104 + 3 * s9_5280)) (nI_add 104 (3 * s9_5280)) ?_
          refine lv_istore (lv' := [(5, .int (nI (104 + 3 * s9_5280))), (4, .int (nI (cntS fnw (nI jp) k6))), (0, .ref h0), (1, .int (nI jp)), (2, .int cl), (3, .int la)]) hx hb gX12_hours_2.2.2.2.2.2.2.2.2.1 hl (by decide) rfl (fun ls hl => ?_)
          refine lv_aload_n hx hb gX12_hours_2.2.2.2.2.2.2.2.2.2 rfl (lv_at2 hl) ?_
          refine lv_aload_n hx hb gX12_hours_3.1 rfl (lv_at2 hl) ?_
          refine gf_X12_9 hC rfl hK hP 0 rfl rfl gX12_hours_3.2.1 ?_
          refine lv_iload hx hb gX12_hours_3.2.2.1 (lv_at0 hl) ?_
          refine lv_iconst (v := 2) hx hb gX12_hours_3.2.2.2.1 (by decide) ?_
          refine lv_iadd hx hb gX12_hours_3.2.2.2.2.1 ?_
          refine eqi (x1 := nI (104 + 3 * s9_5280 + 2)) (nI_add (104 + 3 * s9_5280) 2) ?_
          obtain ⟨hh5281, hhh5281, ehh5281⟩ := NI.nat hN (i := 104 + 3 * s9_5280 + 2) (B := 999) (bnd_st2 (s := s9_5280) rfl (by omega)) (by decide)
          refine aldN hC hK hP 1 rfl (k := 104 + 3 * s9_5280 + 2) (by omega) (Nat.le_of_ble_eq_true rfl) (v := nI hh5281) (ehh5281) gX12_hours_3.2.2.2.2.2.1 ?_
          refine lv_aload_n hx hb gX12_hours_3.2.2.2.2.2.2.1 rfl (lv_at2 hl) ?_
          refine lv_aload_n hx hb gX12_hours_3.2.2.2.2.2.2.2.1 rfl (lv_at2 hl) ?_
          refine gf_X12_9 hC rfl hK hP 0 rfl rfl gX12_hours_3.2.2.2.2.2.2.2.2.1 ?_
          refine lv_iload hx hb gX12_hours_3.2.2.2.2.2.2.2.2.2 (lv_at0 hl) ?_
          refine lv_iconst (v := 1) hx hb gX12_hours_4.1 (by decide) ?_
          refine lv_iadd hx hb gX12_hours_4.2.1 ?_
          refine eqi (x1 := nI (104 + 3 * s9_5280 + 1)) (nI_add (104 + 3 * s9_5280) 1) ?_
          obtain ⟨cc5282, hcc5282, ecc5282⟩ := NI.nat hN (i := 104 + 3 * s9_5280 + 1) (B := 5) (bnd_st1 (s := s9_5280) rfl (by omega)) (by decide)
          refine aldN hC hK hP 1 rfl (k := 104 + 3 * s9_5280 + 1) (by omega) (Nat.le_of_ble_eq_true rfl) (v := nI cc5282) (ecc5282) gX12_hours_4.2.2.1 ?_
          refine pV hC hK hl hP hD (m_greatest l G h0 cc5282 nw nk mhasKept nt mtaped nr mrowMany mroundOf mroundFrom mouts nm mfromHour mtoHour ns mfrom mto msort misFault mdeep mcoded mlines nl nc nF np ntr nb mbestCost nso nsi nit nsh nsf nss nrc mtraced mdealer mnumber mwhose msize misParted fnm (by omega)) si_X12_155 [0, 2] sm_0_2 fm_0_2 nd_0_2 rfl rfl rfl rfl rfl (Nat.le_of_ble_eq_true rfl) rm_3_1_2 ⟨by first | exact Nat.le_of_ble_eq_true rfl | exact Nat.zero_le _, by first | exact Nat.le_of_ble_eq_true rfl | exact Nat.zero_le _⟩ gX12_hours_4.2.2.2.1 (Keqr ?_)
          refine lv_isub hx hb gX12_hours_4.2.2.2.2.1 ?_
          refine pf_X12_161 hC rfl hK hP hD hS 0 (ws' := [(h0, oX12 nw nk mhasKept nt mtaped nr mrowMany mroundOf mroundFrom mouts nm ((nI hh5281) - (fnm cc5282)) mtoHour ns mfrom mto msort misFault mdeep mcoded mlines nl nc nF np ntr nb mbestCost nso nsi nit nsh nsf nss nrc mtraced mdealer mnumber mwhose msize misParted), (nw, iA G 1662 fnw), (nm, iA G 36 fnm)]) rfl (Nat.le_of_ble_eq_true rfl) rfl rfl rfl gX12_hours_4.2.2.2.2.2.1 (fun H locs hP hD hS => ?_)
          refine lv_aload_n hx hb gX12_hours_4.2.2.2.2.2.2.1 rfl (lv_at2 hl) ?_
          refine lv_aload_n hx hb gX12_hours_4.2.2.2.2.2.2.2.1 rfl (lv_at2 hl) ?_
          refine gf_X12_9 hC rfl hK hP 0 rfl rfl gX12_hours_4.2.2.2.2.2.2.2.2.1 ?_
          refine lv_iload hx hb gX12_hours_4.2.2.2.2.2.2.2.2.2 (lv_at0 hl) ?_
          refine lv_iconst (v := 2) hx hb gX12_hours_5.1 (by decide) ?_
          refine lv_iadd hx hb gX12_hours_5.2.1 ?_
          refine eqi (x1 := nI (104 + 3 * s9_5280 + 2)) (nI_add (104 + 3 * s9_5280) 2) ?_
          obtain ⟨hh5285, hhh5285, ehh5285⟩ := NI.nat hN (i := 104 + 3 * s9_5280 + 2) (B := 999) (bnd_st2 (s := s9_5280) rfl (by omega)) (by decide)
          refine aldN hC hK hP 1 rfl (k := 104 + 3 * s9_5280 + 2) (by omega) (Nat.le_of_ble_eq_true rfl) (v := nI hh5285) (ehh5285) gX12_hours_5.2.2.1 ?_
          refine lv_aload_n hx hb gX12_hours_5.2.2.2.1 rfl (lv_at2 hl) ?_
          refine lv_aload_n hx hb gX12_hours_5.2.2.2.2.1 rfl (lv_at2 hl) ?_
          refine gf_X12_9 hC rfl hK hP 0 rfl rfl gX12_hours_5.2.2.2.2.2.1 ?_
          refine lv_iload hx hb gX12_hours_5.2.2.2.2.2.2.1 (lv_at0 hl) ?_
          refine lv_iconst (v := 1) hx hb gX12_hours_5.2.2.2.2.2.2.2.1 (by decide) ?_
          refine lv_iadd hx hb gX12_hours_5.2.2.2.2.2.2.2.2.1 ?_
          refine eqi (x1 := nI (104 + 3 * s9_5280 + 1)) (nI_add (104 + 3 * s9_5280) 1) ?_
          obtain ⟨cc5286, hcc5286, ecc5286⟩ := NI.nat hN (i := 104 + 3 * s9_5280 + 1) (B := 5) (bnd_st1 (s := s9_5280) rfl (by omega)) (by decide)
          refine aldN hC hK hP 1 rfl (k := 104 + 3 * s9_5280 + 1) (by omega) (Nat.le_of_ble_eq_true rfl) (v := nI cc5286) (ecc5286) gX12_hours_5.2.2.2.2.2.2.2.2.2 ?_
          refine pV hC hK hl hP hD (m_least l G h0 cc5286 nw nk mhasKept nt mtaped nr mrowMany mroundOf mroundFrom mouts nm ((nI hh5281) - (fnm cc5282)) mtoHour ns mfrom mto msort misFault mdeep mcoded mlines nl nc nF np ntr nb mbestCost nso nsi nit nsh nsf nss nrc mtraced mdealer mnumber mwhose msize misParted fnm (by omega)) si_X12_158 [0, 2] sm_0_2 fm_0_2 nd_0_2 rfl rfl rfl rfl rfl (Nat.le_of_ble_eq_true rfl) rm_3_1_2 ⟨by first | exact Nat.le_of_ble_eq_true rfl | exact Nat.zero_le _, by first | exact Nat.le_of_ble_eq_true rfl | exact Nat.zero_le _⟩ gX12_hours_6.1 (Keqr ?_)
          refine lv_isub hx hb gX12_hours_6.2.1 ?_
          refine pf_X12_164 hC rfl hK hP hD hS 0 (ws' := [(h0, oX12 nw nk mhasKept nt mtaped nr mrowMany mroundOf mroundFrom mouts nm ((nI hh5281) - (fnm cc5282)) ((nI hh5285) - (-(fnm (6 * cc5286)))) ns mfrom mto msort misFault mdeep mcoded mlines nl nc nF np ntr nb mbestCost nso nsi nit nsh nsf nss nrc mtraced mdealer mnumber mwhose msize misParted), (nw, iA G 1662 fnw), (nm, iA G 36 fnm)]) rfl (Nat.le_of_ble_eq_true rfl) rfl rfl rfl gX12_hours_6.2.2.1 (fun H locs hP hD hS => ?_)
          refine lv_iconst (v := 1) hx hb gX12_hours_6.2.2.2.1 (by decide) ?_
          refine toQ hQ0 ?_
          exact RI (v := 1) hC hP hD hS [0, 1, 2] ((nI hh5281) - (fnm cc5282), (nI hh5285) - (-(fnm (6 * cc5286)))) rfl rfl (by decide) (⟨Or.inl ⟨rfl, toB (by omega) (hM _ (by omega))⟩, fun _ => HCnt.mk (by omega) ek6 hcp9⟩) (by decide +kernel) gX12_hours_6.2.2.2.2
      · refine lv_if_ne (tgt := 26) hx hb gX12_hours_1.2.1 (by decide) (fun c9 => absurd (by decide) c9) (fun _ => ?_)
        refine lv_iconst (v := 0) hx hb gX12_hours_1.2.2.1 (by decide) ?_
        refine toQ hQ0 ?_
        exact RI (v := 0) hC hP hD hS [0, 1, 2] (mfromHour, mtoHour) rfl rfl (by decide) (⟨Or.inr rfl, fun h9 => absurd h9 (by decide)⟩) (by decide +kernel) gX12_hours_1.2.2.2.1
def K_m_inHand (l : Launch) (G : GG) (h0 : Nat) (jp : Nat) (je : Nat) (cl : Int32) (nw : Nat) (nk : Nat) (mhasKept : Int32) (nt : Nat) (mtaped : Int32) (nr : Nat) (mrowMany : Int32) (mroundOf : Int32) (mroundFrom : Int32) (mouts : Int32) (nm : Nat) (mfromHour : Int32) (mtoHour : Int32) (ns : Nat) (mfrom : Int32) (mto : Int32) (msort : Int32) (misFault : Int32) (mdeep : Int32) (mcoded : Int32) (mlines : Int32) (nl : Nat) (nc : Nat) (nF : Nat) (np : Nat) (ntr : Nat) (nb : Nat) (mbestCost : Int32) (nso : Nat) (nsi : Nat) (nit : Nat) (nsh : Nat) (nsf : Nat) (nss : Nat) (nrc : Nat) (mtraced : Int32) (mdealer : Int32) (mnumber : Int32) (mwhose : Int32) (msize : Int32) (misParted : Int32) (fnw : Nat → Int32) (fnm : Nat → Int32) : Prop := MI l G yX12_inHand cX12_inHand 4 (some .boolean) 4 0 0 [.ref h0, .int (nI jp), .int (nI je), .int cl] [(h0, oX12 nw nk mhasKept nt mtaped nr mrowMany mroundOf mroundFrom mouts nm mfromHour mtoHour ns mfrom mto msort misFault mdeep mcoded mlines nl nc nF np ntr nb mbestCost nso nsi nit nsh nsf nss nrc mtraced mdealer mnumber mwhose msize misParted), (nw, iA G 1662 fnw), (nm, iA G 36 fnm)] (fun (r : Int32) (u : Int32 × Int32) => ((r = 1 ∧ u.2.toInt ≤ 1167) ∨ r = 0)) (fun u : Int32 × Int32 => [(h0, oX12 nw nk mhasKept nt mtaped nr mrowMany mroundOf mroundFrom mouts nm u.1 u.2 ns mfrom mto msort misFault mdeep mcoded mlines nl nc nF np ntr nb mbestCost nso nsi nit nsh nsf nss nrc mtraced mdealer mnumber mwhose msize misParted), (nw, iA G 1662 fnw), (nm, iA G 36 fnm)])
set_option maxHeartbeats 4000000 in
set_option maxRecDepth 100000 in
theorem m_inHand (l : Launch) (G : GG) (h0 : Nat) (jp : Nat) (je : Nat) (cl : Int32) (nw : Nat) (nk : Nat) (mhasKept : Int32) (nt : Nat) (mtaped : Int32) (nr : Nat) (mrowMany : Int32) (mroundOf : Int32) (mroundFrom : Int32) (mouts : Int32) (nm : Nat) (mfromHour : Int32) (mtoHour : Int32) (ns : Nat) (mfrom : Int32) (mto : Int32) (msort : Int32) (misFault : Int32) (mdeep : Int32) (mcoded : Int32) (mlines : Int32) (nl : Nat) (nc : Nat) (nF : Nat) (np : Nat) (ntr : Nat) (nb : Nat) (mbestCost : Int32) (nso : Nat) (nsi : Nat) (nit : Nat) (nsh : Nat) (nsf : Nat) (nss : Nat) (nrc : Nat) (mtraced : Int32) (mdealer : Int32) (mnumber : Int32) (mwhose : Int32) (msize : Int32) (misParted : Int32) (fnw : Nat → Int32) (fnm : Nat → Int32) (hjp : jp < 12) (hje : je < 10) (hN : NI fnw) (hM : MB fnm) : K_m_inHand l G h0 jp je cl nw nk mhasKept nt mtaped nr mrowMany mroundOf mroundFrom mouts nm mfromHour mtoHour ns mfrom mto msort misFault mdeep mcoded mlines nl nc nF np ntr nb mbestCost nso nsi nit nsh nsf nss nrc mtraced mdealer mnumber mwhose msize misParted fnw fnm := by
  refine MI.start (by decide +kernel) (Nat.le_of_ble_eq_true rfl) ?_
  intro p e s m below meth c A ls hC hK hP hD hS hA hl
  refine absQ (fun Q0 hQ0 => ?_)
  have hl : lv_has ls 4 [(0, .ref h0), (1, .int (nI jp)), (2, .int (nI je)), (3, .int cl)] := hl
  refine Kan8 hC (fun hx hb hr hml hB hown hlocks hnm => ?_)
  refine lv_aload_n hx hb gX12_inHand_0.1 rfl (lv_at0 hl) ?_
  refine lv_iload_n hx hb gX12_inHand_0.2.1 rfl (lv_at1 hl) ?_
  refine lv_iconst (v := 0) hx hb gX12_inHand_0.2.2.1 (by decide) ?_
  refine pV hC hK hl hP hD (m_paper l G h0 jp 0 nw nk mhasKept nt mtaped nr mrowMany mroundOf mroundFrom mouts nm mfromHour mtoHour ns mfrom mto msort misFault mdeep mcoded mlines nl nc nF np ntr nb mbestCost nso nsi nit nsh nsf nss nrc mtraced mdealer mnumber mwhose msize misParted fnw (hjp) (by omega)) si_X12_88 [0, 1] sm_0_1 fm_0_1 nd_0_1 rfl rfl rfl rfl rfl (Nat.le_of_ble_eq_true rfl) rm_4_1_3 ⟨by first | exact Nat.le_of_ble_eq_true rfl | exact Nat.zero_le _, by first | exact Nat.le_of_ble_eq_true rfl | exact Nat.zero_le _⟩ gX12_inHand_0.2.2.2.1 (Keqr ?_)
  refine lv_iload_n hx hb gX12_inHand_0.2.2.2.2.1 rfl (lv_at2 hl) ?_
  refine lv_icmp_ne (tgt := 18) hx hb gX12_inHand_0.2.2.2.2.2.1 (by decide) (fun c_7_5291 => ?_) (fun c_7_5291 => ?_)
  · refine lv_aload_n hx hb gX12_inHand_1.2.2.1 rfl (lv_at0 hl) ?_
    refine lv_iload_n hx hb gX12_inHand_1.2.2.2.1 rfl (lv_at1 hl) ?_
    refine lv_iconst (v := 1) hx hb gX12_inHand_1.2.2.2.2.1 (by decide) ?_
    refine pV hC hK hl hP hD (m_paper l G h0 jp 1 nw nk mhasKept nt mtaped nr mrowMany mroundOf mroundFrom mouts nm mfromHour mtoHour ns mfrom mto msort misFault mdeep mcoded mlines nl nc nF np ntr nb mbestCost nso nsi nit nsh nsf nss nrc mtraced mdealer mnumber mwhose msize misParted fnw (hjp) (by omega)) si_X12_88 [0, 1] sm_0_1 fm_0_1 nd_0_1 rfl rfl rfl rfl rfl (Nat.le_of_ble_eq_true rfl) rm_4_1_3 ⟨by first | exact Nat.le_of_ble_eq_true rfl | exact Nat.zero_le _, by first | exact Nat.le_of_ble_eq_true rfl | exact Nat.zero_le _⟩ gX12_inHand_1.2.2.2.2.2.1 (Keqr ?_)
    refine lv_iload_n hx hb gX12_inHand_1.2.2.2.2.2.2.1 rfl (lv_at2 hl) ?_
    refine pS hC hK hl (m_has l G (fnw (32 + 6 * jp + 1)) (nI je)) si_X12_99 rfl rfl (Nat.le_of_ble_eq_true rfl) rm_4_1_2 ⟨by first | exact Nat.le_of_ble_eq_true rfl | exact Nat.zero_le _, by first | exact Nat.le_of_ble_eq_true rfl | exact Nat.zero_le _⟩ gX12_inHand_1.2.2.2.2.2.2.2.1 (Kors (Keqa fun a5295 => ?_) (Keqa fun a5295 => ?_))
    · refine lv_if_eq (tgt := 41) hx hb gX12_inHand_1.2.2.2.2.2.2.2.2.1 (by decide) (fun c9 => absurd c9 (by decide)) (fun _ => ?_)
      refine lv_aload_n hx hb gX12_inHand_1.2.2.2.2.2.2.2.2.2 rfl (lv_at0 hl) ?_
      refine lv_iload_n hx hb gX12_inHand_2.1 rfl (lv_at1 hl) ?_
      refine lv_iload_n hx hb gX12_inHand_2.2.1 rfl (lv_at3 hl) ?_
      refine lv_iconst (v := 1) hx hb gX12_inHand_2.2.2.1 (by decide) ?_
      refine iV (wr := []) hC hK hl hP hD hS hA (m_hours l G h0 jp cl 1 nw nk mhasKept nt mtaped nr mrowMany mroundOf mroundFrom mouts nm mfromHour mtoHour ns mfrom mto msort misFault mdeep mcoded mlines nl nc nF np ntr nb mbestCost nso nsi nit nsh nsf nss nrc mtraced mdealer mnumber mwhose msize misParted fnw fnm (hjp) (hN) (hM)) si_X12_167 [0, 1, 2] [] sm_0_1_2 fm_0_1_2 nd_0_1_2 rfl rfl (by decide) rfl rfl rfl rfl rfl (Nat.le_of_ble_eq_true rfl) rm_4_3_6 ⟨Nat.le_of_ble_eq_true rfl, Nat.le_of_ble_eq_true rfl⟩ gX12_inHand_2.2.2.2.1 (fun r5296 => Ktu2 fun fh15298 th15299 => ?_)
      intro H locs hr5296 hP hD hS
      try dsimp only at hr5296
      refine Kpdr (ws := [(h0, oX12 nw nk mhasKept nt mtaped nr mrowMany mroundOf mroundFrom mouts nm fh15298 th15299 ns mfrom mto msort misFault mdeep mcoded mlines nl nc nF np ntr nb mbestCost nso nsi nit nsh nsf nss nrc mtraced mdealer mnumber mwhose msize misParted), (nw, iA G 1662 fnw), (nm, iA G 36 fnm)]) hP hD (fun hP hD => ?_)
      obtain ⟨hr5296, w5300⟩ := hr5296
      rcases hr5296 with ⟨rfl, a5301⟩ | rfl
      · refine lv_if_ne (tgt := 43) hx hb gX12_inHand_2.2.2.2.2.1 (by decide) (fun _ => ?_) (fun c9 => absurd c9 (by decide))
        refine lv_aload_n hx hb gX12_inHand_2.2.2.2.2.2.2.2.1 rfl (lv_at0 hl) ?_
        refine lv_dup hx hb gX12_inHand_2.2.2.2.2.2.2.2.2.1 rfl ?_
        refine gf_X12_164 hC rfl hK hP 0 rfl rfl gX12_inHand_2.2.2.2.2.2.2.2.2.2 ?_
        refine lv_aload_n hx hb gX12_inHand_3.1 rfl (lv_at0 hl) ?_
        refine gf_X12_9 hC rfl hK hP 0 rfl rfl gX12_inHand_3.2.1 ?_
        refine lv_bipush (v := 12) hx hb gX12_inHand_3.2.2.1 (by decide) ?_
        refine lv_iconst (v := 2) hx hb gX12_inHand_3.2.2.2.1 (by decide) ?_
        refine lv_iload_n hx hb gX12_inHand_3.2.2.2.2.1 rfl (lv_at2 hl) ?_
        refine lv_imul hx hb gX12_inHand_3.2.2.2.2.2.1 ?_
        refine eqi (x1 := nI (2 * je)) (nI_mul 2 je) ?_
        refine lv_iadd hx hb gX12_inHand_3.2.2.2.2.2.2.1 ?_
        refine eqi (x1 := nI (12 + 2 * je)) (nI_add 12 (2 * je)) ?_
        refine lv_iconst (v := 1) hx hb gX12_inHand_3.2.2.2.2.2.2.2.1 (by decide) ?_
        refine lv_iadd hx hb gX12_inHand_3.2.2.2.2.2.2.2.2.1 ?_
        refine eqi (x1 := nI (12 + 2 * je + 1)) (nI_add (12 + 2 * je) 1) ?_
        obtain ⟨sl5302, hsl5302, esl5302⟩ := NI.nat hN (i := (12 + 2 * je + 1)) (B := 48) (bnd_per (by omega) (by omega)) (by decide)
        refine aldN hC hK hP 1 rfl (k := (12 + 2 * je + 1)) (by omega) (Nat.le_of_ble_eq_true rfl) (v := nI sl5302) (esl5302) gX12_inHand_3.2.2.2.2.2.2.2.2.2 ?_
        refine lv_iadd hx hb gX12_inHand_4.1 ?_
        refine pf_X12_164 hC rfl hK hP hD hS 0 (ws' := [(h0, oX12 nw nk mhasKept nt mtaped nr mrowMany mroundOf mroundFrom mouts nm fh15298 (th15299 + (nI sl5302)) ns mfrom mto msort misFault mdeep mcoded mlines nl nc nF np ntr nb mbestCost nso nsi nit nsh nsf nss nrc mtraced mdealer mnumber mwhose msize misParted), (nw, iA G 1662 fnw), (nm, iA G 36 fnm)]) rfl (Nat.le_of_ble_eq_true rfl) rfl rfl rfl gX12_inHand_4.2.1 (fun H locs hP hD hS => ?_)
        refine lv_iconst (v := 1) hx hb gX12_inHand_4.2.2.1 (by decide) ?_
        refine toQ hQ0 ?_
        exact RI (v := 1) hC hP hD hS [0, 1, 2] (fh15298, th15299 + (nI sl5302)) rfl rfl (by decide) (Or.inl ⟨rfl, addB (by assumption) (by omega)⟩) (by decide +kernel) gX12_inHand_4.2.2.2
      · refine lv_if_ne (tgt := 43) hx hb gX12_inHand_2.2.2.2.2.1 (by decide) (fun c9 => absurd (by decide) c9) (fun _ => ?_)
        refine lv_iconst (v := 0) hx hb gX12_inHand_2.2.2.2.2.2.1 (by decide) ?_
        refine toQ hQ0 ?_
        exact RI (v := 0) hC hP hD hS [0, 1, 2] (fh15298, th15299) rfl rfl (by decide) (Or.inr rfl) (by decide +kernel) gX12_inHand_2.2.2.2.2.2.2.1
    · refine lv_if_eq (tgt := 41) hx hb gX12_inHand_1.2.2.2.2.2.2.2.2.1 (by decide) (fun _ => ?_) (fun c9 => absurd (by decide) c9)
      refine lv_iconst (v := 0) hx hb gX12_inHand_2.2.2.2.2.2.1 (by decide) ?_
      refine toQ hQ0 ?_
      exact RI (v := 0) hC hP hD hS [0, 1, 2] (mfromHour, mtoHour) rfl rfl (by decide) (Or.inr rfl) (by decide +kernel) gX12_inHand_2.2.2.2.2.2.2.1
  · refine lv_aload_n hx hb gX12_inHand_0.2.2.2.2.2.2.1 rfl (lv_at0 hl) ?_
    refine lv_iload_n hx hb gX12_inHand_0.2.2.2.2.2.2.2.1 rfl (lv_at1 hl) ?_
    refine lv_iload_n hx hb gX12_inHand_0.2.2.2.2.2.2.2.2.1 rfl (lv_at3 hl) ?_
    refine lv_iconst (v := 0) hx hb gX12_inHand_0.2.2.2.2.2.2.2.2.2 (by decide) ?_
    refine iV (wr := []) hC hK hl hP hD hS hA (m_hours l G h0 jp cl 0 nw nk mhasKept nt mtaped nr mrowMany mroundOf mroundFrom mouts nm mfromHour mtoHour ns mfrom mto msort misFault mdeep mcoded mlines nl nc nF np ntr nb mbestCost nso nsi nit nsh nsf nss nrc mtraced mdealer mnumber mwhose msize misParted fnw fnm (hjp) (hN) (hM)) si_X12_167 [0, 1, 2] [] sm_0_1_2 fm_0_1_2 nd_0_1_2 rfl rfl (by decide) rfl rfl rfl rfl rfl (Nat.le_of_ble_eq_true rfl) rm_4_3_6 ⟨Nat.le_of_ble_eq_true rfl, Nat.le_of_ble_eq_true rfl⟩ gX12_inHand_1.1 (fun r5303 => Ktu2 fun fh15305 th15306 => ?_)
    intro H locs hr5303 hP hD hS
    try dsimp only at hr5303
    refine Kpdr (ws := [(h0, oX12 nw nk mhasKept nt mtaped nr mrowMany mroundOf mroundFrom mouts nm fh15305 th15306 ns mfrom mto msort misFault mdeep mcoded mlines nl nc nF np ntr nb mbestCost nso nsi nit nsh nsf nss nrc mtraced mdealer mnumber mwhose msize misParted), (nw, iA G 1662 fnw), (nm, iA G 36 fnm)]) hP hD (fun hP hD => ?_)
    obtain ⟨hr5303, w5307⟩ := hr5303
    rcases hr5303 with ⟨rfl, a5308⟩ | rfl
    · refine toQ hQ0 ?_
      exact RI (v := 1) hC hP hD hS [0, 1, 2] (fh15305, th15306) rfl rfl (by decide) (Or.inl ⟨rfl, by dsimp only; omega⟩) (by decide +kernel) gX12_inHand_1.2.1
    · refine toQ hQ0 ?_
      exact RI (v := 0) hC hP hD hS [0, 1, 2] (fh15305, th15306) rfl rfl (by decide) (Or.inr rfl) (by decide +kernel) gX12_inHand_1.2.1
def K_m_knewBy (l : Launch) (G : GG) (h0 : Nat) (je : Nat) (th : Int32) (su : Int32) (nw : Nat) (nk : Nat) (mhasKept : Int32) (nt : Nat) (mtaped : Int32) (nr : Nat) (mrowMany : Int32) (mroundOf : Int32) (mroundFrom : Int32) (mouts : Int32) (nm : Nat) (mfromHour : Int32) (mtoHour : Int32) (ns : Nat) (mfrom : Int32) (mto : Int32) (msort : Int32) (misFault : Int32) (mdeep : Int32) (mcoded : Int32) (mlines : Int32) (nl : Nat) (nc : Nat) (nF : Nat) (np : Nat) (ntr : Nat) (nb : Nat) (mbestCost : Int32) (nso : Nat) (nsi : Nat) (nit : Nat) (nsh : Nat) (nsf : Nat) (nss : Nat) (nrc : Nat) (mtraced : Int32) (mdealer : Int32) (mnumber : Int32) (mwhose : Int32) (msize : Int32) (misParted : Int32) (fnw : Nat → Int32) (fnm : Nat → Int32) : Prop := MI l G yX12_knewBy cX12_knewBy 7 (some .int) 5 0 0 [.ref h0, .int (nI je), .int th, .int su] [(h0, oX12 nw nk mhasKept nt mtaped nr mrowMany mroundOf mroundFrom mouts nm mfromHour mtoHour ns mfrom mto msort misFault mdeep mcoded mlines nl nc nF np ntr nb mbestCost nso nsi nit nsh nsf nss nrc mtraced mdealer mnumber mwhose msize misParted), (nw, iA G 1662 fnw), (nm, iA G 36 fnm)] (fun (r : Int32) (u : Int32 × Int32 × (Nat → Int32)) => (True) ∧ (MB u.2.2)) (fun u : Int32 × Int32 × (Nat → Int32) => [(h0, oX12 nw nk mhasKept nt mtaped nr mrowMany mroundOf mroundFrom mouts nm u.1 u.2.1 ns mfrom mto msort misFault mdeep mcoded mlines nl nc nF np ntr nb mbestCost nso nsi nit nsh nsf nss nrc mtraced mdealer mnumber mwhose msize misParted), (nw, iA G 1662 fnw), (nm, iA G 36 u.2.2)])
set_option maxHeartbeats 4000000 in
set_option maxRecDepth 100000 in
theorem m_knewBy (l : Launch) (G : GG) (h0 : Nat) (je : Nat) (th : Int32) (su : Int32) (nw : Nat) (nk : Nat) (mhasKept : Int32) (nt : Nat) (mtaped : Int32) (nr : Nat) (mrowMany : Int32) (mroundOf : Int32) (mroundFrom : Int32) (mouts : Int32) (nm : Nat) (mfromHour : Int32) (mtoHour : Int32) (ns : Nat) (mfrom : Int32) (mto : Int32) (msort : Int32) (misFault : Int32) (mdeep : Int32) (mcoded : Int32) (mlines : Int32) (nl : Nat) (nc : Nat) (nF : Nat) (np : Nat) (ntr : Nat) (nb : Nat) (mbestCost : Int32) (nso : Nat) (nsi : Nat) (nit : Nat) (nsh : Nat) (nsf : Nat) (nss : Nat) (nrc : Nat) (mtraced : Int32) (mdealer : Int32) (mnumber : Int32) (mwhose : Int32) (msize : Int32) (misParted : Int32) (fnw : Nat → Int32) (fnm : Nat → Int32) (hje : je < 10) (hN : NI fnw) (hM : MB fnm) : K_m_knewBy l G h0 je th su nw nk mhasKept nt mtaped nr mrowMany mroundOf mroundFrom mouts nm mfromHour mtoHour ns mfrom mto msort misFault mdeep mcoded mlines nl nc nF np ntr nb mbestCost nso nsi nit nsh nsf nss nrc mtraced mdealer mnumber mwhose msize misParted fnw fnm := by
  refine MI.start (by decide +kernel) (Nat.le_of_ble_eq_true rfl) ?_
  intro p e s m below meth c A ls hC hK hP hD hS hA hl
  refine absQ (fun Q0 hQ0 => ?_)
  have hl : lv_has ls 7 [(0, .ref h0), (1, .int (nI je)), (2, .int th), (3, .int su)] := hl
  refine Kan8 hC (fun hx hb hr hml hB hown hlocks hnm => ?_)
  obtain ⟨kq, hkq, ekq⟩ := NI.nat hN (i := 5) (B := 12) (by decide +kernel) (by decide)
  refine lv_aload_n hx hb gX12_knewBy_0.1 rfl (lv_at0 hl) ?_
  refine iV (wr := []) hC hK hl hP hD hS hA (m_findClocks l G h0 nw nk mhasKept nt mtaped nr mrowMany mroundOf mroundFrom mouts nm mfromHour mtoHour ns mfrom mto msort misFault mdeep mcoded mlines nl nc nF np ntr nb mbestCost nso nsi nit nsh nsf nss nrc mtraced mdealer mnumber mwhose msize misParted fnw fnm (hN) (hM)) si_X12_148 [0, 1, 2] [] sm_0_1_2 fm_0_1_2 nd_0_1_2 rfl rfl (by decide) rfl rfl rfl rfl rfl (Nat.le_of_ble_eq_true rfl) rm_5_4_7 ⟨Nat.le_of_ble_eq_true rfl, Nat.le_of_ble_eq_true rfl⟩ gX12_knewBy_0.2.1 (fun r5309 gnm5311 H locs hr5309 hP hD hS => ?_)
  try dsimp only at hr5309
  refine Kpdr (ws := [(h0, oX12 nw nk mhasKept nt mtaped nr mrowMany mroundOf mroundFrom mouts nm mfromHour mtoHour ns mfrom mto msort misFault mdeep mcoded mlines nl nc nF np ntr nb mbestCost nso nsi nit nsh nsf nss nrc mtraced mdealer mnumber mwhose msize misParted), (nw, iA G 1662 fnw), (nm, iA G 36 gnm5311)]) hP hD (fun hP hD => ?_)
  obtain ⟨hr5309, w5312⟩ := hr5309
  rcases hr5309 with rfl | rfl
  · refine lv_istore (lv' := [(4, .int 1), (0, .ref h0), (1, .int (nI je)), (2, .int th), (3, .int su)]) hx hb gX12_knewBy_0.2.2.1 hl (by decide) rfl (fun ls hl => ?_)
    refine lv_ldc hx hb hown (hB _ m_1204) gX12_knewBy_0.2.2.2.1 ?_
    refine lv_istore (lv' := [(5, .int 100000), (4, .int 1), (0, .ref h0), (1, .int (nI je)), (2, .int th), (3, .int su)]) hx hb gX12_knewBy_0.2.2.2.2.1 hl (by decide) rfl (fun ls hl => ?_)
    refine lv_iconst (v := 0) hx hb gX12_knewBy_0.2.2.2.2.2.1 (by decide) ?_
    refine lv_istore (lv' := [(6, .int 0), (5, .int 100000), (4, .int 1), (0, .ref h0), (1, .int (nI je)), (2, .int th), (3, .int su)]) hx hb gX12_knewBy_0.2.2.2.2.2.2.1 hl (by decide) rfl (fun ls hl => ?_)
    have keyP : ∀ (nP kP : Nat) (be : Int32) (vfh : Int32) (vth : Int32) (H : Heap) (locs : List Loc) (ls : Array Slot), kP + nP = kq → va_PD G A [(h0, oX12 nw nk mhasKept nt mtaped nr mrowMany mroundOf mroundFrom mouts nm vfh vth ns mfrom mto msort misFault mdeep mcoded mlines nl nc nF np ntr nb mbestCost nso nsi nit nsh nsf nss nrc mtraced mdealer mnumber mwhose msize misParted), (nw, iA G 1662 fnw), (nm, iA G 36 gnm5311)] H → va_S A s.heap H locs → lv_has ls 7 [(6, .int (nI kP)), (5, .int be), (4, .int 1), (0, .ref h0), (1, .int (nI je)), (2, .int th), (3, .int su)] → W p l e (RM 5 0 0) s m ([.ref h0, .int (nI je), .int th, .int su] : List Value).toArray below meth c H locs 0 0 Q0 (F0 m 13 ls []) := by
      intro nP
      induction nP with
      | zero =>
        intro kP be vfh vth H locs ls hkP hPD hS hl
        refine Kan2 hPD (fun hP hD => ?_)
        obtain rfl : kq = kP := by omega
        have hl : lv_has ls 7 [(6, .int (nI kq)), (5, .int be), (4, .int 1), (0, .ref h0), (1, .int (nI je)), (2, .int th), (3, .int su)] := hl
        refine lv_iload hx hb gX12_knewBy_0.2.2.2.2.2.2.2.1 (lv_at0 hl) ?_
        refine lv_aload_n hx hb gX12_knewBy_0.2.2.2.2.2.2.2.2.1 rfl (lv_at3 hl) ?_
        refine gf_X12_9 hC rfl hK hP 0 rfl rfl gX12_knewBy_0.2.2.2.2.2.2.2.2.2 ?_
        refine lv_iconst (v := 5) hx hb gX12_knewBy_1.1 (by decide) ?_
        refine ald hC hK hP 1 rfl (vin (by decide +kernel)) (k := 5) (by decide +kernel) (v := nI kq) (ekq) gX12_knewBy_1.2.1 ?_
        refine lv_icmp_ge (tgt := 78) hx hb gX12_knewBy_1.2.2.1 (by decide) (fun _ => ?_) (fun c9 => absurd (Int32.le_refl _) c9)
        refine lv_iload hx hb gX12_knewBy_3.2.2.2.2.2.2.2.2.1 (lv_at1 hl) ?_
        refine toQ hQ0 ?_
        exact RI (v := be) hC hP hD hS [0, 1, 2] (vfh, vth, gnm5311) rfl rfl (by decide) (⟨trivial, by first | assumption | exact hM⟩) rfl gX12_knewBy_3.2.2.2.2.2.2.2.2.2
      | succ nP ihP =>
        intro kP be vfh vth H locs ls hkP hPD hS hl
        refine Kan2 hPD (fun hP hD => ?_)
        refine lv_iload hx hb gX12_knewBy_0.2.2.2.2.2.2.2.1 (lv_at0 hl) ?_
        refine lv_aload_n hx hb gX12_knewBy_0.2.2.2.2.2.2.2.2.1 rfl (lv_at3 hl) ?_
        refine gf_X12_9 hC rfl hK hP 0 rfl rfl gX12_knewBy_0.2.2.2.2.2.2.2.2.2 ?_
        refine lv_iconst (v := 5) hx hb gX12_knewBy_1.1 (by decide) ?_
        refine ald hC hK hP 1 rfl (vin (by decide +kernel)) (k := 5) (by decide +kernel) (v := nI kq) (ekq) gX12_knewBy_1.2.1 ?_
        refine lv_icmp_ge (tgt := 78) hx hb gX12_knewBy_1.2.2.1 (by decide) (fun c9 => absurd c9 (nI_ge (a := kP) (b := kq) (by omega) (by omega))) (fun _ => ?_)
        refine lv_aload_n hx hb gX12_knewBy_1.2.2.2.1 rfl (lv_at3 hl) ?_
        refine lv_iload hx hb gX12_knewBy_1.2.2.2.2.1 (lv_at0 hl) ?_
        refine lv_iconst (v := 2) hx hb gX12_knewBy_1.2.2.2.2.2.1 (by decide) ?_
        refine pV hC hK hl hP hD (m_paper l G h0 kP 2 nw nk mhasKept nt mtaped nr mrowMany mroundOf mroundFrom mouts nm vfh vth ns mfrom mto msort misFault mdeep mcoded mlines nl nc nF np ntr nb mbestCost nso nsi nit nsh nsf nss nrc mtraced mdealer mnumber mwhose msize misParted fnw (by omega) (by omega)) si_X12_88 [0, 1] sm_0_1 fm_0_1 nd_0_1 rfl rfl rfl rfl rfl (Nat.le_of_ble_eq_true rfl) rm_5_1_3 ⟨by first | exact Nat.le_of_ble_eq_true rfl | exact Nat.zero_le _, by first | exact Nat.le_of_ble_eq_true rfl | exact Nat.zero_le _⟩ gX12_knewBy_1.2.2.2.2.2.2.1 (Keqr ?_)
        refine lv_iload_n hx hb gX12_knewBy_1.2.2.2.2.2.2.2.1 rfl (lv_at5 hl) ?_
        refine pS hC hK hl (m_has l G (fnw (32 + 6 * kP + 2)) th) si_X12_99 rfl rfl (Nat.le_of_ble_eq_true rfl) rm_5_1_2 ⟨by first | exact Nat.le_of_ble_eq_true rfl | exact Nat.zero_le _, by first | exact Nat.le_of_ble_eq_true rfl | exact Nat.zero_le _⟩ gX12_knewBy_1.2.2.2.2.2.2.2.2.1 (Kors (Keqa fun a5317 => ?_) (Keqa fun a5317 => ?_))
        · refine lv_if_eq (tgt := 72) hx hb gX12_knewBy_1.2.2.2.2.2.2.2.2.2 (by decide) (fun c9 => absurd c9 (by decide)) (fun _ => ?_)
          refine lv_aload_n hx hb gX12_knewBy_2.1 rfl (lv_at3 hl) ?_
          refine lv_iload hx hb gX12_knewBy_2.2.1 (lv_at0 hl) ?_
          refine lv_iload_n hx hb gX12_knewBy_2.2.2.1 rfl (lv_at4 hl) ?_
          refine lv_iload hx hb gX12_knewBy_2.2.2.2.1 (lv_at2 hl) ?_
          refine iV (wr := []) hC hK hl hP hD hS hA (m_inHand l G h0 kP je 1 nw nk mhasKept nt mtaped nr mrowMany mroundOf mroundFrom mouts nm vfh vth ns mfrom mto msort misFault mdeep mcoded mlines nl nc nF np ntr nb mbestCost nso nsi nit nsh nsf nss nrc mtraced mdealer mnumber mwhose msize misParted fnw gnm5311 (by omega) (hje) (hN) (w5312)) si_X12_171 [0, 1, 2] [] sm_0_1_2 fm_0_1_2 nd_0_1_2 rfl rfl (by decide) rfl rfl rfl rfl rfl (Nat.le_of_ble_eq_true rfl) rm_5_4_4 ⟨Nat.le_of_ble_eq_true rfl, Nat.le_of_ble_eq_true rfl⟩ gX12_knewBy_2.2.2.2.2.1 (fun r5318 => Ktu2 fun fh15320 th15321 => ?_)
          intro H locs hr5318 hP hD hS
          try dsimp only at hr5318
          refine Kpdr (ws := [(h0, oX12 nw nk mhasKept nt mtaped nr mrowMany mroundOf mroundFrom mouts nm fh15320 th15321 ns mfrom mto msort misFault mdeep mcoded mlines nl nc nF np ntr nb mbestCost nso nsi nit nsh nsf nss nrc mtraced mdealer mnumber mwhose msize misParted), (nw, iA G 1662 fnw), (nm, iA G 36 gnm5311)]) hP hD (fun hP hD => ?_)
          rcases hr5318 with ⟨rfl, a5322⟩ | rfl
          · refine lv_if_eq (tgt := 72) hx hb gX12_knewBy_2.2.2.2.2.2.1 (by decide) (fun c9 => absurd c9 (by decide)) (fun _ => ?_)
            refine lv_iload hx hb gX12_knewBy_2.2.2.2.2.2.2.1 (lv_at1 hl) ?_
            refine lv_iload_n hx hb gX12_knewBy_2.2.2.2.2.2.2.2.1 rfl (lv_at6 hl) ?_
            refine lv_if_eq (tgt := 63) hx hb gX12_knewBy_2.2.2.2.2.2.2.2.2.1 (by decide) (fun c_53_5323 => ?_) (fun c_53_5323 => ?_)
            · refine lv_aload_n hx hb gX12_knewBy_3.2.2.1 rfl (lv_at3 hl) ?_
              refine gf_X12_161 hC rfl hK hP 0 rfl rfl gX12_knewBy_3.2.2.2.1 ?_
              refine va_mmin hx hb (hml.trans hl.1.symm) hown (hB _ m_1165) (hB _ m_373) (hB _ m_105) (hB _ m_374) (Nat.le_of_ble_eq_true rfl) (Nat.le_of_ble_eq_true rfl) (by first | exact Nat.le_of_ble_eq_true rfl | exact Nat.zero_le _)  (by first | exact Nat.le_of_ble_eq_true rfl | exact Nat.zero_le _) gX12_knewBy_3.2.2.2.2.1 ?_
              refine lv_topi (fun x5324 ex5324 => ?_)
              refine lv_istore (lv' := [(5, .int x5324), (6, .int (nI kP)), (4, .int 1), (0, .ref h0), (1, .int (nI je)), (2, .int th), (3, .int su)]) hx hb gX12_knewBy_3.2.2.2.2.2.1 hl (by decide) rfl (fun ls hl => ?_)
              refine lv_iinc (v := nI (kP + 1)) (lv' := [(6, .int (nI (kP + 1))), (5, .int x5324), (4, .int 1), (0, .ref h0), (1, .int (nI je)), (2, .int th), (3, .int su)]) hx hb gX12_knewBy_3.2.2.2.2.2.2.1 hl (k := 1) rfl (nI_1 _) (by decide) rfl (fun ls hl => ?_)
              refine lv_goto (tgt := 13) hx hb gX12_knewBy_3.2.2.2.2.2.2.2.1 (by decide) ?_
              exact ihP (kP + 1) x5324 fh15320 th15321 _ _ _ (by omega) (And.intro hP hD) hS (lv_sub hl [0, 1, 2, 3, 4, 5, 6] rfl)
            · refine lv_aload_n hx hb gX12_knewBy_2.2.2.2.2.2.2.2.2.2 rfl (lv_at3 hl) ?_
              refine gf_X12_164 hC rfl hK hP 0 rfl rfl gX12_knewBy_3.1 ?_
              refine lv_goto (tgt := 67) hx hb gX12_knewBy_3.2.1 (by decide) ?_
              refine va_mmin hx hb (hml.trans hl.1.symm) hown (hB _ m_1165) (hB _ m_373) (hB _ m_105) (hB _ m_374) (Nat.le_of_ble_eq_true rfl) (Nat.le_of_ble_eq_true rfl) (by first | exact Nat.le_of_ble_eq_true rfl | exact Nat.zero_le _)  (by first | exact Nat.le_of_ble_eq_true rfl | exact Nat.zero_le _) gX12_knewBy_3.2.2.2.2.1 ?_
              refine lv_topi (fun x5325 ex5325 => ?_)
              refine lv_istore (lv' := [(5, .int x5325), (6, .int (nI kP)), (4, .int 1), (0, .ref h0), (1, .int (nI je)), (2, .int th), (3, .int su)]) hx hb gX12_knewBy_3.2.2.2.2.2.1 hl (by decide) rfl (fun ls hl => ?_)
              refine lv_iinc (v := nI (kP + 1)) (lv' := [(6, .int (nI (kP + 1))), (5, .int x5325), (4, .int 1), (0, .ref h0), (1, .int (nI je)), (2, .int th), (3, .int su)]) hx hb gX12_knewBy_3.2.2.2.2.2.2.1 hl (k := 1) rfl (nI_1 _) (by decide) rfl (fun ls hl => ?_)
              refine lv_goto (tgt := 13) hx hb gX12_knewBy_3.2.2.2.2.2.2.2.1 (by decide) ?_
              exact ihP (kP + 1) x5325 fh15320 th15321 _ _ _ (by omega) (And.intro hP hD) hS (lv_sub hl [0, 1, 2, 3, 4, 5, 6] rfl)
          · refine lv_if_eq (tgt := 72) hx hb gX12_knewBy_2.2.2.2.2.2.1 (by decide) (fun _ => ?_) (fun c9 => absurd (by decide) c9)
            refine lv_iinc (v := nI (kP + 1)) (lv' := [(6, .int (nI (kP + 1))), (5, .int be), (4, .int 1), (0, .ref h0), (1, .int (nI je)), (2, .int th), (3, .int su)]) hx hb gX12_knewBy_3.2.2.2.2.2.2.1 hl (k := 0) rfl (nI_1 _) (by decide) rfl (fun ls hl => ?_)
            refine lv_goto (tgt := 13) hx hb gX12_knewBy_3.2.2.2.2.2.2.2.1 (by decide) ?_
            exact ihP (kP + 1) be fh15320 th15321 _ _ _ (by omega) (And.intro hP hD) hS (lv_sub hl [0, 1, 2, 3, 4, 5, 6] rfl)
        · refine lv_if_eq (tgt := 72) hx hb gX12_knewBy_1.2.2.2.2.2.2.2.2.2 (by decide) (fun _ => ?_) (fun c9 => absurd (by decide) c9)
          refine lv_iinc (v := nI (kP + 1)) (lv' := [(6, .int (nI (kP + 1))), (5, .int be), (4, .int 1), (0, .ref h0), (1, .int (nI je)), (2, .int th), (3, .int su)]) hx hb gX12_knewBy_3.2.2.2.2.2.2.1 hl (k := 0) rfl (nI_1 _) (by decide) rfl (fun ls hl => ?_)
          refine lv_goto (tgt := 13) hx hb gX12_knewBy_3.2.2.2.2.2.2.2.1 (by decide) ?_
          exact ihP (kP + 1) be vfh vth _ _ _ (by omega) (And.intro hP hD) hS (lv_sub hl [0, 1, 2, 3, 4, 5, 6] rfl)
    exact keyP kq 0 100000 mfromHour mtoHour _ _ _ (by omega) (And.intro hP hD) hS (lv_sub hl [0, 1, 2, 3, 4, 5, 6] rfl)
  · refine lv_istore (lv' := [(4, .int 0), (0, .ref h0), (1, .int (nI je)), (2, .int th), (3, .int su)]) hx hb gX12_knewBy_0.2.2.1 hl (by decide) rfl (fun ls hl => ?_)
    refine lv_ldc hx hb hown (hB _ m_1204) gX12_knewBy_0.2.2.2.1 ?_
    refine lv_istore (lv' := [(5, .int 100000), (4, .int 0), (0, .ref h0), (1, .int (nI je)), (2, .int th), (3, .int su)]) hx hb gX12_knewBy_0.2.2.2.2.1 hl (by decide) rfl (fun ls hl => ?_)
    refine lv_iconst (v := 0) hx hb gX12_knewBy_0.2.2.2.2.2.1 (by decide) ?_
    refine lv_istore (lv' := [(6, .int 0), (5, .int 100000), (4, .int 0), (0, .ref h0), (1, .int (nI je)), (2, .int th), (3, .int su)]) hx hb gX12_knewBy_0.2.2.2.2.2.2.1 hl (by decide) rfl (fun ls hl => ?_)
    have keyP : ∀ (nP kP : Nat) (be : Int32) (vfh : Int32) (vth : Int32) (H : Heap) (locs : List Loc) (ls : Array Slot), kP + nP = kq → va_PD G A [(h0, oX12 nw nk mhasKept nt mtaped nr mrowMany mroundOf mroundFrom mouts nm vfh vth ns mfrom mto msort misFault mdeep mcoded mlines nl nc nF np ntr nb mbestCost nso nsi nit nsh nsf nss nrc mtraced mdealer mnumber mwhose msize misParted), (nw, iA G 1662 fnw), (nm, iA G 36 gnm5311)] H → va_S A s.heap H locs → lv_has ls 7 [(6, .int (nI kP)), (5, .int be), (4, .int 0), (0, .ref h0), (1, .int (nI je)), (2, .int th), (3, .int su)] → W p l e (RM 5 0 0) s m ([.ref h0, .int (nI je), .int th, .int su] : List Value).toArray below meth c H locs 0 0 Q0 (F0 m 13 ls []) := by
      intro nP
      induction nP with
      | zero =>
        intro kP be vfh vth H locs ls hkP hPD hS hl
        refine Kan2 hPD (fun hP hD => ?_)
        obtain rfl : kq = kP := by omega
        have hl : lv_has ls 7 [(6, .int (nI kq)), (5, .int be), (4, .int 0), (0, .ref h0), (1, .int (nI je)), (2, .int th), (3, .int su)] := hl
        refine lv_iload hx hb gX12_knewBy_0.2.2.2.2.2.2.2.1 (lv_at0 hl) ?_
        refine lv_aload_n hx hb gX12_knewBy_0.2.2.2.2.2.2.2.2.1 rfl (lv_at3 hl) ?_
        refine gf_X12_9 hC rfl hK hP 0 rfl rfl gX12_knewBy_0.2.2.2.2.2.2.2.2.2 ?_
        refine lv_iconst (v := 5) hx hb gX12_knewBy_1.1 (by decide) ?_
        refine ald hC hK hP 1 rfl (vin (by decide +kernel)) (k := 5) (by decide +kernel) (v := nI kq) (ekq) gX12_knewBy_1.2.1 ?_
        refine lv_icmp_ge (tgt := 78) hx hb gX12_knewBy_1.2.2.1 (by decide) (fun _ => ?_) (fun c9 => absurd (Int32.le_refl _) c9)
        refine lv_iload hx hb gX12_knewBy_3.2.2.2.2.2.2.2.2.1 (lv_at1 hl) ?_
        refine toQ hQ0 ?_
        exact RI (v := be) hC hP hD hS [0, 1, 2] (vfh, vth, gnm5311) rfl rfl (by decide) (⟨trivial, by first | assumption | exact hM⟩) rfl gX12_knewBy_3.2.2.2.2.2.2.2.2.2
      | succ nP ihP =>
        intro kP be vfh vth H locs ls hkP hPD hS hl
        refine Kan2 hPD (fun hP hD => ?_)
        refine lv_iload hx hb gX12_knewBy_0.2.2.2.2.2.2.2.1 (lv_at0 hl) ?_
        refine lv_aload_n hx hb gX12_knewBy_0.2.2.2.2.2.2.2.2.1 rfl (lv_at3 hl) ?_
        refine gf_X12_9 hC rfl hK hP 0 rfl rfl gX12_knewBy_0.2.2.2.2.2.2.2.2.2 ?_
        refine lv_iconst (v := 5) hx hb gX12_knewBy_1.1 (by decide) ?_
        refine ald hC hK hP 1 rfl (vin (by decide +kernel)) (k := 5) (by decide +kernel) (v := nI kq) (ekq) gX12_knewBy_1.2.1 ?_
        refine lv_icmp_ge (tgt := 78) hx hb gX12_knewBy_1.2.2.1 (by decide) (fun c9 => absurd c9 (nI_ge (a := kP) (b := kq) (by omega) (by omega))) (fun _ => ?_)
        refine lv_aload_n hx hb gX12_knewBy_1.2.2.2.1 rfl (lv_at3 hl) ?_
        refine lv_iload hx hb gX12_knewBy_1.2.2.2.2.1 (lv_at0 hl) ?_
        refine lv_iconst (v := 2) hx hb gX12_knewBy_1.2.2.2.2.2.1 (by decide) ?_
        refine pV hC hK hl hP hD (m_paper l G h0 kP 2 nw nk mhasKept nt mtaped nr mrowMany mroundOf mroundFrom mouts nm vfh vth ns mfrom mto msort misFault mdeep mcoded mlines nl nc nF np ntr nb mbestCost nso nsi nit nsh nsf nss nrc mtraced mdealer mnumber mwhose msize misParted fnw (by omega) (by omega)) si_X12_88 [0, 1] sm_0_1 fm_0_1 nd_0_1 rfl rfl rfl rfl rfl (Nat.le_of_ble_eq_true rfl) rm_5_1_3 ⟨by first | exact Nat.le_of_ble_eq_true rfl | exact Nat.zero_le _, by first | exact Nat.le_of_ble_eq_true rfl | exact Nat.zero_le _⟩ gX12_knewBy_1.2.2.2.2.2.2.1 (Keqr ?_)
        refine lv_iload_n hx hb gX12_knewBy_1.2.2.2.2.2.2.2.1 rfl (lv_at5 hl) ?_
        refine pS hC hK hl (m_has l G (fnw (32 + 6 * kP + 2)) th) si_X12_99 rfl rfl (Nat.le_of_ble_eq_true rfl) rm_5_1_2 ⟨by first | exact Nat.le_of_ble_eq_true rfl | exact Nat.zero_le _, by first | exact Nat.le_of_ble_eq_true rfl | exact Nat.zero_le _⟩ gX12_knewBy_1.2.2.2.2.2.2.2.2.1 (Kors (Keqa fun a5329 => ?_) (Keqa fun a5329 => ?_))
        · refine lv_if_eq (tgt := 72) hx hb gX12_knewBy_1.2.2.2.2.2.2.2.2.2 (by decide) (fun c9 => absurd c9 (by decide)) (fun _ => ?_)
          refine lv_aload_n hx hb gX12_knewBy_2.1 rfl (lv_at3 hl) ?_
          refine lv_iload hx hb gX12_knewBy_2.2.1 (lv_at0 hl) ?_
          refine lv_iload_n hx hb gX12_knewBy_2.2.2.1 rfl (lv_at4 hl) ?_
          refine lv_iload hx hb gX12_knewBy_2.2.2.2.1 (lv_at2 hl) ?_
          refine iV (wr := []) hC hK hl hP hD hS hA (m_inHand l G h0 kP je 0 nw nk mhasKept nt mtaped nr mrowMany mroundOf mroundFrom mouts nm vfh vth ns mfrom mto msort misFault mdeep mcoded mlines nl nc nF np ntr nb mbestCost nso nsi nit nsh nsf nss nrc mtraced mdealer mnumber mwhose msize misParted fnw gnm5311 (by omega) (hje) (hN) (w5312)) si_X12_171 [0, 1, 2] [] sm_0_1_2 fm_0_1_2 nd_0_1_2 rfl rfl (by decide) rfl rfl rfl rfl rfl (Nat.le_of_ble_eq_true rfl) rm_5_4_4 ⟨Nat.le_of_ble_eq_true rfl, Nat.le_of_ble_eq_true rfl⟩ gX12_knewBy_2.2.2.2.2.1 (fun r5330 => Ktu2 fun fh15332 th15333 => ?_)
          intro H locs hr5330 hP hD hS
          try dsimp only at hr5330
          refine Kpdr (ws := [(h0, oX12 nw nk mhasKept nt mtaped nr mrowMany mroundOf mroundFrom mouts nm fh15332 th15333 ns mfrom mto msort misFault mdeep mcoded mlines nl nc nF np ntr nb mbestCost nso nsi nit nsh nsf nss nrc mtraced mdealer mnumber mwhose msize misParted), (nw, iA G 1662 fnw), (nm, iA G 36 gnm5311)]) hP hD (fun hP hD => ?_)
          rcases hr5330 with ⟨rfl, a5334⟩ | rfl
          · refine lv_if_eq (tgt := 72) hx hb gX12_knewBy_2.2.2.2.2.2.1 (by decide) (fun c9 => absurd c9 (by decide)) (fun _ => ?_)
            refine lv_iload hx hb gX12_knewBy_2.2.2.2.2.2.2.1 (lv_at1 hl) ?_
            refine lv_iload_n hx hb gX12_knewBy_2.2.2.2.2.2.2.2.1 rfl (lv_at6 hl) ?_
            refine lv_if_eq (tgt := 63) hx hb gX12_knewBy_2.2.2.2.2.2.2.2.2.1 (by decide) (fun c_53_5335 => ?_) (fun c_53_5335 => ?_)
            · refine lv_aload_n hx hb gX12_knewBy_3.2.2.1 rfl (lv_at3 hl) ?_
              refine gf_X12_161 hC rfl hK hP 0 rfl rfl gX12_knewBy_3.2.2.2.1 ?_
              refine va_mmin hx hb (hml.trans hl.1.symm) hown (hB _ m_1165) (hB _ m_373) (hB _ m_105) (hB _ m_374) (Nat.le_of_ble_eq_true rfl) (Nat.le_of_ble_eq_true rfl) (by first | exact Nat.le_of_ble_eq_true rfl | exact Nat.zero_le _)  (by first | exact Nat.le_of_ble_eq_true rfl | exact Nat.zero_le _) gX12_knewBy_3.2.2.2.2.1 ?_
              refine lv_topi (fun x5336 ex5336 => ?_)
              refine lv_istore (lv' := [(5, .int x5336), (6, .int (nI kP)), (4, .int 0), (0, .ref h0), (1, .int (nI je)), (2, .int th), (3, .int su)]) hx hb gX12_knewBy_3.2.2.2.2.2.1 hl (by decide) rfl (fun ls hl => ?_)
              refine lv_iinc (v := nI (kP + 1)) (lv' := [(6, .int (nI (kP + 1))), (5, .int x5336), (4, .int 0), (0, .ref h0), (1, .int (nI je)), (2, .int th), (3, .int su)]) hx hb gX12_knewBy_3.2.2.2.2.2.2.1 hl (k := 1) rfl (nI_1 _) (by decide) rfl (fun ls hl => ?_)
              refine lv_goto (tgt := 13) hx hb gX12_knewBy_3.2.2.2.2.2.2.2.1 (by decide) ?_
              exact ihP (kP + 1) x5336 fh15332 th15333 _ _ _ (by omega) (And.intro hP hD) hS (lv_sub hl [0, 1, 2, 3, 4, 5, 6] rfl)
            · refine lv_aload_n hx hb gX12_knewBy_2.2.2.2.2.2.2.2.2.2 rfl (lv_at3 hl) ?_
              refine gf_X12_164 hC rfl hK hP 0 rfl rfl gX12_knewBy_3.1 ?_
              refine lv_goto (tgt := 67) hx hb gX12_knewBy_3.2.1 (by decide) ?_
              refine va_mmin hx hb (hml.trans hl.1.symm) hown (hB _ m_1165) (hB _ m_373) (hB _ m_105) (hB _ m_374) (Nat.le_of_ble_eq_true rfl) (Nat.le_of_ble_eq_true rfl) (by first | exact Nat.le_of_ble_eq_true rfl | exact Nat.zero_le _)  (by first | exact Nat.le_of_ble_eq_true rfl | exact Nat.zero_le _) gX12_knewBy_3.2.2.2.2.1 ?_
              refine lv_topi (fun x5337 ex5337 => ?_)
              refine lv_istore (lv' := [(5, .int x5337), (6, .int (nI kP)), (4, .int 0), (0, .ref h0), (1, .int (nI je)), (2, .int th), (3, .int su)]) hx hb gX12_knewBy_3.2.2.2.2.2.1 hl (by decide) rfl (fun ls hl => ?_)
              refine lv_iinc (v := nI (kP + 1)) (lv' := [(6, .int (nI (kP + 1))), (5, .int x5337), (4, .int 0), (0, .ref h0), (1, .int (nI je)), (2, .int th), (3, .int su)]) hx hb gX12_knewBy_3.2.2.2.2.2.2.1 hl (k := 1) rfl (nI_1 _) (by decide) rfl (fun ls hl => ?_)
              refine lv_goto (tgt := 13) hx hb gX12_knewBy_3.2.2.2.2.2.2.2.1 (by decide) ?_
              exact ihP (kP + 1) x5337 fh15332 th15333 _ _ _ (by omega) (And.intro hP hD) hS (lv_sub hl [0, 1, 2, 3, 4, 5, 6] rfl)
          · refine lv_if_eq (tgt := 72) hx hb gX12_knewBy_2.2.2.2.2.2.1 (by decide) (fun _ => ?_) (fun c9 => absurd (by decide) c9)
            refine lv_iinc (v := nI (kP + 1)) (lv' := [(6, .int (nI (kP + 1))), (5, .int be), (4, .int 0), (0, .ref h0), (1, .int (nI je)), (2, .int th), (3, .int su)]) hx hb gX12_knewBy_3.2.2.2.2.2.2.1 hl (k := 0) rfl (nI_1 _) (by decide) rfl (fun ls hl => ?_)
            refine lv_goto (tgt := 13) hx hb gX12_knewBy_3.2.2.2.2.2.2.2.1 (by decide) ?_
            exact ihP (kP + 1) be fh15332 th15333 _ _ _ (by omega) (And.intro hP hD) hS (lv_sub hl [0, 1, 2, 3, 4, 5, 6] rfl)
        · refine lv_if_eq (tgt := 72) hx hb gX12_knewBy_1.2.2.2.2.2.2.2.2.2 (by decide) (fun _ => ?_) (fun c9 => absurd (by decide) c9)
          refine lv_iinc (v := nI (kP + 1)) (lv' := [(6, .int (nI (kP + 1))), (5, .int be), (4, .int 0), (0, .ref h0), (1, .int (nI je)), (2, .int th), (3, .int su)]) hx hb gX12_knewBy_3.2.2.2.2.2.2.1 hl (k := 0) rfl (nI_1 _) (by decide) rfl (fun ls hl => ?_)
          refine lv_goto (tgt := 13) hx hb gX12_knewBy_3.2.2.2.2.2.2.2.1 (by decide) ?_
          exact ihP (kP + 1) be vfh vth _ _ _ (by omega) (And.intro hP hD) hS (lv_sub hl [0, 1, 2, 3, 4, 5, 6] rfl)
    exact keyP kq 0 100000 mfromHour mtoHour _ _ _ (by omega) (And.intro hP hD) hS (lv_sub hl [0, 1, 2, 3, 4, 5, 6] rfl)
def K_m_doubt (l : Launch) (G : GG) (h0 : Nat) (nw : Nat) (nk : Nat) (mhasKept : Int32) (nt : Nat) (mtaped : Int32) (nr : Nat) (mrowMany : Int32) (mroundOf : Int32) (mroundFrom : Int32) (nm : Nat) (mfromHour : Int32) (mtoHour : Int32) (ns : Nat) (mfrom : Int32) (mto : Int32) (msort : Int32) (misFault : Int32) (mdeep : Int32) (mcoded : Int32) (mlines : Int32) (nl : Nat) (nc : Nat) (nF : Nat) (np : Nat) (ntr : Nat) (nb : Nat) (mbestCost : Int32) (nso : Nat) (nsi : Nat) (nit : Nat) (nsh : Nat) (nsf : Nat) (nss : Nat) (nrc : Nat) (mtraced : Int32) (mdealer : Int32) (mnumber : Int32) (mwhose : Int32) (msize : Int32) (misParted : Int32) (fnw : Nat → Int32) (fnm : Nat → Int32) : Prop := MI l G yX12_doubt cX12_doubt 6 (some .int) 5 0 0 [.ref h0] [(h0, oX12 nw nk mhasKept nt mtaped nr mrowMany mroundOf mroundFrom 0 nm mfromHour mtoHour ns mfrom mto msort misFault mdeep mcoded mlines nl nc nF np ntr nb mbestCost nso nsi nit nsh nsf nss nrc mtraced mdealer mnumber mwhose msize misParted), (nw, iA G 1662 fnw), (nm, iA G 36 fnm)] (fun (r : Int32) (u : (Nat → Int32)) => (True) ∧ (MB u)) (fun u : (Nat → Int32) => [(h0, oX12 nw nk mhasKept nt mtaped nr mrowMany mroundOf mroundFrom 0 nm mfromHour mtoHour ns mfrom mto msort misFault mdeep mcoded mlines nl nc nF np ntr nb mbestCost nso nsi nit nsh nsf nss nrc mtraced mdealer mnumber mwhose msize misParted), (nw, iA G 1662 fnw), (nm, iA G 36 u)])
set_option maxHeartbeats 4000000 in
set_option maxRecDepth 100000 in
theorem m_doubt (l : Launch) (G : GG) (h0 : Nat) (nw : Nat) (nk : Nat) (mhasKept : Int32) (nt : Nat) (mtaped : Int32) (nr : Nat) (mrowMany : Int32) (mroundOf : Int32) (mroundFrom : Int32) (nm : Nat) (mfromHour : Int32) (mtoHour : Int32) (ns : Nat) (mfrom : Int32) (mto : Int32) (msort : Int32) (misFault : Int32) (mdeep : Int32) (mcoded : Int32) (mlines : Int32) (nl : Nat) (nc : Nat) (nF : Nat) (np : Nat) (ntr : Nat) (nb : Nat) (mbestCost : Int32) (nso : Nat) (nsi : Nat) (nit : Nat) (nsh : Nat) (nsf : Nat) (nss : Nat) (nrc : Nat) (mtraced : Int32) (mdealer : Int32) (mnumber : Int32) (mwhose : Int32) (msize : Int32) (misParted : Int32) (fnw : Nat → Int32) (fnm : Nat → Int32) (hN : NI fnw) (hM : MB fnm) : K_m_doubt l G h0 nw nk mhasKept nt mtaped nr mrowMany mroundOf mroundFrom nm mfromHour mtoHour ns mfrom mto msort misFault mdeep mcoded mlines nl nc nF np ntr nb mbestCost nso nsi nit nsh nsf nss nrc mtraced mdealer mnumber mwhose msize misParted fnw fnm := by
  refine MI.start (by decide +kernel) (Nat.le_of_ble_eq_true rfl) ?_
  intro p e s m below meth c A ls hC hK hP hD hS hA hl
  refine absQ (fun Q0 hQ0 => ?_)
  have hl : lv_has ls 6 [(0, .ref h0)] := hl
  refine Kan8 hC (fun hx hb hr hml hB hown hlocks hnm => ?_)
  obtain ⟨kq, hkq, ekq⟩ := NI.nat hN (i := 5) (B := 12) (by decide +kernel) (by decide)
  obtain ⟨k6, hk6, ek6⟩ := NI.nat hN (i := 6) (B := 24) (by decide +kernel) (by decide)
  refine lv_iconst (v := 0) hx hb gX12_doubt_0.1 (by decide) ?_
  refine lv_istore_n (lv' := [(1, .int 0), (0, .ref h0)]) hx hb gX12_doubt_0.2.1 rfl hl (by decide) rfl (fun ls hl => ?_)
  refine lv_bipush (v := 13) hx hb gX12_doubt_0.2.2.1 (by decide) ?_
  refine lv_istore_n (lv' := [(2, .int 13), (1, .int 0), (0, .ref h0)]) hx hb gX12_doubt_0.2.2.2.1 rfl hl (by decide) rfl (fun ls hl => ?_)
  refine lv_iconst (v := 0) hx hb gX12_doubt_0.2.2.2.2.1 (by decide) ?_
  refine lv_istore_n (lv' := [(3, .int 0), (2, .int 13), (1, .int 0), (0, .ref h0)]) hx hb gX12_doubt_0.2.2.2.2.2.1 rfl hl (by decide) rfl (fun ls hl => ?_)
  have keyP : ∀ (nP kP : Nat) (be : Int32) (fe : Int32) (vP : Nat → Int32) (H : Heap) (locs : List Loc) (ls : Array Slot), kP < 2 ^ 31 → ((1 <<< ((nI kq) &&& 31))).toInt ≤ ((kP + nP : Nat) : Int) → (MB vP) → va_PD G A [(h0, oX12 nw nk mhasKept nt mtaped nr mrowMany mroundOf mroundFrom 0 nm mfromHour mtoHour ns mfrom mto msort misFault mdeep mcoded mlines nl nc nF np ntr nb mbestCost nso nsi nit nsh nsf nss nrc mtraced mdealer mnumber mwhose msize misParted), (nw, iA G 1662 fnw), (nm, iA G 36 vP)] H → va_S A s.heap H locs → lv_has ls 6 [(3, .int (nI kP)), (2, .int fe), (1, .int be), (0, .ref h0)] → W p l e (RM 5 0 0) s m ([.ref h0] : List Value).toArray below meth c H locs 0 0 Q0 (F0 m 7 ls []) := by
    intro nP
    induction nP with
    | zero =>
      intro kP be fe vP H locs ls hjP hkP hvP hPD hS hl
      refine Kan2 hPD (fun hP hD => ?_)
      have hzP : (1 <<< ((nI kq) &&& 31)) ≤ nI kP := bz hjP (by omega)
      refine lv_iload_n hx hb gX12_doubt_0.2.2.2.2.2.2.1 rfl (lv_at0 hl) ?_
      refine lv_iconst (v := 1) hx hb gX12_doubt_0.2.2.2.2.2.2.2.1 (by decide) ?_
      refine lv_aload_n hx hb gX12_doubt_0.2.2.2.2.2.2.2.2.1 rfl (lv_at3 hl) ?_
      refine gf_X12_9 hC rfl hK hP 0 rfl rfl gX12_doubt_0.2.2.2.2.2.2.2.2.2 ?_
      refine lv_iconst (v := 5) hx hb gX12_doubt_1.1 (by decide) ?_
      refine ald hC hK hP 1 rfl (vin (by decide +kernel)) (k := 5) (by decide +kernel) (v := nI kq) (ekq) gX12_doubt_1.2.1 ?_
      refine lv_ishl hx hb gX12_doubt_1.2.2.1 ?_
      refine lv_icmp_ge (tgt := 128) hx hb gX12_doubt_1.2.2.2.1 (by decide) (fun _ => ?_) (fun c9 => absurd (hzP) c9)
      refine lv_iload_n hx hb gX12_doubt_6.2.2.2.2.2.2.2.2.1 rfl (lv_at2 hl) ?_
      refine toQ hQ0 ?_
      exact RI (v := be) hC hP hD hS [0, 1, 2] vP rfl rfl (by decide) (⟨trivial, by first | assumption | exact hM⟩) rfl gX12_doubt_6.2.2.2.2.2.2.2.2.2
    | succ nP ihP =>
      intro kP be fe vP H locs ls hjP hkP hvP hPD hS hl
      refine Kan2 hPD (fun hP hD => ?_)
      refine lv_iload_n hx hb gX12_doubt_0.2.2.2.2.2.2.1 rfl (lv_at0 hl) ?_
      refine lv_iconst (v := 1) hx hb gX12_doubt_0.2.2.2.2.2.2.2.1 (by decide) ?_
      refine lv_aload_n hx hb gX12_doubt_0.2.2.2.2.2.2.2.2.1 rfl (lv_at3 hl) ?_
      refine gf_X12_9 hC rfl hK hP 0 rfl rfl gX12_doubt_0.2.2.2.2.2.2.2.2.2 ?_
      refine lv_iconst (v := 5) hx hb gX12_doubt_1.1 (by decide) ?_
      refine ald hC hK hP 1 rfl (vin (by decide +kernel)) (k := 5) (by decide +kernel) (v := nI kq) (ekq) gX12_doubt_1.2.1 ?_
      refine lv_ishl hx hb gX12_doubt_1.2.2.1 ?_
      refine lv_icmp_ge (tgt := 128) hx hb gX12_doubt_1.2.2.2.1 (by decide) (fun c_16_5338 => ?_) (fun c_16_5338 => ?_)
      · refine lv_iload_n hx hb gX12_doubt_6.2.2.2.2.2.2.2.2.1 rfl (lv_at2 hl) ?_
        refine toQ hQ0 ?_
        exact RI (v := be) hC hP hD hS [0, 1, 2] vP rfl rfl (by decide) (⟨trivial, by first | assumption | exact hM⟩) rfl gX12_doubt_6.2.2.2.2.2.2.2.2.2
      · refine lv_iload_n hx hb gX12_doubt_1.2.2.2.2.1 rfl (lv_at0 hl) ?_
        refine pS hC hK hl (m_bits l G (nI kP)) si_X12_110 rfl rfl (Nat.le_of_ble_eq_true rfl) rm_5_1_3 ⟨by first | exact Nat.le_of_ble_eq_true rfl | exact Nat.zero_le _, by first | exact Nat.le_of_ble_eq_true rfl | exact Nat.zero_le _⟩ gX12_doubt_1.2.2.2.2.2.1 (fun r5339 hr5339 => ?_)
        refine lv_iload_n hx hb gX12_doubt_1.2.2.2.2.2.2.1 rfl (lv_at1 hl) ?_
        refine lv_icmp_ge (tgt := 31) hx hb gX12_doubt_1.2.2.2.2.2.2.2.1 (by decide) (fun c_24_5340 => ?_) (fun c_24_5340 => ?_)
        · refine lv_iconst (v := 0) hx hb gX12_doubt_2.1 (by decide) ?_
          refine lv_istore (lv' := [(4, .int 0), (3, .int (nI kP)), (2, .int fe), (1, .int be), (0, .ref h0)]) hx hb gX12_doubt_2.2.1 hl (by decide) rfl (fun ls hl => ?_)
          refine lv_iconst (v := 0) hx hb gX12_doubt_2.2.2.1 (by decide) ?_
          refine lv_istore (lv' := [(5, .int 0), (4, .int 0), (3, .int (nI kP)), (2, .int fe), (1, .int be), (0, .ref h0)]) hx hb gX12_doubt_2.2.2.2.1 hl (by decide) rfl (fun ls hl => ?_)
          have keyQ : ∀ (nQ kQ : Nat) (ma : Int32) (H : Heap) (locs : List Loc) (ls : Array Slot), kQ + nQ = kq → va_PD G A [(h0, oX12 nw nk mhasKept nt mtaped nr mrowMany mroundOf mroundFrom 0 nm mfromHour mtoHour ns mfrom mto msort misFault mdeep mcoded mlines nl nc nF np ntr nb mbestCost nso nsi nit nsh nsf nss nrc mtraced mdealer mnumber mwhose msize misParted), (nw, iA G 1662 fnw), (nm, iA G 36 vP)] H → va_S A s.heap H locs → lv_has ls 6 [(5, .int (nI kQ)), (4, .int ma), (3, .int (nI kP)), (2, .int fe), (1, .int be), (0, .ref h0)] → W p l e (RM 5 0 0) s m ([.ref h0] : List Value).toArray below meth c H locs 0 0 Q0 (F0 m 37 ls []) := by
            intro nQ
            induction nQ with
            | zero =>
              intro kQ ma H locs ls hkQ hPD hS hl
              refine Kan2 hPD (fun hP hD => ?_)
              obtain rfl : kq = kQ := by omega
              have hl : lv_has ls 6 [(5, .int (nI kq)), (4, .int ma), (3, .int (nI kP)), (2, .int fe), (1, .int be), (0, .ref h0)] := hl
              refine lv_iload hx hb gX12_doubt_2.2.2.2.2.1 (lv_at0 hl) ?_
              refine lv_aload_n hx hb gX12_doubt_2.2.2.2.2.2.1 rfl (lv_at5 hl) ?_
              refine gf_X12_9 hC rfl hK hP 0 rfl rfl gX12_doubt_2.2.2.2.2.2.2.1 ?_
              refine lv_iconst (v := 5) hx hb gX12_doubt_2.2.2.2.2.2.2.2.1 (by decide) ?_
              refine ald hC hK hP 1 rfl (vin (by decide +kernel)) (k := 5) (by decide +kernel) (v := nI kq) (ekq) gX12_doubt_2.2.2.2.2.2.2.2.2.1 ?_
              refine lv_icmp_ge (tgt := 93) hx hb gX12_doubt_2.2.2.2.2.2.2.2.2.2 (by decide) (fun _ => ?_) (fun c9 => absurd (Int32.le_refl _) c9)
              refine lv_iload hx hb gX12_doubt_5.1 (lv_at1 hl) ?_
              refine lv_if_eq (tgt := 122) hx hb gX12_doubt_5.2.1 (by decide) (fun c_95_5341 => ?_) (fun c_95_5341 => ?_)
              · refine lv_iinc (v := nI (kP + 1)) (lv' := [(3, .int (nI (kP + 1))), (5, .int (nI kq)), (4, .int ma), (2, .int fe), (1, .int be), (0, .ref h0)]) hx hb gX12_doubt_6.2.2.2.2.2.2.1 hl (k := 2) rfl (nI_1 _) (by decide) rfl (fun ls hl => ?_)
                refine lv_goto (tgt := 7) hx hb gX12_doubt_6.2.2.2.2.2.2.2.1 (by decide) ?_
                exact ihP (kP + 1) be fe vP _ _ _ (bs hjP c_16_5338) (by omega) (by first | assumption | exact Or.inl rfl | exact Or.inr rfl) (And.intro hP hD) hS (lv_sub hl [0, 3, 4, 5] rfl)
              · refine lv_aload_n hx hb gX12_doubt_5.2.2.1 rfl (lv_at5 hl) ?_
                refine lv_iload_n hx hb gX12_doubt_5.2.2.2.1 rfl (lv_at2 hl) ?_
                refine pf_X12_96 hC rfl hK hP hD hS 0 (ws' := [(h0, oX12 nw nk mhasKept nt mtaped nr mrowMany mroundOf mroundFrom (nI kP) nm mfromHour mtoHour ns mfrom mto msort misFault mdeep mcoded mlines nl nc nF np ntr nb mbestCost nso nsi nit nsh nsf nss nrc mtraced mdealer mnumber mwhose msize misParted), (nw, iA G 1662 fnw), (nm, iA G 36 vP)]) rfl (Nat.le_of_ble_eq_true rfl) rfl rfl rfl gX12_doubt_5.2.2.2.2.1 (fun H locs hP hD hS => ?_)
                refine lv_aload_n hx hb gX12_doubt_5.2.2.2.2.2.1 rfl (lv_at5 hl) ?_
                refine iV (wr := []) hC hK hl hP hD hS hA (m_findClocks l G h0 nw nk mhasKept nt mtaped nr mrowMany mroundOf mroundFrom (nI kP) nm mfromHour mtoHour ns mfrom mto msort misFault mdeep mcoded mlines nl nc nF np ntr nb mbestCost nso nsi nit nsh nsf nss nrc mtraced mdealer mnumber mwhose msize misParted fnw vP (hN) (hvP)) si_X12_148 [0, 1, 2] [] sm_0_1_2 fm_0_1_2 nd_0_1_2 rfl rfl (by decide) rfl rfl rfl rfl rfl (Nat.le_of_ble_eq_true rfl) rm_5_4_7 ⟨Nat.le_of_ble_eq_true rfl, Nat.le_of_ble_eq_true rfl⟩ gX12_doubt_5.2.2.2.2.2.2.1 (fun r5342 gnm5344 H locs hr5342 hP hD hS => ?_)
                try dsimp only at hr5342
                refine Kpdr (ws := [(h0, oX12 nw nk mhasKept nt mtaped nr mrowMany mroundOf mroundFrom (nI kP) nm mfromHour mtoHour ns mfrom mto msort misFault mdeep mcoded mlines nl nc nF np ntr nb mbestCost nso nsi nit nsh nsf nss nrc mtraced mdealer mnumber mwhose msize misParted), (nw, iA G 1662 fnw), (nm, iA G 36 gnm5344)]) hP hD (fun hP hD => ?_)
                obtain ⟨hr5342, w5345⟩ := hr5342
                rcases hr5342 with rfl | rfl
                · refine lv_if_ne (tgt := 117) hx hb gX12_doubt_5.2.2.2.2.2.2.2.1 (by decide) (fun _ => ?_) (fun c9 => absurd c9 (by decide))
                  refine lv_aload_n hx hb gX12_doubt_6.2.2.2.1 rfl (lv_at5 hl) ?_
                  refine lv_iconst (v := 0) hx hb gX12_doubt_6.2.2.2.2.1 (by decide) ?_
                  refine pf_X12_96 hC rfl hK hP hD hS 0 (ws' := [(h0, oX12 nw nk mhasKept nt mtaped nr mrowMany mroundOf mroundFrom 0 nm mfromHour mtoHour ns mfrom mto msort misFault mdeep mcoded mlines nl nc nF np ntr nb mbestCost nso nsi nit nsh nsf nss nrc mtraced mdealer mnumber mwhose msize misParted), (nw, iA G 1662 fnw), (nm, iA G 36 gnm5344)]) rfl (Nat.le_of_ble_eq_true rfl) rfl rfl rfl gX12_doubt_6.2.2.2.2.2.1 (fun H locs hP hD hS => ?_)
                  refine lv_iinc (v := nI (kP + 1)) (lv' := [(3, .int (nI (kP + 1))), (5, .int (nI kq)), (4, .int ma), (2, .int fe), (1, .int be), (0, .ref h0)]) hx hb gX12_doubt_6.2.2.2.2.2.2.1 hl (k := 2) rfl (nI_1 _) (by decide) rfl (fun ls hl => ?_)
                  refine lv_goto (tgt := 7) hx hb gX12_doubt_6.2.2.2.2.2.2.2.1 (by decide) ?_
                  exact ihP (kP + 1) be fe gnm5344 _ _ _ (bs hjP c_16_5338) (by omega) (by first | assumption | exact Or.inl rfl | exact Or.inr rfl) (And.intro hP hD) hS (lv_sub hl [0, 3, 4, 5] rfl)
                · refine lv_if_ne (tgt := 117) hx hb gX12_doubt_5.2.2.2.2.2.2.2.1 (by decide) (fun c9 => absurd (by decide) c9) (fun _ => ?_)
                  refine lv_iload_n hx hb gX12_doubt_5.2.2.2.2.2.2.2.2.1 rfl (lv_at2 hl) ?_
                  refine lv_istore_n (lv' := [(1, .int (nI kP)), (5, .int (nI kq)), (4, .int ma), (3, .int (nI kP)), (2, .int fe), (0, .ref h0)]) hx hb gX12_doubt_5.2.2.2.2.2.2.2.2.2 rfl hl (by decide) rfl (fun ls hl => ?_)
                  refine lv_iload_n hx hb gX12_doubt_6.1 rfl (lv_at3 hl) ?_
                  refine pS hC hK hl (m_bits l G (nI kP)) si_X12_110 rfl rfl (Nat.le_of_ble_eq_true rfl) rm_5_1_3 ⟨by first | exact Nat.le_of_ble_eq_true rfl | exact Nat.zero_le _, by first | exact Nat.le_of_ble_eq_true rfl | exact Nat.zero_le _⟩ gX12_doubt_6.2.1 (fun r5347 hr5347 => ?_)
                  refine lv_istore_n (lv' := [(2, .int r5347), (1, .int (nI kP)), (5, .int (nI kq)), (4, .int ma), (3, .int (nI kP)), (0, .ref h0)]) hx hb gX12_doubt_6.2.2.1 rfl hl (by decide) rfl (fun ls hl => ?_)
                  refine lv_aload_n hx hb gX12_doubt_6.2.2.2.1 rfl (lv_at5 hl) ?_
                  refine lv_iconst (v := 0) hx hb gX12_doubt_6.2.2.2.2.1 (by decide) ?_
                  refine pf_X12_96 hC rfl hK hP hD hS 0 (ws' := [(h0, oX12 nw nk mhasKept nt mtaped nr mrowMany mroundOf mroundFrom 0 nm mfromHour mtoHour ns mfrom mto msort misFault mdeep mcoded mlines nl nc nF np ntr nb mbestCost nso nsi nit nsh nsf nss nrc mtraced mdealer mnumber mwhose msize misParted), (nw, iA G 1662 fnw), (nm, iA G 36 gnm5344)]) rfl (Nat.le_of_ble_eq_true rfl) rfl rfl rfl gX12_doubt_6.2.2.2.2.2.1 (fun H locs hP hD hS => ?_)
                  refine lv_iinc (v := nI (kP + 1)) (lv' := [(3, .int (nI (kP + 1))), (2, .int r5347), (1, .int (nI kP)), (5, .int (nI kq)), (4, .int ma), (0, .ref h0)]) hx hb gX12_doubt_6.2.2.2.2.2.2.1 hl (k := 4) rfl (nI_1 _) (by decide) rfl (fun ls hl => ?_)
                  refine lv_goto (tgt := 7) hx hb gX12_doubt_6.2.2.2.2.2.2.2.1 (by decide) ?_
                  exact ihP (kP + 1) (nI kP) r5347 gnm5344 _ _ _ (bs hjP c_16_5338) (by omega) (by first | assumption | exact Or.inl rfl | exact Or.inr rfl) (And.intro hP hD) hS (lv_sub hl [0, 1, 2, 5] rfl)
            | succ nQ ihQ =>
              intro kQ ma H locs ls hkQ hPD hS hl
              refine Kan2 hPD (fun hP hD => ?_)
              refine lv_iload hx hb gX12_doubt_2.2.2.2.2.1 (lv_at0 hl) ?_
              refine lv_aload_n hx hb gX12_doubt_2.2.2.2.2.2.1 rfl (lv_at5 hl) ?_
              refine gf_X12_9 hC rfl hK hP 0 rfl rfl gX12_doubt_2.2.2.2.2.2.2.1 ?_
              refine lv_iconst (v := 5) hx hb gX12_doubt_2.2.2.2.2.2.2.2.1 (by decide) ?_
              refine ald hC hK hP 1 rfl (vin (by decide +kernel)) (k := 5) (by decide +kernel) (v := nI kq) (ekq) gX12_doubt_2.2.2.2.2.2.2.2.2.1 ?_
              refine lv_icmp_ge (tgt := 93) hx hb gX12_doubt_2.2.2.2.2.2.2.2.2.2 (by decide) (fun c9 => absurd c9 (nI_ge (a := kQ) (b := kq) (by omega) (by omega))) (fun _ => ?_)
              refine lv_iload hx hb gX12_doubt_3.1 (lv_at1 hl) ?_
              refine lv_if_eq (tgt := 93) hx hb gX12_doubt_3.2.1 (by decide) (fun c_50_5348 => ?_) (fun c_50_5348 => ?_)
              · refine lv_iload hx hb gX12_doubt_5.1 (lv_at1 hl) ?_
                refine lv_if_eq (tgt := 122) hx hb gX12_doubt_5.2.1 (by decide) (fun _ => ?_) (fun c9 => absurd (c_50_5348) c9)
                refine lv_iinc (v := nI (kP + 1)) (lv' := [(3, .int (nI (kP + 1))), (5, .int (nI kQ)), (4, .int ma), (2, .int fe), (1, .int be), (0, .ref h0)]) hx hb gX12_doubt_6.2.2.2.2.2.2.1 hl (k := 2) rfl (nI_1 _) (by decide) rfl (fun ls hl => ?_)
                refine lv_goto (tgt := 7) hx hb gX12_doubt_6.2.2.2.2.2.2.2.1 (by decide) ?_
                exact ihP (kP + 1) be fe vP _ _ _ (bs hjP c_16_5338) (by omega) (by first | assumption | exact Or.inl rfl | exact Or.inr rfl) (And.intro hP hD) hS (lv_sub hl [0, 3, 4, 5] rfl)
              · refine lv_iload_n hx hb gX12_doubt_3.2.2.1 rfl (lv_at2 hl) ?_
                refine lv_iload hx hb gX12_doubt_3.2.2.2.1 (lv_at0 hl) ?_
                refine pS hC hK hl (m_has l G (nI kP) (nI kQ)) si_X12_99 rfl rfl (Nat.le_of_ble_eq_true rfl) rm_5_1_2 ⟨by first | exact Nat.le_of_ble_eq_true rfl | exact Nat.zero_le _, by first | exact Nat.le_of_ble_eq_true rfl | exact Nat.zero_le _⟩ gX12_doubt_3.2.2.2.2.1 (Kors (Keqa fun a5350 => ?_) (Keqa fun a5350 => ?_))
                · refine lv_if_eq (tgt := 80) hx hb gX12_doubt_3.2.2.2.2.2.1 (by decide) (fun c9 => absurd c9 (by decide)) (fun _ => ?_)
                  refine lv_aload_n hx hb gX12_doubt_3.2.2.2.2.2.2.1 rfl (lv_at5 hl) ?_
                  refine lv_iload hx hb gX12_doubt_3.2.2.2.2.2.2.2.1 (lv_at0 hl) ?_
                  refine pV hC hK hl hP hD (m_isIn l G h0 kQ nw nk mhasKept nt mtaped nr mrowMany mroundOf mroundFrom 0 nm mfromHour mtoHour ns mfrom mto msort misFault mdeep mcoded mlines nl nc nF np ntr nb mbestCost nso nsi nit nsh nsf nss nrc mtraced mdealer mnumber mwhose msize misParted fnw (by omega)) si_X12_103 [0, 1] sm_0_1 fm_0_1 nd_0_1 rfl rfl rfl rfl rfl (Nat.le_of_ble_eq_true rfl) rm_5_2_3 ⟨by first | exact Nat.le_of_ble_eq_true rfl | exact Nat.zero_le _, by first | exact Nat.le_of_ble_eq_true rfl | exact Nat.zero_le _⟩ gX12_doubt_3.2.2.2.2.2.2.2.2.1 (Kors (Keqr ?_) (Keqr ?_))
                  · refine lv_if_eq (tgt := 84) hx hb gX12_doubt_3.2.2.2.2.2.2.2.2.2 (by decide) (fun c9 => absurd c9 (by decide)) (fun _ => ?_)
                    refine lv_aload_n hx hb gX12_doubt_4.1 rfl (lv_at5 hl) ?_
                    refine lv_iload hx hb gX12_doubt_4.2.1 (lv_at0 hl) ?_
                    refine pV hC hK hl hP hD (m_stampsOf l G k6 h0 (nI kQ) nw nk mhasKept nt mtaped nr mrowMany mroundOf mroundFrom 0 nm mfromHour mtoHour ns mfrom mto msort misFault mdeep mcoded mlines nl nc nF np ntr nb mbestCost nso nsi nit nsh nsf nss nrc mtraced mdealer mnumber mwhose msize misParted fnw (ek6) (by omega)) si_X12_130 [0, 1] sm_0_1 fm_0_1 nd_0_1 rfl rfl rfl rfl rfl (Nat.le_of_ble_eq_true rfl) rm_5_2_4 ⟨by first | exact Nat.le_of_ble_eq_true rfl | exact Nat.zero_le _, by first | exact Nat.le_of_ble_eq_true rfl | exact Nat.zero_le _⟩ gX12_doubt_4.2.2.1 (Keqr ?_)
                    refine lv_if_le (tgt := 84) hx hb gX12_doubt_4.2.2.2.1 (by decide) (fun c_77_5355 => ?_) (fun c_77_5355 => ?_)
                    · refine lv_iconst (v := 0) hx hb gX12_doubt_4.2.2.2.2.2.2.1 (by decide) ?_
                      refine lv_istore (lv' := [(4, .int 0), (5, .int (nI kQ)), (3, .int (nI kP)), (2, .int fe), (1, .int be), (0, .ref h0)]) hx hb gX12_doubt_4.2.2.2.2.2.2.2.1 hl (by decide) rfl (fun ls hl => ?_)
                      refine lv_iinc (v := nI (kQ + 1)) (lv' := [(5, .int (nI (kQ + 1))), (4, .int 0), (3, .int (nI kP)), (2, .int fe), (1, .int be), (0, .ref h0)]) hx hb gX12_doubt_4.2.2.2.2.2.2.2.2.1 hl (k := 1) rfl (nI_1 _) (by decide) rfl (fun ls hl => ?_)
                      refine lv_goto (tgt := 37) hx hb gX12_doubt_4.2.2.2.2.2.2.2.2.2 (by decide) ?_
                      exact ihQ (kQ + 1) 0 _ _ _ (by omega) (And.intro hP hD) hS (lv_sub hl [0, 1, 2, 3, 4, 5] rfl)
                    · refine lv_iconst (v := 1) hx hb gX12_doubt_4.2.2.2.2.1 (by decide) ?_
                      refine lv_goto (tgt := 85) hx hb gX12_doubt_4.2.2.2.2.2.1 (by decide) ?_
                      refine lv_istore (lv' := [(4, .int 1), (5, .int (nI kQ)), (3, .int (nI kP)), (2, .int fe), (1, .int be), (0, .ref h0)]) hx hb gX12_doubt_4.2.2.2.2.2.2.2.1 hl (by decide) rfl (fun ls hl => ?_)
                      refine lv_iinc (v := nI (kQ + 1)) (lv' := [(5, .int (nI (kQ + 1))), (4, .int 1), (3, .int (nI kP)), (2, .int fe), (1, .int be), (0, .ref h0)]) hx hb gX12_doubt_4.2.2.2.2.2.2.2.2.1 hl (k := 1) rfl (nI_1 _) (by decide) rfl (fun ls hl => ?_)
                      refine lv_goto (tgt := 37) hx hb gX12_doubt_4.2.2.2.2.2.2.2.2.2 (by decide) ?_
                      exact ihQ (kQ + 1) 1 _ _ _ (by omega) (And.intro hP hD) hS (lv_sub hl [0, 1, 2, 3, 4, 5] rfl)
                  · refine lv_if_eq (tgt := 84) hx hb gX12_doubt_3.2.2.2.2.2.2.2.2.2 (by decide) (fun _ => ?_) (fun c9 => absurd (by decide) c9)
                    refine lv_iconst (v := 0) hx hb gX12_doubt_4.2.2.2.2.2.2.1 (by decide) ?_
                    refine lv_istore (lv' := [(4, .int 0), (5, .int (nI kQ)), (3, .int (nI kP)), (2, .int fe), (1, .int be), (0, .ref h0)]) hx hb gX12_doubt_4.2.2.2.2.2.2.2.1 hl (by decide) rfl (fun ls hl => ?_)
                    refine lv_iinc (v := nI (kQ + 1)) (lv' := [(5, .int (nI (kQ + 1))), (4, .int 0), (3, .int (nI kP)), (2, .int fe), (1, .int be), (0, .ref h0)]) hx hb gX12_doubt_4.2.2.2.2.2.2.2.2.1 hl (k := 1) rfl (nI_1 _) (by decide) rfl (fun ls hl => ?_)
                    refine lv_goto (tgt := 37) hx hb gX12_doubt_4.2.2.2.2.2.2.2.2.2 (by decide) ?_
                    exact ihQ (kQ + 1) 0 _ _ _ (by omega) (And.intro hP hD) hS (lv_sub hl [0, 1, 2, 3, 4, 5] rfl)
                · refine lv_if_eq (tgt := 80) hx hb gX12_doubt_3.2.2.2.2.2.1 (by decide) (fun _ => ?_) (fun c9 => absurd (by decide) c9)
                  refine lv_iconst (v := 1) hx hb gX12_doubt_4.2.2.2.2.1 (by decide) ?_
                  refine lv_goto (tgt := 85) hx hb gX12_doubt_4.2.2.2.2.2.1 (by decide) ?_
                  refine lv_istore (lv' := [(4, .int 1), (5, .int (nI kQ)), (3, .int (nI kP)), (2, .int fe), (1, .int be), (0, .ref h0)]) hx hb gX12_doubt_4.2.2.2.2.2.2.2.1 hl (by decide) rfl (fun ls hl => ?_)
                  refine lv_iinc (v := nI (kQ + 1)) (lv' := [(5, .int (nI (kQ + 1))), (4, .int 1), (3, .int (nI kP)), (2, .int fe), (1, .int be), (0, .ref h0)]) hx hb gX12_doubt_4.2.2.2.2.2.2.2.2.1 hl (k := 1) rfl (nI_1 _) (by decide) rfl (fun ls hl => ?_)
                  refine lv_goto (tgt := 37) hx hb gX12_doubt_4.2.2.2.2.2.2.2.2.2 (by decide) ?_
                  exact ihQ (kQ + 1) 1 _ _ _ (by omega) (And.intro hP hD) hS (lv_sub hl [0, 1, 2, 3, 4, 5] rfl)
          exact keyQ kq 0 0 _ _ _ (by omega) (And.intro hP hD) hS (lv_sub hl [0, 1, 2, 3, 4, 5] rfl)
        · refine lv_iconst (v := 1) hx hb gX12_doubt_1.2.2.2.2.2.2.2.2.1 (by decide) ?_
          refine lv_goto (tgt := 32) hx hb gX12_doubt_1.2.2.2.2.2.2.2.2.2 (by decide) ?_
          refine lv_istore (lv' := [(4, .int 1), (3, .int (nI kP)), (2, .int fe), (1, .int be), (0, .ref h0)]) hx hb gX12_doubt_2.2.1 hl (by decide) rfl (fun ls hl => ?_)
          refine lv_iconst (v := 0) hx hb gX12_doubt_2.2.2.1 (by decide) ?_
          refine lv_istore (lv' := [(5, .int 0), (4, .int 1), (3, .int (nI kP)), (2, .int fe), (1, .int be), (0, .ref h0)]) hx hb gX12_doubt_2.2.2.2.1 hl (by decide) rfl (fun ls hl => ?_)
          have keyQ : ∀ (nQ kQ : Nat) (ma : Int32) (H : Heap) (locs : List Loc) (ls : Array Slot), kQ + nQ = kq → va_PD G A [(h0, oX12 nw nk mhasKept nt mtaped nr mrowMany mroundOf mroundFrom 0 nm mfromHour mtoHour ns mfrom mto msort misFault mdeep mcoded mlines nl nc nF np ntr nb mbestCost nso nsi nit nsh nsf nss nrc mtraced mdealer mnumber mwhose msize misParted), (nw, iA G 1662 fnw), (nm, iA G 36 vP)] H → va_S A s.heap H locs → lv_has ls 6 [(5, .int (nI kQ)), (4, .int ma), (3, .int (nI kP)), (2, .int fe), (1, .int be), (0, .ref h0)] → W p l e (RM 5 0 0) s m ([.ref h0] : List Value).toArray below meth c H locs 0 0 Q0 (F0 m 37 ls []) := by
            intro nQ
            induction nQ with
            | zero =>
              intro kQ ma H locs ls hkQ hPD hS hl
              refine Kan2 hPD (fun hP hD => ?_)
              obtain rfl : kq = kQ := by omega
              have hl : lv_has ls 6 [(5, .int (nI kq)), (4, .int ma), (3, .int (nI kP)), (2, .int fe), (1, .int be), (0, .ref h0)] := hl
              refine lv_iload hx hb gX12_doubt_2.2.2.2.2.1 (lv_at0 hl) ?_
              refine lv_aload_n hx hb gX12_doubt_2.2.2.2.2.2.1 rfl (lv_at5 hl) ?_
              refine gf_X12_9 hC rfl hK hP 0 rfl rfl gX12_doubt_2.2.2.2.2.2.2.1 ?_
              refine lv_iconst (v := 5) hx hb gX12_doubt_2.2.2.2.2.2.2.2.1 (by decide) ?_
              refine ald hC hK hP 1 rfl (vin (by decide +kernel)) (k := 5) (by decide +kernel) (v := nI kq) (ekq) gX12_doubt_2.2.2.2.2.2.2.2.2.1 ?_
              refine lv_icmp_ge (tgt := 93) hx hb gX12_doubt_2.2.2.2.2.2.2.2.2.2 (by decide) (fun _ => ?_) (fun c9 => absurd (Int32.le_refl _) c9)
              refine lv_iload hx hb gX12_doubt_5.1 (lv_at1 hl) ?_
              refine lv_if_eq (tgt := 122) hx hb gX12_doubt_5.2.1 (by decide) (fun c_95_5356 => ?_) (fun c_95_5356 => ?_)
              · refine lv_iinc (v := nI (kP + 1)) (lv' := [(3, .int (nI (kP + 1))), (5, .int (nI kq)), (4, .int ma), (2, .int fe), (1, .int be), (0, .ref h0)]) hx hb gX12_doubt_6.2.2.2.2.2.2.1 hl (k := 2) rfl (nI_1 _) (by decide) rfl (fun ls hl => ?_)
                refine lv_goto (tgt := 7) hx hb gX12_doubt_6.2.2.2.2.2.2.2.1 (by decide) ?_
                exact ihP (kP + 1) be fe vP _ _ _ (bs hjP c_16_5338) (by omega) (by first | assumption | exact Or.inl rfl | exact Or.inr rfl) (And.intro hP hD) hS (lv_sub hl [0, 3, 4, 5] rfl)
              · refine lv_aload_n hx hb gX12_doubt_5.2.2.1 rfl (lv_at5 hl) ?_
                refine lv_iload_n hx hb gX12_doubt_5.2.2.2.1 rfl (lv_at2 hl) ?_
                refine pf_X12_96 hC rfl hK hP hD hS 0 (ws' := [(h0, oX12 nw nk mhasKept nt mtaped nr mrowMany mroundOf mroundFrom (nI kP) nm mfromHour mtoHour ns mfrom mto msort misFault mdeep mcoded mlines nl nc nF np ntr nb mbestCost nso nsi nit nsh nsf nss nrc mtraced mdealer mnumber mwhose msize misParted), (nw, iA G 1662 fnw), (nm, iA G 36 vP)]) rfl (Nat.le_of_ble_eq_true rfl) rfl rfl rfl gX12_doubt_5.2.2.2.2.1 (fun H locs hP hD hS => ?_)
                refine lv_aload_n hx hb gX12_doubt_5.2.2.2.2.2.1 rfl (lv_at5 hl) ?_
                refine iV (wr := []) hC hK hl hP hD hS hA (m_findClocks l G h0 nw nk mhasKept nt mtaped nr mrowMany mroundOf mroundFrom (nI kP) nm mfromHour mtoHour ns mfrom mto msort misFault mdeep mcoded mlines nl nc nF np ntr nb mbestCost nso nsi nit nsh nsf nss nrc mtraced mdealer mnumber mwhose msize misParted fnw vP (hN) (hvP)) si_X12_148 [0, 1, 2] [] sm_0_1_2 fm_0_1_2 nd_0_1_2 rfl rfl (by decide) rfl rfl rfl rfl rfl (Nat.le_of_ble_eq_true rfl) rm_5_4_7 ⟨Nat.le_of_ble_eq_true rfl, Nat.le_of_ble_eq_true rfl⟩ gX12_doubt_5.2.2.2.2.2.2.1 (fun r5357 gnm5359 H locs hr5357 hP hD hS => ?_)
                try dsimp only at hr5357
                refine Kpdr (ws := [(h0, oX12 nw nk mhasKept nt mtaped nr mrowMany mroundOf mroundFrom (nI kP) nm mfromHour mtoHour ns mfrom mto msort misFault mdeep mcoded mlines nl nc nF np ntr nb mbestCost nso nsi nit nsh nsf nss nrc mtraced mdealer mnumber mwhose msize misParted), (nw, iA G 1662 fnw), (nm, iA G 36 gnm5359)]) hP hD (fun hP hD => ?_)
                obtain ⟨hr5357, w5360⟩ := hr5357
                rcases hr5357 with rfl | rfl
                · refine lv_if_ne (tgt := 117) hx hb gX12_doubt_5.2.2.2.2.2.2.2.1 (by decide) (fun _ => ?_) (fun c9 => absurd c9 (by decide))
                  refine lv_aload_n hx hb gX12_doubt_6.2.2.2.1 rfl (lv_at5 hl) ?_
                  refine lv_iconst (v := 0) hx hb gX12_doubt_6.2.2.2.2.1 (by decide) ?_
                  refine pf_X12_96 hC rfl hK hP hD hS 0 (ws' := [(h0, oX12 nw nk mhasKept nt mtaped nr mrowMany mroundOf mroundFrom 0 nm mfromHour mtoHour ns mfrom mto msort misFault mdeep mcoded mlines nl nc nF np ntr nb mbestCost nso nsi nit nsh nsf nss nrc mtraced mdealer mnumber mwhose msize misParted), (nw, iA G 1662 fnw), (nm, iA G 36 gnm5359)]) rfl (Nat.le_of_ble_eq_true rfl) rfl rfl rfl gX12_doubt_6.2.2.2.2.2.1 (fun H locs hP hD hS => ?_)
                  refine lv_iinc (v := nI (kP + 1)) (lv' := [(3, .int (nI (kP + 1))), (5, .int (nI kq)), (4, .int ma), (2, .int fe), (1, .int be), (0, .ref h0)]) hx hb gX12_doubt_6.2.2.2.2.2.2.1 hl (k := 2) rfl (nI_1 _) (by decide) rfl (fun ls hl => ?_)
                  refine lv_goto (tgt := 7) hx hb gX12_doubt_6.2.2.2.2.2.2.2.1 (by decide) ?_
                  exact ihP (kP + 1) be fe gnm5359 _ _ _ (bs hjP c_16_5338) (by omega) (by first | assumption | exact Or.inl rfl | exact Or.inr rfl) (And.intro hP hD) hS (lv_sub hl [0, 3, 4, 5] rfl)
                · refine lv_if_ne (tgt := 117) hx hb gX12_doubt_5.2.2.2.2.2.2.2.1 (by decide) (fun c9 => absurd (by decide) c9) (fun _ => ?_)
                  refine lv_iload_n hx hb gX12_doubt_5.2.2.2.2.2.2.2.2.1 rfl (lv_at2 hl) ?_
                  refine lv_istore_n (lv' := [(1, .int (nI kP)), (5, .int (nI kq)), (4, .int ma), (3, .int (nI kP)), (2, .int fe), (0, .ref h0)]) hx hb gX12_doubt_5.2.2.2.2.2.2.2.2.2 rfl hl (by decide) rfl (fun ls hl => ?_)
                  refine lv_iload_n hx hb gX12_doubt_6.1 rfl (lv_at3 hl) ?_
                  refine pS hC hK hl (m_bits l G (nI kP)) si_X12_110 rfl rfl (Nat.le_of_ble_eq_true rfl) rm_5_1_3 ⟨by first | exact Nat.le_of_ble_eq_true rfl | exact Nat.zero_le _, by first | exact Nat.le_of_ble_eq_true rfl | exact Nat.zero_le _⟩ gX12_doubt_6.2.1 (fun r5362 hr5362 => ?_)
                  refine lv_istore_n (lv' := [(2, .int r5362), (1, .int (nI kP)), (5, .int (nI kq)), (4, .int ma), (3, .int (nI kP)), (0, .ref h0)]) hx hb gX12_doubt_6.2.2.1 rfl hl (by decide) rfl (fun ls hl => ?_)
                  refine lv_aload_n hx hb gX12_doubt_6.2.2.2.1 rfl (lv_at5 hl) ?_
                  refine lv_iconst (v := 0) hx hb gX12_doubt_6.2.2.2.2.1 (by decide) ?_
                  refine pf_X12_96 hC rfl hK hP hD hS 0 (ws' := [(h0, oX12 nw nk mhasKept nt mtaped nr mrowMany mroundOf mroundFrom 0 nm mfromHour mtoHour ns mfrom mto msort misFault mdeep mcoded mlines nl nc nF np ntr nb mbestCost nso nsi nit nsh nsf nss nrc mtraced mdealer mnumber mwhose msize misParted), (nw, iA G 1662 fnw), (nm, iA G 36 gnm5359)]) rfl (Nat.le_of_ble_eq_true rfl) rfl rfl rfl gX12_doubt_6.2.2.2.2.2.1 (fun H locs hP hD hS => ?_)
                  refine lv_iinc (v := nI (kP + 1)) (lv' := [(3, .int (nI (kP + 1))), (2, .int r5362), (1, .int (nI kP)), (5, .int (nI kq)), (4, .int ma), (0, .ref h0)]) hx hb gX12_doubt_6.2.2.2.2.2.2.1 hl (k := 4) rfl (nI_1 _) (by decide) rfl (fun ls hl => ?_)
                  refine lv_goto (tgt := 7) hx hb gX12_doubt_6.2.2.2.2.2.2.2.1 (by decide) ?_
                  exact ihP (kP + 1) (nI kP) r5362 gnm5359 _ _ _ (bs hjP c_16_5338) (by omega) (by first | assumption | exact Or.inl rfl | exact Or.inr rfl) (And.intro hP hD) hS (lv_sub hl [0, 1, 2, 5] rfl)
            | succ nQ ihQ =>
              intro kQ ma H locs ls hkQ hPD hS hl
              refine Kan2 hPD (fun hP hD => ?_)
              refine lv_iload hx hb gX12_doubt_2.2.2.2.2.1 (lv_at0 hl) ?_
              refine lv_aload_n hx hb gX12_doubt_2.2.2.2.2.2.1 rfl (lv_at5 hl) ?_
              refine gf_X12_9 hC rfl hK hP 0 rfl rfl gX12_doubt_2.2.2.2.2.2.2.1 ?_
              refine lv_iconst (v := 5) hx hb gX12_doubt_2.2.2.2.2.2.2.2.1 (by decide) ?_
              refine ald hC hK hP 1 rfl (vin (by decide +kernel)) (k := 5) (by decide +kernel) (v := nI kq) (ekq) gX12_doubt_2.2.2.2.2.2.2.2.2.1 ?_
              refine lv_icmp_ge (tgt := 93) hx hb gX12_doubt_2.2.2.2.2.2.2.2.2.2 (by decide) (fun c9 => absurd c9 (nI_ge (a := kQ) (b := kq) (by omega) (by omega))) (fun _ => ?_)
              refine lv_iload hx hb gX12_doubt_3.1 (lv_at1 hl) ?_
              refine lv_if_eq (tgt := 93) hx hb gX12_doubt_3.2.1 (by decide) (fun c_50_5363 => ?_) (fun c_50_5363 => ?_)
              · refine lv_iload hx hb gX12_doubt_5.1 (lv_at1 hl) ?_
                refine lv_if_eq (tgt := 122) hx hb gX12_doubt_5.2.1 (by decide) (fun _ => ?_) (fun c9 => absurd (c_50_5363) c9)
                refine lv_iinc (v := nI (kP + 1)) (lv' := [(3, .int (nI (kP + 1))), (5, .int (nI kQ)), (4, .int ma), (2, .int fe), (1, .int be), (0, .ref h0)]) hx hb gX12_doubt_6.2.2.2.2.2.2.1 hl (k := 2) rfl (nI_1 _) (by decide) rfl (fun ls hl => ?_)
                refine lv_goto (tgt := 7) hx hb gX12_doubt_6.2.2.2.2.2.2.2.1 (by decide) ?_
                exact ihP (kP + 1) be fe vP _ _ _ (bs hjP c_16_5338) (by omega) (by first | assumption | exact Or.inl rfl | exact Or.inr rfl) (And.intro hP hD) hS (lv_sub hl [0, 3, 4, 5] rfl)
              · refine lv_iload_n hx hb gX12_doubt_3.2.2.1 rfl (lv_at2 hl) ?_
                refine lv_iload hx hb gX12_doubt_3.2.2.2.1 (lv_at0 hl) ?_
                refine pS hC hK hl (m_has l G (nI kP) (nI kQ)) si_X12_99 rfl rfl (Nat.le_of_ble_eq_true rfl) rm_5_1_2 ⟨by first | exact Nat.le_of_ble_eq_true rfl | exact Nat.zero_le _, by first | exact Nat.le_of_ble_eq_true rfl | exact Nat.zero_le _⟩ gX12_doubt_3.2.2.2.2.1 (Kors (Keqa fun a5365 => ?_) (Keqa fun a5365 => ?_))
                · refine lv_if_eq (tgt := 80) hx hb gX12_doubt_3.2.2.2.2.2.1 (by decide) (fun c9 => absurd c9 (by decide)) (fun _ => ?_)
                  refine lv_aload_n hx hb gX12_doubt_3.2.2.2.2.2.2.1 rfl (lv_at5 hl) ?_
                  refine lv_iload hx hb gX12_doubt_3.2.2.2.2.2.2.2.1 (lv_at0 hl) ?_
                  refine pV hC hK hl hP hD (m_isIn l G h0 kQ nw nk mhasKept nt mtaped nr mrowMany mroundOf mroundFrom 0 nm mfromHour mtoHour ns mfrom mto msort misFault mdeep mcoded mlines nl nc nF np ntr nb mbestCost nso nsi nit nsh nsf nss nrc mtraced mdealer mnumber mwhose msize misParted fnw (by omega)) si_X12_103 [0, 1] sm_0_1 fm_0_1 nd_0_1 rfl rfl rfl rfl rfl (Nat.le_of_ble_eq_true rfl) rm_5_2_3 ⟨by first | exact Nat.le_of_ble_eq_true rfl | exact Nat.zero_le _, by first | exact Nat.le_of_ble_eq_true rfl | exact Nat.zero_le _⟩ gX12_doubt_3.2.2.2.2.2.2.2.2.1 (Kors (Keqr ?_) (Keqr ?_))
                  · refine lv_if_eq (tgt := 84) hx hb gX12_doubt_3.2.2.2.2.2.2.2.2.2 (by decide) (fun c9 => absurd c9 (by decide)) (fun _ => ?_)
                    refine lv_aload_n hx hb gX12_doubt_4.1 rfl (lv_at5 hl) ?_
                    refine lv_iload hx hb gX12_doubt_4.2.1 (lv_at0 hl) ?_
                    refine pV hC hK hl hP hD (m_stampsOf l G k6 h0 (nI kQ) nw nk mhasKept nt mtaped nr mrowMany mroundOf mroundFrom 0 nm mfromHour mtoHour ns mfrom mto msort misFault mdeep mcoded mlines nl nc nF np ntr nb mbestCost nso nsi nit nsh nsf nss nrc mtraced mdealer mnumber mwhose msize misParted fnw (ek6) (by omega)) si_X12_130 [0, 1] sm_0_1 fm_0_1 nd_0_1 rfl rfl rfl rfl rfl (Nat.le_of_ble_eq_true rfl) rm_5_2_4 ⟨by first | exact Nat.le_of_ble_eq_true rfl | exact Nat.zero_le _, by first | exact Nat.le_of_ble_eq_true rfl | exact Nat.zero_le _⟩ gX12_doubt_4.2.2.1 (Keqr ?_)
                    refine lv_if_le (tgt := 84) hx hb gX12_doubt_4.2.2.2.1 (by decide) (fun c_77_5370 => ?_) (fun c_77_5370 => ?_)
                    · refine lv_iconst (v := 0) hx hb gX12_doubt_4.2.2.2.2.2.2.1 (by decide) ?_
                      refine lv_istore (lv' := [(4, .int 0), (5, .int (nI kQ)), (3, .int (nI kP)), (2, .int fe), (1, .int be), (0, .ref h0)]) hx hb gX12_doubt_4.2.2.2.2.2.2.2.1 hl (by decide) rfl (fun ls hl => ?_)
                      refine lv_iinc (v := nI (kQ + 1)) (lv' := [(5, .int (nI (kQ + 1))), (4, .int 0), (3, .int (nI kP)), (2, .int fe), (1, .int be), (0, .ref h0)]) hx hb gX12_doubt_4.2.2.2.2.2.2.2.2.1 hl (k := 1) rfl (nI_1 _) (by decide) rfl (fun ls hl => ?_)
                      refine lv_goto (tgt := 37) hx hb gX12_doubt_4.2.2.2.2.2.2.2.2.2 (by decide) ?_
                      exact ihQ (kQ + 1) 0 _ _ _ (by omega) (And.intro hP hD) hS (lv_sub hl [0, 1, 2, 3, 4, 5] rfl)
                    · refine lv_iconst (v := 1) hx hb gX12_doubt_4.2.2.2.2.1 (by decide) ?_
                      refine lv_goto (tgt := 85) hx hb gX12_doubt_4.2.2.2.2.2.1 (by decide) ?_
                      refine lv_istore (lv' := [(4, .int 1), (5, .int (nI kQ)), (3, .int (nI kP)), (2, .int fe), (1, .int be), (0, .ref h0)]) hx hb gX12_doubt_4.2.2.2.2.2.2.2.1 hl (by decide) rfl (fun ls hl => ?_)
                      refine lv_iinc (v := nI (kQ + 1)) (lv' := [(5, .int (nI (kQ + 1))), (4, .int 1), (3, .int (nI kP)), (2, .int fe), (1, .int be), (0, .ref h0)]) hx hb gX12_doubt_4.2.2.2.2.2.2.2.2.1 hl (k := 1) rfl (nI_1 _) (by decide) rfl (fun ls hl => ?_)
                      refine lv_goto (tgt := 37) hx hb gX12_doubt_4.2.2.2.2.2.2.2.2.2 (by decide) ?_
                      exact ihQ (kQ + 1) 1 _ _ _ (by omega) (And.intro hP hD) hS (lv_sub hl [0, 1, 2, 3, 4, 5] rfl)
                  · refine lv_if_eq (tgt := 84) hx hb gX12_doubt_3.2.2.2.2.2.2.2.2.2 (by decide) (fun _ => ?_) (fun c9 => absurd (by decide) c9)
                    refine lv_iconst (v := 0) hx hb gX12_doubt_4.2.2.2.2.2.2.1 (by decide) ?_
                    refine lv_istore (lv' := [(4, .int 0), (5, .int (nI kQ)), (3, .int (nI kP)), (2, .int fe), (1, .int be), (0, .ref h0)]) hx hb gX12_doubt_4.2.2.2.2.2.2.2.1 hl (by decide) rfl (fun ls hl => ?_)
                    refine lv_iinc (v := nI (kQ + 1)) (lv' := [(5, .int (nI (kQ + 1))), (4, .int 0), (3, .int (nI kP)), (2, .int fe), (1, .int be), (0, .ref h0)]) hx hb gX12_doubt_4.2.2.2.2.2.2.2.2.1 hl (k := 1) rfl (nI_1 _) (by decide) rfl (fun ls hl => ?_)
                    refine lv_goto (tgt := 37) hx hb gX12_doubt_4.2.2.2.2.2.2.2.2.2 (by decide) ?_
                    exact ihQ (kQ + 1) 0 _ _ _ (by omega) (And.intro hP hD) hS (lv_sub hl [0, 1, 2, 3, 4, 5] rfl)
                · refine lv_if_eq (tgt := 80) hx hb gX12_doubt_3.2.2.2.2.2.1 (by decide) (fun _ => ?_) (fun c9 => absurd (by decide) c9)
                  refine lv_iconst (v := 1) hx hb gX12_doubt_4.2.2.2.2.1 (by decide) ?_
                  refine lv_goto (tgt := 85) hx hb gX12_doubt_4.2.2.2.2.2.1 (by decide) ?_
                  refine lv_istore (lv' := [(4, .int 1), (5, .int (nI kQ)), (3, .int (nI kP)), (2, .int fe), (1, .int be), (0, .ref h0)]) hx hb gX12_doubt_4.2.2.2.2.2.2.2.1 hl (by decide) rfl (fun ls hl => ?_)
                  refine lv_iinc (v := nI (kQ + 1)) (lv' := [(5, .int (nI (kQ + 1))), (4, .int 1), (3, .int (nI kP)), (2, .int fe), (1, .int be), (0, .ref h0)]) hx hb gX12_doubt_4.2.2.2.2.2.2.2.2.1 hl (k := 1) rfl (nI_1 _) (by decide) rfl (fun ls hl => ?_)
                  refine lv_goto (tgt := 37) hx hb gX12_doubt_4.2.2.2.2.2.2.2.2.2 (by decide) ?_
                  exact ihQ (kQ + 1) 1 _ _ _ (by omega) (And.intro hP hD) hS (lv_sub hl [0, 1, 2, 3, 4, 5] rfl)
          exact keyQ kq 0 1 _ _ _ (by omega) (And.intro hP hD) hS (lv_sub hl [0, 1, 2, 3, 4, 5] rfl)
  exact keyP ((1 <<< ((nI kq) &&& 31))).toInt.toNat 0 0 13 fnm _ _ _ (by decide) (by omega) (by first | assumption | exact Or.inl rfl | exact Or.inr rfl) (And.intro hP hD) hS (lv_sub hl [0, 1, 2, 3] rfl)
def K_r_span (l : Launch) (G : GG) (h0 : Nat) (x1 : Int32) (x2 : Int32) (nw : Nat) (nk : Nat) (mhasKept : Int32) (nt : Nat) (mtaped : Int32) (nr : Nat) (mrowMany : Int32) (mroundOf : Int32) (mroundFrom : Int32) (nm : Nat) (mfromHour : Int32) (mtoHour : Int32) (ns : Nat) (mfrom : Int32) (mto : Int32) (msort : Int32) (misFault : Int32) (mdeep : Int32) (mcoded : Int32) (mlines : Int32) (nl : Nat) (nc : Nat) (nF : Nat) (np : Nat) (ntr : Nat) (nb : Nat) (mbestCost : Int32) (nso : Nat) (nsi : Nat) (nit : Nat) (nsh : Nat) (nsf : Nat) (nss : Nat) (nrc : Nat) (mtraced : Int32) (mdealer : Int32) (mnumber : Int32) (mwhose : Int32) (msize : Int32) (misParted : Int32) (fnw : Nat → Int32) (fnm : Nat → Int32) : Prop := MI l G yX12_span cX12_span 3 (some .int) 6 0 0 [.ref h0, .int x1, .int x2] [(h0, oX12 nw nk mhasKept nt mtaped nr mrowMany mroundOf mroundFrom 0 nm mfromHour mtoHour ns mfrom mto msort misFault mdeep mcoded mlines nl nc nF np ntr nb mbestCost nso nsi nit nsh nsf nss nrc mtraced mdealer mnumber mwhose msize misParted), (nw, iA G 1662 fnw), (nm, iA G 36 fnm)] (fun (r : Int32) (u : (Nat → Int32)) => (True) ∧ (MB u)) (fun u : (Nat → Int32) => [(h0, oX12 nw nk mhasKept nt mtaped nr mrowMany mroundOf mroundFrom 0 nm mfromHour mtoHour ns mfrom mto msort misFault mdeep mcoded mlines nl nc nF np ntr nb mbestCost nso nsi nit nsh nsf nss nrc mtraced mdealer mnumber mwhose msize misParted), (nw, iA G 1662 fnw), (nm, iA G 36 u)])
set_option maxHeartbeats 4000000 in
set_option maxRecDepth 100000 in
theorem r_span (l : Launch) (G : GG) (h0 : Nat) (x1 : Int32) (x2 : Int32) (nw : Nat) (nk : Nat) (mhasKept : Int32) (nt : Nat) (mtaped : Int32) (nr : Nat) (mrowMany : Int32) (mroundOf : Int32) (mroundFrom : Int32) (nm : Nat) (mfromHour : Int32) (mtoHour : Int32) (ns : Nat) (mfrom : Int32) (mto : Int32) (msort : Int32) (misFault : Int32) (mdeep : Int32) (mcoded : Int32) (mlines : Int32) (nl : Nat) (nc : Nat) (nF : Nat) (np : Nat) (ntr : Nat) (nb : Nat) (mbestCost : Int32) (nso : Nat) (nsi : Nat) (nit : Nat) (nsh : Nat) (nsf : Nat) (nss : Nat) (nrc : Nat) (mtraced : Int32) (mdealer : Int32) (mnumber : Int32) (mwhose : Int32) (msize : Int32) (misParted : Int32) (fnw : Nat → Int32) (fnm : Nat → Int32) (hN : NI fnw) (hM : MB fnm) : K_r_span l G h0 x1 x2 nw nk mhasKept nt mtaped nr mrowMany mroundOf mroundFrom nm mfromHour mtoHour ns mfrom mto msort misFault mdeep mcoded mlines nl nc nF np ntr nb mbestCost nso nsi nit nsh nsf nss nrc mtraced mdealer mnumber mwhose msize misParted fnw fnm := by
  refine MI.start (by decide +kernel) (Nat.le_of_ble_eq_true rfl) ?_
  intro p e s m below meth c A ls hC hK hP hD hS hA hl
  refine absQ (fun Q0 hQ0 => ?_)
  have hl : lv_has ls 3 [(0, .ref h0), (1, .int x1), (2, .int x2)] := hl
  refine Kan8 hC (fun hx hb hr hml hB hown hlocks hnm => ?_)
  refine lv_iload_n hx hb gX12_span_0.1 rfl (lv_at1 hl) ?_
  refine lv_iconst (v := 0) hx hb gX12_span_0.2.1 (by decide) ?_
  refine lv_iconst (v := 5) hx hb gX12_span_0.2.2.1 (by decide) ?_
  refine pS hC hK hl (m_within l G x1 0 5) si_X12_84 rfl rfl (Nat.le_of_ble_eq_true rfl) rm_6_1_3 ⟨by first | exact Nat.le_of_ble_eq_true rfl | exact Nat.zero_le _, by first | exact Nat.le_of_ble_eq_true rfl | exact Nat.zero_le _⟩ gX12_span_0.2.2.2.1 (Kors (Keqa fun a5372 => ?_) (Keqa fun a5372 => ?_))
  · refine lv_if_ne (tgt := 11) hx hb gX12_span_0.2.2.2.2.1 (by decide) (fun _ => ?_) (fun c9 => absurd c9 (by decide))
    obtain ⟨jc, hjc, rfl⟩ := Wi5 a5372
    refine lv_aload_n hx hb gX12_span_0.2.2.2.2.2.2.2.1 rfl (lv_at0 hl) ?_
    refine iV (wr := []) hC hK hl hP hD hS hA (m_findClocks l G h0 nw nk mhasKept nt mtaped nr mrowMany mroundOf mroundFrom 0 nm mfromHour mtoHour ns mfrom mto msort misFault mdeep mcoded mlines nl nc nF np ntr nb mbestCost nso nsi nit nsh nsf nss nrc mtraced mdealer mnumber mwhose msize misParted fnw fnm (hN) (hM)) si_X12_148 [0, 1, 2] [] sm_0_1_2 fm_0_1_2 nd_0_1_2 rfl rfl (by decide) rfl rfl rfl rfl rfl (Nat.le_of_ble_eq_true rfl) rm_6_4_7 ⟨Nat.le_of_ble_eq_true rfl, Nat.le_of_ble_eq_true rfl⟩ gX12_span_0.2.2.2.2.2.2.2.2.1 (fun r5373 gnm5375 H locs hr5373 hP hD hS => ?_)
    try dsimp only at hr5373
    refine Kpdr (ws := [(h0, oX12 nw nk mhasKept nt mtaped nr mrowMany mroundOf mroundFrom 0 nm mfromHour mtoHour ns mfrom mto msort misFault mdeep mcoded mlines nl nc nF np ntr nb mbestCost nso nsi nit nsh nsf nss nrc mtraced mdealer mnumber mwhose msize misParted), (nw, iA G 1662 fnw), (nm, iA G 36 gnm5375)]) hP hD (fun hP hD => ?_)
    obtain ⟨hr5373, w5376⟩ := hr5373
    rcases hr5373 with rfl | rfl
    · refine lv_if_eq (tgt := 21) hx hb gX12_span_0.2.2.2.2.2.2.2.2.2 (by decide) (fun c9 => absurd c9 (by decide)) (fun _ => ?_)
      refine lv_bipush (v := (-4)) hx hb gX12_span_1.1 (by decide) ?_
      refine toQ hQ0 ?_
      exact RI (v := (-4)) hC hP hD hS [0, 1, 2] gnm5375 rfl rfl (by decide) (⟨trivial, by first | assumption | exact hM⟩) rfl gX12_span_1.2.1
    · refine lv_if_eq (tgt := 21) hx hb gX12_span_0.2.2.2.2.2.2.2.2.2 (by decide) (fun _ => ?_) (fun c9 => absurd (by decide) c9)
      refine lv_sipush (v := 1000) hx hb gX12_span_1.2.2.1 (by decide) ?_
      refine lv_iload_n hx hb gX12_span_1.2.2.2.1 rfl (lv_at2 hl) ?_
      refine lv_if_eq (tgt := 36) hx hb gX12_span_1.2.2.2.2.1 (by decide) (fun c_25_5378 => ?_) (fun c_25_5378 => ?_)
      · refine lv_aload_n hx hb gX12_span_1.2.2.2.2.2.2.2.2.2 rfl (lv_at0 hl) ?_
        refine lv_iload_n hx hb gX12_span_2.1 rfl (lv_at1 hl) ?_
        refine pV hC hK hl hP hD (m_least l G h0 jc nw nk mhasKept nt mtaped nr mrowMany mroundOf mroundFrom 0 nm mfromHour mtoHour ns mfrom mto msort misFault mdeep mcoded mlines nl nc nF np ntr nb mbestCost nso nsi nit nsh nsf nss nrc mtraced mdealer mnumber mwhose msize misParted gnm5375 (by omega)) si_X12_158 [0, 2] sm_0_2 fm_0_2 nd_0_2 rfl rfl rfl rfl rfl (Nat.le_of_ble_eq_true rfl) rm_6_1_2 ⟨by first | exact Nat.le_of_ble_eq_true rfl | exact Nat.zero_le _, by first | exact Nat.le_of_ble_eq_true rfl | exact Nat.zero_le _⟩ gX12_span_2.2.1 (Keqr ?_)
        refine lv_iadd hx hb gX12_span_2.2.2.1 ?_
        refine toQ hQ0 ?_
        exact RI (v := 1000 + (-(gnm5375 (6 * jc)))) hC hP hD hS [0, 1, 2] gnm5375 rfl rfl (by decide) (⟨trivial, by first | assumption | exact hM⟩) rfl gX12_span_2.2.2.2
      · refine lv_aload_n hx hb gX12_span_1.2.2.2.2.2.1 rfl (lv_at0 hl) ?_
        refine lv_iload_n hx hb gX12_span_1.2.2.2.2.2.2.1 rfl (lv_at1 hl) ?_
        refine pV hC hK hl hP hD (m_greatest l G h0 jc nw nk mhasKept nt mtaped nr mrowMany mroundOf mroundFrom 0 nm mfromHour mtoHour ns mfrom mto msort misFault mdeep mcoded mlines nl nc nF np ntr nb mbestCost nso nsi nit nsh nsf nss nrc mtraced mdealer mnumber mwhose msize misParted gnm5375 (by omega)) si_X12_155 [0, 2] sm_0_2 fm_0_2 nd_0_2 rfl rfl rfl rfl rfl (Nat.le_of_ble_eq_true rfl) rm_6_1_2 ⟨by first | exact Nat.le_of_ble_eq_true rfl | exact Nat.zero_le _, by first | exact Nat.le_of_ble_eq_true rfl | exact Nat.zero_le _⟩ gX12_span_1.2.2.2.2.2.2.2.1 (Keqr ?_)
        refine lv_goto (tgt := 41) hx hb gX12_span_1.2.2.2.2.2.2.2.2.1 (by decide) ?_
        refine lv_iadd hx hb gX12_span_2.2.2.1 ?_
        refine toQ hQ0 ?_
        exact RI (v := 1000 + (gnm5375 jc)) hC hP hD hS [0, 1, 2] gnm5375 rfl rfl (by decide) (⟨trivial, by first | assumption | exact hM⟩) rfl gX12_span_2.2.2.2
  · refine lv_if_ne (tgt := 11) hx hb gX12_span_0.2.2.2.2.1 (by decide) (fun c9 => absurd (by decide) c9) (fun _ => ?_)
    refine lv_iconst (v := (-1)) hx hb gX12_span_0.2.2.2.2.2.1 (by decide) ?_
    refine toQ hQ0 ?_
    exact RI (v := (-1)) hC hP hD hS [0, 1, 2] fnm rfl rfl (by decide) (⟨trivial, by first | assumption | exact hM⟩) rfl gX12_span_0.2.2.2.2.2.2.1
def K_r_sent (l : Launch) (G : GG) (h0 : Nat) (x1 : Int32) (x2 : Int32) (nw : Nat) (nk : Nat) (mhasKept : Int32) (nt : Nat) (mtaped : Int32) (nr : Nat) (mrowMany : Int32) (mroundOf : Int32) (mroundFrom : Int32) (nm : Nat) (mfromHour : Int32) (mtoHour : Int32) (ns : Nat) (mfrom : Int32) (mto : Int32) (msort : Int32) (misFault : Int32) (mdeep : Int32) (mcoded : Int32) (mlines : Int32) (nl : Nat) (nc : Nat) (nF : Nat) (np : Nat) (ntr : Nat) (nb : Nat) (mbestCost : Int32) (nso : Nat) (nsi : Nat) (nit : Nat) (nsh : Nat) (nsf : Nat) (nss : Nat) (nrc : Nat) (mtraced : Int32) (mdealer : Int32) (mnumber : Int32) (mwhose : Int32) (msize : Int32) (misParted : Int32) (fnw : Nat → Int32) (fnm : Nat → Int32) : Prop := MI l G yX12_sent cX12_sent 3 (some .int) 6 0 0 [.ref h0, .int x1, .int x2] [(h0, oX12 nw nk mhasKept nt mtaped nr mrowMany mroundOf mroundFrom 0 nm mfromHour mtoHour ns mfrom mto msort misFault mdeep mcoded mlines nl nc nF np ntr nb mbestCost nso nsi nit nsh nsf nss nrc mtraced mdealer mnumber mwhose msize misParted), (nw, iA G 1662 fnw), (nm, iA G 36 fnm)] (fun (r : Int32) (u : Int32 × Int32 × (Nat → Int32)) => (True) ∧ (MB u.2.2)) (fun u : Int32 × Int32 × (Nat → Int32) => [(h0, oX12 nw nk mhasKept nt mtaped nr mrowMany mroundOf mroundFrom 0 nm u.1 u.2.1 ns mfrom mto msort misFault mdeep mcoded mlines nl nc nF np ntr nb mbestCost nso nsi nit nsh nsf nss nrc mtraced mdealer mnumber mwhose msize misParted), (nw, iA G 1662 fnw), (nm, iA G 36 u.2.2)])
set_option maxHeartbeats 4000000 in
set_option maxRecDepth 100000 in
theorem r_sent (l : Launch) (G : GG) (h0 : Nat) (x1 : Int32) (x2 : Int32) (nw : Nat) (nk : Nat) (mhasKept : Int32) (nt : Nat) (mtaped : Int32) (nr : Nat) (mrowMany : Int32) (mroundOf : Int32) (mroundFrom : Int32) (nm : Nat) (mfromHour : Int32) (mtoHour : Int32) (ns : Nat) (mfrom : Int32) (mto : Int32) (msort : Int32) (misFault : Int32) (mdeep : Int32) (mcoded : Int32) (mlines : Int32) (nl : Nat) (nc : Nat) (nF : Nat) (np : Nat) (ntr : Nat) (nb : Nat) (mbestCost : Int32) (nso : Nat) (nsi : Nat) (nit : Nat) (nsh : Nat) (nsf : Nat) (nss : Nat) (nrc : Nat) (mtraced : Int32) (mdealer : Int32) (mnumber : Int32) (mwhose : Int32) (msize : Int32) (misParted : Int32) (fnw : Nat → Int32) (fnm : Nat → Int32) (hN : NI fnw) (hM : MB fnm) : K_r_sent l G h0 x1 x2 nw nk mhasKept nt mtaped nr mrowMany mroundOf mroundFrom nm mfromHour mtoHour ns mfrom mto msort misFault mdeep mcoded mlines nl nc nF np ntr nb mbestCost nso nsi nit nsh nsf nss nrc mtraced mdealer mnumber mwhose msize misParted fnw fnm := by
  refine MI.start (by decide +kernel) (Nat.le_of_ble_eq_true rfl) ?_
  intro p e s m below meth c A ls hC hK hP hD hS hA hl
  refine absQ (fun Q0 hQ0 => ?_)
  have hl : lv_has ls 3 [(0, .ref h0), (1, .int x1), (2, .int x2)] := hl
  refine Kan8 hC (fun hx hb hr hml hB hown hlocks hnm => ?_)
  obtain ⟨kp, hkp, ekp⟩ := NI.nat hN (i := 4) (B := 10) (by decide +kernel) (by decide)
  obtain ⟨kq, hkq, ekq⟩ := NI.nat hN (i := 5) (B := 12) (by decide +kernel) (by decide)
  obtain ⟨k6, hk6, ek6⟩ := NI.nat hN (i := 6) (B := 24) (by decide +kernel) (by decide)
  refine lv_aload_n hx hb gX12_sent_0.1 rfl (lv_at0 hl) ?_
  refine lv_iload_n hx hb gX12_sent_0.2.1 rfl (lv_at1 hl) ?_
  refine lv_iconst (v := 5) hx hb gX12_sent_0.2.2.1 (by decide) ?_
  refine pV hC hK hl hP hD (m_is l G kq h0 x1 5 nw nk mhasKept nt mtaped nr mrowMany mroundOf mroundFrom 0 nm mfromHour mtoHour ns mfrom mto msort misFault mdeep mcoded mlines nl nc nF np ntr nb mbestCost nso nsi nit nsh nsf nss nrc mtraced mdealer mnumber mwhose msize misParted fnw (by omega) (ekq) (by omega)) si_X12_120 [0, 1] sm_0_1 fm_0_1 nd_0_1 rfl rfl rfl rfl rfl (Nat.le_of_ble_eq_true rfl) rm_6_2_3 ⟨by first | exact Nat.le_of_ble_eq_true rfl | exact Nat.zero_le _, by first | exact Nat.le_of_ble_eq_true rfl | exact Nat.zero_le _⟩ gX12_sent_0.2.2.2.1 (Kors (Keqa fun a5384 => ?_) (Keqa fun a5384 => ?_))
  · refine lv_if_ne (tgt := 11) hx hb gX12_sent_0.2.2.2.2.1 (by decide) (fun _ => ?_) (fun c9 => absurd c9 (by decide))
    obtain ⟨jp, hjp, rfl⟩ := Hs_nat (by omega) a5384
    refine lv_aload_n hx hb gX12_sent_0.2.2.2.2.2.2.2.1 rfl (lv_at0 hl) ?_
    refine lv_iload_n hx hb gX12_sent_0.2.2.2.2.2.2.2.2.1 rfl (lv_at1 hl) ?_
    refine lv_aload_n hx hb gX12_sent_0.2.2.2.2.2.2.2.2.2 rfl (lv_at0 hl) ?_
    refine iV (wr := []) hC hK hl hP hD hS hA (m_findClocks l G h0 nw nk mhasKept nt mtaped nr mrowMany mroundOf mroundFrom 0 nm mfromHour mtoHour ns mfrom mto msort misFault mdeep mcoded mlines nl nc nF np ntr nb mbestCost nso nsi nit nsh nsf nss nrc mtraced mdealer mnumber mwhose msize misParted fnw fnm (hN) (hM)) si_X12_148 [0, 1, 2] [] sm_0_1_2 fm_0_1_2 nd_0_1_2 rfl rfl (by decide) rfl rfl rfl rfl rfl (Nat.le_of_ble_eq_true rfl) rm_6_4_7 ⟨Nat.le_of_ble_eq_true rfl, Nat.le_of_ble_eq_true rfl⟩ gX12_sent_1.1 (fun r5385 gnm5387 H locs hr5385 hP hD hS => ?_)
    try dsimp only at hr5385
    refine Kpdr (ws := [(h0, oX12 nw nk mhasKept nt mtaped nr mrowMany mroundOf mroundFrom 0 nm mfromHour mtoHour ns mfrom mto msort misFault mdeep mcoded mlines nl nc nF np ntr nb mbestCost nso nsi nit nsh nsf nss nrc mtraced mdealer mnumber mwhose msize misParted), (nw, iA G 1662 fnw), (nm, iA G 36 gnm5387)]) hP hD (fun hP hD => ?_)
    obtain ⟨hr5385, w5388⟩ := hr5385
    rcases hr5385 with rfl | rfl
    · refine lv_iconst (v := 1) hx hb gX12_sent_1.2.1 (by decide) ?_
      refine iV (wr := []) hC hK hl hP hD hS hA (m_hours l G h0 jp 1 1 nw nk mhasKept nt mtaped nr mrowMany mroundOf mroundFrom 0 nm mfromHour mtoHour ns mfrom mto msort misFault mdeep mcoded mlines nl nc nF np ntr nb mbestCost nso nsi nit nsh nsf nss nrc mtraced mdealer mnumber mwhose msize misParted fnw gnm5387 (by omega) (hN) (w5388)) si_X12_167 [0, 1, 2] [] sm_0_1_2 fm_0_1_2 nd_0_1_2 rfl rfl (by decide) rfl rfl rfl rfl rfl (Nat.le_of_ble_eq_true rfl) rm_6_3_6 ⟨Nat.le_of_ble_eq_true rfl, Nat.le_of_ble_eq_true rfl⟩ gX12_sent_1.2.2.1 (fun r5390 => Ktu2 fun fh15392 th15393 => ?_)
      intro H locs hr5390 hP hD hS
      try dsimp only at hr5390
      refine Kpdr (ws := [(h0, oX12 nw nk mhasKept nt mtaped nr mrowMany mroundOf mroundFrom 0 nm fh15392 th15393 ns mfrom mto msort misFault mdeep mcoded mlines nl nc nF np ntr nb mbestCost nso nsi nit nsh nsf nss nrc mtraced mdealer mnumber mwhose msize misParted), (nw, iA G 1662 fnw), (nm, iA G 36 gnm5387)]) hP hD (fun hP hD => ?_)
      obtain ⟨hr5390, w5394⟩ := hr5390
      rcases hr5390 with ⟨rfl, a5395⟩ | rfl
      · refine lv_if_ne (tgt := 29) hx hb gX12_sent_1.2.2.2.1 (by decide) (fun _ => ?_) (fun c9 => absurd c9 (by decide))
        refine lv_sipush (v := 1000) hx hb gX12_sent_1.2.2.2.2.2.2.1 (by decide) ?_
        refine lv_iload_n hx hb gX12_sent_1.2.2.2.2.2.2.2.1 rfl (lv_at2 hl) ?_
        refine lv_if_eq (tgt := 43) hx hb gX12_sent_1.2.2.2.2.2.2.2.2.1 (by decide) (fun c_33_5396 => ?_) (fun c_33_5396 => ?_)
        · refine lv_aload_n hx hb gX12_sent_2.2.2.1 rfl (lv_at0 hl) ?_
          refine gf_X12_161 hC rfl hK hP 0 rfl rfl gX12_sent_2.2.2.2.1 ?_
          refine lv_iadd hx hb gX12_sent_2.2.2.2.2.1 ?_
          refine toQ hQ0 ?_
          exact RI (v := 1000 + fh15392) hC hP hD hS [0, 1, 2] (fh15392, th15393, gnm5387) rfl rfl (by decide) (⟨trivial, by first | assumption | exact hM⟩) rfl gX12_sent_2.2.2.2.2.2
        · refine lv_aload_n hx hb gX12_sent_1.2.2.2.2.2.2.2.2.2 rfl (lv_at0 hl) ?_
          refine gf_X12_164 hC rfl hK hP 0 rfl rfl gX12_sent_2.1 ?_
          refine lv_goto (tgt := 47) hx hb gX12_sent_2.2.1 (by decide) ?_
          refine lv_iadd hx hb gX12_sent_2.2.2.2.2.1 ?_
          refine toQ hQ0 ?_
          exact RI (v := 1000 + th15393) hC hP hD hS [0, 1, 2] (fh15392, th15393, gnm5387) rfl rfl (by decide) (⟨trivial, by first | assumption | exact hM⟩) rfl gX12_sent_2.2.2.2.2.2
      · refine lv_if_ne (tgt := 29) hx hb gX12_sent_1.2.2.2.1 (by decide) (fun c9 => absurd (by decide) c9) (fun _ => ?_)
        refine lv_bipush (v := (-3)) hx hb gX12_sent_1.2.2.2.2.1 (by decide) ?_
        refine lv_goto (tgt := 48) hx hb gX12_sent_1.2.2.2.2.2.1 (by decide) ?_
        refine toQ hQ0 ?_
        exact RI (v := (-3)) hC hP hD hS [0, 1, 2] (fh15392, th15393, gnm5387) rfl rfl (by decide) (⟨trivial, by first | assumption | exact hM⟩) rfl gX12_sent_2.2.2.2.2.2
    · refine lv_iconst (v := 1) hx hb gX12_sent_1.2.1 (by decide) ?_
      refine iV (wr := []) hC hK hl hP hD hS hA (m_hours l G h0 jp 0 1 nw nk mhasKept nt mtaped nr mrowMany mroundOf mroundFrom 0 nm mfromHour mtoHour ns mfrom mto msort misFault mdeep mcoded mlines nl nc nF np ntr nb mbestCost nso nsi nit nsh nsf nss nrc mtraced mdealer mnumber mwhose msize misParted fnw gnm5387 (by omega) (hN) (w5388)) si_X12_167 [0, 1, 2] [] sm_0_1_2 fm_0_1_2 nd_0_1_2 rfl rfl (by decide) rfl rfl rfl rfl rfl (Nat.le_of_ble_eq_true rfl) rm_6_3_6 ⟨Nat.le_of_ble_eq_true rfl, Nat.le_of_ble_eq_true rfl⟩ gX12_sent_1.2.2.1 (fun r5397 => Ktu2 fun fh15399 th15400 => ?_)
      intro H locs hr5397 hP hD hS
      try dsimp only at hr5397
      refine Kpdr (ws := [(h0, oX12 nw nk mhasKept nt mtaped nr mrowMany mroundOf mroundFrom 0 nm fh15399 th15400 ns mfrom mto msort misFault mdeep mcoded mlines nl nc nF np ntr nb mbestCost nso nsi nit nsh nsf nss nrc mtraced mdealer mnumber mwhose msize misParted), (nw, iA G 1662 fnw), (nm, iA G 36 gnm5387)]) hP hD (fun hP hD => ?_)
      obtain ⟨hr5397, w5401⟩ := hr5397
      rcases hr5397 with ⟨rfl, a5402⟩ | rfl
      · refine lv_if_ne (tgt := 29) hx hb gX12_sent_1.2.2.2.1 (by decide) (fun _ => ?_) (fun c9 => absurd c9 (by decide))
        refine lv_sipush (v := 1000) hx hb gX12_sent_1.2.2.2.2.2.2.1 (by decide) ?_
        refine lv_iload_n hx hb gX12_sent_1.2.2.2.2.2.2.2.1 rfl (lv_at2 hl) ?_
        refine lv_if_eq (tgt := 43) hx hb gX12_sent_1.2.2.2.2.2.2.2.2.1 (by decide) (fun c_33_5403 => ?_) (fun c_33_5403 => ?_)
        · refine lv_aload_n hx hb gX12_sent_2.2.2.1 rfl (lv_at0 hl) ?_
          refine gf_X12_161 hC rfl hK hP 0 rfl rfl gX12_sent_2.2.2.2.1 ?_
          refine lv_iadd hx hb gX12_sent_2.2.2.2.2.1 ?_
          refine toQ hQ0 ?_
          exact RI (v := 1000 + fh15399) hC hP hD hS [0, 1, 2] (fh15399, th15400, gnm5387) rfl rfl (by decide) (⟨trivial, by first | assumption | exact hM⟩) rfl gX12_sent_2.2.2.2.2.2
        · refine lv_aload_n hx hb gX12_sent_1.2.2.2.2.2.2.2.2.2 rfl (lv_at0 hl) ?_
          refine gf_X12_164 hC rfl hK hP 0 rfl rfl gX12_sent_2.1 ?_
          refine lv_goto (tgt := 47) hx hb gX12_sent_2.2.1 (by decide) ?_
          refine lv_iadd hx hb gX12_sent_2.2.2.2.2.1 ?_
          refine toQ hQ0 ?_
          exact RI (v := 1000 + th15400) hC hP hD hS [0, 1, 2] (fh15399, th15400, gnm5387) rfl rfl (by decide) (⟨trivial, by first | assumption | exact hM⟩) rfl gX12_sent_2.2.2.2.2.2
      · refine lv_if_ne (tgt := 29) hx hb gX12_sent_1.2.2.2.1 (by decide) (fun c9 => absurd (by decide) c9) (fun _ => ?_)
        refine lv_bipush (v := (-3)) hx hb gX12_sent_1.2.2.2.2.1 (by decide) ?_
        refine lv_goto (tgt := 48) hx hb gX12_sent_1.2.2.2.2.2.1 (by decide) ?_
        refine toQ hQ0 ?_
        exact RI (v := (-3)) hC hP hD hS [0, 1, 2] (fh15399, th15400, gnm5387) rfl rfl (by decide) (⟨trivial, by first | assumption | exact hM⟩) rfl gX12_sent_2.2.2.2.2.2
  · refine lv_if_ne (tgt := 11) hx hb gX12_sent_0.2.2.2.2.1 (by decide) (fun c9 => absurd (by decide) c9) (fun _ => ?_)
    refine lv_iconst (v := (-1)) hx hb gX12_sent_0.2.2.2.2.2.1 (by decide) ?_
    refine toQ hQ0 ?_
    exact RI (v := (-1)) hC hP hD hS [0, 1, 2] (mfromHour, mtoHour, fnm) rfl rfl (by decide) (⟨trivial, by first | assumption | exact hM⟩) rfl gX12_sent_0.2.2.2.2.2.2.1
def K_r_hand (l : Launch) (G : GG) (h0 : Nat) (x1 : Int32) (x2 : Int32) (x3 : Int32) (nw : Nat) (nk : Nat) (mhasKept : Int32) (nt : Nat) (mtaped : Int32) (nr : Nat) (mrowMany : Int32) (mroundOf : Int32) (mroundFrom : Int32) (nm : Nat) (mfromHour : Int32) (mtoHour : Int32) (ns : Nat) (mfrom : Int32) (mto : Int32) (msort : Int32) (misFault : Int32) (mdeep : Int32) (mcoded : Int32) (mlines : Int32) (nl : Nat) (nc : Nat) (nF : Nat) (np : Nat) (ntr : Nat) (nb : Nat) (mbestCost : Int32) (nso : Nat) (nsi : Nat) (nit : Nat) (nsh : Nat) (nsf : Nat) (nss : Nat) (nrc : Nat) (mtraced : Int32) (mdealer : Int32) (mnumber : Int32) (mwhose : Int32) (msize : Int32) (misParted : Int32) (fnw : Nat → Int32) (fnm : Nat → Int32) : Prop := MI l G yX12_hand cX12_hand 4 (some .int) 6 0 0 [.ref h0, .int x1, .int x2, .int x3] [(h0, oX12 nw nk mhasKept nt mtaped nr mrowMany mroundOf mroundFrom 0 nm mfromHour mtoHour ns mfrom mto msort misFault mdeep mcoded mlines nl nc nF np ntr nb mbestCost nso nsi nit nsh nsf nss nrc mtraced mdealer mnumber mwhose msize misParted), (nw, iA G 1662 fnw), (nm, iA G 36 fnm)] (fun (r : Int32) (u : Int32 × Int32 × (Nat → Int32)) => (True) ∧ (MB u.2.2)) (fun u : Int32 × Int32 × (Nat → Int32) => [(h0, oX12 nw nk mhasKept nt mtaped nr mrowMany mroundOf mroundFrom 0 nm u.1 u.2.1 ns mfrom mto msort misFault mdeep mcoded mlines nl nc nF np ntr nb mbestCost nso nsi nit nsh nsf nss nrc mtraced mdealer mnumber mwhose msize misParted), (nw, iA G 1662 fnw), (nm, iA G 36 u.2.2)])
set_option maxHeartbeats 4000000 in
set_option maxRecDepth 100000 in
theorem r_hand (l : Launch) (G : GG) (h0 : Nat) (x1 : Int32) (x2 : Int32) (x3 : Int32) (nw : Nat) (nk : Nat) (mhasKept : Int32) (nt : Nat) (mtaped : Int32) (nr : Nat) (mrowMany : Int32) (mroundOf : Int32) (mroundFrom : Int32) (nm : Nat) (mfromHour : Int32) (mtoHour : Int32) (ns : Nat) (mfrom : Int32) (mto : Int32) (msort : Int32) (misFault : Int32) (mdeep : Int32) (mcoded : Int32) (mlines : Int32) (nl : Nat) (nc : Nat) (nF : Nat) (np : Nat) (ntr : Nat) (nb : Nat) (mbestCost : Int32) (nso : Nat) (nsi : Nat) (nit : Nat) (nsh : Nat) (nsf : Nat) (nss : Nat) (nrc : Nat) (mtraced : Int32) (mdealer : Int32) (mnumber : Int32) (mwhose : Int32) (msize : Int32) (misParted : Int32) (fnw : Nat → Int32) (fnm : Nat → Int32) (hN : NI fnw) (hM : MB fnm) : K_r_hand l G h0 x1 x2 x3 nw nk mhasKept nt mtaped nr mrowMany mroundOf mroundFrom nm mfromHour mtoHour ns mfrom mto msort misFault mdeep mcoded mlines nl nc nF np ntr nb mbestCost nso nsi nit nsh nsf nss nrc mtraced mdealer mnumber mwhose msize misParted fnw fnm := by
  refine MI.start (by decide +kernel) (Nat.le_of_ble_eq_true rfl) ?_
  intro p e s m below meth c A ls hC hK hP hD hS hA hl
  refine absQ (fun Q0 hQ0 => ?_)
  have hl : lv_has ls 4 [(0, .ref h0), (1, .int x1), (2, .int x2), (3, .int x3)] := hl
  refine Kan8 hC (fun hx hb hr hml hB hown hlocks hnm => ?_)
  obtain ⟨kp, hkp, ekp⟩ := NI.nat hN (i := 4) (B := 10) (by decide +kernel) (by decide)
  obtain ⟨kq, hkq, ekq⟩ := NI.nat hN (i := 5) (B := 12) (by decide +kernel) (by decide)
  obtain ⟨k6, hk6, ek6⟩ := NI.nat hN (i := 6) (B := 24) (by decide +kernel) (by decide)
  refine lv_aload_n hx hb gX12_hand_0.1 rfl (lv_at0 hl) ?_
  refine lv_iload_n hx hb gX12_hand_0.2.1 rfl (lv_at1 hl) ?_
  refine lv_iconst (v := 5) hx hb gX12_hand_0.2.2.1 (by decide) ?_
  refine pV hC hK hl hP hD (m_is l G kq h0 x1 5 nw nk mhasKept nt mtaped nr mrowMany mroundOf mroundFrom 0 nm mfromHour mtoHour ns mfrom mto msort misFault mdeep mcoded mlines nl nc nF np ntr nb mbestCost nso nsi nit nsh nsf nss nrc mtraced mdealer mnumber mwhose msize misParted fnw (by omega) (ekq) (by omega)) si_X12_120 [0, 1] sm_0_1 fm_0_1 nd_0_1 rfl rfl rfl rfl rfl (Nat.le_of_ble_eq_true rfl) rm_6_2_3 ⟨by first | exact Nat.le_of_ble_eq_true rfl | exact Nat.zero_le _, by first | exact Nat.le_of_ble_eq_true rfl | exact Nat.zero_le _⟩ gX12_hand_0.2.2.2.1 (Kors (Keqa fun a5405 => ?_) (Keqa fun a5405 => ?_))
  · refine lv_if_eq (tgt := 18) hx hb gX12_hand_0.2.2.2.2.1 (by decide) (fun c9 => absurd c9 (by decide)) (fun _ => ?_)
    refine lv_aload_n hx hb gX12_hand_0.2.2.2.2.2.1 rfl (lv_at0 hl) ?_
    refine lv_iload_n hx hb gX12_hand_0.2.2.2.2.2.2.1 rfl (lv_at2 hl) ?_
    refine lv_iconst (v := 4) hx hb gX12_hand_0.2.2.2.2.2.2.2.1 (by decide) ?_
    refine pV hC hK hl hP hD (m_is l G kp h0 x2 4 nw nk mhasKept nt mtaped nr mrowMany mroundOf mroundFrom 0 nm mfromHour mtoHour ns mfrom mto msort misFault mdeep mcoded mlines nl nc nF np ntr nb mbestCost nso nsi nit nsh nsf nss nrc mtraced mdealer mnumber mwhose msize misParted fnw (by omega) (ekp) (by omega)) si_X12_120 [0, 1] sm_0_1 fm_0_1 nd_0_1 rfl rfl rfl rfl rfl (Nat.le_of_ble_eq_true rfl) rm_6_2_3 ⟨by first | exact Nat.le_of_ble_eq_true rfl | exact Nat.zero_le _, by first | exact Nat.le_of_ble_eq_true rfl | exact Nat.zero_le _⟩ gX12_hand_0.2.2.2.2.2.2.2.2.1 (Kors (Keqa fun a5407 => ?_) (Keqa fun a5407 => ?_))
    · refine lv_if_ne (tgt := 20) hx hb gX12_hand_0.2.2.2.2.2.2.2.2.2 (by decide) (fun _ => ?_) (fun c9 => absurd c9 (by decide))
      obtain ⟨jp, hjp, rfl⟩ := Hs_nat (by omega) a5405
      obtain ⟨je, hje, rfl⟩ := Hs_nat (by omega) a5407
      refine lv_aload_n hx hb gX12_hand_1.2.2.1 rfl (lv_at0 hl) ?_
      refine lv_iload_n hx hb gX12_hand_1.2.2.2.1 rfl (lv_at1 hl) ?_
      refine lv_iload_n hx hb gX12_hand_1.2.2.2.2.1 rfl (lv_at2 hl) ?_
      refine lv_aload_n hx hb gX12_hand_1.2.2.2.2.2.1 rfl (lv_at0 hl) ?_
      refine iV (wr := []) hC hK hl hP hD hS hA (m_findClocks l G h0 nw nk mhasKept nt mtaped nr mrowMany mroundOf mroundFrom 0 nm mfromHour mtoHour ns mfrom mto msort misFault mdeep mcoded mlines nl nc nF np ntr nb mbestCost nso nsi nit nsh nsf nss nrc mtraced mdealer mnumber mwhose msize misParted fnw fnm (hN) (hM)) si_X12_148 [0, 1, 2] [] sm_0_1_2 fm_0_1_2 nd_0_1_2 rfl rfl (by decide) rfl rfl rfl rfl rfl (Nat.le_of_ble_eq_true rfl) rm_6_4_7 ⟨Nat.le_of_ble_eq_true rfl, Nat.le_of_ble_eq_true rfl⟩ gX12_hand_1.2.2.2.2.2.2.1 (fun r5408 gnm5410 H locs hr5408 hP hD hS => ?_)
      try dsimp only at hr5408
      refine Kpdr (ws := [(h0, oX12 nw nk mhasKept nt mtaped nr mrowMany mroundOf mroundFrom 0 nm mfromHour mtoHour ns mfrom mto msort misFault mdeep mcoded mlines nl nc nF np ntr nb mbestCost nso nsi nit nsh nsf nss nrc mtraced mdealer mnumber mwhose msize misParted), (nw, iA G 1662 fnw), (nm, iA G 36 gnm5410)]) hP hD (fun hP hD => ?_)
      obtain ⟨hr5408, w5411⟩ := hr5408
      rcases hr5408 with rfl | rfl
      · refine iV (wr := []) hC hK hl hP hD hS hA (m_inHand l G h0 jp je 1 nw nk mhasKept nt mtaped nr mrowMany mroundOf mroundFrom 0 nm mfromHour mtoHour ns mfrom mto msort misFault mdeep mcoded mlines nl nc nF np ntr nb mbestCost nso nsi nit nsh nsf nss nrc mtraced mdealer mnumber mwhose msize misParted fnw gnm5410 (by omega) (by omega) (hN) (w5411)) si_X12_171 [0, 1, 2] [] sm_0_1_2 fm_0_1_2 nd_0_1_2 rfl rfl (by decide) rfl rfl rfl rfl rfl (Nat.le_of_ble_eq_true rfl) rm_6_4_4 ⟨Nat.le_of_ble_eq_true rfl, Nat.le_of_ble_eq_true rfl⟩ gX12_hand_1.2.2.2.2.2.2.2.1 (fun r5413 => Ktu2 fun fh15415 th15416 => ?_)
        intro H locs hr5413 hP hD hS
        try dsimp only at hr5413
        refine Kpdr (ws := [(h0, oX12 nw nk mhasKept nt mtaped nr mrowMany mroundOf mroundFrom 0 nm fh15415 th15416 ns mfrom mto msort misFault mdeep mcoded mlines nl nc nF np ntr nb mbestCost nso nsi nit nsh nsf nss nrc mtraced mdealer mnumber mwhose msize misParted), (nw, iA G 1662 fnw), (nm, iA G 36 gnm5410)]) hP hD (fun hP hD => ?_)
        rcases hr5413 with ⟨rfl, a5417⟩ | rfl
        · refine lv_if_ne (tgt := 38) hx hb gX12_hand_1.2.2.2.2.2.2.2.2.1 (by decide) (fun _ => ?_) (fun c9 => absurd c9 (by decide))
          refine lv_sipush (v := 1000) hx hb gX12_hand_2.2.1 (by decide) ?_
          refine lv_iload_n hx hb gX12_hand_2.2.2.1 rfl (lv_at3 hl) ?_
          refine lv_if_eq (tgt := 52) hx hb gX12_hand_2.2.2.2.1 (by decide) (fun c_42_5418 => ?_) (fun c_42_5418 => ?_)
          · refine lv_aload_n hx hb gX12_hand_2.2.2.2.2.2.2.2.1 rfl (lv_at0 hl) ?_
            refine gf_X12_161 hC rfl hK hP 0 rfl rfl gX12_hand_2.2.2.2.2.2.2.2.2.1 ?_
            refine lv_iadd hx hb gX12_hand_2.2.2.2.2.2.2.2.2.2 ?_
            refine toQ hQ0 ?_
            exact RI (v := 1000 + fh15415) hC hP hD hS [0, 1, 2] (fh15415, th15416, gnm5410) rfl rfl (by decide) (⟨trivial, by first | assumption | exact hM⟩) rfl gX12_hand_3
          · refine lv_aload_n hx hb gX12_hand_2.2.2.2.2.1 rfl (lv_at0 hl) ?_
            refine gf_X12_164 hC rfl hK hP 0 rfl rfl gX12_hand_2.2.2.2.2.2.1 ?_
            refine lv_goto (tgt := 56) hx hb gX12_hand_2.2.2.2.2.2.2.1 (by decide) ?_
            refine lv_iadd hx hb gX12_hand_2.2.2.2.2.2.2.2.2.2 ?_
            refine toQ hQ0 ?_
            exact RI (v := 1000 + th15416) hC hP hD hS [0, 1, 2] (fh15415, th15416, gnm5410) rfl rfl (by decide) (⟨trivial, by first | assumption | exact hM⟩) rfl gX12_hand_3
        · refine lv_if_ne (tgt := 38) hx hb gX12_hand_1.2.2.2.2.2.2.2.2.1 (by decide) (fun c9 => absurd (by decide) c9) (fun _ => ?_)
          refine lv_bipush (v := (-3)) hx hb gX12_hand_1.2.2.2.2.2.2.2.2.2 (by decide) ?_
          refine lv_goto (tgt := 57) hx hb gX12_hand_2.1 (by decide) ?_
          refine toQ hQ0 ?_
          exact RI (v := (-3)) hC hP hD hS [0, 1, 2] (fh15415, th15416, gnm5410) rfl rfl (by decide) (⟨trivial, by first | assumption | exact hM⟩) rfl gX12_hand_3
      · refine iV (wr := []) hC hK hl hP hD hS hA (m_inHand l G h0 jp je 0 nw nk mhasKept nt mtaped nr mrowMany mroundOf mroundFrom 0 nm mfromHour mtoHour ns mfrom mto msort misFault mdeep mcoded mlines nl nc nF np ntr nb mbestCost nso nsi nit nsh nsf nss nrc mtraced mdealer mnumber mwhose msize misParted fnw gnm5410 (by omega) (by omega) (hN) (w5411)) si_X12_171 [0, 1, 2] [] sm_0_1_2 fm_0_1_2 nd_0_1_2 rfl rfl (by decide) rfl rfl rfl rfl rfl (Nat.le_of_ble_eq_true rfl) rm_6_4_4 ⟨Nat.le_of_ble_eq_true rfl, Nat.le_of_ble_eq_true rfl⟩ gX12_hand_1.2.2.2.2.2.2.2.1 (fun r5419 => Ktu2 fun fh15421 th15422 => ?_)
        intro H locs hr5419 hP hD hS
        try dsimp only at hr5419
        refine Kpdr (ws := [(h0, oX12 nw nk mhasKept nt mtaped nr mrowMany mroundOf mroundFrom 0 nm fh15421 th15422 ns mfrom mto msort misFault mdeep mcoded mlines nl nc nF np ntr nb mbestCost nso nsi nit nsh nsf nss nrc mtraced mdealer mnumber mwhose msize misParted), (nw, iA G 1662 fnw), (nm, iA G 36 gnm5410)]) hP hD (fun hP hD => ?_)
        rcases hr5419 with ⟨rfl, a5423⟩ | rfl
        · refine lv_if_ne (tgt := 38) hx hb gX12_hand_1.2.2.2.2.2.2.2.2.1 (by decide) (fun _ => ?_) (fun c9 => absurd c9 (by decide))
          refine lv_sipush (v := 1000) hx hb gX12_hand_2.2.1 (by decide) ?_
          refine lv_iload_n hx hb gX12_hand_2.2.2.1 rfl (lv_at3 hl) ?_
          refine lv_if_eq (tgt := 52) hx hb gX12_hand_2.2.2.2.1 (by decide) (fun c_42_5424 => ?_) (fun c_42_5424 => ?_)
          · refine lv_aload_n hx hb gX12_hand_2.2.2.2.2.2.2.2.1 rfl (lv_at0 hl) ?_
            refine gf_X12_161 hC rfl hK hP 0 rfl rfl gX12_hand_2.2.2.2.2.2.2.2.2.1 ?_
            refine lv_iadd hx hb gX12_hand_2.2.2.2.2.2.2.2.2.2 ?_
            refine toQ hQ0 ?_
            exact RI (v := 1000 + fh15421) hC hP hD hS [0, 1, 2] (fh15421, th15422, gnm5410) rfl rfl (by decide) (⟨trivial, by first | assumption | exact hM⟩) rfl gX12_hand_3
          · refine lv_aload_n hx hb gX12_hand_2.2.2.2.2.1 rfl (lv_at0 hl) ?_
            refine gf_X12_164 hC rfl hK hP 0 rfl rfl gX12_hand_2.2.2.2.2.2.1 ?_
            refine lv_goto (tgt := 56) hx hb gX12_hand_2.2.2.2.2.2.2.1 (by decide) ?_
            refine lv_iadd hx hb gX12_hand_2.2.2.2.2.2.2.2.2.2 ?_
            refine toQ hQ0 ?_
            exact RI (v := 1000 + th15422) hC hP hD hS [0, 1, 2] (fh15421, th15422, gnm5410) rfl rfl (by decide) (⟨trivial, by first | assumption | exact hM⟩) rfl gX12_hand_3
        · refine lv_if_ne (tgt := 38) hx hb gX12_hand_1.2.2.2.2.2.2.2.2.1 (by decide) (fun c9 => absurd (by decide) c9) (fun _ => ?_)
          refine lv_bipush (v := (-3)) hx hb gX12_hand_1.2.2.2.2.2.2.2.2.2 (by decide) ?_
          refine lv_goto (tgt := 57) hx hb gX12_hand_2.1 (by decide) ?_
          refine toQ hQ0 ?_
          exact RI (v := (-3)) hC hP hD hS [0, 1, 2] (fh15421, th15422, gnm5410) rfl rfl (by decide) (⟨trivial, by first | assumption | exact hM⟩) rfl gX12_hand_3
    · refine lv_if_ne (tgt := 20) hx hb gX12_hand_0.2.2.2.2.2.2.2.2.2 (by decide) (fun c9 => absurd (by decide) c9) (fun _ => ?_)
      refine lv_iconst (v := (-1)) hx hb gX12_hand_1.1 (by decide) ?_
      refine toQ hQ0 ?_
      exact RI (v := (-1)) hC hP hD hS [0, 1, 2] (mfromHour, mtoHour, fnm) rfl rfl (by decide) (⟨trivial, by first | assumption | exact hM⟩) rfl gX12_hand_1.2.1
  · refine lv_if_eq (tgt := 18) hx hb gX12_hand_0.2.2.2.2.1 (by decide) (fun _ => ?_) (fun c9 => absurd (by decide) c9)
    refine lv_iconst (v := (-1)) hx hb gX12_hand_1.1 (by decide) ?_
    refine toQ hQ0 ?_
    exact RI (v := (-1)) hC hP hD hS [0, 1, 2] (mfromHour, mtoHour, fnm) rfl rfl (by decide) (⟨trivial, by first | assumption | exact hM⟩) rfl gX12_hand_1.2.1
def K_r_before (l : Launch) (G : GG) (h0 : Nat) (x1 : Int32) (x2 : Int32) (nw : Nat) (nk : Nat) (mhasKept : Int32) (nt : Nat) (mtaped : Int32) (nr : Nat) (mrowMany : Int32) (mroundOf : Int32) (mroundFrom : Int32) (nm : Nat) (mfromHour : Int32) (mtoHour : Int32) (ns : Nat) (mfrom : Int32) (mto : Int32) (msort : Int32) (misFault : Int32) (mdeep : Int32) (mcoded : Int32) (mlines : Int32) (nl : Nat) (nc : Nat) (nF : Nat) (np : Nat) (ntr : Nat) (nb : Nat) (mbestCost : Int32) (nso : Nat) (nsi : Nat) (nit : Nat) (nsh : Nat) (nsf : Nat) (nss : Nat) (nrc : Nat) (mtraced : Int32) (mdealer : Int32) (mnumber : Int32) (mwhose : Int32) (msize : Int32) (misParted : Int32) (fnw : Nat → Int32) (fnm : Nat → Int32) : Prop := MI l G yX12_before cX12_before 9 (some .int) 6 0 0 [.ref h0, .int x1, .int x2] [(h0, oX12 nw nk mhasKept nt mtaped nr mrowMany mroundOf mroundFrom 0 nm mfromHour mtoHour ns mfrom mto msort misFault mdeep mcoded mlines nl nc nF np ntr nb mbestCost nso nsi nit nsh nsf nss nrc mtraced mdealer mnumber mwhose msize misParted), (nw, iA G 1662 fnw), (nm, iA G 36 fnm)] (fun (r : Int32) (u : Int32 × Int32 × (Nat → Int32)) => (True) ∧ (MB u.2.2)) (fun u : Int32 × Int32 × (Nat → Int32) => [(h0, oX12 nw nk mhasKept nt mtaped nr mrowMany mroundOf mroundFrom 0 nm u.1 u.2.1 ns mfrom mto msort misFault mdeep mcoded mlines nl nc nF np ntr nb mbestCost nso nsi nit nsh nsf nss nrc mtraced mdealer mnumber mwhose msize misParted), (nw, iA G 1662 fnw), (nm, iA G 36 u.2.2)])
set_option maxHeartbeats 4000000 in
set_option maxRecDepth 100000 in
theorem r_before (l : Launch) (G : GG) (h0 : Nat) (x1 : Int32) (x2 : Int32) (nw : Nat) (nk : Nat) (mhasKept : Int32) (nt : Nat) (mtaped : Int32) (nr : Nat) (mrowMany : Int32) (mroundOf : Int32) (mroundFrom : Int32) (nm : Nat) (mfromHour : Int32) (mtoHour : Int32) (ns : Nat) (mfrom : Int32) (mto : Int32) (msort : Int32) (misFault : Int32) (mdeep : Int32) (mcoded : Int32) (mlines : Int32) (nl : Nat) (nc : Nat) (nF : Nat) (np : Nat) (ntr : Nat) (nb : Nat) (mbestCost : Int32) (nso : Nat) (nsi : Nat) (nit : Nat) (nsh : Nat) (nsf : Nat) (nss : Nat) (nrc : Nat) (mtraced : Int32) (mdealer : Int32) (mnumber : Int32) (mwhose : Int32) (msize : Int32) (misParted : Int32) (fnw : Nat → Int32) (fnm : Nat → Int32) (hN : NI fnw) (hM : MB fnm) : K_r_before l G h0 x1 x2 nw nk mhasKept nt mtaped nr mrowMany mroundOf mroundFrom nm mfromHour mtoHour ns mfrom mto msort misFault mdeep mcoded mlines nl nc nF np ntr nb mbestCost nso nsi nit nsh nsf nss nrc mtraced mdealer mnumber mwhose msize misParted fnw fnm := by
  refine MI.start (by decide +kernel) (Nat.le_of_ble_eq_true rfl) ?_
  intro p e s m below meth c A ls hC hK hP hD hS hA hl
  refine absQ (fun Q0 hQ0 => ?_)
  have hl : lv_has ls 9 [(0, .ref h0), (1, .int x1), (2, .int x2)] := hl
  refine Kan8 hC (fun hx hb hr hml hB hown hlocks hnm => ?_)
  obtain ⟨kp, hkp, ekp⟩ := NI.nat hN (i := 4) (B := 10) (by decide +kernel) (by decide)
  obtain ⟨kq, hkq, ekq⟩ := NI.nat hN (i := 5) (B := 12) (by decide +kernel) (by decide)
  obtain ⟨k6, hk6, ek6⟩ := NI.nat hN (i := 6) (B := 24) (by decide +kernel) (by decide)
  refine lv_aload_n hx hb gX12_before_0.1 rfl (lv_at0 hl) ?_
  refine lv_iload_n hx hb gX12_before_0.2.1 rfl (lv_at1 hl) ?_
  refine lv_iconst (v := 5) hx hb gX12_before_0.2.2.1 (by decide) ?_
  refine pV hC hK hl hP hD (m_is l G kq h0 x1 5 nw nk mhasKept nt mtaped nr mrowMany mroundOf mroundFrom 0 nm mfromHour mtoHour ns mfrom mto msort misFault mdeep mcoded mlines nl nc nF np ntr nb mbestCost nso nsi nit nsh nsf nss nrc mtraced mdealer mnumber mwhose msize misParted fnw (by omega) (ekq) (by omega)) si_X12_120 [0, 1] sm_0_1 fm_0_1 nd_0_1 rfl rfl rfl rfl rfl (Nat.le_of_ble_eq_true rfl) rm_6_2_3 ⟨by first | exact Nat.le_of_ble_eq_true rfl | exact Nat.zero_le _, by first | exact Nat.le_of_ble_eq_true rfl | exact Nat.zero_le _⟩ gX12_before_0.2.2.2.1 (Kors (Keqa fun a5426 => ?_) (Keqa fun a5426 => ?_))
  · refine lv_if_eq (tgt := 23) hx hb gX12_before_0.2.2.2.2.1 (by decide) (fun c9 => absurd c9 (by decide)) (fun _ => ?_)
    refine lv_aload_n hx hb gX12_before_0.2.2.2.2.2.1 rfl (lv_at0 hl) ?_
    refine lv_iload_n hx hb gX12_before_0.2.2.2.2.2.2.1 rfl (lv_at2 hl) ?_
    refine lv_iconst (v := 5) hx hb gX12_before_0.2.2.2.2.2.2.2.1 (by decide) ?_
    refine pV hC hK hl hP hD (m_is l G kq h0 x2 5 nw nk mhasKept nt mtaped nr mrowMany mroundOf mroundFrom 0 nm mfromHour mtoHour ns mfrom mto msort misFault mdeep mcoded mlines nl nc nF np ntr nb mbestCost nso nsi nit nsh nsf nss nrc mtraced mdealer mnumber mwhose msize misParted fnw (by omega) (ekq) (by omega)) si_X12_120 [0, 1] sm_0_1 fm_0_1 nd_0_1 rfl rfl rfl rfl rfl (Nat.le_of_ble_eq_true rfl) rm_6_2_3 ⟨by first | exact Nat.le_of_ble_eq_true rfl | exact Nat.zero_le _, by first | exact Nat.le_of_ble_eq_true rfl | exact Nat.zero_le _⟩ gX12_before_0.2.2.2.2.2.2.2.2.1 (Kors (Keqa fun a5428 => ?_) (Keqa fun a5428 => ?_))
    · refine lv_if_eq (tgt := 23) hx hb gX12_before_0.2.2.2.2.2.2.2.2.2 (by decide) (fun c9 => absurd c9 (by decide)) (fun _ => ?_)
      refine lv_iload_n hx hb gX12_before_1.1 rfl (lv_at1 hl) ?_
      refine lv_iload_n hx hb gX12_before_1.2.1 rfl (lv_at2 hl) ?_
      refine lv_icmp_ne (tgt := 25) hx hb gX12_before_1.2.2.1 (by decide) (fun c_20_5429 => ?_) (fun c_20_5429 => ?_)
      · obtain ⟨jp, hjp, rfl⟩ := Hs_nat (by omega) a5426
        obtain ⟨jo, hjo, rfl⟩ := Hs_nat (by omega) a5428
        refine lv_aload_n hx hb gX12_before_1.2.2.2.2.2.1 rfl (lv_at0 hl) ?_
        refine iV (wr := []) hC hK hl hP hD hS hA (m_findClocks l G h0 nw nk mhasKept nt mtaped nr mrowMany mroundOf mroundFrom 0 nm mfromHour mtoHour ns mfrom mto msort misFault mdeep mcoded mlines nl nc nF np ntr nb mbestCost nso nsi nit nsh nsf nss nrc mtraced mdealer mnumber mwhose msize misParted fnw fnm (hN) (hM)) si_X12_148 [0, 1, 2] [] sm_0_1_2 fm_0_1_2 nd_0_1_2 rfl rfl (by decide) rfl rfl rfl rfl rfl (Nat.le_of_ble_eq_true rfl) rm_6_4_7 ⟨Nat.le_of_ble_eq_true rfl, Nat.le_of_ble_eq_true rfl⟩ gX12_before_1.2.2.2.2.2.2.1 (fun r5430 gnm5432 H locs hr5430 hP hD hS => ?_)
        try dsimp only at hr5430
        refine Kpdr (ws := [(h0, oX12 nw nk mhasKept nt mtaped nr mrowMany mroundOf mroundFrom 0 nm mfromHour mtoHour ns mfrom mto msort misFault mdeep mcoded mlines nl nc nF np ntr nb mbestCost nso nsi nit nsh nsf nss nrc mtraced mdealer mnumber mwhose msize misParted), (nw, iA G 1662 fnw), (nm, iA G 36 gnm5432)]) hP hD (fun hP hD => ?_)
        obtain ⟨hr5430, w5433⟩ := hr5430
        rcases hr5430 with rfl | rfl
        · refine lv_istore_n (lv' := [(3, .int 1), (0, .ref h0), (1, .int (nI jp)), (2, .int (nI jo))]) hx hb gX12_before_1.2.2.2.2.2.2.2.1 rfl hl (by decide) rfl (fun ls hl => ?_)
          refine lv_aload_n hx hb gX12_before_1.2.2.2.2.2.2.2.2.1 rfl (lv_at1 hl) ?_
          refine lv_iload_n hx hb gX12_before_1.2.2.2.2.2.2.2.2.2 rfl (lv_at2 hl) ?_
          refine lv_iload_n hx hb gX12_before_2.1 rfl (lv_at0 hl) ?_
          refine lv_iconst (v := 1) hx hb gX12_before_2.2.1 (by decide) ?_
          refine iV (wr := []) hC hK hl hP hD hS hA (m_hours l G h0 jp 1 1 nw nk mhasKept nt mtaped nr mrowMany mroundOf mroundFrom 0 nm mfromHour mtoHour ns mfrom mto msort misFault mdeep mcoded mlines nl nc nF np ntr nb mbestCost nso nsi nit nsh nsf nss nrc mtraced mdealer mnumber mwhose msize misParted fnw gnm5432 (by omega) (hN) (w5433)) si_X12_167 [0, 1, 2] [] sm_0_1_2 fm_0_1_2 nd_0_1_2 rfl rfl (by decide) rfl rfl rfl rfl rfl (Nat.le_of_ble_eq_true rfl) rm_6_3_6 ⟨Nat.le_of_ble_eq_true rfl, Nat.le_of_ble_eq_true rfl⟩ gX12_before_2.2.2.1 (fun r5435 => Ktu2 fun fh15437 th15438 => ?_)
          intro H locs hr5435 hP hD hS
          try dsimp only at hr5435
          refine Kpdr (ws := [(h0, oX12 nw nk mhasKept nt mtaped nr mrowMany mroundOf mroundFrom 0 nm fh15437 th15438 ns mfrom mto msort misFault mdeep mcoded mlines nl nc nF np ntr nb mbestCost nso nsi nit nsh nsf nss nrc mtraced mdealer mnumber mwhose msize misParted), (nw, iA G 1662 fnw), (nm, iA G 36 gnm5432)]) hP hD (fun hP hD => ?_)
          obtain ⟨hr5435, w5439⟩ := hr5435
          rcases hr5435 with ⟨rfl, a5440⟩ | rfl
          · refine lv_if_eq (tgt := 50) hx hb gX12_before_2.2.2.2.1 (by decide) (fun c9 => absurd c9 (by decide)) (fun _ => ?_)
            refine lv_aload_n hx hb gX12_before_2.2.2.2.2.1 rfl (lv_at1 hl) ?_
            refine lv_iload_n hx hb gX12_before_2.2.2.2.2.2.1 rfl (lv_at3 hl) ?_
            refine lv_iload_n hx hb gX12_before_2.2.2.2.2.2.2.1 rfl (lv_at0 hl) ?_
            refine lv_iconst (v := 1) hx hb gX12_before_2.2.2.2.2.2.2.2.1 (by decide) ?_
            refine iV (wr := []) hC hK hl hP hD hS hA (m_hours l G h0 jo 1 1 nw nk mhasKept nt mtaped nr mrowMany mroundOf mroundFrom 0 nm fh15437 th15438 ns mfrom mto msort misFault mdeep mcoded mlines nl nc nF np ntr nb mbestCost nso nsi nit nsh nsf nss nrc mtraced mdealer mnumber mwhose msize misParted fnw gnm5432 (by omega) (hN) (w5433)) si_X12_167 [0, 1, 2] [] sm_0_1_2 fm_0_1_2 nd_0_1_2 rfl rfl (by decide) rfl rfl rfl rfl rfl (Nat.le_of_ble_eq_true rfl) rm_6_3_6 ⟨Nat.le_of_ble_eq_true rfl, Nat.le_of_ble_eq_true rfl⟩ gX12_before_2.2.2.2.2.2.2.2.2.1 (fun r5441 => Ktu2 fun fh15443 th15444 => ?_)
            intro H locs hr5441 hP hD hS
            try dsimp only at hr5441
            refine Kpdr (ws := [(h0, oX12 nw nk mhasKept nt mtaped nr mrowMany mroundOf mroundFrom 0 nm fh15443 th15444 ns mfrom mto msort misFault mdeep mcoded mlines nl nc nF np ntr nb mbestCost nso nsi nit nsh nsf nss nrc mtraced mdealer mnumber mwhose msize misParted), (nw, iA G 1662 fnw), (nm, iA G 36 gnm5432)]) hP hD (fun hP hD => ?_)
            obtain ⟨hr5441, w5445⟩ := hr5441
            rcases hr5441 with ⟨rfl, a5446⟩ | rfl
            · refine lv_if_ne (tgt := 53) hx hb gX12_before_2.2.2.2.2.2.2.2.2.2 (by decide) (fun _ => ?_) (fun c9 => absurd c9 (by decide))
              have hct_jp : 1 ≤ cntS fnw (nI jp) k6 := w5439 rfl k6 (by omega) ek6
              have hct_jo : 1 ≤ cntS fnw (nI jo) k6 := w5445 rfl k6 (by omega) ek6
              refine lv_bipush (v := 104) hx hb gX12_before_3.2.2.1 (by decide) ?_
              refine lv_iconst (v := 3) hx hb gX12_before_3.2.2.2.1 (by decide) ?_
              refine lv_aload_n hx hb gX12_before_3.2.2.2.2.1 rfl (lv_at1 hl) ?_
              refine lv_iload_n hx hb gX12_before_3.2.2.2.2.2.1 rfl (lv_at2 hl) ?_
              refine lv_aload_n hx hb gX12_before_3.2.2.2.2.2.2.1 rfl (lv_at1 hl) ?_
              refine lv_iload_n hx hb gX12_before_3.2.2.2.2.2.2.2.1 rfl (lv_at2 hl) ?_
              refine pV hC hK hl hP hD (m_stampsOf l G k6 h0 (nI jp) nw nk mhasKept nt mtaped nr mrowMany mroundOf mroundFrom 0 nm fh15443 th15444 ns mfrom mto msort misFault mdeep mcoded mlines nl nc nF np ntr nb mbestCost nso nsi nit nsh nsf nss nrc mtraced mdealer mnumber mwhose msize misParted fnw (ek6) (by omega)) si_X12_130 [0, 1] sm_0_1 fm_0_1 nd_0_1 rfl rfl rfl rfl rfl (Nat.le_of_ble_eq_true rfl) rm_6_2_4 ⟨by first | exact Nat.le_of_ble_eq_true rfl | exact Nat.zero_le _, by first | exact Nat.le_of_ble_eq_true rfl | exact Nat.zero_le _⟩ gX12_before_3.2.2.2.2.2.2.2.2.1 (Keqr ?_)
              refine lv_iconst (v := 1) hx hb gX12_before_3.2.2.2.2.2.2.2.2.2 (by decide) ?_
              refine lv_isub hx hb gX12_before_4.1 ?_
              refine eqi (x1 := nI ((cntS fnw (nI jp) k6) - 1)) (nI_sb (by omega)) ?_
              refine pV hC hK hl hP hD (m_stampAt l G k6 h0 (nI jp) ((cntS fnw (nI jp) k6) - 1) nw nk mhasKept nt mtaped nr mrowMany mroundOf mroundFrom 0 nm fh15443 th15444 ns mfrom mto msort misFault mdeep mcoded mlines nl nc nF np ntr nb mbestCost nso nsi nit nsh nsf nss nrc mtraced mdealer mnumber mwhose msize misParted fnw (ek6) (by omega) (by omega)) si_X12_142 [0, 1] sm_0_1 fm_0_1 nd_0_1 rfl rfl rfl rfl rfl (Nat.le_of_ble_eq_true rfl) rm_6_2_5 ⟨by first | exact Nat.le_of_ble_eq_true rfl | exact Nat.zero_le _, by first | exact Nat.le_of_ble_eq_true rfl | exact Nat.zero_le _⟩ gX12_before_4.2.1 (fun r5449 hr5449 => ?_)
              obtain ⟨s9_5450, hpx5450, rfl⟩ := hr5449
              try dsimp only at hpx5450
              refine lv_imul hx hb gX12_before_4.2.2.1 ?_
              refine eqi (x1 := nI (3 * s9_5450)) (nI_mul 3 s9_5450) ?_
              refine lv_iadd hx hb gX12_before_4.2.2.2.1 ?_
              refine eqi (x1 := nI (104 + 3 * s9_5450)) (nI_add 104 (3 * s9_5450)) ?_
              refine lv_istore (lv' := [(4, .int (nI (104 + 3 * s9_5450))), (3, .int 1), (0, .ref h0), (1, .int (nI jp)), (2, .int (nI jo))]) hx hb gX12_before_4.2.2.2.2.1 hl (by decide) rfl (fun ls hl => ?_)
              refine lv_bipush (v := 104) hx hb gX12_before_4.2.2.2.2.2.1 (by decide) ?_
              refine lv_iconst (v := 3) hx hb gX12_before_4.2.2.2.2.2.2.1 (by decide) ?_
              refine lv_aload_n hx hb gX12_before_4.2.2.2.2.2.2.2.1 rfl (lv_at2 hl) ?_
              refine lv_iload_n hx hb gX12_before_4.2.2.2.2.2.2.2.2.1 rfl (lv_at4 hl) ?_
              refine lv_aload_n hx hb gX12_before_4.2.2.2.2.2.2.2.2.2 rfl (lv_at2 hl) ?_
              refine lv_iload_n hx hb gX12_before_5.1 rfl (lv_at4 hl) ?_
              refine pV hC hK hl hP hD (m_stampsOf l G k6 h0 (nI jo) nw nk mhasKept nt mtaped nr mrowMany mroundOf mroundFrom 0 nm fh15443 th15444 ns mfrom mto msort misFault mdeep mcoded mlines nl nc nF np ntr nb mbestCost nso nsi nit nsh nsf nss nrc mtraced mdealer mnumber mwhose msize misParted fnw (ek6) (by omega)) si_X12_130 [0, 1] sm_0_1 fm_0_1 nd_0_1 rfl rfl rfl rfl rfl (Nat.le_of_ble_eq_true rfl) rm_6_2_4 ⟨by first | exact Nat.le_of_ble_eq_true rfl | exact Nat.zero_le _, by first | exact Nat.le_of_ble_eq_true rfl | exact Nat.zero_le _⟩ gX12_before_5.2.1 (Keqr ?_)
              refine lv_iconst (v := 1) hx hb gX12_before_5.2.2.1 (by decide) ?_
              refine lv_isub hx hb gX12_before_5.2.2.2.1 ?_
              refine eqi (x1 := nI ((cntS fnw (nI jo) k6) - 1)) (nI_sb (by omega)) ?_
              refine pV hC hK hl hP hD (m_stampAt l G k6 h0 (nI jo) ((cntS fnw (nI jo) k6) - 1) nw nk mhasKept nt mtaped nr mrowMany mroundOf mroundFrom 0 nm fh15443 th15444 ns mfrom mto msort misFault mdeep mcoded mlines nl nc nF np ntr nb mbestCost nso nsi nit nsh nsf nss nrc mtraced mdealer mnumber mwhose msize misParted fnw (ek6) (by omega) (by omega)) si_X12_142 [0, 1] sm_0_1 fm_0_1 nd_0_1 rfl rfl rfl rfl rfl (Nat.le_of_ble_eq_true rfl) rm_6_2_5 ⟨by first | exact Nat.le_of_ble_eq_true rfl | exact Nat.zero_le _, by first | exact Nat.le_of_ble_eq_true rfl | exact Nat.zero_le _⟩ gX12_before_5.2.2.2.2.1 (fun r5453 hr5453 => ?_)
              obtain ⟨s9_5454, hpx5454, rfl⟩ := hr5453
              try dsimp only at hpx5454
              refine lv_imul hx hb gX12_before_5.2.2.2.2.2.1 ?_
              refine eqi (x1 := nI (3 * s9_5454)) (nI_mul 3 s9_5454) ?_
              refine lv_iadd hx hb gX12_before_5.2.2.2.2.2.2.1 ?_
              refine eqi (x1 := nI (104 + 3 * s9_5454)) (nI_add 104 (3 * s9_5454)) ?_
              refine lv_istore (lv' := [(5, .int (nI (104 + 3 * s9_5454))), (4, .int (nI (104 + 3 * s9_5450))), (3, .int 1), (0, .ref h0), (1, .int (nI jp)), (2, .int (nI jo))]) hx hb gX12_before_5.2.2.2.2.2.2.2.1 hl (by decide) rfl (fun ls hl => ?_)
              refine lv_aload_n hx hb gX12_before_5.2.2.2.2.2.2.2.2.1 rfl (lv_at3 hl) ?_
              refine gf_X12_9 hC rfl hK hP 0 rfl rfl gX12_before_5.2.2.2.2.2.2.2.2.2 ?_
              refine lv_iload hx hb gX12_before_6.1 (lv_at0 hl) ?_
              refine lv_iconst (v := 2) hx hb gX12_before_6.2.1 (by decide) ?_
              refine lv_iadd hx hb gX12_before_6.2.2.1 ?_
              refine eqi (x1 := nI (104 + 3 * s9_5454 + 2)) (nI_add (104 + 3 * s9_5454) 2) ?_
              obtain ⟨hh5455, hhh5455, ehh5455⟩ := NI.nat hN (i := 104 + 3 * s9_5454 + 2) (B := 999) (bnd_st2 (s := s9_5454) rfl (by omega)) (by decide)
              refine aldN hC hK hP 1 rfl (k := 104 + 3 * s9_5454 + 2) (by omega) (Nat.le_of_ble_eq_true rfl) (v := nI hh5455) (ehh5455) gX12_before_6.2.2.2.1 ?_
              refine lv_aload_n hx hb gX12_before_6.2.2.2.2.1 rfl (lv_at3 hl) ?_
              refine gf_X12_9 hC rfl hK hP 0 rfl rfl gX12_before_6.2.2.2.2.2.1 ?_
              refine lv_iload hx hb gX12_before_6.2.2.2.2.2.2.1 (lv_at1 hl) ?_
              refine lv_iconst (v := 2) hx hb gX12_before_6.2.2.2.2.2.2.2.1 (by decide) ?_
              refine lv_iadd hx hb gX12_before_6.2.2.2.2.2.2.2.2.1 ?_
              refine eqi (x1 := nI (104 + 3 * s9_5450 + 2)) (nI_add (104 + 3 * s9_5450) 2) ?_
              obtain ⟨hh5456, hhh5456, ehh5456⟩ := NI.nat hN (i := 104 + 3 * s9_5450 + 2) (B := 999) (bnd_st2 (s := s9_5450) rfl (by omega)) (by decide)
              refine aldN hC hK hP 1 rfl (k := 104 + 3 * s9_5450 + 2) (by omega) (Nat.le_of_ble_eq_true rfl) (v := nI hh5456) (ehh5456) gX12_before_6.2.2.2.2.2.2.2.2.2 ?_
              refine lv_isub hx hb gX12_before_7.1 ?_
              refine lv_istore (lv' := [(6, .int ((nI hh5455) - (nI hh5456))), (5, .int (nI (104 + 3 * s9_5454))), (4, .int (nI (104 + 3 * s9_5450))), (3, .int 1), (0, .ref h0), (1, .int (nI jp)), (2, .int (nI jo))]) hx hb gX12_before_7.2.1 hl (by decide) rfl (fun ls hl => ?_)
              refine lv_aload_n hx hb gX12_before_7.2.2.1 rfl (lv_at4 hl) ?_
              refine gf_X12_26 hC rfl hK hP 0 rfl rfl gX12_before_7.2.2.2.1 ?_
              refine lv_bipush (v := 6) hx hb gX12_before_7.2.2.2.2.1 (by decide) ?_
              refine lv_aload_n hx hb gX12_before_7.2.2.2.2.2.1 rfl (lv_at4 hl) ?_
              refine gf_X12_9 hC rfl hK hP 0 rfl rfl gX12_before_7.2.2.2.2.2.2.1 ?_
              refine lv_iload hx hb gX12_before_7.2.2.2.2.2.2.2.1 (lv_at2 hl) ?_
              refine lv_iconst (v := 1) hx hb gX12_before_7.2.2.2.2.2.2.2.2.1 (by decide) ?_
              refine lv_iadd hx hb gX12_before_7.2.2.2.2.2.2.2.2.2 ?_
              refine eqi (x1 := nI (104 + 3 * s9_5450 + 1)) (nI_add (104 + 3 * s9_5450) 1) ?_
              obtain ⟨cc5457, hcc5457, ecc5457⟩ := NI.nat hN (i := 104 + 3 * s9_5450 + 1) (B := 5) (bnd_st1 (s := s9_5450) rfl (by omega)) (by decide)
              refine aldN hC hK hP 1 rfl (k := 104 + 3 * s9_5450 + 1) (by omega) (Nat.le_of_ble_eq_true rfl) (v := nI cc5457) (ecc5457) gX12_before_8.1 ?_
              refine lv_imul hx hb gX12_before_8.2.1 ?_
              refine eqi (x1 := nI (6 * cc5457)) (nI_mul 6 cc5457) ?_
              refine lv_aload_n hx hb gX12_before_8.2.2.1 rfl (lv_at4 hl) ?_
              refine gf_X12_9 hC rfl hK hP 0 rfl rfl gX12_before_8.2.2.2.1 ?_
              refine lv_iload hx hb gX12_before_8.2.2.2.2.1 (lv_at1 hl) ?_
              refine lv_iconst (v := 1) hx hb gX12_before_8.2.2.2.2.2.1 (by decide) ?_
              refine lv_iadd hx hb gX12_before_8.2.2.2.2.2.2.1 ?_
              refine eqi (x1 := nI (104 + 3 * s9_5454 + 1)) (nI_add (104 + 3 * s9_5454) 1) ?_
              obtain ⟨cc5458, hcc5458, ecc5458⟩ := NI.nat hN (i := 104 + 3 * s9_5454 + 1) (B := 5) (bnd_st1 (s := s9_5454) rfl (by omega)) (by decide)
              refine aldN hC hK hP 1 rfl (k := 104 + 3 * s9_5454 + 1) (by omega) (Nat.le_of_ble_eq_true rfl) (v := nI cc5458) (ecc5458) gX12_before_8.2.2.2.2.2.2.2.1 ?_
              refine lv_iadd hx hb gX12_before_8.2.2.2.2.2.2.2.2.1 ?_
              refine eqi (x1 := nI (6 * cc5457 + cc5458)) (nI_add (6 * cc5457) cc5458) ?_
              refine aldN hC hK hP 2 rfl (k := (6 * cc5457 + cc5458)) (by omega) (Nat.le_of_ble_eq_true rfl) (v := gnm5432 (6 * cc5457 + cc5458)) rfl gX12_before_8.2.2.2.2.2.2.2.2.2 ?_
              refine lv_topi (fun x5459 ex5459 => ?_)
              refine lv_istore (lv' := [(7, .int x5459), (6, .int ((nI hh5455) - (nI hh5456))), (5, .int (nI (104 + 3 * s9_5454))), (4, .int (nI (104 + 3 * s9_5450))), (3, .int 1), (0, .ref h0), (1, .int (nI jp)), (2, .int (nI jo))]) hx hb gX12_before_9.1 hl (by decide) rfl (fun ls hl => ?_)
              refine lv_aload_n hx hb gX12_before_9.2.1 rfl (lv_at5 hl) ?_
              refine gf_X12_26 hC rfl hK hP 0 rfl rfl gX12_before_9.2.2.1 ?_
              refine lv_bipush (v := 6) hx hb gX12_before_9.2.2.2.1 (by decide) ?_
              refine lv_aload_n hx hb gX12_before_9.2.2.2.2.1 rfl (lv_at5 hl) ?_
              refine gf_X12_9 hC rfl hK hP 0 rfl rfl gX12_before_9.2.2.2.2.2.1 ?_
              refine lv_iload hx hb gX12_before_9.2.2.2.2.2.2.1 (lv_at2 hl) ?_
              refine lv_iconst (v := 1) hx hb gX12_before_9.2.2.2.2.2.2.2.1 (by decide) ?_
              refine lv_iadd hx hb gX12_before_9.2.2.2.2.2.2.2.2.1 ?_
              refine eqi (x1 := nI (104 + 3 * s9_5454 + 1)) (nI_add (104 + 3 * s9_5454) 1) ?_
              obtain ⟨cc5460, hcc5460, ecc5460⟩ := NI.nat hN (i := 104 + 3 * s9_5454 + 1) (B := 5) (bnd_st1 (s := s9_5454) rfl (by omega)) (by decide)
              refine aldN hC hK hP 1 rfl (k := 104 + 3 * s9_5454 + 1) (by omega) (Nat.le_of_ble_eq_true rfl) (v := nI cc5460) (ecc5460) gX12_before_9.2.2.2.2.2.2.2.2.2 ?_
              refine lv_imul hx hb gX12_before_10.1 ?_
              refine eqi (x1 := nI (6 * cc5460)) (nI_mul 6 cc5460) ?_
              refine lv_aload_n hx hb gX12_before_10.2.1 rfl (lv_at5 hl) ?_
              refine gf_X12_9 hC rfl hK hP 0 rfl rfl gX12_before_10.2.2.1 ?_
              refine lv_iload hx hb gX12_before_10.2.2.2.1 (lv_at3 hl) ?_
              refine lv_iconst (v := 1) hx hb gX12_before_10.2.2.2.2.1 (by decide) ?_
              refine lv_iadd hx hb gX12_before_10.2.2.2.2.2.1 ?_
              refine eqi (x1 := nI (104 + 3 * s9_5450 + 1)) (nI_add (104 + 3 * s9_5450) 1) ?_
              obtain ⟨cc5461, hcc5461, ecc5461⟩ := NI.nat hN (i := 104 + 3 * s9_5450 + 1) (B := 5) (bnd_st1 (s := s9_5450) rfl (by omega)) (by decide)
              refine aldN hC hK hP 1 rfl (k := 104 + 3 * s9_5450 + 1) (by omega) (Nat.le_of_ble_eq_true rfl) (v := nI cc5461) (ecc5461) gX12_before_10.2.2.2.2.2.2.1 ?_
              refine lv_iadd hx hb gX12_before_10.2.2.2.2.2.2.2.1 ?_
              refine eqi (x1 := nI (6 * cc5460 + cc5461)) (nI_add (6 * cc5460) cc5461) ?_
              refine aldN hC hK hP 2 rfl (k := (6 * cc5460 + cc5461)) (by omega) (Nat.le_of_ble_eq_true rfl) (v := gnm5432 (6 * cc5460 + cc5461)) rfl gX12_before_10.2.2.2.2.2.2.2.2.1 ?_
              refine lv_topi (fun x5462 ex5462 => ?_)
              refine lv_ineg hx hb gX12_before_10.2.2.2.2.2.2.2.2.2 ?_
              refine lv_istore (lv' := [(8, .int (-x5462)), (7, .int x5459), (6, .int ((nI hh5455) - (nI hh5456))), (5, .int (nI (104 + 3 * s9_5454))), (4, .int (nI (104 + 3 * s9_5450))), (3, .int 1), (0, .ref h0), (1, .int (nI jp)), (2, .int (nI jo))]) hx hb gX12_before_11.1 hl (by decide) rfl (fun ls hl => ?_)
              refine lv_iload hx hb gX12_before_11.2.1 (lv_at1 hl) ?_
              refine lv_iload hx hb gX12_before_11.2.2.1 (lv_at2 hl) ?_
              refine lv_icmp_ge (tgt := 182) hx hb gX12_before_11.2.2.2.1 (by decide) (fun c_175_5463 => ?_) (fun c_175_5463 => ?_)
              · refine lv_iload hx hb gX12_before_11.2.2.2.2.2.2.1 (lv_at0 hl) ?_
                refine lv_iload hx hb gX12_before_11.2.2.2.2.2.2.2.1 (lv_at2 hl) ?_
                refine lv_icmp_ge (tgt := 193) hx hb gX12_before_11.2.2.2.2.2.2.2.2.1 (by decide) (fun c_186_5464 => ?_) (fun c_186_5464 => ?_)
                · refine lv_iconst (v := 0) hx hb gX12_before_12.2.1 (by decide) ?_
                  refine toQ hQ0 ?_
                  exact RI (v := 0) hC hP hD hS [0, 1, 2] (fh15443, th15444, gnm5432) rfl rfl (by decide) (⟨trivial, by first | assumption | exact hM⟩) rfl gX12_before_12.2.2
                · refine lv_iconst (v := 1) hx hb gX12_before_11.2.2.2.2.2.2.2.2.2 (by decide) ?_
                  refine lv_goto (tgt := 194) hx hb gX12_before_12.1 (by decide) ?_
                  refine toQ hQ0 ?_
                  exact RI (v := 1) hC hP hD hS [0, 1, 2] (fh15443, th15444, gnm5432) rfl rfl (by decide) (⟨trivial, by first | assumption | exact hM⟩) rfl gX12_before_12.2.2
              · refine lv_iconst (v := 2) hx hb gX12_before_11.2.2.2.2.1 (by decide) ?_
                refine lv_goto (tgt := 194) hx hb gX12_before_11.2.2.2.2.2.1 (by decide) ?_
                refine toQ hQ0 ?_
                exact RI (v := 2) hC hP hD hS [0, 1, 2] (fh15443, th15444, gnm5432) rfl rfl (by decide) (⟨trivial, by first | assumption | exact hM⟩) rfl gX12_before_12.2.2
            · refine lv_if_ne (tgt := 53) hx hb gX12_before_2.2.2.2.2.2.2.2.2.2 (by decide) (fun c9 => absurd (by decide) c9) (fun _ => ?_)
              refine lv_bipush (v := (-3)) hx hb gX12_before_3.1 (by decide) ?_
              refine toQ hQ0 ?_
              exact RI (v := (-3)) hC hP hD hS [0, 1, 2] (fh15443, th15444, gnm5432) rfl rfl (by decide) (⟨trivial, by first | assumption | exact hM⟩) rfl gX12_before_3.2.1
          · refine lv_if_eq (tgt := 50) hx hb gX12_before_2.2.2.2.1 (by decide) (fun _ => ?_) (fun c9 => absurd (by decide) c9)
            refine lv_bipush (v := (-3)) hx hb gX12_before_3.1 (by decide) ?_
            refine toQ hQ0 ?_
            exact RI (v := (-3)) hC hP hD hS [0, 1, 2] (fh15437, th15438, gnm5432) rfl rfl (by decide) (⟨trivial, by first | assumption | exact hM⟩) rfl gX12_before_3.2.1
        · refine lv_istore_n (lv' := [(3, .int 0), (0, .ref h0), (1, .int (nI jp)), (2, .int (nI jo))]) hx hb gX12_before_1.2.2.2.2.2.2.2.1 rfl hl (by decide) rfl (fun ls hl => ?_)
          refine lv_aload_n hx hb gX12_before_1.2.2.2.2.2.2.2.2.1 rfl (lv_at1 hl) ?_
          refine lv_iload_n hx hb gX12_before_1.2.2.2.2.2.2.2.2.2 rfl (lv_at2 hl) ?_
          refine lv_iload_n hx hb gX12_before_2.1 rfl (lv_at0 hl) ?_
          refine lv_iconst (v := 1) hx hb gX12_before_2.2.1 (by decide) ?_
          refine iV (wr := []) hC hK hl hP hD hS hA (m_hours l G h0 jp 0 1 nw nk mhasKept nt mtaped nr mrowMany mroundOf mroundFrom 0 nm mfromHour mtoHour ns mfrom mto msort misFault mdeep mcoded mlines nl nc nF np ntr nb mbestCost nso nsi nit nsh nsf nss nrc mtraced mdealer mnumber mwhose msize misParted fnw gnm5432 (by omega) (hN) (w5433)) si_X12_167 [0, 1, 2] [] sm_0_1_2 fm_0_1_2 nd_0_1_2 rfl rfl (by decide) rfl rfl rfl rfl rfl (Nat.le_of_ble_eq_true rfl) rm_6_3_6 ⟨Nat.le_of_ble_eq_true rfl, Nat.le_of_ble_eq_true rfl⟩ gX12_before_2.2.2.1 (fun r5465 => Ktu2 fun fh15467 th15468 => ?_)
          intro H locs hr5465 hP hD hS
          try dsimp only at hr5465
          refine Kpdr (ws := [(h0, oX12 nw nk mhasKept nt mtaped nr mrowMany mroundOf mroundFrom 0 nm fh15467 th15468 ns mfrom mto msort misFault mdeep mcoded mlines nl nc nF np ntr nb mbestCost nso nsi nit nsh nsf nss nrc mtraced mdealer mnumber mwhose msize misParted), (nw, iA G 1662 fnw), (nm, iA G 36 gnm5432)]) hP hD (fun hP hD => ?_)
          obtain ⟨hr5465, w5469⟩ := hr5465
          rcases hr5465 with ⟨rfl, a5470⟩ | rfl
          · refine lv_if_eq (tgt := 50) hx hb gX12_before_2.2.2.2.1 (by decide) (fun c9 => absurd c9 (by decide)) (fun _ => ?_)
            refine lv_aload_n hx hb gX12_before_2.2.2.2.2.1 rfl (lv_at1 hl) ?_
            refine lv_iload_n hx hb gX12_before_2.2.2.2.2.2.1 rfl (lv_at3 hl) ?_
            refine lv_iload_n hx hb gX12_before_2.2.2.2.2.2.2.1 rfl (lv_at0 hl) ?_
            refine lv_iconst (v := 1) hx hb gX12_before_2.2.2.2.2.2.2.2.1 (by decide) ?_
            refine iV (wr := []) hC hK hl hP hD hS hA (m_hours l G h0 jo 0 1 nw nk mhasKept nt mtaped nr mrowMany mroundOf mroundFrom 0 nm fh15467 th15468 ns mfrom mto msort misFault mdeep mcoded mlines nl nc nF np ntr nb mbestCost nso nsi nit nsh nsf nss nrc mtraced mdealer mnumber mwhose msize misParted fnw gnm5432 (by omega) (hN) (w5433)) si_X12_167 [0, 1, 2] [] sm_0_1_2 fm_0_1_2 nd_0_1_2 rfl rfl (by decide) rfl rfl rfl rfl rfl (Nat.le_of_ble_eq_true rfl) rm_6_3_6 ⟨Nat.le_of_ble_eq_true rfl, Nat.le_of_ble_eq_true rfl⟩ gX12_before_2.2.2.2.2.2.2.2.2.1 (fun r5471 => Ktu2 fun fh15473 th15474 => ?_)
            intro H locs hr5471 hP hD hS
            try dsimp only at hr5471
            refine Kpdr (ws := [(h0, oX12 nw nk mhasKept nt mtaped nr mrowMany mroundOf mroundFrom 0 nm fh15473 th15474 ns mfrom mto msort misFault mdeep mcoded mlines nl nc nF np ntr nb mbestCost nso nsi nit nsh nsf nss nrc mtraced mdealer mnumber mwhose msize misParted), (nw, iA G 1662 fnw), (nm, iA G 36 gnm5432)]) hP hD (fun hP hD => ?_)
            obtain ⟨hr5471, w5475⟩ := hr5471
            rcases hr5471 with ⟨rfl, a5476⟩ | rfl
            · refine lv_if_ne (tgt := 53) hx hb gX12_before_2.2.2.2.2.2.2.2.2.2 (by decide) (fun _ => ?_) (fun c9 => absurd c9 (by decide))
              have hct_jp : 1 ≤ cntS fnw (nI jp) k6 := w5469 rfl k6 (by omega) ek6
              have hct_jo : 1 ≤ cntS fnw (nI jo) k6 := w5475 rfl k6 (by omega) ek6
              refine lv_bipush (v := 104) hx hb gX12_before_3.2.2.1 (by decide) ?_
              refine lv_iconst (v := 3) hx hb gX12_before_3.2.2.2.1 (by decide) ?_
              refine lv_aload_n hx hb gX12_before_3.2.2.2.2.1 rfl (lv_at1 hl) ?_
              refine lv_iload_n hx hb gX12_before_3.2.2.2.2.2.1 rfl (lv_at2 hl) ?_
              refine lv_aload_n hx hb gX12_before_3.2.2.2.2.2.2.1 rfl (lv_at1 hl) ?_
              refine lv_iload_n hx hb gX12_before_3.2.2.2.2.2.2.2.1 rfl (lv_at2 hl) ?_
              refine pV hC hK hl hP hD (m_stampsOf l G k6 h0 (nI jp) nw nk mhasKept nt mtaped nr mrowMany mroundOf mroundFrom 0 nm fh15473 th15474 ns mfrom mto msort misFault mdeep mcoded mlines nl nc nF np ntr nb mbestCost nso nsi nit nsh nsf nss nrc mtraced mdealer mnumber mwhose msize misParted fnw (ek6) (by omega)) si_X12_130 [0, 1] sm_0_1 fm_0_1 nd_0_1 rfl rfl rfl rfl rfl (Nat.le_of_ble_eq_true rfl) rm_6_2_4 ⟨by first | exact Nat.le_of_ble_eq_true rfl | exact Nat.zero_le _, by first | exact Nat.le_of_ble_eq_true rfl | exact Nat.zero_le _⟩ gX12_before_3.2.2.2.2.2.2.2.2.1 (Keqr ?_)
              refine lv_iconst (v := 1) hx hb gX12_before_3.2.2.2.2.2.2.2.2.2 (by decide) ?_
              refine lv_isub hx hb gX12_before_4.1 ?_
              refine eqi (x1 := nI ((cntS fnw (nI jp) k6) - 1)) (nI_sb (by omega)) ?_
              refine pV hC hK hl hP hD (m_stampAt l G k6 h0 (nI jp) ((cntS fnw (nI jp) k6) - 1) nw nk mhasKept nt mtaped nr mrowMany mroundOf mroundFrom 0 nm fh15473 th15474 ns mfrom mto msort misFault mdeep mcoded mlines nl nc nF np ntr nb mbestCost nso nsi nit nsh nsf nss nrc mtraced mdealer mnumber mwhose msize misParted fnw (ek6) (by omega) (by omega)) si_X12_142 [0, 1] sm_0_1 fm_0_1 nd_0_1 rfl rfl rfl rfl rfl (Nat.le_of_ble_eq_true rfl) rm_6_2_5 ⟨by first | exact Nat.le_of_ble_eq_true rfl | exact Nat.zero_le _, by first | exact Nat.le_of_ble_eq_true rfl | exact Nat.zero_le _⟩ gX12_before_4.2.1 (fun r5479 hr5479 => ?_)
              obtain ⟨s9_5480, hpx5480, rfl⟩ := hr5479
              try dsimp only at hpx5480
              refine lv_imul hx hb gX12_before_4.2.2.1 ?_
              refine eqi (x1 := nI (3 * s9_5480)) (nI_mul 3 s9_5480) ?_
              refine lv_iadd hx hb gX12_before_4.2.2.2.1 ?_
              refine eqi (x1 := nI (104 + 3 * s9_5480)) (nI_add 104 (3 * s9_5480)) ?_
              refine lv_istore (lv' := [(4, .int (nI (104 + 3 * s9_5480))), (3, .int 0), (0, .ref h0), (1, .int (nI jp)), (2, .int (nI jo))]) hx hb gX12_before_4.2.2.2.2.1 hl (by decide) rfl (fun ls hl => ?_)
              refine lv_bipush (v := 104) hx hb gX12_before_4.2.2.2.2.2.1 (by decide) ?_
              refine lv_iconst (v := 3) hx hb gX12_before_4.2.2.2.2.2.2.1 (by decide) ?_
              refine lv_aload_n hx hb gX12_before_4.2.2.2.2.2.2.2.1 rfl (lv_at2 hl) ?_
              refine lv_iload_n hx hb gX12_before_4.2.2.2.2.2.2.2.2.1 rfl (lv_at4 hl) ?_
              refine lv_aload_n hx hb gX12_before_4.2.2.2.2.2.2.2.2.2 rfl (lv_at2 hl) ?_
              refine lv_iload_n hx hb gX12_before_5.1 rfl (lv_at4 hl) ?_
              refine pV hC hK hl hP hD (m_stampsOf l G k6 h0 (nI jo) nw nk mhasKept nt mtaped nr mrowMany mroundOf mroundFrom 0 nm fh15473 th15474 ns mfrom mto msort misFault mdeep mcoded mlines nl nc nF np ntr nb mbestCost nso nsi nit nsh nsf nss nrc mtraced mdealer mnumber mwhose msize misParted fnw (ek6) (by omega)) si_X12_130 [0, 1] sm_0_1 fm_0_1 nd_0_1 rfl rfl rfl rfl rfl (Nat.le_of_ble_eq_true rfl) rm_6_2_4 ⟨by first | exact Nat.le_of_ble_eq_true rfl | exact Nat.zero_le _, by first | exact Nat.le_of_ble_eq_true rfl | exact Nat.zero_le _⟩ gX12_before_5.2.1 (Keqr ?_)
              refine lv_iconst (v := 1) hx hb gX12_before_5.2.2.1 (by decide) ?_
              refine lv_isub hx hb gX12_before_5.2.2.2.1 ?_
              refine eqi (x1 := nI ((cntS fnw (nI jo) k6) - 1)) (nI_sb (by omega)) ?_
              refine pV hC hK hl hP hD (m_stampAt l G k6 h0 (nI jo) ((cntS fnw (nI jo) k6) - 1) nw nk mhasKept nt mtaped nr mrowMany mroundOf mroundFrom 0 nm fh15473 th15474 ns mfrom mto msort misFault mdeep mcoded mlines nl nc nF np ntr nb mbestCost nso nsi nit nsh nsf nss nrc mtraced mdealer mnumber mwhose msize misParted fnw (ek6) (by omega) (by omega)) si_X12_142 [0, 1] sm_0_1 fm_0_1 nd_0_1 rfl rfl rfl rfl rfl (Nat.le_of_ble_eq_true rfl) rm_6_2_5 ⟨by first | exact Nat.le_of_ble_eq_true rfl | exact Nat.zero_le _, by first | exact Nat.le_of_ble_eq_true rfl | exact Nat.zero_le _⟩ gX12_before_5.2.2.2.2.1 (fun r5483 hr5483 => ?_)
              obtain ⟨s9_5484, hpx5484, rfl⟩ := hr5483
              try dsimp only at hpx5484
              refine lv_imul hx hb gX12_before_5.2.2.2.2.2.1 ?_
              refine eqi (x1 := nI (3 * s9_5484)) (nI_mul 3 s9_5484) ?_
              refine lv_iadd hx hb gX12_before_5.2.2.2.2.2.2.1 ?_
              refine eqi (x1 := nI (104 + 3 * s9_5484)) (nI_add 104 (3 * s9_5484)) ?_
              refine lv_istore (lv' := [(5, .int (nI (104 + 3 * s9_5484))), (4, .int (nI (104 + 3 * s9_5480))), (3, .int 0), (0, .ref h0), (1, .int (nI jp)), (2, .int (nI jo))]) hx hb gX12_before_5.2.2.2.2.2.2.2.1 hl (by decide) rfl (fun ls hl => ?_)
              refine lv_aload_n hx hb gX12_before_5.2.2.2.2.2.2.2.2.1 rfl (lv_at3 hl) ?_
              refine gf_X12_9 hC rfl hK hP 0 rfl rfl gX12_before_5.2.2.2.2.2.2.2.2.2 ?_
              refine lv_iload hx hb gX12_before_6.1 (lv_at0 hl) ?_
              refine lv_iconst (v := 2) hx hb gX12_before_6.2.1 (by decide) ?_
              refine lv_iadd hx hb gX12_before_6.2.2.1 ?_
              refine eqi (x1 := nI (104 + 3 * s9_5484 + 2)) (nI_add (104 + 3 * s9_5484) 2) ?_
              obtain ⟨hh5485, hhh5485, ehh5485⟩ := NI.nat hN (i := 104 + 3 * s9_5484 + 2) (B := 999) (bnd_st2 (s := s9_5484) rfl (by omega)) (by decide)
              refine aldN hC hK hP 1 rfl (k := 104 + 3 * s9_5484 + 2) (by omega) (Nat.le_of_ble_eq_true rfl) (v := nI hh5485) (ehh5485) gX12_before_6.2.2.2.1 ?_
              refine lv_aload_n hx hb gX12_before_6.2.2.2.2.1 rfl (lv_at3 hl) ?_
              refine gf_X12_9 hC rfl hK hP 0 rfl rfl gX12_before_6.2.2.2.2.2.1 ?_
              refine lv_iload hx hb gX12_before_6.2.2.2.2.2.2.1 (lv_at1 hl) ?_
              refine lv_iconst (v := 2) hx hb gX12_before_6.2.2.2.2.2.2.2.1 (by decide) ?_
              refine lv_iadd hx hb gX12_before_6.2.2.2.2.2.2.2.2.1 ?_
              refine eqi (x1 := nI (104 + 3 * s9_5480 + 2)) (nI_add (104 + 3 * s9_5480) 2) ?_
              obtain ⟨hh5486, hhh5486, ehh5486⟩ := NI.nat hN (i := 104 + 3 * s9_5480 + 2) (B := 999) (bnd_st2 (s := s9_5480) rfl (by omega)) (by decide)
              refine aldN hC hK hP 1 rfl (k := 104 + 3 * s9_5480 + 2) (by omega) (Nat.le_of_ble_eq_true rfl) (v := nI hh5486) (ehh5486) gX12_before_6.2.2.2.2.2.2.2.2.2 ?_
              refine lv_isub hx hb gX12_before_7.1 ?_
              refine lv_istore (lv' := [(6, .int ((nI hh5485) - (nI hh5486))), (5, .int (nI (104 + 3 * s9_5484))), (4, .int (nI (104 + 3 * s9_5480))), (3, .int 0), (0, .ref h0), (1, .int (nI jp)), (2, .int (nI jo))]) hx hb gX12_before_7.2.1 hl (by decide) rfl (fun ls hl => ?_)
              refine lv_aload_n hx hb gX12_before_7.2.2.1 rfl (lv_at4 hl) ?_
              refine gf_X12_26 hC rfl hK hP 0 rfl rfl gX12_before_7.2.2.2.1 ?_
              refine lv_bipush (v := 6) hx hb gX12_before_7.2.2.2.2.1 (by decide) ?_
              refine lv_aload_n hx hb gX12_before_7.2.2.2.2.2.1 rfl (lv_at4 hl) ?_
              refine gf_X12_9 hC rfl hK hP 0 rfl rfl gX12_before_7.2.2.2.2.2.2.1 ?_
              refine lv_iload hx hb gX12_before_7.2.2.2.2.2.2.2.1 (lv_at2 hl) ?_
              refine lv_iconst (v := 1) hx hb gX12_before_7.2.2.2.2.2.2.2.2.1 (by decide) ?_
              refine lv_iadd hx hb gX12_before_7.2.2.2.2.2.2.2.2.2 ?_
              refine eqi (x1 := nI (104 + 3 * s9_5480 + 1)) (nI_add (104 + 3 * s9_5480) 1) ?_
              obtain ⟨cc5487, hcc5487, ecc5487⟩ := NI.nat hN (i := 104 + 3 * s9_5480 + 1) (B := 5) (bnd_st1 (s := s9_5480) rfl (by omega)) (by decide)
              refine aldN hC hK hP 1 rfl (k := 104 + 3 * s9_5480 + 1) (by omega) (Nat.le_of_ble_eq_true rfl) (v := nI cc5487) (ecc5487) gX12_before_8.1 ?_
              refine lv_imul hx hb gX12_before_8.2.1 ?_
              refine eqi (x1 := nI (6 * cc5487)) (nI_mul 6 cc5487) ?_
              refine lv_aload_n hx hb gX12_before_8.2.2.1 rfl (lv_at4 hl) ?_
              refine gf_X12_9 hC rfl hK hP 0 rfl rfl gX12_before_8.2.2.2.1 ?_
              refine lv_iload hx hb gX12_before_8.2.2.2.2.1 (lv_at1 hl) ?_
              refine lv_iconst (v := 1) hx hb gX12_before_8.2.2.2.2.2.1 (by decide) ?_
              refine lv_iadd hx hb gX12_before_8.2.2.2.2.2.2.1 ?_
              refine eqi (x1 := nI (104 + 3 * s9_5484 + 1)) (nI_add (104 + 3 * s9_5484) 1) ?_
              obtain ⟨cc5488, hcc5488, ecc5488⟩ := NI.nat hN (i := 104 + 3 * s9_5484 + 1) (B := 5) (bnd_st1 (s := s9_5484) rfl (by omega)) (by decide)
              refine aldN hC hK hP 1 rfl (k := 104 + 3 * s9_5484 + 1) (by omega) (Nat.le_of_ble_eq_true rfl) (v := nI cc5488) (ecc5488) gX12_before_8.2.2.2.2.2.2.2.1 ?_
              refine lv_iadd hx hb gX12_before_8.2.2.2.2.2.2.2.2.1 ?_
              refine eqi (x1 := nI (6 * cc5487 + cc5488)) (nI_add (6 * cc5487) cc5488) ?_
              refine aldN hC hK hP 2 rfl (k := (6 * cc5487 + cc5488)) (by omega) (Nat.le_of_ble_eq_true rfl) (v := gnm5432 (6 * cc5487 + cc5488)) rfl gX12_before_8.2.2.2.2.2.2.2.2.2 ?_
              refine lv_topi (fun x5489 ex5489 => ?_)
              refine lv_istore (lv' := [(7, .int x5489), (6, .int ((nI hh5485) - (nI hh5486))), (5, .int (nI (104 + 3 * s9_5484))), (4, .int (nI (104 + 3 * s9_5480))), (3, .int 0), (0, .ref h0), (1, .int (nI jp)), (2, .int (nI jo))]) hx hb gX12_before_9.1 hl (by decide) rfl (fun ls hl => ?_)
              refine lv_aload_n hx hb gX12_before_9.2.1 rfl (lv_at5 hl) ?_
              refine gf_X12_26 hC rfl hK hP 0 rfl rfl gX12_before_9.2.2.1 ?_
              refine lv_bipush (v := 6) hx hb gX12_before_9.2.2.2.1 (by decide) ?_
              refine lv_aload_n hx hb gX12_before_9.2.2.2.2.1 rfl (lv_at5 hl) ?_
              refine gf_X12_9 hC rfl hK hP 0 rfl rfl gX12_before_9.2.2.2.2.2.1 ?_
              refine lv_iload hx hb gX12_before_9.2.2.2.2.2.2.1 (lv_at2 hl) ?_
              refine lv_iconst (v := 1) hx hb gX12_before_9.2.2.2.2.2.2.2.1 (by decide) ?_
              refine lv_iadd hx hb gX12_before_9.2.2.2.2.2.2.2.2.1 ?_
              refine eqi (x1 := nI (104 + 3 * s9_5484 + 1)) (nI_add (104 + 3 * s9_5484) 1) ?_
              obtain ⟨cc5490, hcc5490, ecc5490⟩ := NI.nat hN (i := 104 + 3 * s9_5484 + 1) (B := 5) (bnd_st1 (s := s9_5484) rfl (by omega)) (by decide)
              refine aldN hC hK hP 1 rfl (k := 104 + 3 * s9_5484 + 1) (by omega) (Nat.le_of_ble_eq_true rfl) (v := nI cc5490) (ecc5490) gX12_before_9.2.2.2.2.2.2.2.2.2 ?_
              refine lv_imul hx hb gX12_before_10.1 ?_
              refine eqi (x1 := nI (6 * cc5490)) (nI_mul 6 cc5490) ?_
              refine lv_aload_n hx hb gX12_before_10.2.1 rfl (lv_at5 hl) ?_
              refine gf_X12_9 hC rfl hK hP 0 rfl rfl gX12_before_10.2.2.1 ?_
              refine lv_iload hx hb gX12_before_10.2.2.2.1 (lv_at3 hl) ?_
              refine lv_iconst (v := 1) hx hb gX12_before_10.2.2.2.2.1 (by decide) ?_
              refine lv_iadd hx hb gX12_before_10.2.2.2.2.2.1 ?_
              refine eqi (x1 := nI (104 + 3 * s9_5480 + 1)) (nI_add (104 + 3 * s9_5480) 1) ?_
              obtain ⟨cc5491, hcc5491, ecc5491⟩ := NI.nat hN (i := 104 + 3 * s9_5480 + 1) (B := 5) (bnd_st1 (s := s9_5480) rfl (by omega)) (by decide)
              refine aldN hC hK hP 1 rfl (k := 104 + 3 * s9_5480 + 1) (by omega) (Nat.le_of_ble_eq_true rfl) (v := nI cc5491) (ecc5491) gX12_before_10.2.2.2.2.2.2.1 ?_
              refine lv_iadd hx hb gX12_before_10.2.2.2.2.2.2.2.1 ?_
              refine eqi (x1 := nI (6 * cc5490 + cc5491)) (nI_add (6 * cc5490) cc5491) ?_
              refine aldN hC hK hP 2 rfl (k := (6 * cc5490 + cc5491)) (by omega) (Nat.le_of_ble_eq_true rfl) (v := gnm5432 (6 * cc5490 + cc5491)) rfl gX12_before_10.2.2.2.2.2.2.2.2.1 ?_
              refine lv_topi (fun x5492 ex5492 => ?_)
              refine lv_ineg hx hb gX12_before_10.2.2.2.2.2.2.2.2.2 ?_
              refine lv_istore (lv' := [(8, .int (-x5492)), (7, .int x5489), (6, .int ((nI hh5485) - (nI hh5486))), (5, .int (nI (104 + 3 * s9_5484))), (4, .int (nI (104 + 3 * s9_5480))), (3, .int 0), (0, .ref h0), (1, .int (nI jp)), (2, .int (nI jo))]) hx hb gX12_before_11.1 hl (by decide) rfl (fun ls hl => ?_)
              refine lv_iload hx hb gX12_before_11.2.1 (lv_at1 hl) ?_
              refine lv_iload hx hb gX12_before_11.2.2.1 (lv_at2 hl) ?_
              refine lv_icmp_ge (tgt := 182) hx hb gX12_before_11.2.2.2.1 (by decide) (fun c_175_5493 => ?_) (fun c_175_5493 => ?_)
              · refine lv_iload hx hb gX12_before_11.2.2.2.2.2.2.1 (lv_at0 hl) ?_
                refine lv_iload hx hb gX12_before_11.2.2.2.2.2.2.2.1 (lv_at2 hl) ?_
                refine lv_icmp_ge (tgt := 193) hx hb gX12_before_11.2.2.2.2.2.2.2.2.1 (by decide) (fun c_186_5494 => ?_) (fun c_186_5494 => ?_)
                · refine lv_iconst (v := 0) hx hb gX12_before_12.2.1 (by decide) ?_
                  refine toQ hQ0 ?_
                  exact RI (v := 0) hC hP hD hS [0, 1, 2] (fh15473, th15474, gnm5432) rfl rfl (by decide) (⟨trivial, by first | assumption | exact hM⟩) rfl gX12_before_12.2.2
                · refine lv_iconst (v := 1) hx hb gX12_before_11.2.2.2.2.2.2.2.2.2 (by decide) ?_
                  refine lv_goto (tgt := 194) hx hb gX12_before_12.1 (by decide) ?_
                  refine toQ hQ0 ?_
                  exact RI (v := 1) hC hP hD hS [0, 1, 2] (fh15473, th15474, gnm5432) rfl rfl (by decide) (⟨trivial, by first | assumption | exact hM⟩) rfl gX12_before_12.2.2
              · refine lv_iconst (v := 2) hx hb gX12_before_11.2.2.2.2.1 (by decide) ?_
                refine lv_goto (tgt := 194) hx hb gX12_before_11.2.2.2.2.2.1 (by decide) ?_
                refine toQ hQ0 ?_
                exact RI (v := 2) hC hP hD hS [0, 1, 2] (fh15473, th15474, gnm5432) rfl rfl (by decide) (⟨trivial, by first | assumption | exact hM⟩) rfl gX12_before_12.2.2
            · refine lv_if_ne (tgt := 53) hx hb gX12_before_2.2.2.2.2.2.2.2.2.2 (by decide) (fun c9 => absurd (by decide) c9) (fun _ => ?_)
              refine lv_bipush (v := (-3)) hx hb gX12_before_3.1 (by decide) ?_
              refine toQ hQ0 ?_
              exact RI (v := (-3)) hC hP hD hS [0, 1, 2] (fh15473, th15474, gnm5432) rfl rfl (by decide) (⟨trivial, by first | assumption | exact hM⟩) rfl gX12_before_3.2.1
          · refine lv_if_eq (tgt := 50) hx hb gX12_before_2.2.2.2.1 (by decide) (fun _ => ?_) (fun c9 => absurd (by decide) c9)
            refine lv_bipush (v := (-3)) hx hb gX12_before_3.1 (by decide) ?_
            refine toQ hQ0 ?_
            exact RI (v := (-3)) hC hP hD hS [0, 1, 2] (fh15467, th15468, gnm5432) rfl rfl (by decide) (⟨trivial, by first | assumption | exact hM⟩) rfl gX12_before_3.2.1
      · refine lv_iconst (v := (-1)) hx hb gX12_before_1.2.2.2.1 (by decide) ?_
        refine toQ hQ0 ?_
        exact RI (v := (-1)) hC hP hD hS [0, 1, 2] (mfromHour, mtoHour, fnm) rfl rfl (by decide) (⟨trivial, by first | assumption | exact hM⟩) rfl gX12_before_1.2.2.2.2.1
    · refine lv_if_eq (tgt := 23) hx hb gX12_before_0.2.2.2.2.2.2.2.2.2 (by decide) (fun _ => ?_) (fun c9 => absurd (by decide) c9)
      refine lv_iconst (v := (-1)) hx hb gX12_before_1.2.2.2.1 (by decide) ?_
      refine toQ hQ0 ?_
      exact RI (v := (-1)) hC hP hD hS [0, 1, 2] (mfromHour, mtoHour, fnm) rfl rfl (by decide) (⟨trivial, by first | assumption | exact hM⟩) rfl gX12_before_1.2.2.2.2.1
  · refine lv_if_eq (tgt := 23) hx hb gX12_before_0.2.2.2.2.1 (by decide) (fun _ => ?_) (fun c9 => absurd (by decide) c9)
    refine lv_iconst (v := (-1)) hx hb gX12_before_1.2.2.2.1 (by decide) ?_
    refine toQ hQ0 ?_
    exact RI (v := (-1)) hC hP hD hS [0, 1, 2] (mfromHour, mtoHour, fnm) rfl rfl (by decide) (⟨trivial, by first | assumption | exact hM⟩) rfl gX12_before_1.2.2.2.2.1
