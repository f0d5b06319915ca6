section WR
variable {p : Program} {l : Launch} {e : Env} {R : Room} {s : State} {m : MethodId} {args : Array Value} {below : List Frame} {meth : Method} {c : Code} {H : Heap} {locs : List Loc} {cells slots : Nat} {Q : State → Prop}
variable {pc : Nat} {ls : Array Slot} {rest : List Value} {G : GG} {ws : va_W} {A : Nat → Prop} {y0 : MethodName} {b0 : ByteArray} {mL0 : Nat} {rt0 : Option FieldType} {a : Nat} {H0 : Heap}
end WR
def LN (f : Nat → Int32) (v l : Nat) : Prop := (∃ so, so < 4 ∧ f (176 + 156 * v + 2 + 6 * l + 0) = nI so ∧ (so = 0 → (∃ n2, n2 < 8 ∧ f (176 + 156 * v + 2 + 6 * l + 2) = nI n2) ∧ ∃ n3, n3 < 8 ∧ f (176 + 156 * v + 2 + 6 * l + 3) = nI n3) ∧ (so = 2 → ∃ n1, n1 < 8 ∧ f (176 + 156 * v + 2 + 6 * l + 1) = nI n1)) ∧ ∃ a b, f (176 + 156 * v + 2 + 6 * l + 4) = nI a ∧ f (176 + 156 * v + 2 + 6 * l + 5) = nI b ∧ a ≤ b ∧ b ≤ 100 ∧ ∃ ht : Nat → Nat, ht a = 0 ∧ ∀ k : Nat, a ≤ k → k < b → STEP (f (176 + 156 * v + 56 + k)) (ht k) (ht (k + 1))
theorem VI.line {f : Nat → Int32} (hV : VI f) {v : Nat} (hv : v < 8) : ∃ L, L ≤ 9 ∧ f (176 + 156 * v + 1) = nI L ∧ ∀ l, l < L → LN f v l := by
  obtain ⟨L, hL, e1, hl⟩ := hV v hv
  refine ⟨L, hL, e1, fun l h9 => ?_⟩
  have e : ∀ j, 176 + 156 * v + (2 + 6 * l + j) = 176 + 156 * v + 2 + 6 * l + j := fun j => by omega
  have ec : ∀ k, 176 + 156 * v + (56 + k) = 176 + 156 * v + 56 + k := fun k => by omega
  obtain ⟨⟨so, hs, e0, hA, hB⟩, a, b, e4, e5, hab, hb, ht, h0, hst⟩ := hl l h9
  simp only [e] at e0 hA hB e4 e5
  refine ⟨⟨so, hs, e0, hA, hB⟩, a, b, e4, e5, hab, hb, ht, h0, fun k hk1 hk2 => ?_⟩
  have h := hst k hk1 hk2
  simp only [ec] at h
  exact h
theorem STEP.lt {c x : Int32} {a b : Nat} (h : STEP c a b) (e : x = c) (h1 : ¬ 30000 ≤ x) : b = a + 1 := by
  subst e
  rcases h with h | h | h
  · exact h.2
  · exact absurd (Int32.not_lt.mp h.1) h1
  · exact absurd (Int32.not_lt.mp h.1) h1
theorem STEP.no {c x : Int32} {a b : Nat} (h : STEP c a b) (e : x = c) (h1 : 30000 ≤ x) (h2 : x = 30000) : 1 ≤ a ∧ b = a := by
  subst e
  rcases h with h | h | h
  · exact absurd h.1 (Int32.not_lt.mpr h1)
  · exact h.2.2
  · exact absurd h2 h.2.1
theorem STEP.op {c x : Int32} {a b : Nat} (h : STEP c a b) (e : x = c) (h1 : 30000 ≤ x) (h2 : ¬ x = 30000) : 2 ≤ a ∧ b + 1 = a := by
  subst e
  rcases h with h | h | h
  · exact absurd h.1 (Int32.not_lt.mpr h1)
  · exact absurd h.2.1 h2
  · exact h.2.2
def mu (f : Nat → Int32) : Nat := ((f 0).toInt + 2147483648).toNat + ((f 1).toInt + 2147483648).toNat + ((f 2).toInt + 2147483648).toNat + ((f 3).toInt + 2147483648).toNat + ((f 4).toInt + 2147483648).toNat + ((f 5).toInt + 2147483648).toNat + ((f 6).toInt + 2147483648).toNat + ((f 7).toInt + 2147483648).toNat
theorem mu_upd {f : Nat → Int32} {t : Nat} {x y : Int32} (ht : t < 8) (e : y = f t) (h : ¬ y ≤ x) : mu (upd f t x) < mu f := by
  subst e
  rw [Int32.not_le, Int32.lt_iff_toInt_lt] at h
  have hx := ti_lo x
  have hf := ti_lo (f t)
  unfold mu
  rcases (show t = 0 ∨ t = 1 ∨ t = 2 ∨ t = 3 ∨ t = 4 ∨ t = 5 ∨ t = 6 ∨ t = 7 by omega) with rfl | rfl | rfl | rfl | rfl | rfl | rfl | rfl <;> simp [upd] <;> omega
section WR
variable {p : Program} {l : Launch} {e : Env} {R : Room} {s : State} {m : MethodId} {args : Array Value} {below : List Frame} {meth : Method} {c : Code} {H : Heap} {locs : List Loc} {cells slots : Nat} {Q : State → Prop}
variable {pc : Nat} {ls : Array Slot} {rest : List Value} {G : GG} {ws : va_W} {A : Nat → Prop} {y0 : MethodName} {b0 : ByteArray} {mL0 : Nat} {rt0 : Option FieldType} {a : Nat} {H0 : Heap}
theorem gX12_rules_0 : (decode cX12_rules 0 = .ok (.iconst (-1), 1)) ∧ (decode cX12_rules 1 = .ok (.istore_n 1, 1)) ∧ (decode cX12_rules 2 = .ok (.iconst 0, 1)) ∧ (decode cX12_rules 3 = .ok (.istore_n 2, 1)) ∧ (decode cX12_rules 4 = .ok (.iload_n 2, 1)) ∧ (decode cX12_rules 5 = .ok (.aload_n 0, 1)) ∧ (decode cX12_rules 6 = .ok (.getfield 9, 3)) ∧ (decode cX12_rules 9 = .ok (.bipush 7, 2)) ∧ (decode cX12_rules 11 = .ok (.iaload, 1)) ∧ (decode cX12_rules 12 = .ok (.if_icmp .ge 38, 3)) := by decide +kernel
theorem gX12_rules_2 : (decode cX12_rules 31 = .ok (.aload_n 0, 1)) ∧ (decode cX12_rules 32 = .ok (.invokevirtual 92, 3)) ∧ (decode cX12_rules 35 = .ok (.if_icmp .gt 7, 3)) ∧ (decode cX12_rules 38 = .ok (.iload_n 2, 1)) ∧ (decode cX12_rules 39 = .ok (.goto 4, 3)) ∧ (decode cX12_rules 42 = .ok (.iload_n 1, 1)) ∧ (decode cX12_rules 43 = .ok (.istore_n 1, 1)) ∧ (decode cX12_rules 44 = .ok (.iinc 2 1, 3)) ∧ (decode cX12_rules 47 = .ok (.goto (-43), 3)) ∧ (decode cX12_rules 50 = .ok (.iload_n 1, 1)) := by decide +kernel
theorem gX12_rules_3 : (decode cX12_rules 51 = .ok (.ireturn, 1)) := by decide +kernel
theorem gX12_rules_1 : (decode cX12_rules 15 = .ok (.aload_n 0, 1)) ∧ (decode cX12_rules 16 = .ok (.getfield 9, 3)) ∧ (decode cX12_rules 19 = .ok (.sipush 176, 3)) ∧ (decode cX12_rules 22 = .ok (.sipush 156, 3)) ∧ (decode cX12_rules 25 = .ok (.iload_n 2, 1)) ∧ (decode cX12_rules 26 = .ok (.imul, 1)) ∧ (decode cX12_rules 27 = .ok (.iadd, 1)) ∧ (decode cX12_rules 28 = .ok (.iconst 0, 1)) ∧ (decode cX12_rules 29 = .ok (.iadd, 1)) ∧ (decode cX12_rules 30 = .ok (.iaload, 1)) := by decide +kernel
theorem gX12_linesOf_0 : (decode cX12_linesOf 0 = .ok (.iload_n 1, 1)) ∧ (decode cX12_linesOf 1 = .ok (.ifCond .ge 7, 3)) ∧ (decode cX12_linesOf 4 = .ok (.iconst 0, 1)) ∧ (decode cX12_linesOf 5 = .ok (.goto 19, 3)) ∧ (decode cX12_linesOf 8 = .ok (.aload_n 0, 1)) ∧ (decode cX12_linesOf 9 = .ok (.getfield 9, 3)) ∧ (decode cX12_linesOf 12 = .ok (.sipush 176, 3)) ∧ (decode cX12_linesOf 15 = .ok (.sipush 156, 3)) ∧ (decode cX12_linesOf 18 = .ok (.iload_n 1, 1)) ∧ (decode cX12_linesOf 19 = .ok (.imul, 1)) := by decide +kernel
theorem gX12_linesOf_1 : (decode cX12_linesOf 20 = .ok (.iadd, 1)) ∧ (decode cX12_linesOf 21 = .ok (.iconst 1, 1)) ∧ (decode cX12_linesOf 22 = .ok (.iadd, 1)) ∧ (decode cX12_linesOf 23 = .ok (.iaload, 1)) ∧ (decode cX12_linesOf 24 = .ok (.ireturn, 1)) := by decide +kernel
theorem gX12_lineOf_0 : (decode cX12_lineOf 0 = .ok (.aload_n 0, 1)) ∧ (decode cX12_lineOf 1 = .ok (.getfield 9, 3)) ∧ (decode cX12_lineOf 4 = .ok (.sipush 176, 3)) ∧ (decode cX12_lineOf 7 = .ok (.sipush 156, 3)) ∧ (decode cX12_lineOf 10 = .ok (.iload_n 1, 1)) ∧ (decode cX12_lineOf 11 = .ok (.imul, 1)) ∧ (decode cX12_lineOf 12 = .ok (.iadd, 1)) ∧ (decode cX12_lineOf 13 = .ok (.iconst 2, 1)) ∧ (decode cX12_lineOf 14 = .ok (.iadd, 1)) ∧ (decode cX12_lineOf 15 = .ok (.bipush 6, 2)) := by decide +kernel
theorem gX12_lineOf_1 : (decode cX12_lineOf 17 = .ok (.iload_n 2, 1)) ∧ (decode cX12_lineOf 18 = .ok (.imul, 1)) ∧ (decode cX12_lineOf 19 = .ok (.iadd, 1)) ∧ (decode cX12_lineOf 20 = .ok (.iload_n 3, 1)) ∧ (decode cX12_lineOf 21 = .ok (.iadd, 1)) ∧ (decode cX12_lineOf 22 = .ok (.iaload, 1)) ∧ (decode cX12_lineOf 23 = .ok (.ireturn, 1)) := by decide +kernel
theorem gX12_thingOf_0 : (decode cX12_thingOf 0 = .ok (.aload_n 0, 1)) ∧ (decode cX12_thingOf 1 = .ok (.iload_n 1, 1)) ∧ (decode cX12_thingOf 2 = .ok (.iload_n 2, 1)) ∧ (decode cX12_thingOf 3 = .ok (.iconst 0, 1)) ∧ (decode cX12_thingOf 4 = .ok (.invokevirtual 193, 3)) ∧ (decode cX12_thingOf 7 = .ok (.istore_n 3, 1)) ∧ (decode cX12_thingOf 8 = .ok (.iload_n 3, 1)) ∧ (decode cX12_thingOf 9 = .ok (.iconst 2, 1)) ∧ (decode cX12_thingOf 10 = .ok (.if_icmp .ne 13, 3)) ∧ (decode cX12_thingOf 13 = .ok (.aload_n 0, 1)) := by decide +kernel
theorem m_1219 : Cond.code yX12_lineOf cX12_lineOf 4 (some .int) ∈ BW := iB_BW65 _ (List.mem_of_getElem? (i := 7) rfl)
theorem m_1217 : Cond.methodLink RX12 193 yX12_lineOf ∈ BW := iB_BW65 _ (List.mem_of_getElem? (i := 5) rfl)
theorem m_1218 : Cond.instanceMethod yX12_lineOf ∈ BW := iB_BW65 _ (List.mem_of_getElem? (i := 6) rfl)
theorem m_73 : Cond.selects RX12 yX12_lineOf yX12_lineOf ∈ BW := iB_BW3 _ (List.mem_of_getElem? (i := 13) rfl)
theorem si_X12_193 : SV RX12 RX12 193 yX12_lineOf cX12_lineOf 4 (some .int) 3 := ⟨⟨m_1217, m_1218, m_73, m_115, m_1219⟩, rfl, nK_RX12.1, nK_RX12.2, pd_19⟩
theorem gX12_thingOf_1 : (decode cX12_thingOf 14 = .ok (.iload_n 1, 1)) ∧ (decode cX12_thingOf 15 = .ok (.iload_n 2, 1)) ∧ (decode cX12_thingOf 16 = .ok (.iconst 1, 1)) ∧ (decode cX12_thingOf 17 = .ok (.invokevirtual 193, 3)) ∧ (decode cX12_thingOf 20 = .ok (.goto 18, 3)) ∧ (decode cX12_thingOf 23 = .ok (.iload_n 3, 1)) ∧ (decode cX12_thingOf 24 = .ok (.ifCond .ne 13, 3)) ∧ (decode cX12_thingOf 27 = .ok (.aload_n 0, 1)) ∧ (decode cX12_thingOf 28 = .ok (.iload_n 1, 1)) ∧ (decode cX12_thingOf 29 = .ok (.iload_n 2, 1)) := by decide +kernel
theorem gX12_thingOf_2 : (decode cX12_thingOf 30 = .ok (.iconst 2, 1)) ∧ (decode cX12_thingOf 31 = .ok (.invokevirtual 193, 3)) ∧ (decode cX12_thingOf 34 = .ok (.goto 4, 3)) ∧ (decode cX12_thingOf 37 = .ok (.iconst 0, 1)) ∧ (decode cX12_thingOf 38 = .ok (.ireturn, 1)) := by decide +kernel
theorem gX12_factOf_0 : (decode cX12_factOf 0 = .ok (.iload_n 1, 1)) ∧ (decode cX12_factOf 1 = .ok (.tableswitch 59 0 3 #[31, 33, 45, 52], 31)) ∧ (decode cX12_factOf 32 = .ok (.iload_n 2, 1)) ∧ (decode cX12_factOf 33 = .ok (.ireturn, 1)) ∧ (decode cX12_factOf 34 = .ok (.aload_n 0, 1)) ∧ (decode cX12_factOf 35 = .ok (.getfield 9, 3)) ∧ (decode cX12_factOf 38 = .ok (.bipush 12, 2)) ∧ (decode cX12_factOf 40 = .ok (.iconst 2, 1)) ∧ (decode cX12_factOf 41 = .ok (.iload_n 2, 1)) ∧ (decode cX12_factOf 42 = .ok (.imul, 1)) := by decide +kernel
theorem gX12_factOf_1 : (decode cX12_factOf 43 = .ok (.iadd, 1)) ∧ (decode cX12_factOf 44 = .ok (.iaload, 1)) ∧ (decode cX12_factOf 45 = .ok (.ireturn, 1)) ∧ (decode cX12_factOf 46 = .ok (.aload_n 0, 1)) ∧ (decode cX12_factOf 47 = .ok (.iload_n 2, 1)) ∧ (decode cX12_factOf 48 = .ok (.iconst 0, 1)) ∧ (decode cX12_factOf 49 = .ok (.invokevirtual 123, 3)) ∧ (decode cX12_factOf 52 = .ok (.ireturn, 1)) ∧ (decode cX12_factOf 53 = .ok (.aload_n 0, 1)) ∧ (decode cX12_factOf 54 = .ok (.iload_n 2, 1)) := by decide +kernel
theorem m_1113 : Cond.code yX12_papersOf cX12_papersOf 5 (some .int) ∈ BW := iB_BW59 _ (List.mem_of_getElem? (i := 2) rfl)
theorem m_1111 : Cond.methodLink RX12 123 yX12_papersOf ∈ BW := iB_BW59 _ (List.mem_of_getElem? (i := 0) rfl)
theorem m_1112 : Cond.instanceMethod yX12_papersOf ∈ BW := iB_BW59 _ (List.mem_of_getElem? (i := 1) rfl)
theorem m_53 : Cond.selects RX12 yX12_papersOf yX12_papersOf ∈ BW := iB_BW2 _ (List.mem_of_getElem? (i := 13) rfl)
theorem si_X12_123 : SV RX12 RX12 123 yX12_papersOf cX12_papersOf 5 (some .int) 2 := ⟨⟨m_1111, m_1112, m_53, m_115, m_1113⟩, rfl, nK_RX12.1, nK_RX12.2, pd_8⟩
theorem gX12_factOf_2 : (decode cX12_factOf 55 = .ok (.iconst 1, 1)) ∧ (decode cX12_factOf 56 = .ok (.invokevirtual 123, 3)) ∧ (decode cX12_factOf 59 = .ok (.ireturn, 1)) ∧ (decode cX12_factOf 60 = .ok (.aload_n 0, 1)) ∧ (decode cX12_factOf 61 = .ok (.getfield 9, 3)) ∧ (decode cX12_factOf 64 = .ok (.bipush 12, 2)) ∧ (decode cX12_factOf 66 = .ok (.iconst 2, 1)) ∧ (decode cX12_factOf 67 = .ok (.iload_n 2, 1)) ∧ (decode cX12_factOf 68 = .ok (.imul, 1)) ∧ (decode cX12_factOf 69 = .ok (.iadd, 1)) := by decide +kernel
theorem sw_0_3 {x : Int32} : ¬ x = 0 → ¬ x = 1 → ¬ x = 2 → ¬ x = 3 →  (x.toInt < 0 ∨ 3 < x.toInt) := by
  intros
  simp only [← Int32.toInt_inj] at *
  have hk : ∀ k : Int, x.toInt = k → x.toInt = k := fun _ h => h
  have k0 : (0 : Int32).toInt = 0 := by decide
  have k1 : (1 : Int32).toInt = 1 := by decide
  have k2 : (2 : Int32).toInt = 2 := by decide
  have k3 : (3 : Int32).toInt = 3 := by decide
  omega
theorem gX12_factOf_3 : (decode cX12_factOf 70 = .ok (.iconst 1, 1)) ∧ (decode cX12_factOf 71 = .ok (.iadd, 1)) ∧ (decode cX12_factOf 72 = .ok (.iaload, 1)) ∧ (decode cX12_factOf 73 = .ok (.ireturn, 1)) := by decide +kernel
theorem gX12_holds_0 : (decode cX12_holds 0 = .ok (.aload_n 0, 1)) ∧ (decode cX12_holds 1 = .ok (.iload_n 1, 1)) ∧ (decode cX12_holds 2 = .ok (.iload_n 2, 1)) ∧ (decode cX12_holds 3 = .ok (.iconst 4, 1)) ∧ (decode cX12_holds 4 = .ok (.invokevirtual 193, 3)) ∧ (decode cX12_holds 7 = .ok (.istore 4, 2)) ∧ (decode cX12_holds 9 = .ok (.aload_n 0, 1)) ∧ (decode cX12_holds 10 = .ok (.iload_n 1, 1)) ∧ (decode cX12_holds 11 = .ok (.iload_n 2, 1)) ∧ (decode cX12_holds 12 = .ok (.iconst 5, 1)) := by decide +kernel
theorem gX12_holds_1 : (decode cX12_holds 13 = .ok (.invokevirtual 193, 3)) ∧ (decode cX12_holds 16 = .ok (.istore 5, 2)) ∧ (decode cX12_holds 18 = .ok (.iconst 0, 1)) ∧ (decode cX12_holds 19 = .ok (.istore 6, 2)) ∧ (decode cX12_holds 21 = .ok (.iload 4, 2)) ∧ (decode cX12_holds 23 = .ok (.istore 7, 2)) ∧ (decode cX12_holds 25 = .ok (.iload 7, 2)) ∧ (decode cX12_holds 27 = .ok (.iload 5, 2)) ∧ (decode cX12_holds 29 = .ok (.if_icmp .ge 214, 3)) ∧ (decode cX12_holds 32 = .ok (.aload_n 0, 1)) := by decide +kernel
theorem gX12_holds_13 : (decode cX12_holds 243 = .ok (.iload 4, 2)) ∧ (decode cX12_holds 245 = .ok (.iload 5, 2)) ∧ (decode cX12_holds 247 = .ok (.if_icmp .eq 13, 3)) ∧ (decode cX12_holds 250 = .ok (.aload_n 0, 1)) ∧ (decode cX12_holds 251 = .ok (.getfield 54, 3)) ∧ (decode cX12_holds 254 = .ok (.iconst 0, 1)) ∧ (decode cX12_holds 255 = .ok (.iaload, 1)) ∧ (decode cX12_holds 256 = .ok (.iconst 1, 1)) ∧ (decode cX12_holds 257 = .ok (.if_icmp .ne 7, 3)) ∧ (decode cX12_holds 260 = .ok (.iconst 1, 1)) := by decide +kernel
theorem gX12_holds_14 : (decode cX12_holds 261 = .ok (.goto 4, 3)) ∧ (decode cX12_holds 264 = .ok (.iconst 0, 1)) ∧ (decode cX12_holds 265 = .ok (.ireturn, 1)) := by decide +kernel
theorem m_1054 : Cond.fieldLink RX12 54 "InquiryBenchModel" "pile" "[I" ∈ BW := iB_BW56 _ (List.mem_of_getElem? (i := 3) rfl)
theorem gf_X12_54 (hC : CX p s m meth c y0 b0 mL0 rt0 args) (hy0 : y0.cls = RX12) (hK : KK G s) (hP : va_P G.1 vwCl ws H) (q0 : Nat) {fs : List Value} {v : Value} (he : ws[q0]? = some (a, .inr (12, fs))) (hv : fs[24]? = some v) (hdg : decode b0 pc = .ok (.getfield 54, 3)) (kk : W p l e R s m args below meth c H locs cells slots Q (F0 m (pc + 3) ls (v :: rest))) : W p l e R s m args below meth c H locs cells slots Q (F0 m pc ls (.ref a :: rest)) := by
  obtain ⟨hx, hb, hr, hml, hB, hown, hlocks, hnm⟩ := hC
  rw [hy0] at hown
  exact va_get (ci := 12) (C := RX12) (T := TX12) (N := 41) hx hb hB in_X12 hown hK.1 hP q0 he rfl 24 (by decide) (hB _ m_1054) (fun _ h => h) hv hdg kk
theorem gX12_holds_2 : (decode cX12_holds 33 = .ok (.getfield 9, 3)) ∧ (decode cX12_holds 36 = .ok (.sipush 176, 3)) ∧ (decode cX12_holds 39 = .ok (.sipush 156, 3)) ∧ (decode cX12_holds 42 = .ok (.iload_n 1, 1)) ∧ (decode cX12_holds 43 = .ok (.imul, 1)) ∧ (decode cX12_holds 44 = .ok (.iadd, 1)) ∧ (decode cX12_holds 45 = .ok (.bipush 56, 2)) ∧ (decode cX12_holds 47 = .ok (.iadd, 1)) ∧ (decode cX12_holds 48 = .ok (.iload 7, 2)) ∧ (decode cX12_holds 50 = .ok (.iadd, 1)) := by decide +kernel
theorem gX12_holds_3 : (decode cX12_holds 51 = .ok (.iaload, 1)) ∧ (decode cX12_holds 52 = .ok (.istore 8, 2)) ∧ (decode cX12_holds 54 = .ok (.iload 8, 2)) ∧ (decode cX12_holds 56 = .ok (.sipush 30000, 3)) ∧ (decode cX12_holds 59 = .ok (.if_icmp .ge 90, 3)) ∧ (decode cX12_holds 62 = .ok (.aload_n 0, 1)) ∧ (decode cX12_holds 63 = .ok (.iload 8, 2)) ∧ (decode cX12_holds 65 = .ok (.sipush 3000, 3)) ∧ (decode cX12_holds 68 = .ok (.idiv, 1)) ∧ (decode cX12_holds 69 = .ok (.iload_n 3, 1)) := by decide +kernel
theorem gX12_holds_7 : (decode cX12_holds 134 = .ok (.if_icmp .le 7, 3)) ∧ (decode cX12_holds 137 = .ok (.iconst 1, 1)) ∧ (decode cX12_holds 138 = .ok (.goto 4, 3)) ∧ (decode cX12_holds 141 = .ok (.iconst 0, 1)) ∧ (decode cX12_holds 142 = .ok (.iastore, 1)) ∧ (decode cX12_holds 143 = .ok (.iinc 6 1, 3)) ∧ (decode cX12_holds 146 = .ok (.goto 91, 3)) ∧ (decode cX12_holds 149 = .ok (.iload 8, 2)) ∧ (decode cX12_holds 151 = .ok (.sipush 30000, 3)) ∧ (decode cX12_holds 154 = .ok (.if_icmp .ne 26, 3)) := by decide +kernel
theorem gX12_holds_9 : (decode cX12_holds 173 = .ok (.isub, 1)) ∧ (decode cX12_holds 174 = .ok (.iaload, 1)) ∧ (decode cX12_holds 175 = .ok (.isub, 1)) ∧ (decode cX12_holds 176 = .ok (.iastore, 1)) ∧ (decode cX12_holds 177 = .ok (.goto 60, 3)) ∧ (decode cX12_holds 180 = .ok (.iinc 6 (-1), 3)) ∧ (decode cX12_holds 183 = .ok (.aload_n 0, 1)) ∧ (decode cX12_holds 184 = .ok (.getfield 54, 3)) ∧ (decode cX12_holds 187 = .ok (.iload 6, 2)) ∧ (decode cX12_holds 189 = .ok (.iconst 1, 1)) := by decide +kernel
theorem gX12_holds_10 : (decode cX12_holds 190 = .ok (.isub, 1)) ∧ (decode cX12_holds 191 = .ok (.iload 8, 2)) ∧ (decode cX12_holds 193 = .ok (.sipush 30001, 3)) ∧ (decode cX12_holds 196 = .ok (.if_icmp .ne 23, 3)) ∧ (decode cX12_holds 199 = .ok (.aload_n 0, 1)) ∧ (decode cX12_holds 200 = .ok (.getfield 54, 3)) ∧ (decode cX12_holds 203 = .ok (.iload 6, 2)) ∧ (decode cX12_holds 205 = .ok (.iconst 1, 1)) ∧ (decode cX12_holds 206 = .ok (.isub, 1)) ∧ (decode cX12_holds 207 = .ok (.iaload, 1)) := by decide +kernel
theorem gX12_holds_11 : (decode cX12_holds 208 = .ok (.aload_n 0, 1)) ∧ (decode cX12_holds 209 = .ok (.getfield 54, 3)) ∧ (decode cX12_holds 212 = .ok (.iload 6, 2)) ∧ (decode cX12_holds 214 = .ok (.iaload, 1)) ∧ (decode cX12_holds 215 = .ok (.iand, 1)) ∧ (decode cX12_holds 216 = .ok (.goto 20, 3)) ∧ (decode cX12_holds 219 = .ok (.aload_n 0, 1)) ∧ (decode cX12_holds 220 = .ok (.getfield 54, 3)) ∧ (decode cX12_holds 223 = .ok (.iload 6, 2)) ∧ (decode cX12_holds 225 = .ok (.iconst 1, 1)) := by decide +kernel
theorem gX12_holds_12 : (decode cX12_holds 226 = .ok (.isub, 1)) ∧ (decode cX12_holds 227 = .ok (.iaload, 1)) ∧ (decode cX12_holds 228 = .ok (.aload_n 0, 1)) ∧ (decode cX12_holds 229 = .ok (.getfield 54, 3)) ∧ (decode cX12_holds 232 = .ok (.iload 6, 2)) ∧ (decode cX12_holds 234 = .ok (.iaload, 1)) ∧ (decode cX12_holds 235 = .ok (.ior, 1)) ∧ (decode cX12_holds 236 = .ok (.iastore, 1)) ∧ (decode cX12_holds 237 = .ok (.iinc 7 1, 3)) ∧ (decode cX12_holds 240 = .ok (.goto (-215), 3)) := by decide +kernel
theorem gX12_holds_8 : (decode cX12_holds 157 = .ok (.aload_n 0, 1)) ∧ (decode cX12_holds 158 = .ok (.getfield 54, 3)) ∧ (decode cX12_holds 161 = .ok (.iload 6, 2)) ∧ (decode cX12_holds 163 = .ok (.iconst 1, 1)) ∧ (decode cX12_holds 164 = .ok (.isub, 1)) ∧ (decode cX12_holds 165 = .ok (.iconst 1, 1)) ∧ (decode cX12_holds 166 = .ok (.aload_n 0, 1)) ∧ (decode cX12_holds 167 = .ok (.getfield 54, 3)) ∧ (decode cX12_holds 170 = .ok (.iload 6, 2)) ∧ (decode cX12_holds 172 = .ok (.iconst 1, 1)) := by decide +kernel
theorem gX12_holds_4 : (decode cX12_holds 70 = .ok (.invokevirtual 295, 3)) ∧ (decode cX12_holds 73 = .ok (.istore 9, 2)) ∧ (decode cX12_holds 75 = .ok (.iload 8, 2)) ∧ (decode cX12_holds 77 = .ok (.sipush 1000, 3)) ∧ (decode cX12_holds 80 = .ok (.irem, 1)) ∧ (decode cX12_holds 81 = .ok (.istore 10, 2)) ∧ (decode cX12_holds 83 = .ok (.iload 8, 2)) ∧ (decode cX12_holds 85 = .ok (.sipush 1000, 3)) ∧ (decode cX12_holds 88 = .ok (.idiv, 1)) ∧ (decode cX12_holds 89 = .ok (.iconst 3, 1)) := by decide +kernel
theorem m_1225 : Cond.code yX12_factOf cX12_factOf 3 (some .int) ∈ BW := iB_BW65 _ (List.mem_of_getElem? (i := 13) rfl)
theorem m_1223 : Cond.methodLink RX12 295 yX12_factOf ∈ BW := iB_BW65 _ (List.mem_of_getElem? (i := 11) rfl)
theorem m_1224 : Cond.instanceMethod yX12_factOf ∈ BW := iB_BW65 _ (List.mem_of_getElem? (i := 12) rfl)
theorem m_75 : Cond.selects RX12 yX12_factOf yX12_factOf ∈ BW := iB_BW3 _ (List.mem_of_getElem? (i := 15) rfl)
theorem si_X12_295 : SV RX12 RX12 295 yX12_factOf cX12_factOf 3 (some .int) 2 := ⟨⟨m_1223, m_1224, m_75, m_115, m_1225⟩, rfl, nK_RX12.1, nK_RX12.2, pd_2⟩
theorem gX12_holds_5 : (decode cX12_holds 90 = .ok (.irem, 1)) ∧ (decode cX12_holds 91 = .ok (.istore 11, 2)) ∧ (decode cX12_holds 93 = .ok (.aload_n 0, 1)) ∧ (decode cX12_holds 94 = .ok (.getfield 54, 3)) ∧ (decode cX12_holds 97 = .ok (.iload 6, 2)) ∧ (decode cX12_holds 99 = .ok (.iload 11, 2)) ∧ (decode cX12_holds 101 = .ok (.ifCond .ne 13, 3)) ∧ (decode cX12_holds 104 = .ok (.iload 9, 2)) ∧ (decode cX12_holds 106 = .ok (.iload 10, 2)) ∧ (decode cX12_holds 108 = .ok (.if_icmp .ge 33, 3)) := by decide +kernel
theorem gX12_holds_6 : (decode cX12_holds 111 = .ok (.goto 26, 3)) ∧ (decode cX12_holds 114 = .ok (.iload 11, 2)) ∧ (decode cX12_holds 116 = .ok (.iconst 1, 1)) ∧ (decode cX12_holds 117 = .ok (.if_icmp .ne 13, 3)) ∧ (decode cX12_holds 120 = .ok (.iload 9, 2)) ∧ (decode cX12_holds 122 = .ok (.iload 10, 2)) ∧ (decode cX12_holds 124 = .ok (.if_icmp .ne 17, 3)) ∧ (decode cX12_holds 127 = .ok (.goto 10, 3)) ∧ (decode cX12_holds 130 = .ok (.iload 9, 2)) ∧ (decode cX12_holds 132 = .ok (.iload 10, 2)) := by decide +kernel
end WR
def K_m_rules (l : Launch) (G : GG) (h0 : Nat) (nw : Nat) (nk : Nat) (mhasKept : Int32) (nt : Nat) (mtaped : Int32) (nr : Nat) (mrowMany : Int32) (mroundOf : Int32) (mroundFrom : Int32) (mouts : Int32) (nm : Nat) (mfromHour : Int32) (mtoHour : Int32) (ns : Nat) (mfrom : Int32) (mto : Int32) (msort : Int32) (misFault : Int32) (mdeep : Int32) (mcoded : Int32) (mlines : Int32) (nl : Nat) (nc : Nat) (nF : Nat) (np : Nat) (ntr : Nat) (nb : Nat) (mbestCost : Int32) (nso : Nat) (nsi : Nat) (nit : Nat) (nsh : Nat) (nsf : Nat) (nss : Nat) (nrc : Nat) (mtraced : Int32) (mdealer : Int32) (mnumber : Int32) (mwhose : Int32) (msize : Int32) (misParted : Int32) (fnw : Nat → Int32) : Prop := MP l G yX12_rules cX12_rules 3 (some .int) 2 [.ref h0] [(h0, oX12 nw nk mhasKept nt mtaped nr mrowMany mroundOf mroundFrom mouts nm mfromHour mtoHour ns mfrom mto msort misFault mdeep mcoded mlines nl nc nF np ntr nb mbestCost nso nsi nit nsh nsf nss nrc mtraced mdealer mnumber mwhose msize misParted), (nw, iA G 1662 fnw)] (fun r : Int32 => ∃ jv, (jv ≤ 8) ∧ r = nI jv - 1)
set_option maxHeartbeats 4000000 in
set_option maxRecDepth 100000 in
theorem m_rules (l : Launch) (G : GG) (h0 : Nat) (nw : Nat) (nk : Nat) (mhasKept : Int32) (nt : Nat) (mtaped : Int32) (nr : Nat) (mrowMany : Int32) (mroundOf : Int32) (mroundFrom : Int32) (mouts : Int32) (nm : Nat) (mfromHour : Int32) (mtoHour : Int32) (ns : Nat) (mfrom : Int32) (mto : Int32) (msort : Int32) (misFault : Int32) (mdeep : Int32) (mcoded : Int32) (mlines : Int32) (nl : Nat) (nc : Nat) (nF : Nat) (np : Nat) (ntr : Nat) (nb : Nat) (mbestCost : Int32) (nso : Nat) (nsi : Nat) (nit : Nat) (nsh : Nat) (nsf : Nat) (nss : Nat) (nrc : Nat) (mtraced : Int32) (mdealer : Int32) (mnumber : Int32) (mwhose : Int32) (msize : Int32) (misParted : Int32) (fnw : Nat → Int32) (hN : NI fnw) : K_m_rules l G h0 nw nk mhasKept nt mtaped nr mrowMany mroundOf mroundFrom mouts nm mfromHour mtoHour ns mfrom mto msort misFault mdeep mcoded mlines nl nc nF np ntr nb mbestCost nso nsi nit nsh nsf nss nrc mtraced mdealer mnumber mwhose msize misParted fnw := by
  refine MP.start (by decide +kernel) (Nat.le_of_ble_eq_true rfl) ?_
  intro p e s m below meth c ls hC hK hP hD hl
  refine absQ (fun Q0 hQ0 => ?_)
  have hl : lv_has ls 3 [(0, .ref h0)] := hl
  refine Kan8 hC (fun hx hb hr hml hB hown hlocks hnm => ?_)
  obtain ⟨k7, hk7, ek7⟩ := NI.nat hN (i := 7) (B := 8) (by decide +kernel) (by decide)
  refine lv_iconst (v := (-1)) hx hb gX12_rules_0.1 (by decide) ?_
  refine lv_istore_n (lv' := [(1, .int (-1)), (0, .ref h0)]) hx hb gX12_rules_0.2.1 rfl hl (by decide) rfl (fun ls hl => ?_)
  refine lv_iconst (v := 0) hx hb gX12_rules_0.2.2.1 (by decide) ?_
  refine lv_istore_n (lv' := [(2, .int 0), (1, .int (-1)), (0, .ref h0)]) hx hb gX12_rules_0.2.2.2.1 rfl hl (by decide) rfl (fun ls hl => ?_)
  have keyP : ∀ (nP kP : Nat) (fo : Int32) (ls : Array Slot), kP + nP = k7 → (∃ j, j ≤ 8 ∧ fo = nI j - 1) → lv_has ls 3 [(2, .int (nI kP)), (1, .int fo), (0, .ref h0)] → W p l e (RM 2 0 0) s m ([.ref h0] : List Value).toArray below meth c s.heap [] 0 0 Q0 (F0 m 4 ls []) := by
    intro nP
    induction nP with
    | zero =>
      intro kP fo ls hkP hfo hl
      obtain rfl : k7 = kP := by omega
      have hl : lv_has ls 3 [(2, .int (nI k7)), (1, .int fo), (0, .ref h0)] := hl
      refine lv_iload_n hx hb gX12_rules_0.2.2.2.2.1 rfl (lv_at0 hl) ?_
      refine lv_aload_n hx hb gX12_rules_0.2.2.2.2.2.1 rfl (lv_at2 hl) ?_
      refine gf_X12_9 hC rfl hK hP 0 rfl rfl gX12_rules_0.2.2.2.2.2.2.1 ?_
      refine lv_bipush (v := 7) hx hb gX12_rules_0.2.2.2.2.2.2.2.1 (by decide) ?_
      refine ald hC hK hP 1 rfl (vin (by decide +kernel)) (k := 7) (by decide +kernel) (v := nI k7) (ek7) gX12_rules_0.2.2.2.2.2.2.2.2.1 ?_
      refine lv_icmp_ge (tgt := 50) hx hb gX12_rules_0.2.2.2.2.2.2.2.2.2 (by decide) (fun _ => ?_) (fun c9 => absurd (Int32.le_refl _) c9)
      refine lv_iload_n hx hb gX12_rules_2.2.2.2.2.2.2.2.2.2 rfl (lv_at1 hl) ?_
      refine toQ hQ0 ?_
      exact RP (v := fo) hC (hfo) rfl gX12_rules_3
    | succ nP ihP =>
      intro kP fo ls hkP hfo hl
      refine lv_iload_n hx hb gX12_rules_0.2.2.2.2.1 rfl (lv_at0 hl) ?_
      refine lv_aload_n hx hb gX12_rules_0.2.2.2.2.2.1 rfl (lv_at2 hl) ?_
      refine gf_X12_9 hC rfl hK hP 0 rfl rfl gX12_rules_0.2.2.2.2.2.2.1 ?_
      refine lv_bipush (v := 7) hx hb gX12_rules_0.2.2.2.2.2.2.2.1 (by decide) ?_
      refine ald hC hK hP 1 rfl (vin (by decide +kernel)) (k := 7) (by decide +kernel) (v := nI k7) (ek7) gX12_rules_0.2.2.2.2.2.2.2.2.1 ?_
      refine lv_icmp_ge (tgt := 50) hx hb gX12_rules_0.2.2.2.2.2.2.2.2.2 (by decide) (fun c9 => absurd c9 (nI_ge (a := kP) (b := k7) (by omega) (by omega))) (fun _ => ?_)
      refine lv_aload_n hx hb gX12_rules_1.1 rfl (lv_at2 hl) ?_
      refine gf_X12_9 hC rfl hK hP 0 rfl rfl gX12_rules_1.2.1 ?_
      refine lv_sipush (v := 176) hx hb gX12_rules_1.2.2.1 (by decide) ?_
      refine lv_sipush (v := 156) hx hb gX12_rules_1.2.2.2.1 (by decide) ?_
      refine lv_iload_n hx hb gX12_rules_1.2.2.2.2.1 rfl (lv_at0 hl) ?_
      refine lv_imul hx hb gX12_rules_1.2.2.2.2.2.1 ?_
      refine eqi (x1 := nI (156 * kP)) (nI_mul 156 kP) ?_
      refine lv_iadd hx hb gX12_rules_1.2.2.2.2.2.2.1 ?_
      refine eqi (x1 := nI (176 + 156 * kP)) (nI_add 176 (156 * kP)) ?_
      refine lv_iconst (v := 0) hx hb gX12_rules_1.2.2.2.2.2.2.2.1 (by decide) ?_
      refine lv_iadd hx hb gX12_rules_1.2.2.2.2.2.2.2.2.1 ?_
      refine eqi (x1 := nI (176 + 156 * kP + 0)) (nI_add (176 + 156 * kP) 0) ?_
      refine aldN hC hK hP 1 rfl (k := (176 + 156 * kP + 0)) (by omega) (Nat.le_of_ble_eq_true rfl) (v := fnw (176 + 156 * kP + 0)) rfl gX12_rules_1.2.2.2.2.2.2.2.2.2 ?_
      refine lv_topi (fun x5495 ex5495 => ?_)
      refine lv_aload_n hx hb gX12_rules_2.1 rfl (lv_at2 hl) ?_
      refine pV hC hK hl hP hD (m_day l G h0 nw nk mhasKept nt mtaped nr mrowMany mroundOf mroundFrom mouts nm mfromHour mtoHour ns mfrom mto msort misFault mdeep mcoded mlines nl nc nF np ntr nb mbestCost nso nsi nit nsh nsf nss nrc mtraced mdealer mnumber mwhose msize misParted fnw) si_X12_92 [0, 1] sm_0_1 fm_0_1 nd_0_1 rfl rfl rfl rfl rfl (Nat.le_of_ble_eq_true rfl) rm_2_1_1 ⟨by first | exact Nat.le_of_ble_eq_true rfl | exact Nat.zero_le _, by first | exact Nat.le_of_ble_eq_true rfl | exact Nat.zero_le _⟩ gX12_rules_2.2.1 (fun r5496 hr5496 => ?_)
      refine lv_icmp_gt (tgt := 42) hx hb gX12_rules_2.2.2.1 (by decide) (fun c_35_5497 => ?_) (fun c_35_5497 => ?_)
      · refine lv_iload_n hx hb gX12_rules_2.2.2.2.2.2.1 rfl (lv_at1 hl) ?_
        refine lv_istore_n (lv' := [(1, .int fo), (2, .int (nI kP)), (0, .ref h0)]) hx hb gX12_rules_2.2.2.2.2.2.2.1 rfl hl (by decide) rfl (fun ls hl => ?_)
        refine lv_iinc (v := nI (kP + 1)) (lv' := [(2, .int (nI (kP + 1))), (1, .int fo), (0, .ref h0)]) hx hb gX12_rules_2.2.2.2.2.2.2.2.1 hl (k := 1) rfl (nI_1 _) (by decide) rfl (fun ls hl => ?_)
        refine lv_goto (tgt := 4) hx hb gX12_rules_2.2.2.2.2.2.2.2.2.1 (by decide) ?_
        exact ihP (kP + 1) fo _ (by omega) (by first | assumption | exact Or.inl rfl | exact Or.inr rfl | exact ⟨0, by omega, by decide⟩ | exact ⟨kP + 1, by omega, (nI_sub1 kP).symm⟩) (lv_sub hl [0, 1, 2] rfl)
      · refine lv_iload_n hx hb gX12_rules_2.2.2.2.1 rfl (lv_at0 hl) ?_
        refine lv_goto (tgt := 43) hx hb gX12_rules_2.2.2.2.2.1 (by decide) ?_
        refine lv_istore_n (lv' := [(1, .int (nI kP)), (2, .int (nI kP)), (0, .ref h0)]) hx hb gX12_rules_2.2.2.2.2.2.2.1 rfl hl (by decide) rfl (fun ls hl => ?_)
        refine lv_iinc (v := nI (kP + 1)) (lv' := [(2, .int (nI (kP + 1))), (1, .int (nI kP)), (0, .ref h0)]) hx hb gX12_rules_2.2.2.2.2.2.2.2.1 hl (k := 1) rfl (nI_1 _) (by decide) rfl (fun ls hl => ?_)
        refine lv_goto (tgt := 4) hx hb gX12_rules_2.2.2.2.2.2.2.2.2.1 (by decide) ?_
        exact ihP (kP + 1) (nI kP) _ (by omega) (by first | assumption | exact Or.inl rfl | exact Or.inr rfl | exact ⟨0, by omega, by decide⟩ | exact ⟨kP + 1, by omega, (nI_sub1 kP).symm⟩) (lv_sub hl [0, 1, 2] rfl)
  exact keyP k7 0 (-1) _ (by omega) (by first | assumption | exact Or.inl rfl | exact Or.inr rfl | exact ⟨0, by omega, by decide⟩ | exact ⟨kP + 1, by omega, (nI_sub1 kP).symm⟩) (lv_sub hl [0, 1, 2] rfl)
def K_m_linesN (l : Launch) (G : GG) (h0 : Nat) (nw : Nat) (nk : Nat) (mhasKept : Int32) (nt : Nat) (mtaped : Int32) (nr : Nat) (mrowMany : Int32) (mroundOf : Int32) (mroundFrom : Int32) (mouts : Int32) (nm : Nat) (mfromHour : Int32) (mtoHour : Int32) (ns : Nat) (mfrom : Int32) (mto : Int32) (msort : Int32) (misFault : Int32) (mdeep : Int32) (mcoded : Int32) (mlines : Int32) (nl : Nat) (nc : Nat) (nF : Nat) (np : Nat) (ntr : Nat) (nb : Nat) (mbestCost : Int32) (nso : Nat) (nsi : Nat) (nit : Nat) (nsh : Nat) (nsf : Nat) (nss : Nat) (nrc : Nat) (mtraced : Int32) (mdealer : Int32) (mnumber : Int32) (mwhose : Int32) (msize : Int32) (misParted : Int32) (fnw : Nat → Int32) : Prop := MP l G yX12_linesOf cX12_linesOf 2 (some .int) 1 [.ref h0, .int (-1)] [(h0, oX12 nw nk mhasKept nt mtaped nr mrowMany mroundOf mroundFrom mouts nm mfromHour mtoHour ns mfrom mto msort misFault mdeep mcoded mlines nl nc nF np ntr nb mbestCost nso nsi nit nsh nsf nss nrc mtraced mdealer mnumber mwhose msize misParted), (nw, iA G 1662 fnw)] (fun r : Int32 => r = 0)
set_option maxHeartbeats 4000000 in
set_option maxRecDepth 100000 in
theorem m_linesN (l : Launch) (G : GG) (h0 : Nat) (nw : Nat) (nk : Nat) (mhasKept : Int32) (nt : Nat) (mtaped : Int32) (nr : Nat) (mrowMany : Int32) (mroundOf : Int32) (mroundFrom : Int32) (mouts : Int32) (nm : Nat) (mfromHour : Int32) (mtoHour : Int32) (ns : Nat) (mfrom : Int32) (mto : Int32) (msort : Int32) (misFault : Int32) (mdeep : Int32) (mcoded : Int32) (mlines : Int32) (nl : Nat) (nc : Nat) (nF : Nat) (np : Nat) (ntr : Nat) (nb : Nat) (mbestCost : Int32) (nso : Nat) (nsi : Nat) (nit : Nat) (nsh : Nat) (nsf : Nat) (nss : Nat) (nrc : Nat) (mtraced : Int32) (mdealer : Int32) (mnumber : Int32) (mwhose : Int32) (msize : Int32) (misParted : Int32) (fnw : Nat → Int32) : K_m_linesN l G h0 nw nk mhasKept nt mtaped nr mrowMany mroundOf mroundFrom mouts nm mfromHour mtoHour ns mfrom mto msort misFault mdeep mcoded mlines nl nc nF np ntr nb mbestCost nso nsi nit nsh nsf nss nrc mtraced mdealer mnumber mwhose msize misParted fnw := by
  refine MP.start (by decide +kernel) (Nat.le_of_ble_eq_true rfl) ?_
  intro p e s m below meth c ls hC hK hP hD hl
  refine absQ (fun Q0 hQ0 => ?_)
  have hl : lv_has ls 2 [(0, .ref h0), (1, .int (-1))] := hl
  refine Kan8 hC (fun hx hb hr hml hB hown hlocks hnm => ?_)
  refine lv_iload_n hx hb gX12_linesOf_0.1 rfl (lv_at1 hl) ?_
  refine lv_if_ge (tgt := 8) hx hb gX12_linesOf_0.2.1 (by decide) (fun c9 => absurd c9 (by decide)) (fun _ => ?_)
  refine lv_iconst (v := 0) hx hb gX12_linesOf_0.2.2.1 (by decide) ?_
  refine lv_goto (tgt := 24) hx hb gX12_linesOf_0.2.2.2.1 (by decide) ?_
  refine toQ hQ0 ?_
  exact RP (v := 0) hC (rfl) rfl gX12_linesOf_1.2.2.2.2
def K_m_lines (l : Launch) (G : GG) (L : Nat) (h0 : Nat) (jv : Nat) (nw : Nat) (nk : Nat) (mhasKept : Int32) (nt : Nat) (mtaped : Int32) (nr : Nat) (mrowMany : Int32) (mroundOf : Int32) (mroundFrom : Int32) (mouts : Int32) (nm : Nat) (mfromHour : Int32) (mtoHour : Int32) (ns : Nat) (mfrom : Int32) (mto : Int32) (msort : Int32) (misFault : Int32) (mdeep : Int32) (mcoded : Int32) (mlines : Int32) (nl : Nat) (nc : Nat) (nF : Nat) (np : Nat) (ntr : Nat) (nb : Nat) (mbestCost : Int32) (nso : Nat) (nsi : Nat) (nit : Nat) (nsh : Nat) (nsf : Nat) (nss : Nat) (nrc : Nat) (mtraced : Int32) (mdealer : Int32) (mnumber : Int32) (mwhose : Int32) (msize : Int32) (misParted : Int32) (fnw : Nat → Int32) : Prop := MP l G yX12_linesOf cX12_linesOf 2 (some .int) 1 [.ref h0, .int (nI jv)] [(h0, oX12 nw nk mhasKept nt mtaped nr mrowMany mroundOf mroundFrom mouts nm mfromHour mtoHour ns mfrom mto msort misFault mdeep mcoded mlines nl nc nF np ntr nb mbestCost nso nsi nit nsh nsf nss nrc mtraced mdealer mnumber mwhose msize misParted), (nw, iA G 1662 fnw)] (fun r : Int32 => r = nI L)
set_option maxHeartbeats 4000000 in
set_option maxRecDepth 100000 in
theorem m_lines (l : Launch) (G : GG) (L : Nat) (h0 : Nat) (jv : Nat) (nw : Nat) (nk : Nat) (mhasKept : Int32) (nt : Nat) (mtaped : Int32) (nr : Nat) (mrowMany : Int32) (mroundOf : Int32) (mroundFrom : Int32) (mouts : Int32) (nm : Nat) (mfromHour : Int32) (mtoHour : Int32) (ns : Nat) (mfrom : Int32) (mto : Int32) (msort : Int32) (misFault : Int32) (mdeep : Int32) (mcoded : Int32) (mlines : Int32) (nl : Nat) (nc : Nat) (nF : Nat) (np : Nat) (ntr : Nat) (nb : Nat) (mbestCost : Int32) (nso : Nat) (nsi : Nat) (nit : Nat) (nsh : Nat) (nsf : Nat) (nss : Nat) (nrc : Nat) (mtraced : Int32) (mdealer : Int32) (mnumber : Int32) (mwhose : Int32) (msize : Int32) (misParted : Int32) (fnw : Nat → Int32) (hjv : jv < 8) (eL : fnw (176 + 156 * jv + 1) = nI L) : K_m_lines l G L h0 jv nw nk mhasKept nt mtaped nr mrowMany mroundOf mroundFrom mouts nm mfromHour mtoHour ns mfrom mto msort misFault mdeep mcoded mlines nl nc nF np ntr nb mbestCost nso nsi nit nsh nsf nss nrc mtraced mdealer mnumber mwhose msize misParted fnw := by
  refine MP.start (by decide +kernel) (Nat.le_of_ble_eq_true rfl) ?_
  intro p e s m below meth c ls hC hK hP hD hl
  refine absQ (fun Q0 hQ0 => ?_)
  have hl : lv_has ls 2 [(0, .ref h0), (1, .int (nI jv))] := hl
  refine Kan8 hC (fun hx hb hr hml hB hown hlocks hnm => ?_)
  refine lv_iload_n hx hb gX12_linesOf_0.1 rfl (lv_at1 hl) ?_
  refine lv_if_ge (tgt := 8) hx hb gX12_linesOf_0.2.1 (by decide) (fun _ => ?_) (fun c9 => absurd (nI_pos' (by omega)) c9)
  refine lv_aload_n hx hb gX12_linesOf_0.2.2.2.2.1 rfl (lv_at0 hl) ?_
  refine gf_X12_9 hC rfl hK hP 0 rfl rfl gX12_linesOf_0.2.2.2.2.2.1 ?_
  refine lv_sipush (v := 176) hx hb gX12_linesOf_0.2.2.2.2.2.2.1 (by decide) ?_
  refine lv_sipush (v := 156) hx hb gX12_linesOf_0.2.2.2.2.2.2.2.1 (by decide) ?_
  refine lv_iload_n hx hb gX12_linesOf_0.2.2.2.2.2.2.2.2.1 rfl (lv_at1 hl) ?_
  refine lv_imul hx hb gX12_linesOf_0.2.2.2.2.2.2.2.2.2 ?_
  refine eqi (x1 := nI (156 * jv)) (nI_mul 156 jv) ?_
  refine lv_iadd hx hb gX12_linesOf_1.1 ?_
  refine eqi (x1 := nI (176 + 156 * jv)) (nI_add 176 (156 * jv)) ?_
  refine lv_iconst (v := 1) hx hb gX12_linesOf_1.2.1 (by decide) ?_
  refine lv_iadd hx hb gX12_linesOf_1.2.2.1 ?_
  refine eqi (x1 := nI (176 + 156 * jv + 1)) (nI_add (176 + 156 * jv) 1) ?_
  refine aldN hC hK hP 1 rfl (k := 176 + 156 * jv + 1) (by omega) (Nat.le_of_ble_eq_true rfl) (v := nI L) (eL) gX12_linesOf_1.2.2.2.1 ?_
  refine toQ hQ0 ?_
  exact RP (v := nI L) hC (rfl) rfl gX12_linesOf_1.2.2.2.2
def K_m_lineOf (l : Launch) (G : GG) (h0 : Nat) (jv : Nat) (jl : Nat) (jf : Nat) (nw : Nat) (nk : Nat) (mhasKept : Int32) (nt : Nat) (mtaped : Int32) (nr : Nat) (mrowMany : Int32) (mroundOf : Int32) (mroundFrom : Int32) (mouts : Int32) (nm : Nat) (mfromHour : Int32) (mtoHour : Int32) (ns : Nat) (mfrom : Int32) (mto : Int32) (msort : Int32) (misFault : Int32) (mdeep : Int32) (mcoded : Int32) (mlines : Int32) (nl : Nat) (nc : Nat) (nF : Nat) (np : Nat) (ntr : Nat) (nb : Nat) (mbestCost : Int32) (nso : Nat) (nsi : Nat) (nit : Nat) (nsh : Nat) (nsf : Nat) (nss : Nat) (nrc : Nat) (mtraced : Int32) (mdealer : Int32) (mnumber : Int32) (mwhose : Int32) (msize : Int32) (misParted : Int32) (fnw : Nat → Int32) : Prop := MP l G yX12_lineOf cX12_lineOf 4 (some .int) 1 [.ref h0, .int (nI jv), .int (nI jl), .int (nI jf)] [(h0, oX12 nw nk mhasKept nt mtaped nr mrowMany mroundOf mroundFrom mouts nm mfromHour mtoHour ns mfrom mto msort misFault mdeep mcoded mlines nl nc nF np ntr nb mbestCost nso nsi nit nsh nsf nss nrc mtraced mdealer mnumber mwhose msize misParted), (nw, iA G 1662 fnw)] (fun r : Int32 => r = fnw (176 + 156 * jv + 2 + 6 * jl + jf))
set_option maxHeartbeats 4000000 in
set_option maxRecDepth 100000 in
theorem m_lineOf (l : Launch) (G : GG) (h0 : Nat) (jv : Nat) (jl : Nat) (jf : Nat) (nw : Nat) (nk : Nat) (mhasKept : Int32) (nt : Nat) (mtaped : Int32) (nr : Nat) (mrowMany : Int32) (mroundOf : Int32) (mroundFrom : Int32) (mouts : Int32) (nm : Nat) (mfromHour : Int32) (mtoHour : Int32) (ns : Nat) (mfrom : Int32) (mto : Int32) (msort : Int32) (misFault : Int32) (mdeep : Int32) (mcoded : Int32) (mlines : Int32) (nl : Nat) (nc : Nat) (nF : Nat) (np : Nat) (ntr : Nat) (nb : Nat) (mbestCost : Int32) (nso : Nat) (nsi : Nat) (nit : Nat) (nsh : Nat) (nsf : Nat) (nss : Nat) (nrc : Nat) (mtraced : Int32) (mdealer : Int32) (mnumber : Int32) (mwhose : Int32) (msize : Int32) (misParted : Int32) (fnw : Nat → Int32) (hjv : jv < 8) (hjl : jl < 9) (hjf : jf < 6) : K_m_lineOf l G h0 jv jl jf nw nk mhasKept nt mtaped nr mrowMany mroundOf mroundFrom mouts nm mfromHour mtoHour ns mfrom mto msort misFault mdeep mcoded mlines nl nc nF np ntr nb mbestCost nso nsi nit nsh nsf nss nrc mtraced mdealer mnumber mwhose msize misParted fnw := by
  refine MP.start (by decide +kernel) (Nat.le_of_ble_eq_true rfl) ?_
  intro p e s m below meth c ls hC hK hP hD hl
  refine absQ (fun Q0 hQ0 => ?_)
  have hl : lv_has ls 4 [(0, .ref h0), (1, .int (nI jv)), (2, .int (nI jl)), (3, .int (nI jf))] := hl
  refine Kan8 hC (fun hx hb hr hml hB hown hlocks hnm => ?_)
  refine lv_aload_n hx hb gX12_lineOf_0.1 rfl (lv_at0 hl) ?_
  refine gf_X12_9 hC rfl hK hP 0 rfl rfl gX12_lineOf_0.2.1 ?_
  refine lv_sipush (v := 176) hx hb gX12_lineOf_0.2.2.1 (by decide) ?_
  refine lv_sipush (v := 156) hx hb gX12_lineOf_0.2.2.2.1 (by decide) ?_
  refine lv_iload_n hx hb gX12_lineOf_0.2.2.2.2.1 rfl (lv_at1 hl) ?_
  refine lv_imul hx hb gX12_lineOf_0.2.2.2.2.2.1 ?_
  refine eqi (x1 := nI (156 * jv)) (nI_mul 156 jv) ?_
  refine lv_iadd hx hb gX12_lineOf_0.2.2.2.2.2.2.1 ?_
  refine eqi (x1 := nI (176 + 156 * jv)) (nI_add 176 (156 * jv)) ?_
  refine lv_iconst (v := 2) hx hb gX12_lineOf_0.2.2.2.2.2.2.2.1 (by decide) ?_
  refine lv_iadd hx hb gX12_lineOf_0.2.2.2.2.2.2.2.2.1 ?_
  refine eqi (x1 := nI (176 + 156 * jv + 2)) (nI_add (176 + 156 * jv) 2) ?_
  refine lv_bipush (v := 6) hx hb gX12_lineOf_0.2.2.2.2.2.2.2.2.2 (by decide) ?_
  refine lv_iload_n hx hb gX12_lineOf_1.1 rfl (lv_at2 hl) ?_
  refine lv_imul hx hb gX12_lineOf_1.2.1 ?_
  refine eqi (x1 := nI (6 * jl)) (nI_mul 6 jl) ?_
  refine lv_iadd hx hb gX12_lineOf_1.2.2.1 ?_
  refine eqi (x1 := nI (176 + 156 * jv + 2 + 6 * jl)) (nI_add (176 + 156 * jv + 2) (6 * jl)) ?_
  refine lv_iload_n hx hb gX12_lineOf_1.2.2.2.1 rfl (lv_at3 hl) ?_
  refine lv_iadd hx hb gX12_lineOf_1.2.2.2.2.1 ?_
  refine eqi (x1 := nI (176 + 156 * jv + 2 + 6 * jl + jf)) (nI_add (176 + 156 * jv + 2 + 6 * jl) jf) ?_
  refine aldN hC hK hP 1 rfl (k := 176 + 156 * jv + 2 + 6 * jl + jf) (by omega) (Nat.le_of_ble_eq_true rfl) (v := fnw (176 + 156 * jv + 2 + 6 * jl + jf)) (rfl) gX12_lineOf_1.2.2.2.2.2.1 ?_
  refine toQ hQ0 ?_
  exact RP (v := fnw (176 + 156 * jv + 2 + 6 * jl + jf)) hC (rfl) rfl gX12_lineOf_1.2.2.2.2.2.2
def K_m_thingOf (l : Launch) (G : GG) (h0 : Nat) (jv : Nat) (jl : Nat) (nw : Nat) (nk : Nat) (mhasKept : Int32) (nt : Nat) (mtaped : Int32) (nr : Nat) (mrowMany : Int32) (mroundOf : Int32) (mroundFrom : Int32) (mouts : Int32) (nm : Nat) (mfromHour : Int32) (mtoHour : Int32) (ns : Nat) (mfrom : Int32) (mto : Int32) (msort : Int32) (misFault : Int32) (mdeep : Int32) (mcoded : Int32) (mlines : Int32) (nl : Nat) (nc : Nat) (nF : Nat) (np : Nat) (ntr : Nat) (nb : Nat) (mbestCost : Int32) (nso : Nat) (nsi : Nat) (nit : Nat) (nsh : Nat) (nsf : Nat) (nss : Nat) (nrc : Nat) (mtraced : Int32) (mdealer : Int32) (mnumber : Int32) (mwhose : Int32) (msize : Int32) (misParted : Int32) (fnw : Nat → Int32) : Prop := MP l G yX12_thingOf cX12_thingOf 4 (some .int) 2 [.ref h0, .int (nI jv), .int (nI jl)] [(h0, oX12 nw nk mhasKept nt mtaped nr mrowMany mroundOf mroundFrom mouts nm mfromHour mtoHour ns mfrom mto msort misFault mdeep mcoded mlines nl nc nF np ntr nb mbestCost nso nsi nit nsh nsf nss nrc mtraced mdealer mnumber mwhose msize misParted), (nw, iA G 1662 fnw)] (fun r : Int32 => ∃ t9, (t9 < 8) ∧ r = nI t9)
set_option maxHeartbeats 4000000 in
set_option maxRecDepth 100000 in
theorem m_thingOf (l : Launch) (G : GG) (h0 : Nat) (jv : Nat) (jl : Nat) (nw : Nat) (nk : Nat) (mhasKept : Int32) (nt : Nat) (mtaped : Int32) (nr : Nat) (mrowMany : Int32) (mroundOf : Int32) (mroundFrom : Int32) (mouts : Int32) (nm : Nat) (mfromHour : Int32) (mtoHour : Int32) (ns : Nat) (mfrom : Int32) (mto : Int32) (msort : Int32) (misFault : Int32) (mdeep : Int32) (mcoded : Int32) (mlines : Int32) (nl : Nat) (nc : Nat) (nF : Nat) (np : Nat) (ntr : Nat) (nb : Nat) (mbestCost : Int32) (nso : Nat) (nsi : Nat) (nit : Nat) (nsh : Nat) (nsf : Nat) (nss : Nat) (nrc : Nat) (mtraced : Int32) (mdealer : Int32) (mnumber : Int32) (mwhose : Int32) (msize : Int32) (misParted : Int32) (fnw : Nat → Int32) (hjv : jv < 8) (hjl : jl < 9) (hln : LN fnw jv jl) : K_m_thingOf l G h0 jv jl nw nk mhasKept nt mtaped nr mrowMany mroundOf mroundFrom mouts nm mfromHour mtoHour ns mfrom mto msort misFault mdeep mcoded mlines nl nc nF np ntr nb mbestCost nso nsi nit nsh nsf nss nrc mtraced mdealer mnumber mwhose msize misParted fnw := by
  refine MP.start (by decide +kernel) (Nat.le_of_ble_eq_true rfl) ?_
  intro p e s m below meth c ls hC hK hP hD hl
  refine absQ (fun Q0 hQ0 => ?_)
  have hl : lv_has ls 4 [(0, .ref h0), (1, .int (nI jv)), (2, .int (nI jl))] := hl
  refine Kan8 hC (fun hx hb hr hml hB hown hlocks hnm => ?_)
  obtain ⟨⟨so, hso, e0, hAl, hBl⟩, la9, lb9, e4, e5, hab9, hlb9, ht9, h09, hst9⟩ := hln
  refine lv_aload_n hx hb gX12_thingOf_0.1 rfl (lv_at0 hl) ?_
  refine lv_iload_n hx hb gX12_thingOf_0.2.1 rfl (lv_at1 hl) ?_
  refine lv_iload_n hx hb gX12_thingOf_0.2.2.1 rfl (lv_at2 hl) ?_
  refine lv_iconst (v := 0) hx hb gX12_thingOf_0.2.2.2.1 (by decide) ?_
  refine pV hC hK hl hP hD (m_lineOf l G h0 jv jl 0 nw nk mhasKept nt mtaped nr mrowMany mroundOf mroundFrom mouts nm mfromHour mtoHour ns mfrom mto msort misFault mdeep mcoded mlines nl nc nF np ntr nb mbestCost nso nsi nit nsh nsf nss nrc mtraced mdealer mnumber mwhose msize misParted fnw (hjv) (hjl) (by omega)) si_X12_193 [0, 1] sm_0_1 fm_0_1 nd_0_1 rfl rfl rfl rfl rfl (Nat.le_of_ble_eq_true rfl) rm_2_1_4 ⟨by first | exact Nat.le_of_ble_eq_true rfl | exact Nat.zero_le _, by first | exact Nat.le_of_ble_eq_true rfl | exact Nat.zero_le _⟩ gX12_thingOf_0.2.2.2.2.1 (Keqr ?_)
  refine eqi (x1 := nI so) (e0) ?_
  refine lv_istore_n (lv' := [(3, .int (nI so)), (0, .ref h0), (1, .int (nI jv)), (2, .int (nI jl))]) hx hb gX12_thingOf_0.2.2.2.2.2.1 rfl hl (by decide) rfl (fun ls hl => ?_)
  refine lv_iload_n hx hb gX12_thingOf_0.2.2.2.2.2.2.1 rfl (lv_at0 hl) ?_
  refine lv_iconst (v := 2) hx hb gX12_thingOf_0.2.2.2.2.2.2.2.1 (by decide) ?_
  refine lv_icmp_ne (tgt := 23) hx hb gX12_thingOf_0.2.2.2.2.2.2.2.2.1 (by decide) (fun c_10_5500 => ?_) (fun c_10_5500 => ?_)
  · refine lv_iload_n hx hb gX12_thingOf_1.2.2.2.2.2.1 rfl (lv_at0 hl) ?_
    refine lv_if_ne (tgt := 37) hx hb gX12_thingOf_1.2.2.2.2.2.2.1 (by decide) (fun c_24_5501 => ?_) (fun c_24_5501 => ?_)
    · refine lv_iconst (v := 0) hx hb gX12_thingOf_2.2.2.2.1 (by decide) ?_
      refine toQ hQ0 ?_
      exact RP (v := 0) hC (⟨0, by omega, rfl⟩) rfl gX12_thingOf_2.2.2.2.2
    · refine lv_aload_n hx hb gX12_thingOf_1.2.2.2.2.2.2.2.1 rfl (lv_at1 hl) ?_
      refine lv_iload_n hx hb gX12_thingOf_1.2.2.2.2.2.2.2.2.1 rfl (lv_at2 hl) ?_
      refine lv_iload_n hx hb gX12_thingOf_1.2.2.2.2.2.2.2.2.2 rfl (lv_at3 hl) ?_
      refine lv_iconst (v := 2) hx hb gX12_thingOf_2.1 (by decide) ?_
      refine pV hC hK hl hP hD (m_lineOf l G h0 jv jl 2 nw nk mhasKept nt mtaped nr mrowMany mroundOf mroundFrom mouts nm mfromHour mtoHour ns mfrom mto msort misFault mdeep mcoded mlines nl nc nF np ntr nb mbestCost nso nsi nit nsh nsf nss nrc mtraced mdealer mnumber mwhose msize misParted fnw (hjv) (hjl) (by omega)) si_X12_193 [0, 1] sm_0_1 fm_0_1 nd_0_1 rfl rfl rfl rfl rfl (Nat.le_of_ble_eq_true rfl) rm_2_1_4 ⟨by first | exact Nat.le_of_ble_eq_true rfl | exact Nat.zero_le _, by first | exact Nat.le_of_ble_eq_true rfl | exact Nat.zero_le _⟩ gX12_thingOf_2.2.1 (Keqr ?_)
      obtain ⟨n9_5504, hn9_5504, en9_5504⟩ := (hAl ((nI_eq (b := 0) (by omega) (by decide)).mp c_24_5501)).1
      refine eqi (x1 := nI n9_5504) en9_5504 ?_
      refine lv_goto (tgt := 38) hx hb gX12_thingOf_2.2.2.1 (by decide) ?_
      refine toQ hQ0 ?_
      exact RP (v := nI n9_5504) hC (⟨n9_5504, by omega, rfl⟩) rfl gX12_thingOf_2.2.2.2.2
  · refine lv_aload_n hx hb gX12_thingOf_0.2.2.2.2.2.2.2.2.2 rfl (lv_at1 hl) ?_
    refine lv_iload_n hx hb gX12_thingOf_1.1 rfl (lv_at2 hl) ?_
    refine lv_iload_n hx hb gX12_thingOf_1.2.1 rfl (lv_at3 hl) ?_
    refine lv_iconst (v := 1) hx hb gX12_thingOf_1.2.2.1 (by decide) ?_
    refine pV hC hK hl hP hD (m_lineOf l G h0 jv jl 1 nw nk mhasKept nt mtaped nr mrowMany mroundOf mroundFrom mouts nm mfromHour mtoHour ns mfrom mto msort misFault mdeep mcoded mlines nl nc nF np ntr nb mbestCost nso nsi nit nsh nsf nss nrc mtraced mdealer mnumber mwhose msize misParted fnw (hjv) (hjl) (by omega)) si_X12_193 [0, 1] sm_0_1 fm_0_1 nd_0_1 rfl rfl rfl rfl rfl (Nat.le_of_ble_eq_true rfl) rm_2_1_4 ⟨by first | exact Nat.le_of_ble_eq_true rfl | exact Nat.zero_le _, by first | exact Nat.le_of_ble_eq_true rfl | exact Nat.zero_le _⟩ gX12_thingOf_1.2.2.2.1 (Keqr ?_)
    obtain ⟨n9_5507, hn9_5507, en9_5507⟩ := hBl ((nI_eq (b := 2) (by omega) (by decide)).mp c_10_5500)
    refine eqi (x1 := nI n9_5507) en9_5507 ?_
    refine lv_goto (tgt := 38) hx hb gX12_thingOf_1.2.2.2.2.1 (by decide) ?_
    refine toQ hQ0 ?_
    exact RP (v := nI n9_5507) hC (⟨n9_5507, by omega, rfl⟩) rfl gX12_thingOf_2.2.2.2.2
def K_m_factOf (l : Launch) (G : GG) (h0 : Nat) (fa : Int32) (je : Nat) (nw : Nat) (nk : Nat) (mhasKept : Int32) (nt : Nat) (mtaped : Int32) (nr : Nat) (mrowMany : Int32) (mroundOf : Int32) (mroundFrom : Int32) (mouts : Int32) (nm : Nat) (mfromHour : Int32) (mtoHour : Int32) (ns : Nat) (mfrom : Int32) (mto : Int32) (msort : Int32) (misFault : Int32) (mdeep : Int32) (mcoded : Int32) (mlines : Int32) (nl : Nat) (nc : Nat) (nF : Nat) (np : Nat) (ntr : Nat) (nb : Nat) (mbestCost : Int32) (nso : Nat) (nsi : Nat) (nit : Nat) (nsh : Nat) (nsf : Nat) (nss : Nat) (nrc : Nat) (mtraced : Int32) (mdealer : Int32) (mnumber : Int32) (mwhose : Int32) (msize : Int32) (misParted : Int32) (fnw : Nat → Int32) : Prop := MP l G yX12_factOf cX12_factOf 3 (some .int) 4 [.ref h0, .int fa, .int (nI je)] [(h0, oX12 nw nk mhasKept nt mtaped nr mrowMany mroundOf mroundFrom mouts nm mfromHour mtoHour ns mfrom mto msort misFault mdeep mcoded mlines nl nc nF np ntr nb mbestCost nso nsi nit nsh nsf nss nrc mtraced mdealer mnumber mwhose msize misParted), (nw, iA G 1662 fnw)] (fun r : Int32 => True)
set_option maxHeartbeats 4000000 in
set_option maxRecDepth 100000 in
theorem m_factOf (l : Launch) (G : GG) (h0 : Nat) (fa : Int32) (je : Nat) (nw : Nat) (nk : Nat) (mhasKept : Int32) (nt : Nat) (mtaped : Int32) (nr : Nat) (mrowMany : Int32) (mroundOf : Int32) (mroundFrom : Int32) (mouts : Int32) (nm : Nat) (mfromHour : Int32) (mtoHour : Int32) (ns : Nat) (mfrom : Int32) (mto : Int32) (msort : Int32) (misFault : Int32) (mdeep : Int32) (mcoded : Int32) (mlines : Int32) (nl : Nat) (nc : Nat) (nF : Nat) (np : Nat) (ntr : Nat) (nb : Nat) (mbestCost : Int32) (nso : Nat) (nsi : Nat) (nit : Nat) (nsh : Nat) (nsf : Nat) (nss : Nat) (nrc : Nat) (mtraced : Int32) (mdealer : Int32) (mnumber : Int32) (mwhose : Int32) (msize : Int32) (misParted : Int32) (fnw : Nat → Int32) (hje : je < 10) (hN : NI fnw) : K_m_factOf l G h0 fa je nw nk mhasKept nt mtaped nr mrowMany mroundOf mroundFrom mouts nm mfromHour mtoHour ns mfrom mto msort misFault mdeep mcoded mlines nl nc nF np ntr nb mbestCost nso nsi nit nsh nsf nss nrc mtraced mdealer mnumber mwhose msize misParted fnw := by
  refine MP.start (by decide +kernel) (Nat.le_of_ble_eq_true rfl) ?_
  intro p e s m below meth c ls hC hK hP hD hl
  refine absQ (fun Q0 hQ0 => ?_)
  have hl : lv_has ls 3 [(0, .ref h0), (1, .int fa), (2, .int (nI je))] := hl
  refine Kan8 hC (fun hx hb hr hml hB hown hlocks hnm => ?_)
  refine lv_iload_n hx hb gX12_factOf_0.1 rfl (lv_at1 hl) ?_
  by_cases c_1_5508 : fa = 0
  · refine lv_tableIn (tgt := 32) hx hb gX12_factOf_0.2.1 (by rw [c_1_5508]; decide) (by rw [c_1_5508]; decide) (by rw [c_1_5508]; rfl) (by decide) ?_
    refine lv_iload_n hx hb gX12_factOf_0.2.2.1 rfl (lv_at2 hl) ?_
    refine toQ hQ0 ?_
    exact RP (v := nI je) hC (trivial) rfl gX12_factOf_0.2.2.2.1
  by_cases c_1_5509 : fa = 1
  · refine lv_tableIn (tgt := 34) hx hb gX12_factOf_0.2.1 (by rw [c_1_5509]; decide) (by rw [c_1_5509]; decide) (by rw [c_1_5509]; rfl) (by decide) ?_
    refine lv_aload_n hx hb gX12_factOf_0.2.2.2.2.1 rfl (lv_at0 hl) ?_
    refine gf_X12_9 hC rfl hK hP 0 rfl rfl gX12_factOf_0.2.2.2.2.2.1 ?_
    refine lv_bipush (v := 12) hx hb gX12_factOf_0.2.2.2.2.2.2.1 (by decide) ?_
    refine lv_iconst (v := 2) hx hb gX12_factOf_0.2.2.2.2.2.2.2.1 (by decide) ?_
    refine lv_iload_n hx hb gX12_factOf_0.2.2.2.2.2.2.2.2.1 rfl (lv_at2 hl) ?_
    refine lv_imul hx hb gX12_factOf_0.2.2.2.2.2.2.2.2.2 ?_
    refine eqi (x1 := nI (2 * je)) (nI_mul 2 je) ?_
    refine lv_iadd hx hb gX12_factOf_1.1 ?_
    refine eqi (x1 := nI (12 + 2 * je)) (nI_add 12 (2 * je)) ?_
    refine aldN hC hK hP 1 rfl (k := (12 + 2 * je)) (by omega) (Nat.le_of_ble_eq_true rfl) (v := fnw (12 + 2 * je)) rfl gX12_factOf_1.2.1 ?_
    refine lv_topi (fun x5510 ex5510 => ?_)
    refine toQ hQ0 ?_
    exact RP (v := x5510) hC (trivial) rfl gX12_factOf_1.2.2.1
  by_cases c_1_5511 : fa = 2
  · refine lv_tableIn (tgt := 46) hx hb gX12_factOf_0.2.1 (by rw [c_1_5511]; decide) (by rw [c_1_5511]; decide) (by rw [c_1_5511]; rfl) (by decide) ?_
    refine lv_aload_n hx hb gX12_factOf_1.2.2.2.1 rfl (lv_at0 hl) ?_
    refine lv_iload_n hx hb gX12_factOf_1.2.2.2.2.1 rfl (lv_at2 hl) ?_
    refine lv_iconst (v := 0) hx hb gX12_factOf_1.2.2.2.2.2.1 (by decide) ?_
    refine pV hC hK hl hP hD (m_papersOf l G h0 (nI je) 0 nw nk mhasKept nt mtaped nr mrowMany mroundOf mroundFrom mouts nm mfromHour mtoHour ns mfrom mto msort misFault mdeep mcoded mlines nl nc nF np ntr nb mbestCost nso nsi nit nsh nsf nss nrc mtraced mdealer mnumber mwhose msize misParted fnw (hN)) si_X12_123 [0, 1] sm_0_1 fm_0_1 nd_0_1 rfl rfl rfl rfl rfl (Nat.le_of_ble_eq_true rfl) rm_4_3_5 ⟨by first | exact Nat.le_of_ble_eq_true rfl | exact Nat.zero_le _, by first | exact Nat.le_of_ble_eq_true rfl | exact Nat.zero_le _⟩ gX12_factOf_1.2.2.2.2.2.2.1 (fun r5512 hr5512 => ?_)
    refine toQ hQ0 ?_
    exact RP (v := r5512) hC (trivial) rfl gX12_factOf_1.2.2.2.2.2.2.2.1
  by_cases c_1_5513 : fa = 3
  · refine lv_tableIn (tgt := 53) hx hb gX12_factOf_0.2.1 (by rw [c_1_5513]; decide) (by rw [c_1_5513]; decide) (by rw [c_1_5513]; rfl) (by decide) ?_
    refine lv_aload_n hx hb gX12_factOf_1.2.2.2.2.2.2.2.2.1 rfl (lv_at0 hl) ?_
    refine lv_iload_n hx hb gX12_factOf_1.2.2.2.2.2.2.2.2.2 rfl (lv_at2 hl) ?_
    refine lv_iconst (v := 1) hx hb gX12_factOf_2.1 (by decide) ?_
    refine pV hC hK hl hP hD (m_papersOf l G h0 (nI je) 1 nw nk mhasKept nt mtaped nr mrowMany mroundOf mroundFrom mouts nm mfromHour mtoHour ns mfrom mto msort misFault mdeep mcoded mlines nl nc nF np ntr nb mbestCost nso nsi nit nsh nsf nss nrc mtraced mdealer mnumber mwhose msize misParted fnw (hN)) si_X12_123 [0, 1] sm_0_1 fm_0_1 nd_0_1 rfl rfl rfl rfl rfl (Nat.le_of_ble_eq_true rfl) rm_4_3_5 ⟨by first | exact Nat.le_of_ble_eq_true rfl | exact Nat.zero_le _, by first | exact Nat.le_of_ble_eq_true rfl | exact Nat.zero_le _⟩ gX12_factOf_2.2.1 (fun r5514 hr5514 => ?_)
    refine toQ hQ0 ?_
    exact RP (v := r5514) hC (trivial) rfl gX12_factOf_2.2.2.1
  refine lv_tableOut (tgt := 60) hx hb gX12_factOf_0.2.1 (by have q9 := sw_0_3 (x := fa); simp only [c_1_5508, c_1_5509, c_1_5511, c_1_5513, not_false_eq_true, true_implies] at q9; exact q9) (by decide) ?_
  refine lv_aload_n hx hb gX12_factOf_2.2.2.2.1 rfl (lv_at0 hl) ?_
  refine gf_X12_9 hC rfl hK hP 0 rfl rfl gX12_factOf_2.2.2.2.2.1 ?_
  refine lv_bipush (v := 12) hx hb gX12_factOf_2.2.2.2.2.2.1 (by decide) ?_
  refine lv_iconst (v := 2) hx hb gX12_factOf_2.2.2.2.2.2.2.1 (by decide) ?_
  refine lv_iload_n hx hb gX12_factOf_2.2.2.2.2.2.2.2.1 rfl (lv_at2 hl) ?_
  refine lv_imul hx hb gX12_factOf_2.2.2.2.2.2.2.2.2.1 ?_
  refine eqi (x1 := nI (2 * je)) (nI_mul 2 je) ?_
  refine lv_iadd hx hb gX12_factOf_2.2.2.2.2.2.2.2.2.2 ?_
  refine eqi (x1 := nI (12 + 2 * je)) (nI_add 12 (2 * je)) ?_
  refine lv_iconst (v := 1) hx hb gX12_factOf_3.1 (by decide) ?_
  refine lv_iadd hx hb gX12_factOf_3.2.1 ?_
  refine eqi (x1 := nI (12 + 2 * je + 1)) (nI_add (12 + 2 * je) 1) ?_
  refine aldN hC hK hP 1 rfl (k := (12 + 2 * je + 1)) (by omega) (Nat.le_of_ble_eq_true rfl) (v := fnw (12 + 2 * je + 1)) rfl gX12_factOf_3.2.2.1 ?_
  refine lv_topi (fun x5515 ex5515 => ?_)
  refine toQ hQ0 ?_
  exact RP (v := x5515) hC (trivial) rfl gX12_factOf_3.2.2.2
def K_m_holds (l : Launch) (G : GG) (h0 : Nat) (jv : Nat) (jl : Nat) (je : Nat) (nw : Nat) (nk : Nat) (mhasKept : Int32) (nt : Nat) (mtaped : Int32) (nr : Nat) (mrowMany : Int32) (mroundOf : Int32) (mroundFrom : Int32) (mouts : Int32) (nm : Nat) (mfromHour : Int32) (mtoHour : Int32) (ns : Nat) (mfrom : Int32) (mto : Int32) (msort : Int32) (misFault : Int32) (mdeep : Int32) (mcoded : Int32) (mlines : Int32) (nl : Nat) (nc : Nat) (nF : Nat) (np : Nat) (ntr : Nat) (nb : Nat) (mbestCost : Int32) (nso : Nat) (nsi : Nat) (nit : Nat) (nsh : Nat) (nsf : Nat) (nss : Nat) (nrc : Nat) (mtraced : Int32) (mdealer : Int32) (mnumber : Int32) (mwhose : Int32) (msize : Int32) (misParted : Int32) (fnw : Nat → Int32) (fnp : Nat → Int32) : Prop := MI l G yX12_holds cX12_holds 12 (some .boolean) 5 0 0 [.ref h0, .int (nI jv), .int (nI jl), .int (nI je)] [(h0, oX12 nw nk mhasKept nt mtaped nr mrowMany mroundOf mroundFrom mouts nm mfromHour mtoHour ns mfrom mto msort misFault mdeep mcoded mlines nl nc nF np ntr nb mbestCost nso nsi nit nsh nsf nss nrc mtraced mdealer mnumber mwhose msize misParted), (nw, iA G 1662 fnw), (np, iA G 100 fnp)] (fun (r : Int32) (u : (Nat → Int32)) => (r = 1 ∨ r = 0)) (fun u : (Nat → Int32) => [(h0, oX12 nw nk mhasKept nt mtaped nr mrowMany mroundOf mroundFrom mouts nm mfromHour mtoHour ns mfrom mto msort misFault mdeep mcoded mlines nl nc nF np ntr nb mbestCost nso nsi nit nsh nsf nss nrc mtraced mdealer mnumber mwhose msize misParted), (nw, iA G 1662 fnw), (np, iA G 100 u)])
set_option maxHeartbeats 4000000 in
set_option maxRecDepth 100000 in
theorem m_holds (l : Launch) (G : GG) (h0 : Nat) (jv : Nat) (jl : Nat) (je : Nat) (nw : Nat) (nk : Nat) (mhasKept : Int32) (nt : Nat) (mtaped : Int32) (nr : Nat) (mrowMany : Int32) (mroundOf : Int32) (mroundFrom : Int32) (mouts : Int32) (nm : Nat) (mfromHour : Int32) (mtoHour : Int32) (ns : Nat) (mfrom : Int32) (mto : Int32) (msort : Int32) (misFault : Int32) (mdeep : Int32) (mcoded : Int32) (mlines : Int32) (nl : Nat) (nc : Nat) (nF : Nat) (np : Nat) (ntr : Nat) (nb : Nat) (mbestCost : Int32) (nso : Nat) (nsi : Nat) (nit : Nat) (nsh : Nat) (nsf : Nat) (nss : Nat) (nrc : Nat) (mtraced : Int32) (mdealer : Int32) (mnumber : Int32) (mwhose : Int32) (msize : Int32) (misParted : Int32) (fnw : Nat → Int32) (fnp : Nat → Int32) (hjv : jv < 8) (hjl : jl < 9) (hln : LN fnw jv jl) (hje : je < 10) (hN : NI fnw) : K_m_holds l G h0 jv jl je nw nk mhasKept nt mtaped nr mrowMany mroundOf mroundFrom mouts nm mfromHour mtoHour ns mfrom mto msort misFault mdeep mcoded mlines nl nc nF np ntr nb mbestCost nso nsi nit nsh nsf nss nrc mtraced mdealer mnumber mwhose msize misParted fnw fnp := by
  refine MI.start (by decide +kernel) (Nat.le_of_ble_eq_true rfl) ?_
  intro p e s m below meth c A ls hC hK hP hD hS hA hl
  refine absQ (fun Q0 hQ0 => ?_)
  have hl : lv_has ls 12 [(0, .ref h0), (1, .int (nI jv)), (2, .int (nI jl)), (3, .int (nI je))] := hl
  refine Kan8 hC (fun hx hb hr hml hB hown hlocks hnm => ?_)
  obtain ⟨⟨so, hso, e0, hAl, hBl⟩, la9, lb9, e4, e5, hab9, hlb9, ht9, h09, hst9⟩ := hln
  refine lv_aload_n hx hb gX12_holds_0.1 rfl (lv_at0 hl) ?_
  refine lv_iload_n hx hb gX12_holds_0.2.1 rfl (lv_at1 hl) ?_
  refine lv_iload_n hx hb gX12_holds_0.2.2.1 rfl (lv_at2 hl) ?_
  refine lv_iconst (v := 4) hx hb gX12_holds_0.2.2.2.1 (by decide) ?_
  refine pV hC hK hl hP hD (m_lineOf l G h0 jv jl 4 nw nk mhasKept nt mtaped nr mrowMany mroundOf mroundFrom mouts nm mfromHour mtoHour ns mfrom mto msort misFault mdeep mcoded mlines nl nc nF np ntr nb mbestCost nso nsi nit nsh nsf nss nrc mtraced mdealer mnumber mwhose msize misParted fnw (hjv) (hjl) (by omega)) si_X12_193 [0, 1] sm_0_1 fm_0_1 nd_0_1 rfl rfl rfl rfl rfl (Nat.le_of_ble_eq_true rfl) rm_5_1_4 ⟨by first | exact Nat.le_of_ble_eq_true rfl | exact Nat.zero_le _, by first | exact Nat.le_of_ble_eq_true rfl | exact Nat.zero_le _⟩ gX12_holds_0.2.2.2.2.1 (Keqr ?_)
  refine eqi (x1 := nI la9) (e4) ?_
  refine lv_istore (lv' := [(4, .int (nI la9)), (0, .ref h0), (1, .int (nI jv)), (2, .int (nI jl)), (3, .int (nI je))]) hx hb gX12_holds_0.2.2.2.2.2.1 hl (by decide) rfl (fun ls hl => ?_)
  refine lv_aload_n hx hb gX12_holds_0.2.2.2.2.2.2.1 rfl (lv_at1 hl) ?_
  refine lv_iload_n hx hb gX12_holds_0.2.2.2.2.2.2.2.1 rfl (lv_at2 hl) ?_
  refine lv_iload_n hx hb gX12_holds_0.2.2.2.2.2.2.2.2.1 rfl (lv_at3 hl) ?_
  refine lv_iconst (v := 5) hx hb gX12_holds_0.2.2.2.2.2.2.2.2.2 (by decide) ?_
  refine pV hC hK hl hP hD (m_lineOf l G h0 jv jl 5 nw nk mhasKept nt mtaped nr mrowMany mroundOf mroundFrom mouts nm mfromHour mtoHour ns mfrom mto msort misFault mdeep mcoded mlines nl nc nF np ntr nb mbestCost nso nsi nit nsh nsf nss nrc mtraced mdealer mnumber mwhose msize misParted fnw (hjv) (hjl) (by omega)) si_X12_193 [0, 1] sm_0_1 fm_0_1 nd_0_1 rfl rfl rfl rfl rfl (Nat.le_of_ble_eq_true rfl) rm_5_1_4 ⟨by first | exact Nat.le_of_ble_eq_true rfl | exact Nat.zero_le _, by first | exact Nat.le_of_ble_eq_true rfl | exact Nat.zero_le _⟩ gX12_holds_1.1 (Keqr ?_)
  refine eqi (x1 := nI lb9) (e5) ?_
  refine lv_istore (lv' := [(5, .int (nI lb9)), (4, .int (nI la9)), (0, .ref h0), (1, .int (nI jv)), (2, .int (nI jl)), (3, .int (nI je))]) hx hb gX12_holds_1.2.1 hl (by decide) rfl (fun ls hl => ?_)
  refine lv_iconst (v := 0) hx hb gX12_holds_1.2.2.1 (by decide) ?_
  refine lv_istore (lv' := [(6, .int 0), (5, .int (nI lb9)), (4, .int (nI la9)), (0, .ref h0), (1, .int (nI jv)), (2, .int (nI jl)), (3, .int (nI je))]) hx hb gX12_holds_1.2.2.2.1 hl (by decide) rfl (fun ls hl => ?_)
  refine lv_iload hx hb gX12_holds_1.2.2.2.2.1 (lv_at2 hl) ?_
  refine lv_istore (lv' := [(7, .int (nI la9)), (6, .int 0), (5, .int (nI lb9)), (4, .int (nI la9)), (0, .ref h0), (1, .int (nI jv)), (2, .int (nI jl)), (3, .int (nI je))]) hx hb gX12_holds_1.2.2.2.2.2.1 hl (by decide) rfl (fun ls hl => ?_)
  have keyP : ∀ (nP kP : Nat) (vP : Nat → Int32) (hg : Nat) (H : Heap) (locs : List Loc) (ls : Array Slot), kP + nP = lb9 → (la9 ≤ kP) → (hg = ht9 kP) → (hg + la9 ≤ kP) → va_PD G A [(h0, oX12 nw nk mhasKept nt mtaped nr mrowMany mroundOf mroundFrom mouts nm mfromHour mtoHour ns mfrom mto msort misFault mdeep mcoded mlines nl nc nF np ntr nb mbestCost nso nsi nit nsh nsf nss nrc mtraced mdealer mnumber mwhose msize misParted), (nw, iA G 1662 fnw), (np, iA G 100 vP)] H → va_S A s.heap H locs → lv_has ls 12 [(7, .int (nI kP)), (6, .int (nI hg)), (5, .int (nI lb9)), (4, .int (nI la9)), (0, .ref h0), (1, .int (nI jv)), (2, .int (nI jl)), (3, .int (nI je))] → W p l e (RM 5 0 0) s m ([.ref h0, .int (nI jv), .int (nI jl), .int (nI je)] : List Value).toArray below meth c H locs 0 0 Q0 (F0 m 25 ls []) := by
    intro nP
    induction nP with
    | zero =>
      intro kP vP hg H locs ls hkP hha hhb hhc hPD hS hl
      refine Kan2 hPD (fun hP hD => ?_)
      obtain rfl : lb9 = kP := by omega
      have hl : lv_has ls 12 [(7, .int (nI lb9)), (6, .int (nI hg)), (5, .int (nI lb9)), (4, .int (nI la9)), (0, .ref h0), (1, .int (nI jv)), (2, .int (nI jl)), (3, .int (nI je))] := hl
      refine lv_iload hx hb gX12_holds_1.2.2.2.2.2.2.1 (lv_at0 hl) ?_
      refine lv_iload hx hb gX12_holds_1.2.2.2.2.2.2.2.1 (lv_at2 hl) ?_
      refine lv_icmp_ge (tgt := 243) hx hb gX12_holds_1.2.2.2.2.2.2.2.2.1 (by decide) (fun _ => ?_) (fun c9 => absurd (Int32.le_refl _) c9)
      refine lv_iload hx hb gX12_holds_13.1 (lv_at3 hl) ?_
      refine lv_iload hx hb gX12_holds_13.2.1 (lv_at2 hl) ?_
      refine lv_icmp_eq (tgt := 260) hx hb gX12_holds_13.2.2.1 (by decide) (fun c_247_5520 => ?_) (fun c_247_5520 => ?_)
      · refine lv_iconst (v := 1) hx hb gX12_holds_13.2.2.2.2.2.2.2.2.2 (by decide) ?_
        refine lv_goto (tgt := 265) hx hb gX12_holds_14.1 (by decide) ?_
        refine toQ hQ0 ?_
        exact RI (v := 1) hC hP hD hS [0, 1, 2] vP rfl rfl (by decide) (Or.inl (rfl)) (by decide +kernel) gX12_holds_14.2.2
      · refine lv_aload_n hx hb gX12_holds_13.2.2.2.1 rfl (lv_at4 hl) ?_
        refine gf_X12_54 hC rfl hK hP 0 rfl rfl gX12_holds_13.2.2.2.2.1 ?_
        refine lv_iconst (v := 0) hx hb gX12_holds_13.2.2.2.2.2.1 (by decide) ?_
        refine ald hC hK hP 2 rfl (vin (by decide +kernel)) (k := 0) (by decide +kernel) (v := vP 0) (rfl) gX12_holds_13.2.2.2.2.2.2.1 ?_
        refine lv_iconst (v := 1) hx hb gX12_holds_13.2.2.2.2.2.2.2.1 (by decide) ?_
        refine lv_icmp_ne (tgt := 264) hx hb gX12_holds_13.2.2.2.2.2.2.2.2.1 (by decide) (fun c_257_5521 => ?_) (fun c_257_5521 => ?_)
        · refine lv_iconst (v := 0) hx hb gX12_holds_14.2.1 (by decide) ?_
          refine toQ hQ0 ?_
          exact RI (v := 0) hC hP hD hS [0, 1, 2] vP rfl rfl (by decide) (Or.inr (rfl)) (by decide +kernel) gX12_holds_14.2.2
        · refine lv_iconst (v := 1) hx hb gX12_holds_13.2.2.2.2.2.2.2.2.2 (by decide) ?_
          refine lv_goto (tgt := 265) hx hb gX12_holds_14.1 (by decide) ?_
          refine toQ hQ0 ?_
          exact RI (v := 1) hC hP hD hS [0, 1, 2] vP rfl rfl (by decide) (Or.inl (rfl)) (by decide +kernel) gX12_holds_14.2.2
    | succ nP ihP =>
      intro kP vP hg H locs ls hkP hha hhb hhc hPD hS hl
      refine Kan2 hPD (fun hP hD => ?_)
      refine lv_iload hx hb gX12_holds_1.2.2.2.2.2.2.1 (lv_at0 hl) ?_
      refine lv_iload hx hb gX12_holds_1.2.2.2.2.2.2.2.1 (lv_at2 hl) ?_
      refine lv_icmp_ge (tgt := 243) hx hb gX12_holds_1.2.2.2.2.2.2.2.2.1 (by decide) (fun c9 => absurd c9 (nI_ge (a := kP) (b := lb9) (by omega) (by omega))) (fun _ => ?_)
      refine lv_aload_n hx hb gX12_holds_1.2.2.2.2.2.2.2.2.2 rfl (lv_at4 hl) ?_
      refine gf_X12_9 hC rfl hK hP 0 rfl rfl gX12_holds_2.1 ?_
      refine lv_sipush (v := 176) hx hb gX12_holds_2.2.1 (by decide) ?_
      refine lv_sipush (v := 156) hx hb gX12_holds_2.2.2.1 (by decide) ?_
      refine lv_iload_n hx hb gX12_holds_2.2.2.2.1 rfl (lv_at5 hl) ?_
      refine lv_imul hx hb gX12_holds_2.2.2.2.2.1 ?_
      refine eqi (x1 := nI (156 * jv)) (nI_mul 156 jv) ?_
      refine lv_iadd hx hb gX12_holds_2.2.2.2.2.2.1 ?_
      refine eqi (x1 := nI (176 + 156 * jv)) (nI_add 176 (156 * jv)) ?_
      refine lv_bipush (v := 56) hx hb gX12_holds_2.2.2.2.2.2.2.1 (by decide) ?_
      refine lv_iadd hx hb gX12_holds_2.2.2.2.2.2.2.2.1 ?_
      refine eqi (x1 := nI (176 + 156 * jv + 56)) (nI_add (176 + 156 * jv) 56) ?_
      refine lv_iload hx hb gX12_holds_2.2.2.2.2.2.2.2.2.1 (lv_at0 hl) ?_
      refine lv_iadd hx hb gX12_holds_2.2.2.2.2.2.2.2.2.2 ?_
      refine eqi (x1 := nI (176 + 156 * jv + 56 + kP)) (nI_add (176 + 156 * jv + 56) kP) ?_
      refine aldN hC hK hP 1 rfl (k := (176 + 156 * jv + 56 + kP)) (by omega) (Nat.le_of_ble_eq_true rfl) (v := fnw (176 + 156 * jv + 56 + kP)) rfl gX12_holds_3.1 ?_
      refine lv_topi (fun x5522 ex5522 => ?_)
      refine lv_istore (lv' := [(8, .int x5522), (7, .int (nI kP)), (6, .int (nI hg)), (5, .int (nI lb9)), (4, .int (nI la9)), (0, .ref h0), (1, .int (nI jv)), (2, .int (nI jl)), (3, .int (nI je))]) hx hb gX12_holds_3.2.1 hl (by decide) rfl (fun ls hl => ?_)
      refine lv_iload hx hb gX12_holds_3.2.2.1 (lv_at0 hl) ?_
      refine lv_sipush (v := 30000) hx hb gX12_holds_3.2.2.2.1 (by decide) ?_
      refine lv_icmp_ge (tgt := 149) hx hb gX12_holds_3.2.2.2.2.1 (by decide) (fun c_59_5523 => ?_) (fun c_59_5523 => ?_)
      · refine lv_iload hx hb gX12_holds_7.2.2.2.2.2.2.2.1 (lv_at0 hl) ?_
        refine lv_sipush (v := 30000) hx hb gX12_holds_7.2.2.2.2.2.2.2.2.1 (by decide) ?_
        refine lv_icmp_ne (tgt := 180) hx hb gX12_holds_7.2.2.2.2.2.2.2.2.2 (by decide) (fun c_154_5524 => ?_) (fun c_154_5524 => ?_)
        · have hs9 := STEP.op (hst9 kP (by omega) (by omega)) ex5522 c_59_5523 c_154_5524
          refine lv_iinc (v := nI (hg - 1)) (lv' := [(6, .int (nI (hg - 1))), (8, .int x5522), (7, .int (nI kP)), (5, .int (nI lb9)), (4, .int (nI la9)), (0, .ref h0), (1, .int (nI jv)), (2, .int (nI jl)), (3, .int (nI je))]) hx hb gX12_holds_9.2.2.2.2.2.1 hl (k := 2) rfl ((nI_dec hg).trans (nI_sb (by omega))) (by decide) rfl (fun ls hl => ?_)
          refine lv_aload_n hx hb gX12_holds_9.2.2.2.2.2.2.1 rfl (lv_at5 hl) ?_
          refine gf_X12_54 hC rfl hK hP 0 rfl rfl gX12_holds_9.2.2.2.2.2.2.2.1 ?_
          refine lv_iload hx hb gX12_holds_9.2.2.2.2.2.2.2.2.1 (lv_at0 hl) ?_
          refine lv_iconst (v := 1) hx hb gX12_holds_9.2.2.2.2.2.2.2.2.2 (by decide) ?_
          refine lv_isub hx hb gX12_holds_10.1 ?_
          refine eqi (x1 := nI ((hg - 1) - 1)) (nI_sb (by omega)) ?_
          refine lv_iload hx hb gX12_holds_10.2.1 (lv_at1 hl) ?_
          refine lv_sipush (v := 30001) hx hb gX12_holds_10.2.2.1 (by decide) ?_
          refine lv_icmp_ne (tgt := 219) hx hb gX12_holds_10.2.2.2.1 (by decide) (fun c_196_5525 => ?_) (fun c_196_5525 => ?_)
          · refine lv_aload_n hx hb gX12_holds_11.2.2.2.2.2.2.1 rfl (lv_at5 hl) ?_
            refine gf_X12_54 hC rfl hK hP 0 rfl rfl gX12_holds_11.2.2.2.2.2.2.2.1 ?_
            refine lv_iload hx hb gX12_holds_11.2.2.2.2.2.2.2.2.1 (lv_at0 hl) ?_
            refine lv_iconst (v := 1) hx hb gX12_holds_11.2.2.2.2.2.2.2.2.2 (by decide) ?_
            refine lv_isub hx hb gX12_holds_12.1 ?_
            refine eqi (x1 := nI ((hg - 1) - 1)) (nI_sb (by omega)) ?_
            refine aldN hC hK hP 2 rfl (k := ((hg - 1) - 1)) (by omega) (Nat.le_of_ble_eq_true rfl) (v := vP ((hg - 1) - 1)) rfl gX12_holds_12.2.1 ?_
            refine lv_topi (fun x5526 ex5526 => ?_)
            refine lv_aload_n hx hb gX12_holds_12.2.2.1 rfl (lv_at5 hl) ?_
            refine gf_X12_54 hC rfl hK hP 0 rfl rfl gX12_holds_12.2.2.2.1 ?_
            refine lv_iload hx hb gX12_holds_12.2.2.2.2.1 (lv_at0 hl) ?_
            refine aldN hC hK hP 2 rfl (k := (hg - 1)) (by omega) (Nat.le_of_ble_eq_true rfl) (v := vP (hg - 1)) rfl gX12_holds_12.2.2.2.2.2.1 ?_
            refine lv_topi (fun x5527 ex5527 => ?_)
            refine lv_ior hx hb gX12_holds_12.2.2.2.2.2.2.1 ?_
            refine astN hC hK hP hD hS 2 (ws' := [(h0, oX12 nw nk mhasKept nt mtaped nr mrowMany mroundOf mroundFrom mouts nm mfromHour mtoHour ns mfrom mto msort misFault mdeep mcoded mlines nl nc nF np ntr nb mbestCost nso nsi nit nsh nsf nss nrc mtraced mdealer mnumber mwhose msize misParted), (nw, iA G 1662 fnw), (np, iA G 100 (upd vP ((hg - 1) - 1) (x5526 ||| x5527)))]) rfl (k := ((hg - 1) - 1)) (by omega) (Nat.le_of_ble_eq_true rfl) (rfl) gX12_holds_12.2.2.2.2.2.2.2.1 (fun H locs hP hD hS => ?_)
            refine lv_iinc (v := nI (kP + 1)) (lv' := [(7, .int (nI (kP + 1))), (6, .int (nI (hg - 1))), (8, .int x5522), (5, .int (nI lb9)), (4, .int (nI la9)), (0, .ref h0), (1, .int (nI jv)), (2, .int (nI jl)), (3, .int (nI je))]) hx hb gX12_holds_12.2.2.2.2.2.2.2.2.1 hl (k := 2) rfl (nI_1 _) (by decide) rfl (fun ls hl => ?_)
            refine lv_goto (tgt := 25) hx hb gX12_holds_12.2.2.2.2.2.2.2.2.2 (by decide) ?_
            exact ihP (kP + 1) (upd vP ((hg - 1) - 1) (x5526 ||| x5527)) (hg - 1) _ _ _ (by omega) (by first | assumption | exact Or.inl rfl | exact Or.inr rfl | omega | exact h09.symm) (by first | assumption | exact Or.inl rfl | exact Or.inr rfl | omega | exact h09.symm) (by first | assumption | exact Or.inl rfl | exact Or.inr rfl | omega | exact h09.symm) (And.intro hP hD) hS (lv_sub hl [0, 1, 3, 4, 5, 6, 7, 8] rfl)
          · refine lv_aload_n hx hb gX12_holds_10.2.2.2.2.1 rfl (lv_at5 hl) ?_
            refine gf_X12_54 hC rfl hK hP 0 rfl rfl gX12_holds_10.2.2.2.2.2.1 ?_
            refine lv_iload hx hb gX12_holds_10.2.2.2.2.2.2.1 (lv_at0 hl) ?_
            refine lv_iconst (v := 1) hx hb gX12_holds_10.2.2.2.2.2.2.2.1 (by decide) ?_
            refine lv_isub hx hb gX12_holds_10.2.2.2.2.2.2.2.2.1 ?_
            refine eqi (x1 := nI ((hg - 1) - 1)) (nI_sb (by omega)) ?_
            refine aldN hC hK hP 2 rfl (k := ((hg - 1) - 1)) (by omega) (Nat.le_of_ble_eq_true rfl) (v := vP ((hg - 1) - 1)) rfl gX12_holds_10.2.2.2.2.2.2.2.2.2 ?_
            refine lv_topi (fun x5528 ex5528 => ?_)
            refine lv_aload_n hx hb gX12_holds_11.1 rfl (lv_at5 hl) ?_
            refine gf_X12_54 hC rfl hK hP 0 rfl rfl gX12_holds_11.2.1 ?_
            refine lv_iload hx hb gX12_holds_11.2.2.1 (lv_at0 hl) ?_
            refine aldN hC hK hP 2 rfl (k := (hg - 1)) (by omega) (Nat.le_of_ble_eq_true rfl) (v := vP (hg - 1)) rfl gX12_holds_11.2.2.2.1 ?_
            refine lv_topi (fun x5529 ex5529 => ?_)
            refine lv_iand hx hb gX12_holds_11.2.2.2.2.1 ?_
            refine lv_goto (tgt := 236) hx hb gX12_holds_11.2.2.2.2.2.1 (by decide) ?_
            refine astN hC hK hP hD hS 2 (ws' := [(h0, oX12 nw nk mhasKept nt mtaped nr mrowMany mroundOf mroundFrom mouts nm mfromHour mtoHour ns mfrom mto msort misFault mdeep mcoded mlines nl nc nF np ntr nb mbestCost nso nsi nit nsh nsf nss nrc mtraced mdealer mnumber mwhose msize misParted), (nw, iA G 1662 fnw), (np, iA G 100 (upd vP ((hg - 1) - 1) (x5528 &&& x5529)))]) rfl (k := ((hg - 1) - 1)) (by omega) (Nat.le_of_ble_eq_true rfl) (rfl) gX12_holds_12.2.2.2.2.2.2.2.1 (fun H locs hP hD hS => ?_)
            refine lv_iinc (v := nI (kP + 1)) (lv' := [(7, .int (nI (kP + 1))), (6, .int (nI (hg - 1))), (8, .int x5522), (5, .int (nI lb9)), (4, .int (nI la9)), (0, .ref h0), (1, .int (nI jv)), (2, .int (nI jl)), (3, .int (nI je))]) hx hb gX12_holds_12.2.2.2.2.2.2.2.2.1 hl (k := 2) rfl (nI_1 _) (by decide) rfl (fun ls hl => ?_)
            refine lv_goto (tgt := 25) hx hb gX12_holds_12.2.2.2.2.2.2.2.2.2 (by decide) ?_
            exact ihP (kP + 1) (upd vP ((hg - 1) - 1) (x5528 &&& x5529)) (hg - 1) _ _ _ (by omega) (by first | assumption | exact Or.inl rfl | exact Or.inr rfl | omega | exact h09.symm) (by first | assumption | exact Or.inl rfl | exact Or.inr rfl | omega | exact h09.symm) (by first | assumption | exact Or.inl rfl | exact Or.inr rfl | omega | exact h09.symm) (And.intro hP hD) hS (lv_sub hl [0, 1, 3, 4, 5, 6, 7, 8] rfl)
        · have hs9 := STEP.no (hst9 kP (by omega) (by omega)) ex5522 c_59_5523 c_154_5524
          refine lv_aload_n hx hb gX12_holds_8.1 rfl (lv_at5 hl) ?_
          refine gf_X12_54 hC rfl hK hP 0 rfl rfl gX12_holds_8.2.1 ?_
          refine lv_iload hx hb gX12_holds_8.2.2.1 (lv_at2 hl) ?_
          refine lv_iconst (v := 1) hx hb gX12_holds_8.2.2.2.1 (by decide) ?_
          refine lv_isub hx hb gX12_holds_8.2.2.2.2.1 ?_
          refine eqi (x1 := nI (hg - 1)) (nI_sb (by omega)) ?_
          refine lv_iconst (v := 1) hx hb gX12_holds_8.2.2.2.2.2.1 (by decide) ?_
          refine lv_aload_n hx hb gX12_holds_8.2.2.2.2.2.2.1 rfl (lv_at5 hl) ?_
          refine gf_X12_54 hC rfl hK hP 0 rfl rfl gX12_holds_8.2.2.2.2.2.2.2.1 ?_
          refine lv_iload hx hb gX12_holds_8.2.2.2.2.2.2.2.2.1 (lv_at2 hl) ?_
          refine lv_iconst (v := 1) hx hb gX12_holds_8.2.2.2.2.2.2.2.2.2 (by decide) ?_
          refine lv_isub hx hb gX12_holds_9.1 ?_
          refine eqi (x1 := nI (hg - 1)) (nI_sb (by omega)) ?_
          refine aldN hC hK hP 2 rfl (k := (hg - 1)) (by omega) (Nat.le_of_ble_eq_true rfl) (v := vP (hg - 1)) rfl gX12_holds_9.2.1 ?_
          refine lv_topi (fun x5530 ex5530 => ?_)
          refine lv_isub hx hb gX12_holds_9.2.2.1 ?_
          refine astN hC hK hP hD hS 2 (ws' := [(h0, oX12 nw nk mhasKept nt mtaped nr mrowMany mroundOf mroundFrom mouts nm mfromHour mtoHour ns mfrom mto msort misFault mdeep mcoded mlines nl nc nF np ntr nb mbestCost nso nsi nit nsh nsf nss nrc mtraced mdealer mnumber mwhose msize misParted), (nw, iA G 1662 fnw), (np, iA G 100 (upd vP (hg - 1) (1 - x5530)))]) rfl (k := (hg - 1)) (by omega) (Nat.le_of_ble_eq_true rfl) (rfl) gX12_holds_9.2.2.2.1 (fun H locs hP hD hS => ?_)
          refine lv_goto (tgt := 237) hx hb gX12_holds_9.2.2.2.2.1 (by decide) ?_
          refine lv_iinc (v := nI (kP + 1)) (lv' := [(7, .int (nI (kP + 1))), (8, .int x5522), (6, .int (nI hg)), (5, .int (nI lb9)), (4, .int (nI la9)), (0, .ref h0), (1, .int (nI jv)), (2, .int (nI jl)), (3, .int (nI je))]) hx hb gX12_holds_12.2.2.2.2.2.2.2.2.1 hl (k := 1) rfl (nI_1 _) (by decide) rfl (fun ls hl => ?_)
          refine lv_goto (tgt := 25) hx hb gX12_holds_12.2.2.2.2.2.2.2.2.2 (by decide) ?_
          exact ihP (kP + 1) (upd vP (hg - 1) (1 - x5530)) hg _ _ _ (by omega) (by first | assumption | exact Or.inl rfl | exact Or.inr rfl | omega | exact h09.symm) (by first | assumption | exact Or.inl rfl | exact Or.inr rfl | omega | exact h09.symm) (by first | assumption | exact Or.inl rfl | exact Or.inr rfl | omega | exact h09.symm) (And.intro hP hD) hS (lv_sub hl [0, 2, 3, 4, 5, 6, 7, 8] rfl)
      · have hs9 := STEP.lt (hst9 kP (by omega) (by omega)) ex5522 c_59_5523
        refine lv_aload_n hx hb gX12_holds_3.2.2.2.2.2.1 rfl (lv_at5 hl) ?_
        refine lv_iload hx hb gX12_holds_3.2.2.2.2.2.2.1 (lv_at0 hl) ?_
        refine lv_sipush (v := 3000) hx hb gX12_holds_3.2.2.2.2.2.2.2.1 (by decide) ?_
        refine lv_idiv hx hb gX12_holds_3.2.2.2.2.2.2.2.2.1 (by decide) ?_
        refine lv_topi (fun x5531 ex5531 => ?_)
        refine lv_iload_n hx hb gX12_holds_3.2.2.2.2.2.2.2.2.2 rfl (lv_at8 hl) ?_
        refine pV hC hK hl hP hD (m_factOf l G h0 x5531 je nw nk mhasKept nt mtaped nr mrowMany mroundOf mroundFrom mouts nm mfromHour mtoHour ns mfrom mto msort misFault mdeep mcoded mlines nl nc nF np ntr nb mbestCost nso nsi nit nsh nsf nss nrc mtraced mdealer mnumber mwhose msize misParted fnw (hje) (hN)) si_X12_295 [0, 1] sm_0_1 fm_0_1 nd_0_1 rfl rfl rfl rfl rfl (Nat.le_of_ble_eq_true rfl) rm_5_4_3 ⟨by first | exact Nat.le_of_ble_eq_true rfl | exact Nat.zero_le _, by first | exact Nat.le_of_ble_eq_true rfl | exact Nat.zero_le _⟩ gX12_holds_4.1 (fun r5532 hr5532 => ?_)
        refine lv_istore (lv' := [(9, .int r5532), (8, .int x5522), (7, .int (nI kP)), (6, .int (nI hg)), (5, .int (nI lb9)), (4, .int (nI la9)), (0, .ref h0), (1, .int (nI jv)), (2, .int (nI jl)), (3, .int (nI je))]) hx hb gX12_holds_4.2.1 hl (by decide) rfl (fun ls hl => ?_)
        refine lv_iload hx hb gX12_holds_4.2.2.1 (lv_at1 hl) ?_
        refine lv_sipush (v := 1000) hx hb gX12_holds_4.2.2.2.1 (by decide) ?_
        refine lv_irem hx hb gX12_holds_4.2.2.2.2.1 (by decide) ?_
        refine lv_topi (fun x5533 ex5533 => ?_)
        refine lv_istore (lv' := [(10, .int x5533), (9, .int r5532), (8, .int x5522), (7, .int (nI kP)), (6, .int (nI hg)), (5, .int (nI lb9)), (4, .int (nI la9)), (0, .ref h0), (1, .int (nI jv)), (2, .int (nI jl)), (3, .int (nI je))]) hx hb gX12_holds_4.2.2.2.2.2.1 hl (by decide) rfl (fun ls hl => ?_)
        refine lv_iload hx hb gX12_holds_4.2.2.2.2.2.2.1 (lv_at2 hl) ?_
        refine lv_sipush (v := 1000) hx hb gX12_holds_4.2.2.2.2.2.2.2.1 (by decide) ?_
        refine lv_idiv hx hb gX12_holds_4.2.2.2.2.2.2.2.2.1 (by decide) ?_
        refine lv_topi (fun x5534 ex5534 => ?_)
        refine lv_iconst (v := 3) hx hb gX12_holds_4.2.2.2.2.2.2.2.2.2 (by decide) ?_
        refine lv_irem hx hb gX12_holds_5.1 (by decide) ?_
        refine lv_topi (fun x5535 ex5535 => ?_)
        refine lv_istore (lv' := [(11, .int x5535), (10, .int x5533), (9, .int r5532), (8, .int x5522), (7, .int (nI kP)), (6, .int (nI hg)), (5, .int (nI lb9)), (4, .int (nI la9)), (0, .ref h0), (1, .int (nI jv)), (2, .int (nI jl)), (3, .int (nI je))]) hx hb gX12_holds_5.2.1 hl (by decide) rfl (fun ls hl => ?_)
        refine lv_aload_n hx hb gX12_holds_5.2.2.1 rfl (lv_at8 hl) ?_
        refine gf_X12_54 hC rfl hK hP 0 rfl rfl gX12_holds_5.2.2.2.1 ?_
        refine lv_iload hx hb gX12_holds_5.2.2.2.2.1 (lv_at5 hl) ?_
        refine lv_iload hx hb gX12_holds_5.2.2.2.2.2.1 (lv_at0 hl) ?_
        refine lv_if_ne (tgt := 114) hx hb gX12_holds_5.2.2.2.2.2.2.1 (by decide) (fun c_101_5536 => ?_) (fun c_101_5536 => ?_)
        · refine lv_iload hx hb gX12_holds_6.2.1 (lv_at0 hl) ?_
          refine lv_iconst (v := 1) hx hb gX12_holds_6.2.2.1 (by decide) ?_
          refine lv_icmp_ne (tgt := 130) hx hb gX12_holds_6.2.2.2.1 (by decide) (fun c_117_5537 => ?_) (fun c_117_5537 => ?_)
          · refine lv_iload hx hb gX12_holds_6.2.2.2.2.2.2.2.2.1 (lv_at2 hl) ?_
            refine lv_iload hx hb gX12_holds_6.2.2.2.2.2.2.2.2.2 (lv_at1 hl) ?_
            refine lv_icmp_le (tgt := 141) hx hb gX12_holds_7.1 (by decide) (fun c_134_5538 => ?_) (fun c_134_5538 => ?_)
            · refine lv_iconst (v := 0) hx hb gX12_holds_7.2.2.2.1 (by decide) ?_
              refine astN hC hK hP hD hS 2 (ws' := [(h0, oX12 nw nk mhasKept nt mtaped nr mrowMany mroundOf mroundFrom mouts nm mfromHour mtoHour ns mfrom mto msort misFault mdeep mcoded mlines nl nc nF np ntr nb mbestCost nso nsi nit nsh nsf nss nrc mtraced mdealer mnumber mwhose msize misParted), (nw, iA G 1662 fnw), (np, iA G 100 (upd vP hg 0))]) rfl (k := hg) (by omega) (Nat.le_of_ble_eq_true rfl) (rfl) gX12_holds_7.2.2.2.2.1 (fun H locs hP hD hS => ?_)
              refine lv_iinc (v := nI (hg + 1)) (lv' := [(6, .int (nI (hg + 1))), (11, .int x5535), (10, .int x5533), (9, .int r5532), (8, .int x5522), (7, .int (nI kP)), (5, .int (nI lb9)), (4, .int (nI la9)), (0, .ref h0), (1, .int (nI jv)), (2, .int (nI jl)), (3, .int (nI je))]) hx hb gX12_holds_7.2.2.2.2.2.1 hl (k := 5) rfl (nI_1 _) (by decide) rfl (fun ls hl => ?_)
              refine lv_goto (tgt := 237) hx hb gX12_holds_7.2.2.2.2.2.2.1 (by decide) ?_
              refine lv_iinc (v := nI (kP + 1)) (lv' := [(7, .int (nI (kP + 1))), (6, .int (nI (hg + 1))), (11, .int x5535), (10, .int x5533), (9, .int r5532), (8, .int x5522), (5, .int (nI lb9)), (4, .int (nI la9)), (0, .ref h0), (1, .int (nI jv)), (2, .int (nI jl)), (3, .int (nI je))]) hx hb gX12_holds_12.2.2.2.2.2.2.2.2.1 hl (k := 5) rfl (nI_1 _) (by decide) rfl (fun ls hl => ?_)
              refine lv_goto (tgt := 25) hx hb gX12_holds_12.2.2.2.2.2.2.2.2.2 (by decide) ?_
              exact ihP (kP + 1) (upd vP hg 0) (hg + 1) _ _ _ (by omega) (by first | assumption | exact Or.inl rfl | exact Or.inr rfl | omega | exact h09.symm) (by first | assumption | exact Or.inl rfl | exact Or.inr rfl | omega | exact h09.symm) (by first | assumption | exact Or.inl rfl | exact Or.inr rfl | omega | exact h09.symm) (And.intro hP hD) hS (lv_sub hl [0, 1, 6, 7, 8, 9, 10, 11] rfl)
            · refine lv_iconst (v := 1) hx hb gX12_holds_7.2.1 (by decide) ?_
              refine lv_goto (tgt := 142) hx hb gX12_holds_7.2.2.1 (by decide) ?_
              refine astN hC hK hP hD hS 2 (ws' := [(h0, oX12 nw nk mhasKept nt mtaped nr mrowMany mroundOf mroundFrom mouts nm mfromHour mtoHour ns mfrom mto msort misFault mdeep mcoded mlines nl nc nF np ntr nb mbestCost nso nsi nit nsh nsf nss nrc mtraced mdealer mnumber mwhose msize misParted), (nw, iA G 1662 fnw), (np, iA G 100 (upd vP hg 1))]) rfl (k := hg) (by omega) (Nat.le_of_ble_eq_true rfl) (rfl) gX12_holds_7.2.2.2.2.1 (fun H locs hP hD hS => ?_)
              refine lv_iinc (v := nI (hg + 1)) (lv' := [(6, .int (nI (hg + 1))), (11, .int x5535), (10, .int x5533), (9, .int r5532), (8, .int x5522), (7, .int (nI kP)), (5, .int (nI lb9)), (4, .int (nI la9)), (0, .ref h0), (1, .int (nI jv)), (2, .int (nI jl)), (3, .int (nI je))]) hx hb gX12_holds_7.2.2.2.2.2.1 hl (k := 5) rfl (nI_1 _) (by decide) rfl (fun ls hl => ?_)
              refine lv_goto (tgt := 237) hx hb gX12_holds_7.2.2.2.2.2.2.1 (by decide) ?_
              refine lv_iinc (v := nI (kP + 1)) (lv' := [(7, .int (nI (kP + 1))), (6, .int (nI (hg + 1))), (11, .int x5535), (10, .int x5533), (9, .int r5532), (8, .int x5522), (5, .int (nI lb9)), (4, .int (nI la9)), (0, .ref h0), (1, .int (nI jv)), (2, .int (nI jl)), (3, .int (nI je))]) hx hb gX12_holds_12.2.2.2.2.2.2.2.2.1 hl (k := 5) rfl (nI_1 _) (by decide) rfl (fun ls hl => ?_)
              refine lv_goto (tgt := 25) hx hb gX12_holds_12.2.2.2.2.2.2.2.2.2 (by decide) ?_
              exact ihP (kP + 1) (upd vP hg 1) (hg + 1) _ _ _ (by omega) (by first | assumption | exact Or.inl rfl | exact Or.inr rfl | omega | exact h09.symm) (by first | assumption | exact Or.inl rfl | exact Or.inr rfl | omega | exact h09.symm) (by first | assumption | exact Or.inl rfl | exact Or.inr rfl | omega | exact h09.symm) (And.intro hP hD) hS (lv_sub hl [0, 1, 6, 7, 8, 9, 10, 11] rfl)
          · refine lv_iload hx hb gX12_holds_6.2.2.2.2.1 (lv_at2 hl) ?_
            refine lv_iload hx hb gX12_holds_6.2.2.2.2.2.1 (lv_at1 hl) ?_
            refine lv_icmp_ne (tgt := 141) hx hb gX12_holds_6.2.2.2.2.2.2.1 (by decide) (fun c_124_5539 => ?_) (fun c_124_5539 => ?_)
            · refine lv_iconst (v := 0) hx hb gX12_holds_7.2.2.2.1 (by decide) ?_
              refine astN hC hK hP hD hS 2 (ws' := [(h0, oX12 nw nk mhasKept nt mtaped nr mrowMany mroundOf mroundFrom mouts nm mfromHour mtoHour ns mfrom mto msort misFault mdeep mcoded mlines nl nc nF np ntr nb mbestCost nso nsi nit nsh nsf nss nrc mtraced mdealer mnumber mwhose msize misParted), (nw, iA G 1662 fnw), (np, iA G 100 (upd vP hg 0))]) rfl (k := hg) (by omega) (Nat.le_of_ble_eq_true rfl) (rfl) gX12_holds_7.2.2.2.2.1 (fun H locs hP hD hS => ?_)
              refine lv_iinc (v := nI (hg + 1)) (lv' := [(6, .int (nI (hg + 1))), (11, .int x5535), (10, .int x5533), (9, .int r5532), (8, .int x5522), (7, .int (nI kP)), (5, .int (nI lb9)), (4, .int (nI la9)), (0, .ref h0), (1, .int (nI jv)), (2, .int (nI jl)), (3, .int (nI je))]) hx hb gX12_holds_7.2.2.2.2.2.1 hl (k := 5) rfl (nI_1 _) (by decide) rfl (fun ls hl => ?_)
              refine lv_goto (tgt := 237) hx hb gX12_holds_7.2.2.2.2.2.2.1 (by decide) ?_
              refine lv_iinc (v := nI (kP + 1)) (lv' := [(7, .int (nI (kP + 1))), (6, .int (nI (hg + 1))), (11, .int x5535), (10, .int x5533), (9, .int r5532), (8, .int x5522), (5, .int (nI lb9)), (4, .int (nI la9)), (0, .ref h0), (1, .int (nI jv)), (2, .int (nI jl)), (3, .int (nI je))]) hx hb gX12_holds_12.2.2.2.2.2.2.2.2.1 hl (k := 5) rfl (nI_1 _) (by decide) rfl (fun ls hl => ?_)
              refine lv_goto (tgt := 25) hx hb gX12_holds_12.2.2.2.2.2.2.2.2.2 (by decide) ?_
              exact ihP (kP + 1) (upd vP hg 0) (hg + 1) _ _ _ (by omega) (by first | assumption | exact Or.inl rfl | exact Or.inr rfl | omega | exact h09.symm) (by first | assumption | exact Or.inl rfl | exact Or.inr rfl | omega | exact h09.symm) (by first | assumption | exact Or.inl rfl | exact Or.inr rfl | omega | exact h09.symm) (And.intro hP hD) hS (lv_sub hl [0, 1, 6, 7, 8, 9, 10, 11] rfl)
            · refine lv_goto (tgt := 137) hx hb gX12_holds_6.2.2.2.2.2.2.2.1 (by decide) ?_
              refine lv_iconst (v := 1) hx hb gX12_holds_7.2.1 (by decide) ?_
              refine lv_goto (tgt := 142) hx hb gX12_holds_7.2.2.1 (by decide) ?_
              refine astN hC hK hP hD hS 2 (ws' := [(h0, oX12 nw nk mhasKept nt mtaped nr mrowMany mroundOf mroundFrom mouts nm mfromHour mtoHour ns mfrom mto msort misFault mdeep mcoded mlines nl nc nF np ntr nb mbestCost nso nsi nit nsh nsf nss nrc mtraced mdealer mnumber mwhose msize misParted), (nw, iA G 1662 fnw), (np, iA G 100 (upd vP hg 1))]) rfl (k := hg) (by omega) (Nat.le_of_ble_eq_true rfl) (rfl) gX12_holds_7.2.2.2.2.1 (fun H locs hP hD hS => ?_)
              refine lv_iinc (v := nI (hg + 1)) (lv' := [(6, .int (nI (hg + 1))), (11, .int x5535), (10, .int x5533), (9, .int r5532), (8, .int x5522), (7, .int (nI kP)), (5, .int (nI lb9)), (4, .int (nI la9)), (0, .ref h0), (1, .int (nI jv)), (2, .int (nI jl)), (3, .int (nI je))]) hx hb gX12_holds_7.2.2.2.2.2.1 hl (k := 5) rfl (nI_1 _) (by decide) rfl (fun ls hl => ?_)
              refine lv_goto (tgt := 237) hx hb gX12_holds_7.2.2.2.2.2.2.1 (by decide) ?_
              refine lv_iinc (v := nI (kP + 1)) (lv' := [(7, .int (nI (kP + 1))), (6, .int (nI (hg + 1))), (11, .int x5535), (10, .int x5533), (9, .int r5532), (8, .int x5522), (5, .int (nI lb9)), (4, .int (nI la9)), (0, .ref h0), (1, .int (nI jv)), (2, .int (nI jl)), (3, .int (nI je))]) hx hb gX12_holds_12.2.2.2.2.2.2.2.2.1 hl (k := 5) rfl (nI_1 _) (by decide) rfl (fun ls hl => ?_)
              refine lv_goto (tgt := 25) hx hb gX12_holds_12.2.2.2.2.2.2.2.2.2 (by decide) ?_
              exact ihP (kP + 1) (upd vP hg 1) (hg + 1) _ _ _ (by omega) (by first | assumption | exact Or.inl rfl | exact Or.inr rfl | omega | exact h09.symm) (by first | assumption | exact Or.inl rfl | exact Or.inr rfl | omega | exact h09.symm) (by first | assumption | exact Or.inl rfl | exact Or.inr rfl | omega | exact h09.symm) (And.intro hP hD) hS (lv_sub hl [0, 1, 6, 7, 8, 9, 10, 11] rfl)
        · refine lv_iload hx hb gX12_holds_5.2.2.2.2.2.2.2.1 (lv_at2 hl) ?_
          refine lv_iload hx hb gX12_holds_5.2.2.2.2.2.2.2.2.1 (lv_at1 hl) ?_
          refine lv_icmp_ge (tgt := 141) hx hb gX12_holds_5.2.2.2.2.2.2.2.2.2 (by decide) (fun c_108_5540 => ?_) (fun c_108_5540 => ?_)
          · refine lv_iconst (v := 0) hx hb gX12_holds_7.2.2.2.1 (by decide) ?_
            refine astN hC hK hP hD hS 2 (ws' := [(h0, oX12 nw nk mhasKept nt mtaped nr mrowMany mroundOf mroundFrom mouts nm mfromHour mtoHour ns mfrom mto msort misFault mdeep mcoded mlines nl nc nF np ntr nb mbestCost nso nsi nit nsh nsf nss nrc mtraced mdealer mnumber mwhose msize misParted), (nw, iA G 1662 fnw), (np, iA G 100 (upd vP hg 0))]) rfl (k := hg) (by omega) (Nat.le_of_ble_eq_true rfl) (rfl) gX12_holds_7.2.2.2.2.1 (fun H locs hP hD hS => ?_)
            refine lv_iinc (v := nI (hg + 1)) (lv' := [(6, .int (nI (hg + 1))), (11, .int x5535), (10, .int x5533), (9, .int r5532), (8, .int x5522), (7, .int (nI kP)), (5, .int (nI lb9)), (4, .int (nI la9)), (0, .ref h0), (1, .int (nI jv)), (2, .int (nI jl)), (3, .int (nI je))]) hx hb gX12_holds_7.2.2.2.2.2.1 hl (k := 5) rfl (nI_1 _) (by decide) rfl (fun ls hl => ?_)
            refine lv_goto (tgt := 237) hx hb gX12_holds_7.2.2.2.2.2.2.1 (by decide) ?_
            refine lv_iinc (v := nI (kP + 1)) (lv' := [(7, .int (nI (kP + 1))), (6, .int (nI (hg + 1))), (11, .int x5535), (10, .int x5533), (9, .int r5532), (8, .int x5522), (5, .int (nI lb9)), (4, .int (nI la9)), (0, .ref h0), (1, .int (nI jv)), (2, .int (nI jl)), (3, .int (nI je))]) hx hb gX12_holds_12.2.2.2.2.2.2.2.2.1 hl (k := 5) rfl (nI_1 _) (by decide) rfl (fun ls hl => ?_)
            refine lv_goto (tgt := 25) hx hb gX12_holds_12.2.2.2.2.2.2.2.2.2 (by decide) ?_
            exact ihP (kP + 1) (upd vP hg 0) (hg + 1) _ _ _ (by omega) (by first | assumption | exact Or.inl rfl | exact Or.inr rfl | omega | exact h09.symm) (by first | assumption | exact Or.inl rfl | exact Or.inr rfl | omega | exact h09.symm) (by first | assumption | exact Or.inl rfl | exact Or.inr rfl | omega | exact h09.symm) (And.intro hP hD) hS (lv_sub hl [0, 1, 6, 7, 8, 9, 10, 11] rfl)
          · refine lv_goto (tgt := 137) hx hb gX12_holds_6.1 (by decide) ?_
            refine lv_iconst (v := 1) hx hb gX12_holds_7.2.1 (by decide) ?_
            refine lv_goto (tgt := 142) hx hb gX12_holds_7.2.2.1 (by decide) ?_
            refine astN hC hK hP hD hS 2 (ws' := [(h0, oX12 nw nk mhasKept nt mtaped nr mrowMany mroundOf mroundFrom mouts nm mfromHour mtoHour ns mfrom mto msort misFault mdeep mcoded mlines nl nc nF np ntr nb mbestCost nso nsi nit nsh nsf nss nrc mtraced mdealer mnumber mwhose msize misParted), (nw, iA G 1662 fnw), (np, iA G 100 (upd vP hg 1))]) rfl (k := hg) (by omega) (Nat.le_of_ble_eq_true rfl) (rfl) gX12_holds_7.2.2.2.2.1 (fun H locs hP hD hS => ?_)
            refine lv_iinc (v := nI (hg + 1)) (lv' := [(6, .int (nI (hg + 1))), (11, .int x5535), (10, .int x5533), (9, .int r5532), (8, .int x5522), (7, .int (nI kP)), (5, .int (nI lb9)), (4, .int (nI la9)), (0, .ref h0), (1, .int (nI jv)), (2, .int (nI jl)), (3, .int (nI je))]) hx hb gX12_holds_7.2.2.2.2.2.1 hl (k := 5) rfl (nI_1 _) (by decide) rfl (fun ls hl => ?_)
            refine lv_goto (tgt := 237) hx hb gX12_holds_7.2.2.2.2.2.2.1 (by decide) ?_
            refine lv_iinc (v := nI (kP + 1)) (lv' := [(7, .int (nI (kP + 1))), (6, .int (nI (hg + 1))), (11, .int x5535), (10, .int x5533), (9, .int r5532), (8, .int x5522), (5, .int (nI lb9)), (4, .int (nI la9)), (0, .ref h0), (1, .int (nI jv)), (2, .int (nI jl)), (3, .int (nI je))]) hx hb gX12_holds_12.2.2.2.2.2.2.2.2.1 hl (k := 5) rfl (nI_1 _) (by decide) rfl (fun ls hl => ?_)
            refine lv_goto (tgt := 25) hx hb gX12_holds_12.2.2.2.2.2.2.2.2.2 (by decide) ?_
            exact ihP (kP + 1) (upd vP hg 1) (hg + 1) _ _ _ (by omega) (by first | assumption | exact Or.inl rfl | exact Or.inr rfl | omega | exact h09.symm) (by first | assumption | exact Or.inl rfl | exact Or.inr rfl | omega | exact h09.symm) (by first | assumption | exact Or.inl rfl | exact Or.inr rfl | omega | exact h09.symm) (And.intro hP hD) hS (lv_sub hl [0, 1, 6, 7, 8, 9, 10, 11] rfl)
  exact keyP (lb9 - la9) la9 fnp 0 _ _ _ (by omega) (by first | assumption | exact Or.inl rfl | exact Or.inr rfl | omega | exact h09.symm) (by first | assumption | exact Or.inl rfl | exact Or.inr rfl | omega | exact h09.symm) (by first | assumption | exact Or.inl rfl | exact Or.inr rfl | omega | exact h09.symm) (And.intro hP hD) hS (lv_sub hl [0, 1, 2, 3, 4, 5, 6, 7] rfl)
