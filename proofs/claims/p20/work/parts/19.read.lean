section WR
variable {p : Program} {l : Launch} {e : Env} {R : Room} {s : State} {m : MethodId} {args : Array Value} {below : List Frame} {meth : Method} {c : Code} {H : Heap} {locs : List Loc} {cells slots : Nat} {Q : State → Prop}
variable {pc : Nat} {ls : Array Slot} {rest : List Value} {G : GG} {ws : va_W} {A : Nat → Prop} {y0 : MethodName} {b0 : ByteArray} {mL0 : Nat} {rt0 : Option FieldType} {a : Nat} {H0 : Heap}
end WR
/-- lines copied behind those that are there: their first step moved -/
def CPLV (ks : Nat) (f : Nat → Int32) (b c : Nat) : Int32 := if c = 5 then f (b + 5) + nI ks else f (b + c)
def CPLN (kl ks : Nat) (f g0 : Nat → Int32) (k : Nat) (g : Nat → Int32) : Prop := (∀ j, j < kl * 7 → g j = g0 j) ∧ ∀ i, i < k → ∀ c, c < 7 → g ((kl + i) * 7 + c) = CPLV ks f (i * 7) c
theorem CPLN.zero {kl ks : Nat} {f g : Nat → Int32} : CPLN kl ks f g 0 g := ⟨fun _ _ => rfl, fun i h => absurd h (Nat.not_lt_zero i)⟩
theorem CPLN.next {kl ks k : Nat} {f g0 g : Nat → Int32} (h : CPLN kl ks f g0 k g) : CPLN kl ks f g0 (k + 1) (upd (upd (upd (upd (upd (upd (upd (upd g ((kl + k) * 7) (f (k * 7))) ((kl + k) * 7 + 1) (f (k * 7 + 1))) ((kl + k) * 7 + 2) (f (k * 7 + 2))) ((kl + k) * 7 + 3) (f (k * 7 + 3))) ((kl + k) * 7 + 4) (f (k * 7 + 4))) ((kl + k) * 7 + 5) (f (k * 7 + 5))) ((kl + k) * 7 + 6) (f (k * 7 + 6))) ((kl + k) * 7 + 5) (f (k * 7 + 5) + nI ks)) := by
  have ne : ∀ {g : Nat → Int32} {p j : Nat} {v : Int32}, ¬ j = p → upd g p v j = g j := fun h => if_neg h
  have eq : ∀ {g : Nat → Int32} {p : Nat} {v : Int32}, upd g p v p = v := if_pos rfl
  refine ⟨fun j hj => ?_, fun i hi c hc => ?_⟩
  · rw [ne (by omega), ne (by omega), ne (by omega), ne (by omega), ne (by omega), ne (by omega), ne (by omega), ne (by omega)]
    exact h.1 j hj
  · by_cases e : i = k
    · subst e
      rcases (show c = 0 ∨ c = 1 ∨ c = 2 ∨ c = 3 ∨ c = 4 ∨ c = 5 ∨ c = 6 by omega) with rfl | rfl | rfl | rfl | rfl | rfl | rfl
      · show upd _ _ _ ((kl + i) * 7) = f (i * 7)
        rw [ne (by omega), ne (by omega), ne (by omega), ne (by omega), ne (by omega), ne (by omega), ne (by omega), eq]
      · show _ = f (i * 7 + 1)
        rw [ne (by omega), ne (by omega), ne (by omega), ne (by omega), ne (by omega), ne (by omega), eq]
      · show _ = f (i * 7 + 2)
        rw [ne (by omega), ne (by omega), ne (by omega), ne (by omega), ne (by omega), eq]
      · show _ = f (i * 7 + 3)
        rw [ne (by omega), ne (by omega), ne (by omega), ne (by omega), eq]
      · show _ = f (i * 7 + 4)
        rw [ne (by omega), ne (by omega), ne (by omega), eq]
      · show _ = f (i * 7 + 5) + nI ks
        rw [eq]
      · show _ = f (i * 7 + 6)
        rw [ne (by omega), eq]
    · rw [ne (by omega), ne (by omega), ne (by omega), ne (by omega), ne (by omega), ne (by omega), ne (by omega), ne (by omega)]
      exact h.2 i (by omega) c hc
def CPST (ks : Nat) (f g0 : Nat → Int32) (k : Nat) (g : Nat → Int32) : Prop := (∀ j, j < ks → g j = g0 j) ∧ ∀ i, i < k → g (ks + i) = f i
theorem CPST.zero {ks : Nat} {f g : Nat → Int32} : CPST ks f g 0 g := ⟨fun _ _ => rfl, fun i h => absurd h (Nat.not_lt_zero i)⟩
theorem CPST.next {ks k : Nat} {f g0 g : Nat → Int32} (h : CPST ks f g0 k g) : CPST ks f g0 (k + 1) (upd g (ks + k) (f k)) := by
  refine ⟨fun j hj => (if_neg (show ¬ j = ks + k by omega)).trans (h.1 j hj), fun i hi => ?_⟩
  by_cases e : i = k
  · subst e
    exact if_pos rfl
  · exact (if_neg (show ¬ ks + i = ks + k by omega)).trans (h.2 i (by omega))
section WR
variable {p : Program} {l : Launch} {e : Env} {R : Room} {s : State} {m : MethodId} {args : Array Value} {below : List Frame} {meth : Method} {c : Code} {H : Heap} {locs : List Loc} {cells slots : Nat} {Q : State → Prop}
variable {pc : Nat} {ls : Array Slot} {rest : List Value} {G : GG} {ws : va_W} {A : Nat → Prop} {y0 : MethodName} {b0 : ByteArray} {mL0 : Nat} {rt0 : Option FieldType} {a : Nat} {H0 : Heap}
theorem gX10_store_0 : (decode cX10_store 0 = .ok (.aload_n 1, 1)) ∧ (decode cX10_store 1 = .ok (.getfield 54, 3)) ∧ (decode cX10_store 4 = .ok (.invokevirtual 59, 3)) ∧ (decode cX10_store 7 = .ok (.istore_n 2, 1)) ∧ (decode cX10_store 8 = .ok (.aload_n 1, 1)) ∧ (decode cX10_store 9 = .ok (.getfield 54, 3)) ∧ (decode cX10_store 12 = .ok (.iload_n 2, 1)) ∧ (decode cX10_store 13 = .ok (.iconst 0, 1)) ∧ (decode cX10_store 14 = .ok (.aload_n 1, 1)) ∧ (decode cX10_store 15 = .ok (.getfield 63, 3)) := by decide +kernel
theorem nm_13 : Cond.fieldLinkNest RX10 54 RX0 "versions" "LInquiryBench$Table;" RX11 ∈ NestW := List.mem_of_getElem? (i := 13) rfl
theorem gf_X10_54 (hC : CX p s m meth c y0 b0 mL0 rt0 args) (hy0 : y0.cls = RX10) (hK : KK G s) (hP : va_P G.1 vwCl ws H) (q0 : Nat) {fs : List Value} {v : Value} (he : ws[q0]? = some (a, .inr (0, fs))) (hv : fs[3]? = some v) (hdg : decode b0 pc = .ok (.getfield 54, 3)) (kk : W p l e R s m args below meth c H locs cells slots Q (F0 m (pc + 3) ls (v :: rest))) : W p l e R s m args below meth c H locs cells slots Q (F0 m pc ls (.ref a :: rest)) := by
  obtain ⟨hx, hb, hr, hml, hB, hown, hlocks, hnm⟩ := hC
  rw [hy0] at hown
  exact va_getN (ci := 0) (C := RX0) (T := TX0) (N := 14) hx hb hB in_X0 hown hK.1 hP q0 he rfl 3 (by decide) (va_Nw.use rfl (hK.2.1 _ nm_13)) (fun _ h => h) hv hdg kk
theorem nm_32 : Cond.fieldLinkNest RX10 63 RX0 "today" "I" RX11 ∈ NestW := List.mem_of_getElem? (i := 32) rfl
theorem gf_X10_63 (hC : CX p s m meth c y0 b0 mL0 rt0 args) (hy0 : y0.cls = RX10) (hK : KK G s) (hP : va_P G.1 vwCl ws H) (q0 : Nat) {fs : List Value} {v : Value} (he : ws[q0]? = some (a, .inr (0, fs))) (hv : fs[10]? = some v) (hdg : decode b0 pc = .ok (.getfield 63, 3)) (kk : W p l e R s m args below meth c H locs cells slots Q (F0 m (pc + 3) ls (v :: rest))) : W p l e R s m args below meth c H locs cells slots Q (F0 m pc ls (.ref a :: rest)) := by
  obtain ⟨hx, hb, hr, hml, hB, hown, hlocks, hnm⟩ := hC
  rw [hy0] at hown
  exact va_getN (ci := 0) (C := RX0) (T := TX0) (N := 14) hx hb hB in_X0 hown hK.1 hP q0 he rfl 10 (by decide) (va_Nw.use rfl (hK.2.1 _ nm_32)) (fun _ h => h) hv hdg kk
theorem gX10_store_1 : (decode cX10_store 18 = .ok (.invokevirtual 66, 3)) ∧ (decode cX10_store 21 = .ok (.aload_n 1, 1)) ∧ (decode cX10_store 22 = .ok (.getfield 54, 3)) ∧ (decode cX10_store 25 = .ok (.iload_n 2, 1)) ∧ (decode cX10_store 26 = .ok (.iconst 1, 1)) ∧ (decode cX10_store 27 = .ok (.aload_n 1, 1)) ∧ (decode cX10_store 28 = .ok (.getfield 70, 3)) ∧ (decode cX10_store 31 = .ok (.invokevirtual 71, 3)) ∧ (decode cX10_store 34 = .ok (.invokevirtual 66, 3)) ∧ (decode cX10_store 37 = .ok (.aload_n 1, 1)) := by decide +kernel
theorem nm_16 : Cond.fieldLinkNest RX10 70 RX0 "lines" "LInquiryBench$Table;" RX11 ∈ NestW := List.mem_of_getElem? (i := 16) rfl
theorem gf_X10_70 (hC : CX p s m meth c y0 b0 mL0 rt0 args) (hy0 : y0.cls = RX10) (hK : KK G s) (hP : va_P G.1 vwCl ws H) (q0 : Nat) {fs : List Value} {v : Value} (he : ws[q0]? = some (a, .inr (0, fs))) (hv : fs[4]? = some v) (hdg : decode b0 pc = .ok (.getfield 70, 3)) (kk : W p l e R s m args below meth c H locs cells slots Q (F0 m (pc + 3) ls (v :: rest))) : W p l e R s m args below meth c H locs cells slots Q (F0 m pc ls (.ref a :: rest)) := by
  obtain ⟨hx, hb, hr, hml, hB, hown, hlocks, hnm⟩ := hC
  rw [hy0] at hown
  exact va_getN (ci := 0) (C := RX0) (T := TX0) (N := 14) hx hb hB in_X0 hown hK.1 hP q0 he rfl 4 (by decide) (va_Nw.use rfl (hK.2.1 _ nm_16)) (fun _ h => h) hv hdg kk
theorem gX10_store_2 : (decode cX10_store 38 = .ok (.getfield 54, 3)) ∧ (decode cX10_store 41 = .ok (.iload_n 2, 1)) ∧ (decode cX10_store 42 = .ok (.iconst 2, 1)) ∧ (decode cX10_store 43 = .ok (.aload_n 0, 1)) ∧ (decode cX10_store 44 = .ok (.getfield 20, 3)) ∧ (decode cX10_store 47 = .ok (.invokevirtual 71, 3)) ∧ (decode cX10_store 50 = .ok (.invokevirtual 66, 3)) ∧ (decode cX10_store 53 = .ok (.aload_n 1, 1)) ∧ (decode cX10_store 54 = .ok (.getfield 73, 3)) ∧ (decode cX10_store 57 = .ok (.invokevirtual 71, 3)) := by decide +kernel
theorem nm_19 : Cond.fieldLinkNest RX10 73 RX0 "steps" "LInquiryBench$Table;" RX11 ∈ NestW := List.mem_of_getElem? (i := 19) rfl
theorem gf_X10_73 (hC : CX p s m meth c y0 b0 mL0 rt0 args) (hy0 : y0.cls = RX10) (hK : KK G s) (hP : va_P G.1 vwCl ws H) (q0 : Nat) {fs : List Value} {v : Value} (he : ws[q0]? = some (a, .inr (0, fs))) (hv : fs[5]? = some v) (hdg : decode b0 pc = .ok (.getfield 73, 3)) (kk : W p l e R s m args below meth c H locs cells slots Q (F0 m (pc + 3) ls (v :: rest))) : W p l e R s m args below meth c H locs cells slots Q (F0 m pc ls (.ref a :: rest)) := by
  obtain ⟨hx, hb, hr, hml, hB, hown, hlocks, hnm⟩ := hC
  rw [hy0] at hown
  exact va_getN (ci := 0) (C := RX0) (T := TX0) (N := 14) hx hb hB in_X0 hown hK.1 hP q0 he rfl 5 (by decide) (va_Nw.use rfl (hK.2.1 _ nm_19)) (fun _ h => h) hv hdg kk
theorem gX10_store_3 : (decode cX10_store 60 = .ok (.istore_n 3, 1)) ∧ (decode cX10_store 61 = .ok (.iconst 0, 1)) ∧ (decode cX10_store 62 = .ok (.istore 4, 2)) ∧ (decode cX10_store 64 = .ok (.iload 4, 2)) ∧ (decode cX10_store 66 = .ok (.aload_n 0, 1)) ∧ (decode cX10_store 67 = .ok (.getfield 20, 3)) ∧ (decode cX10_store 70 = .ok (.invokevirtual 71, 3)) ∧ (decode cX10_store 73 = .ok (.if_icmp .ge 78, 3)) ∧ (decode cX10_store 76 = .ok (.aload_n 1, 1)) ∧ (decode cX10_store 77 = .ok (.getfield 70, 3)) := by decide +kernel
theorem gX10_store_7 : (decode cX10_store 142 = .ok (.invokevirtual 66, 3)) ∧ (decode cX10_store 145 = .ok (.iinc 4 1, 3)) ∧ (decode cX10_store 148 = .ok (.goto (-84), 3)) ∧ (decode cX10_store 151 = .ok (.iconst 0, 1)) ∧ (decode cX10_store 152 = .ok (.istore 4, 2)) ∧ (decode cX10_store 154 = .ok (.iload 4, 2)) ∧ (decode cX10_store 156 = .ok (.aload_n 0, 1)) ∧ (decode cX10_store 157 = .ok (.getfield 24, 3)) ∧ (decode cX10_store 160 = .ok (.invokevirtual 71, 3)) ∧ (decode cX10_store 163 = .ok (.if_icmp .ge 34, 3)) := by decide +kernel
theorem gX10_store_9 : (decode cX10_store 185 = .ok (.invokevirtual 74, 3)) ∧ (decode cX10_store 188 = .ok (.invokevirtual 66, 3)) ∧ (decode cX10_store 191 = .ok (.iinc 4 1, 3)) ∧ (decode cX10_store 194 = .ok (.goto (-40), 3)) ∧ (decode cX10_store 197 = .ok (.iload_n 2, 1)) ∧ (decode cX10_store 198 = .ok (.ireturn, 1)) := by decide +kernel
theorem gX10_store_8 : (decode cX10_store 166 = .ok (.aload_n 1, 1)) ∧ (decode cX10_store 167 = .ok (.getfield 73, 3)) ∧ (decode cX10_store 170 = .ok (.aload_n 1, 1)) ∧ (decode cX10_store 171 = .ok (.getfield 73, 3)) ∧ (decode cX10_store 174 = .ok (.invokevirtual 59, 3)) ∧ (decode cX10_store 177 = .ok (.iconst 0, 1)) ∧ (decode cX10_store 178 = .ok (.aload_n 0, 1)) ∧ (decode cX10_store 179 = .ok (.getfield 24, 3)) ∧ (decode cX10_store 182 = .ok (.iload 4, 2)) ∧ (decode cX10_store 184 = .ok (.iconst 0, 1)) := by decide +kernel
theorem gX10_store_4 : (decode cX10_store 80 = .ok (.invokevirtual 59, 3)) ∧ (decode cX10_store 83 = .ok (.istore 5, 2)) ∧ (decode cX10_store 85 = .ok (.iconst 0, 1)) ∧ (decode cX10_store 86 = .ok (.istore 6, 2)) ∧ (decode cX10_store 88 = .ok (.iload 6, 2)) ∧ (decode cX10_store 90 = .ok (.bipush 6, 2)) ∧ (decode cX10_store 92 = .ok (.if_icmp .gt 31, 3)) ∧ (decode cX10_store 95 = .ok (.aload_n 1, 1)) ∧ (decode cX10_store 96 = .ok (.getfield 70, 3)) ∧ (decode cX10_store 99 = .ok (.iload 5, 2)) := by decide +kernel
theorem gX10_store_5 : (decode cX10_store 101 = .ok (.iload 6, 2)) ∧ (decode cX10_store 103 = .ok (.aload_n 0, 1)) ∧ (decode cX10_store 104 = .ok (.getfield 20, 3)) ∧ (decode cX10_store 107 = .ok (.iload 4, 2)) ∧ (decode cX10_store 109 = .ok (.iload 6, 2)) ∧ (decode cX10_store 111 = .ok (.invokevirtual 74, 3)) ∧ (decode cX10_store 114 = .ok (.invokevirtual 66, 3)) ∧ (decode cX10_store 117 = .ok (.iinc 6 1, 3)) ∧ (decode cX10_store 120 = .ok (.goto (-32), 3)) ∧ (decode cX10_store 123 = .ok (.aload_n 1, 1)) := by decide +kernel
theorem gX10_store_6 : (decode cX10_store 124 = .ok (.getfield 70, 3)) ∧ (decode cX10_store 127 = .ok (.iload 5, 2)) ∧ (decode cX10_store 129 = .ok (.iconst 5, 1)) ∧ (decode cX10_store 130 = .ok (.aload_n 0, 1)) ∧ (decode cX10_store 131 = .ok (.getfield 20, 3)) ∧ (decode cX10_store 134 = .ok (.iload 4, 2)) ∧ (decode cX10_store 136 = .ok (.iconst 5, 1)) ∧ (decode cX10_store 137 = .ok (.invokevirtual 74, 3)) ∧ (decode cX10_store 140 = .ok (.iload_n 3, 1)) ∧ (decode cX10_store 141 = .ok (.iadd, 1)) := by decide +kernel
end WR
def LRS (g : Nat → Int32) (b o : Nat) (ln : LNT) : Prop := g b = nI ln.1 ∧ g (b + 1) = ln.2.1 ∧ g (b + 2) = ln.2.2.1 ∧ g (b + 3) = ln.2.2.2.1 ∧ g (b + 4) = nI ln.2.2.2.2.1 ∧ g (b + 5) = nI (ln.2.2.2.2.2.1 + o) ∧ g (b + 6) = nI (ln.2.2.2.2.2.2.1 - ln.2.2.2.2.2.1)
/-- the versions' lines, as the class holds them -/
def VCL (fv fl : Nat → Int32) (kv kl : Nat) (VL : Nat → List LNT) : Prop := ∀ v, v < kv → (VL v).length ≤ 9 ∧ ∃ lo so, fv (v * 3 + 1) = nI lo ∧ fv (v * 3 + 2) = nI (VL v).length ∧ lo + (VL v).length ≤ kl ∧ ∀ i, i < (VL v).length → LRS fl ((lo + i) * 7) so ((VL v).getD i LN0)
def LVAL (ln : LNT) (w : Nat) : Int32 := if w = 0 then nI ln.1 else if w = 1 then ln.2.1 else if w = 2 then ln.2.2.1 else if w = 3 then ln.2.2.2.1 else nI ln.2.2.2.2.1
/-- what line answers -/
def LIQ (kv : Nat) (VL : Nat → List LNT) (x1 x2 x3 r : Int32) : Prop :=
  (¬ Hs x1 kv ∧ r = -9) ∨ ∃ v, v < kv ∧ x1 = nI v ∧ ((¬ Hs x2 (VL v).length ∧ r = -9) ∨ ∃ i, i < (VL v).length ∧ x2 = nI i ∧ ((¬ Wi x3 0 4 ∧ r = -9) ∨ ∃ w, w < 5 ∧ x3 = nI w ∧ r = LVAL ((VL v).getD i LN0) w))
theorem Hs.of {v k : Nat} (h : v < k) (hk : k < 2 ^ 31) : Hs (nI v) k := ⟨nI_pos (by omega), fun h2 => absurd ((nI_leI hk (by omega)).mp h2) (by omega)⟩
theorem Wi04.of {w : Nat} (h : w < 5) : Wi (nI w) 0 4 := ⟨nI_pos (by omega), fun h2 => absurd ((nI_ltI (a := 4) (b := w) (by decide) (by omega)).mp h2) (by omega)⟩
theorem Wi04.no {x : Int32} (h0 : ¬ x = 0) (h1 : ¬ x = 1) (h2 : ¬ x = 2) (h3 : ¬ x = 3) (h4 : ¬ x = 4) : ¬ Wi x 0 4 := fun h => by
  obtain ⟨j, hj, rfl⟩ := Wi_nat (N := 4) (by decide) h
  rcases (show j = 0 ∨ j = 1 ∨ j = 2 ∨ j = 3 ∨ j = 4 by omega) with rfl | rfl | rfl | rfl | rfl
  · exact h0 rfl
  · exact h1 rfl
  · exact h2 rfl
  · exact h3 rfl
  · exact h4 rfl
theorem LIQ.uq {kv : Nat} {VL : Nat → List LNT} {x1 x2 x3 r s : Int32} (h1 : LIQ kv VL x1 x2 x3 r) (h2 : LIQ kv VL x1 x2 x3 s) (hk : kv ≤ 8) (hl : ∀ v, v < kv → (VL v).length ≤ 9) : r = s := by
  rcases h1 with ⟨a, b⟩ | ⟨v, hv, e1, h1⟩
  · rcases h2 with ⟨a2, b2⟩ | ⟨v2, hv2, e2, -⟩
    · exact b.trans b2.symm
    · rw [e2] at a
      exact absurd (Hs.of hv2 (by omega)) a
  · rcases h2 with ⟨a2, b2⟩ | ⟨v2, hv2, e2, h2⟩
    · rw [e1] at a2
      exact absurd (Hs.of hv (by omega)) a2
    · obtain rfl : v = v2 := (nI_eq (by omega) (by omega)).mp (e1.symm.trans e2)
      have hl9 := hl v hv
      rcases h1 with ⟨a, b⟩ | ⟨i, hi, e3, h1⟩
      · rcases h2 with ⟨a2, b2⟩ | ⟨i2, hi2, e4, -⟩
        · exact b.trans b2.symm
        · rw [e4] at a
          exact absurd (Hs.of hi2 (by omega)) a
      · rcases h2 with ⟨a2, b2⟩ | ⟨i2, hi2, e4, h2⟩
        · rw [e3] at a2
          exact absurd (Hs.of hi (by omega)) a2
        · obtain rfl : i = i2 := (nI_eq (by omega) (by omega)).mp (e3.symm.trans e4)
          rcases h1 with ⟨a, b⟩ | ⟨w, hw, e5, b⟩
          · rcases h2 with ⟨a2, b2⟩ | ⟨w2, hw2, e6, -⟩
            · exact b.trans b2.symm
            · rw [e6] at a
              exact absurd (Wi04.of hw2) a
          · rcases h2 with ⟨a2, b2⟩ | ⟨w2, hw2, e6, b2⟩
            · rw [e5] at a2
              exact absurd (Wi04.of hw) a2
            · obtain rfl : w = w2 := (nI_eq (by omega) (by omega)).mp (e5.symm.trans e6)
              exact b.trans b2.symm
/-- what read does to the class's rows -/
def CRD (bt : Nat → Int32) (n : Nat) (rq : Int32) (kv kl ks : Nat) (fv fl gv gl : Nat → Int32) (kl1 ks1 : Nat) (td : Int32) : Prop :=
  (rq = nI kv ∧ ∃ ls c q, TXT bt n 9 (SK bt n 0) [] [] [] (1, 0, ls, c, q) ∧ ls.length ≤ 9 ∧ c.length ≤ 120 ∧ kl1 = kl + ls.length ∧ ks1 = ks + c.length ∧ gv = upd (upd (upd fv (kv * 3) td) (kv * 3 + 1) (nI kl)) (kv * 3 + 2) (nI ls.length) ∧ (∀ j, j < kl * 7 → gl j = fl j) ∧ ∀ i, i < ls.length → LRS gl ((kl + i) * 7) ks (ls.getD i LN0)) ∨ (¬ rq = nI kv ∧ gv = fv ∧ gl = fl ∧ kl1 = kl ∧ ks1 = ks)
theorem CPLN.lrs {kl ks k i : Nat} {f g0 g : Nat → Int32} {ln : LNT} (h : CPLN kl ks f g0 k g) (hi : i < k) (hl : LRW f (i * 7) ln) : LRS g ((kl + i) * 7) ks ln :=
  ⟨(h.2 i hi 0 (by omega)).trans hl.1, (h.2 i hi 1 (by omega)).trans hl.2.1, (h.2 i hi 2 (by omega)).trans hl.2.2.1, (h.2 i hi 3 (by omega)).trans hl.2.2.2.1, (h.2 i hi 4 (by omega)).trans hl.2.2.2.2.1, (h.2 i hi 5 (by omega)).trans ((congrArg (fun z9 => z9 + nI ks) hl.2.2.2.2.2.1).trans (nI_add _ _)), (h.2 i hi 6 (by omega)).trans hl.2.2.2.2.2.2⟩
theorem CRD.y {bt : Nat → Int32} {n kv kl ks kln ksp : Nat} {fv fl gl tl ts : Nat → Int32} {td : Int32} {ls : List LNT} {c q : List Int32} (hT : TXT bt n 9 (SK bt n 0) [] [] [] (1, 0, ls, c, q)) (hl : LNS kln tl ls) (hs : STP ksp ts c) (hc : CPLN kl ks tl fl kln gl) (h9 : kln ≤ 9) (h12 : ksp ≤ 120) : CRD bt n (nI kv) kv kl ks fv fl (upd (upd (upd fv (kv * 3) td) (kv * 3 + 1) (nI kl)) (kv * 3 + 2) (nI kln)) gl (kl + kln) (ks + ksp) td := by
  have e1 := hl.1
  have e2 := hs.1
  refine Or.inl ⟨rfl, ls, c, q, hT, by omega, by omega, by omega, by omega, by rw [e1], hc.1, fun i hi => hc.lrs (by omega) (hl.2 i (by omega))⟩
theorem CRD.n {bt : Nat → Int32} {n kv kl ks : Nat} {fv fl : Nat → Int32} {td rq : Int32} (h : ¬ rq = nI kv) : CRD bt n rq kv kl ks fv fl fv fl kl ks td := Or.inr ⟨h, rfl, rfl, rfl, rfl⟩
section WR
variable {p : Program} {l : Launch} {e : Env} {R : Room} {s : State} {m : MethodId} {args : Array Value} {below : List Frame} {meth : Method} {c : Code} {H : Heap} {locs : List Loc} {cells slots : Nat} {Q : State → Prop}
variable {pc : Nat} {ls : Array Slot} {rest : List Value} {G : GG} {ws : va_W} {A : Nat → Prop} {y0 : MethodName} {b0 : ByteArray} {mL0 : Nat} {rt0 : Option FieldType} {a : Nat} {H0 : Heap}
theorem gX11_line_0 : (decode cX11_line 0 = .ok (.aload_n 0, 1)) ∧ (decode cX11_line 1 = .ok (.getfield 15, 3)) ∧ (decode cX11_line 4 = .ok (.getfield 233, 3)) ∧ (decode cX11_line 7 = .ok (.iload_n 1, 1)) ∧ (decode cX11_line 8 = .ok (.invokevirtual 124, 3)) ∧ (decode cX11_line 11 = .ok (.ifCond .eq 25, 3)) ∧ (decode cX11_line 14 = .ok (.iload_n 2, 1)) ∧ (decode cX11_line 15 = .ok (.iconst 0, 1)) ∧ (decode cX11_line 16 = .ok (.aload_n 0, 1)) ∧ (decode cX11_line 17 = .ok (.getfield 15, 3)) := by decide +kernel
theorem gX11_line_1 : (decode cX11_line 20 = .ok (.getfield 233, 3)) ∧ (decode cX11_line 23 = .ok (.iload_n 1, 1)) ∧ (decode cX11_line 24 = .ok (.iconst 2, 1)) ∧ (decode cX11_line 25 = .ok (.invokevirtual 128, 3)) ∧ (decode cX11_line 28 = .ok (.iconst 1, 1)) ∧ (decode cX11_line 29 = .ok (.isub, 1)) ∧ (decode cX11_line 30 = .ok (.invokestatic 83, 3)) ∧ (decode cX11_line 33 = .ok (.ifCond .ne 6, 3)) ∧ (decode cX11_line 36 = .ok (.bipush (-9), 2)) ∧ (decode cX11_line 38 = .ok (.ireturn, 1)) := by decide +kernel
theorem gX11_line_2 : (decode cX11_line 39 = .ok (.aload_n 0, 1)) ∧ (decode cX11_line 40 = .ok (.getfield 15, 3)) ∧ (decode cX11_line 43 = .ok (.getfield 233, 3)) ∧ (decode cX11_line 46 = .ok (.iload_n 1, 1)) ∧ (decode cX11_line 47 = .ok (.iconst 1, 1)) ∧ (decode cX11_line 48 = .ok (.invokevirtual 128, 3)) ∧ (decode cX11_line 51 = .ok (.iload_n 2, 1)) ∧ (decode cX11_line 52 = .ok (.iadd, 1)) ∧ (decode cX11_line 53 = .ok (.istore 4, 2)) ∧ (decode cX11_line 55 = .ok (.iload_n 3, 1)) := by decide +kernel
theorem gX11_line_3 : (decode cX11_line 56 = .ok (.tableswitch 106 0 4 #[36, 50, 64, 78, 92], 36)) ∧ (decode cX11_line 92 = .ok (.aload_n 0, 1)) ∧ (decode cX11_line 93 = .ok (.getfield 15, 3)) ∧ (decode cX11_line 96 = .ok (.getfield 240, 3)) ∧ (decode cX11_line 99 = .ok (.iload 4, 2)) ∧ (decode cX11_line 101 = .ok (.iconst 0, 1)) ∧ (decode cX11_line 102 = .ok (.invokevirtual 128, 3)) ∧ (decode cX11_line 105 = .ok (.ireturn, 1)) ∧ (decode cX11_line 106 = .ok (.aload_n 0, 1)) ∧ (decode cX11_line 107 = .ok (.getfield 15, 3)) := by decide +kernel
theorem nm_17 : Cond.fieldLinkNest RX11 240 RX0 "lines" "LInquiryBench$Table;" RX11 ∈ NestW := List.mem_of_getElem? (i := 17) rfl
theorem gf_X11_240 (hC : CX p s m meth c y0 b0 mL0 rt0 args) (hy0 : y0.cls = RX11) (hK : KK G s) (hP : va_P G.1 vwCl ws H) (q0 : Nat) {fs : List Value} {v : Value} (he : ws[q0]? = some (a, .inr (0, fs))) (hv : fs[4]? = some v) (hdg : decode b0 pc = .ok (.getfield 240, 3)) (kk : W p l e R s m args below meth c H locs cells slots Q (F0 m (pc + 3) ls (v :: rest))) : W p l e R s m args below meth c H locs cells slots Q (F0 m pc ls (.ref a :: rest)) := by
  obtain ⟨hx, hb, hr, hml, hB, hown, hlocks, hnm⟩ := hC
  rw [hy0] at hown
  exact va_getN (ci := 0) (C := RX0) (T := TX0) (N := 14) hx hb hB in_X0 hown hK.1 hP q0 he rfl 4 (by decide) (va_Nw.use rfl (hK.2.1 _ nm_17)) (fun _ h => h) hv hdg kk
theorem gX11_line_4 : (decode cX11_line 110 = .ok (.getfield 240, 3)) ∧ (decode cX11_line 113 = .ok (.iload 4, 2)) ∧ (decode cX11_line 115 = .ok (.iconst 1, 1)) ∧ (decode cX11_line 116 = .ok (.invokevirtual 128, 3)) ∧ (decode cX11_line 119 = .ok (.ireturn, 1)) ∧ (decode cX11_line 120 = .ok (.aload_n 0, 1)) ∧ (decode cX11_line 121 = .ok (.getfield 15, 3)) ∧ (decode cX11_line 124 = .ok (.getfield 240, 3)) ∧ (decode cX11_line 127 = .ok (.iload 4, 2)) ∧ (decode cX11_line 129 = .ok (.iconst 2, 1)) := by decide +kernel
theorem gX11_line_5 : (decode cX11_line 130 = .ok (.invokevirtual 128, 3)) ∧ (decode cX11_line 133 = .ok (.ireturn, 1)) ∧ (decode cX11_line 134 = .ok (.aload_n 0, 1)) ∧ (decode cX11_line 135 = .ok (.getfield 15, 3)) ∧ (decode cX11_line 138 = .ok (.getfield 240, 3)) ∧ (decode cX11_line 141 = .ok (.iload 4, 2)) ∧ (decode cX11_line 143 = .ok (.iconst 3, 1)) ∧ (decode cX11_line 144 = .ok (.invokevirtual 128, 3)) ∧ (decode cX11_line 147 = .ok (.ireturn, 1)) ∧ (decode cX11_line 148 = .ok (.aload_n 0, 1)) := by decide +kernel
theorem gX11_line_6 : (decode cX11_line 149 = .ok (.getfield 15, 3)) ∧ (decode cX11_line 152 = .ok (.getfield 240, 3)) ∧ (decode cX11_line 155 = .ok (.iload 4, 2)) ∧ (decode cX11_line 157 = .ok (.iconst 4, 1)) ∧ (decode cX11_line 158 = .ok (.invokevirtual 128, 3)) ∧ (decode cX11_line 161 = .ok (.ireturn, 1)) ∧ (decode cX11_line 162 = .ok (.bipush (-9), 2)) ∧ (decode cX11_line 164 = .ok (.ireturn, 1)) := by decide +kernel
end WR
theorem RDQ.nf {p k : Nat} (hp : p ≤ 240) (hk : k ≤ 8) : ¬ (-100 : Int32) - nI p = nI k := by
  intro h
  have h2 := congrArg (fun z9 => z9 + nI p) h
  have h3 : (-100 : Int32) - nI p + nI p = -100 := Int32.sub_add_cancel _ _
  have h4 : (-100 : Int32) = nI (k + p) := h3.symm.trans (h2.trans (nI_add k p))
  have h5 := congrArg Int32.toInt h4
  have e1 : (-100 : Int32).toInt = -100 := by decide
  rw [e1, nI_toInt (by omega)] at h5
  omega
theorem RDQ.n8 {k : Nat} (hk : k ≤ 8) : ¬ (-2 : Int32) = nI k := by
  intro h
  have h2 := congrArg Int32.toInt h
  have e1 : (-2 : Int32).toInt = -2 := by decide
  rw [nI_toInt (by omega), e1] at h2
  omega
section WR
variable {p : Program} {l : Launch} {e : Env} {R : Room} {s : State} {m : MethodId} {args : Array Value} {below : List Frame} {meth : Method} {c : Code} {H : Heap} {locs : List Loc} {cells slots : Nat} {Q : State → Prop}
variable {pc : Nat} {ls : Array Slot} {rest : List Value} {G : GG} {K : OO} {ws : va_W} {A : Nat → Prop} {y0 : MethodName} {b0 : ByteArray} {mL0 : Nat} {rt0 : Option FieldType} {a : Nat} {H0 : Heap}
theorem gX11_read_0 : (decode cX11_read 0 = .ok (.aload_n 0, 1)) ∧ (decode cX11_read 1 = .ok (.getfield 58, 3)) ∧ (decode cX11_read 4 = .ok (.invokevirtual 227, 3)) ∧ (decode cX11_read 7 = .ok (.istore_n 1, 1)) ∧ (decode cX11_read 8 = .ok (.aload_n 0, 1)) ∧ (decode cX11_read 9 = .ok (.getfield 58, 3)) ∧ (decode cX11_read 12 = .ok (.invokevirtual 230, 3)) ∧ (decode cX11_read 15 = .ok (.iload_n 1, 1)) ∧ (decode cX11_read 16 = .ok (.ifCond .lt 8, 3)) ∧ (decode cX11_read 19 = .ok (.bipush (-100), 2)) := by decide +kernel
theorem m_619 : Cond.code yX10_scan cX10_scan 2 (some .int) ∈ BW := iB_BW33 _ (List.mem_of_getElem? (i := 19) rfl)
theorem m_616 : Cond.methodLink RX11 227 yX10_scan ∈ BW := iB_BW33 _ (List.mem_of_getElem? (i := 16) rfl)
theorem m_617 : Cond.instanceMethod yX10_scan ∈ BW := iB_BW33 _ (List.mem_of_getElem? (i := 17) rfl)
theorem m_618 : Cond.selects RX10 yX10_scan yX10_scan ∈ BW := iB_BW33 _ (List.mem_of_getElem? (i := 18) rfl)
theorem si_X11_227 : SV RX11 RX10 227 yX10_scan cX10_scan 2 (some .int) 0 := ⟨⟨m_616, m_617, m_618, m_111, m_619⟩, rfl, nK_RX10.1, nK_RX10.2, pd_1⟩
theorem m_734 : Cond.code yX10_clear cX10_clear 1 none ∈ BW := iB_BW39 _ (List.mem_of_getElem? (i := 14) rfl)
theorem m_731 : Cond.methodLink RX11 230 yX10_clear ∈ BW := iB_BW39 _ (List.mem_of_getElem? (i := 11) rfl)
theorem m_732 : Cond.instanceMethod yX10_clear ∈ BW := iB_BW39 _ (List.mem_of_getElem? (i := 12) rfl)
theorem m_733 : Cond.selects RX10 yX10_clear yX10_clear ∈ BW := iB_BW39 _ (List.mem_of_getElem? (i := 13) rfl)
theorem si_X11_230 : SV RX11 RX10 230 yX10_clear cX10_clear 1 none 0 := ⟨⟨m_731, m_732, m_733, m_111, m_734⟩, rfl, nK_RX10.1, nK_RX10.2, pd_9⟩
theorem gX11_read_1 : (decode cX11_read 21 = .ok (.iload_n 1, 1)) ∧ (decode cX11_read 22 = .ok (.isub, 1)) ∧ (decode cX11_read 23 = .ok (.ireturn, 1)) ∧ (decode cX11_read 24 = .ok (.aload_n 0, 1)) ∧ (decode cX11_read 25 = .ok (.getfield 15, 3)) ∧ (decode cX11_read 28 = .ok (.getfield 233, 3)) ∧ (decode cX11_read 31 = .ok (.invokevirtual 111, 3)) ∧ (decode cX11_read 34 = .ok (.ifCond .eq 6, 3)) ∧ (decode cX11_read 37 = .ok (.bipush (-2), 2)) ∧ (decode cX11_read 39 = .ok (.ireturn, 1)) := by decide +kernel
theorem gX11_read_2 : (decode cX11_read 40 = .ok (.aload_n 0, 1)) ∧ (decode cX11_read 41 = .ok (.getfield 58, 3)) ∧ (decode cX11_read 44 = .ok (.aload_n 0, 1)) ∧ (decode cX11_read 45 = .ok (.getfield 15, 3)) ∧ (decode cX11_read 48 = .ok (.invokevirtual 236, 3)) ∧ (decode cX11_read 51 = .ok (.ireturn, 1)) := by decide +kernel
theorem m_738 : Cond.code yX10_store cX10_store 7 (some .int) ∈ BW := iB_BW39 _ (List.mem_of_getElem? (i := 18) rfl)
theorem pd_27 : (parseMethodDescriptor "(LInquiryBench$Book;)I").map (fun d => d.parameters.length) = some 1 := by decide +kernel
theorem m_735 : Cond.methodLink RX11 236 yX10_store ∈ BW := iB_BW39 _ (List.mem_of_getElem? (i := 15) rfl)
theorem m_736 : Cond.instanceMethod yX10_store ∈ BW := iB_BW39 _ (List.mem_of_getElem? (i := 16) rfl)
theorem m_737 : Cond.selects RX10 yX10_store yX10_store ∈ BW := iB_BW39 _ (List.mem_of_getElem? (i := 17) rfl)
theorem si_X11_236 : SV RX11 RX10 236 yX10_store cX10_store 7 (some .int) 1 := ⟨⟨m_735, m_736, m_737, m_111, m_738⟩, rfl, nK_RX10.1, nK_RX10.2, pd_27⟩
end WR
theorem sm_0_1_2_3_4_5_7_8_9_10_11 {a0 a1 a2 a3 a4 a5 a6 a7 a8 a9 a10 a11 : Nat × va_E} {l : va_W} : ([0, 1, 2, 3, 4, 5, 7, 8, 9, 10, 11] : List Nat).map (fun i => (a0 :: a1 :: a2 :: a3 :: a4 :: a5 :: a6 :: a7 :: a8 :: a9 :: a10 :: a11 :: l : va_W)[i]?) = ([a0, a1, a2, a3, a4, a5, a7, a8, a9, a10, a11] : va_W).map some := rfl
theorem nd_0_1_2_3_4_5_7_8_9_10_11 : va_nd [0, 1, 2, 3, 4, 5, 7, 8, 9, 10, 11] = true := by decide
theorem dj_6__0_1_2_3_4_5_7_8_9_10_11 : ∀ i ∈ ([0, 1, 2, 3, 4, 5, 7, 8, 9, 10, 11] : List Nat), i ∉ ([6] : List Nat) := by decide
theorem sm_11_6 {a0 a1 a2 a3 a4 a5 a6 a7 a8 a9 a10 a11 : Nat × va_E} {l : va_W} : ([11, 6] : List Nat).map (fun i => (a0 :: a1 :: a2 :: a3 :: a4 :: a5 :: a6 :: a7 :: a8 :: a9 :: a10 :: a11 :: l : va_W)[i]?) = ([a11, a6] : va_W).map some := rfl
theorem fm_11_6 {a0 a1 a2 a3 a4 a5 a6 a7 a8 a9 a10 a11 : Nat × va_E} {l : va_W} : ([11, 6] : List Nat).filterMap (fun i => (a0 :: a1 :: a2 :: a3 :: a4 :: a5 :: a6 :: a7 :: a8 :: a9 :: a10 :: a11 :: l : va_W)[i]?) = ([a11, a6] : va_W) := rfl
theorem nd_11_6 : va_nd [11, 6] = true := by decide
theorem sm_0_1_2_3_4_5_7_8_9_10 {a0 a1 a2 a3 a4 a5 a6 a7 a8 a9 a10 : Nat × va_E} {l : va_W} : ([0, 1, 2, 3, 4, 5, 7, 8, 9, 10] : List Nat).map (fun i => (a0 :: a1 :: a2 :: a3 :: a4 :: a5 :: a6 :: a7 :: a8 :: a9 :: a10 :: l : va_W)[i]?) = ([a0, a1, a2, a3, a4, a5, a7, a8, a9, a10] : va_W).map some := rfl
theorem nd_0_1_2_3_4_5_7_8_9_10 : va_nd [0, 1, 2, 3, 4, 5, 7, 8, 9, 10] = true := by decide
theorem dj_11_6__0_1_2_3_4_5_7_8_9_10 : ∀ i ∈ ([0, 1, 2, 3, 4, 5, 7, 8, 9, 10] : List Nat), i ∉ ([11, 6] : List Nat) := by decide
theorem sm_10_11 {a0 a1 a2 a3 a4 a5 a6 a7 a8 a9 a10 a11 : Nat × va_E} {l : va_W} : ([10, 11] : List Nat).map (fun i => (a0 :: a1 :: a2 :: a3 :: a4 :: a5 :: a6 :: a7 :: a8 :: a9 :: a10 :: a11 :: l : va_W)[i]?) = ([a10, a11] : va_W).map some := rfl
theorem fm_10_11 {a0 a1 a2 a3 a4 a5 a6 a7 a8 a9 a10 a11 : Nat × va_E} {l : va_W} : ([10, 11] : List Nat).filterMap (fun i => (a0 :: a1 :: a2 :: a3 :: a4 :: a5 :: a6 :: a7 :: a8 :: a9 :: a10 :: a11 :: l : va_W)[i]?) = ([a10, a11] : va_W) := rfl
theorem nd_10_11 : va_nd [10, 11] = true := by decide
theorem sm_0_1_2_3_4_5_6_7_8_9 {a0 a1 a2 a3 a4 a5 a6 a7 a8 a9 : Nat × va_E} {l : va_W} : ([0, 1, 2, 3, 4, 5, 6, 7, 8, 9] : List Nat).map (fun i => (a0 :: a1 :: a2 :: a3 :: a4 :: a5 :: a6 :: a7 :: a8 :: a9 :: l : va_W)[i]?) = ([a0, a1, a2, a3, a4, a5, a6, a7, a8, a9] : va_W).map some := rfl
theorem nd_0_1_2_3_4_5_6_7_8_9 : va_nd [0, 1, 2, 3, 4, 5, 6, 7, 8, 9] = true := by decide
theorem dj_10_11__0_1_2_3_4_5_6_7_8_9 : ∀ i ∈ ([0, 1, 2, 3, 4, 5, 6, 7, 8, 9] : List Nat), i ∉ ([10, 11] : List Nat) := by decide
theorem sm_0_1_2_3_4_5_6_7_9_10_11 {a0 a1 a2 a3 a4 a5 a6 a7 a8 a9 a10 a11 : Nat × va_E} {l : va_W} : ([0, 1, 2, 3, 4, 5, 6, 7, 9, 10, 11] : List Nat).map (fun i => (a0 :: a1 :: a2 :: a3 :: a4 :: a5 :: a6 :: a7 :: a8 :: a9 :: a10 :: a11 :: l : va_W)[i]?) = ([a0, a1, a2, a3, a4, a5, a6, a7, a9, a10, a11] : va_W).map some := rfl
theorem nd_0_1_2_3_4_5_6_7_9_10_11 : va_nd [0, 1, 2, 3, 4, 5, 6, 7, 9, 10, 11] = true := by decide
theorem dj_8__0_1_2_3_4_5_6_7_9_10_11 : ∀ i ∈ ([0, 1, 2, 3, 4, 5, 6, 7, 9, 10, 11] : List Nat), i ∉ ([8] : List Nat) := by decide
theorem sm_11_8 {a0 a1 a2 a3 a4 a5 a6 a7 a8 a9 a10 a11 : Nat × va_E} {l : va_W} : ([11, 8] : List Nat).map (fun i => (a0 :: a1 :: a2 :: a3 :: a4 :: a5 :: a6 :: a7 :: a8 :: a9 :: a10 :: a11 :: l : va_W)[i]?) = ([a11, a8] : va_W).map some := rfl
theorem fm_11_8 {a0 a1 a2 a3 a4 a5 a6 a7 a8 a9 a10 a11 : Nat × va_E} {l : va_W} : ([11, 8] : List Nat).filterMap (fun i => (a0 :: a1 :: a2 :: a3 :: a4 :: a5 :: a6 :: a7 :: a8 :: a9 :: a10 :: a11 :: l : va_W)[i]?) = ([a11, a8] : va_W) := rfl
theorem nd_11_8 : va_nd [11, 8] = true := by decide
theorem sm_0_1_2_3_4_5_6_7_9_10 {a0 a1 a2 a3 a4 a5 a6 a7 a8 a9 a10 : Nat × va_E} {l : va_W} : ([0, 1, 2, 3, 4, 5, 6, 7, 9, 10] : List Nat).map (fun i => (a0 :: a1 :: a2 :: a3 :: a4 :: a5 :: a6 :: a7 :: a8 :: a9 :: a10 :: l : va_W)[i]?) = ([a0, a1, a2, a3, a4, a5, a6, a7, a9, a10] : va_W).map some := rfl
theorem nd_0_1_2_3_4_5_6_7_9_10 : va_nd [0, 1, 2, 3, 4, 5, 6, 7, 9, 10] = true := by decide
theorem dj_11_8__0_1_2_3_4_5_6_7_9_10 : ∀ i ∈ ([0, 1, 2, 3, 4, 5, 6, 7, 9, 10] : List Nat), i ∉ ([11, 8] : List Nat) := by decide
theorem fm_0_1_2_3_4_5_10_11_6_7_8_9 {a0 a1 a2 a3 a4 a5 a6 a7 a8 a9 a10 a11 : Nat × va_E} {l : va_W} : ([0, 1, 2, 3, 4, 5, 10, 11, 6, 7, 8, 9] : List Nat).filterMap (fun i => (a0 :: a1 :: a2 :: a3 :: a4 :: a5 :: a6 :: a7 :: a8 :: a9 :: a10 :: a11 :: l : va_W)[i]?) = ([a0, a1, a2, a3, a4, a5, a10, a11, a6, a7, a8, a9] : va_W) := rfl
theorem nd_0_1_2_3_4_5_10_11_6_7_8_9 : va_nd [0, 1, 2, 3, 4, 5, 10, 11, 6, 7, 8, 9] = true := by decide
theorem sm_0_1_2_3_4_5_10_11_6_7_8_9 {a0 a1 a2 a3 a4 a5 a6 a7 a8 a9 a10 a11 : Nat × va_E} {l : va_W} : ([0, 1, 2, 3, 4, 5, 10, 11, 6, 7, 8, 9] : List Nat).map (fun i => (a0 :: a1 :: a2 :: a3 :: a4 :: a5 :: a6 :: a7 :: a8 :: a9 :: a10 :: a11 :: l : va_W)[i]?) = ([a0, a1, a2, a3, a4, a5, a10, a11, a6, a7, a8, a9] : va_W).map some := rfl
theorem rm_33_31_2 {mc ms : Nat} : 31 + 1 ≤ (RM 33 mc ms).frames ∧ 8 + (2 + 11) + 40 * 31 ≤ (RM 33 mc ms).locals := ⟨by show 31 + 1 ≤ 33; decide, by show 8 + (2 + 11) + 40 * 31 ≤ 40 * 33; decide⟩
theorem sm_1_2_3_4_5_6 {a0 a1 a2 a3 a4 a5 a6 : Nat × va_E} {l : va_W} : ([1, 2, 3, 4, 5, 6] : List Nat).map (fun i => (a0 :: a1 :: a2 :: a3 :: a4 :: a5 :: a6 :: l : va_W)[i]?) = ([a1, a2, a3, a4, a5, a6] : va_W).map some := rfl
theorem fm_1_2_3_4_5_6 {a0 a1 a2 a3 a4 a5 a6 : Nat × va_E} {l : va_W} : ([1, 2, 3, 4, 5, 6] : List Nat).filterMap (fun i => (a0 :: a1 :: a2 :: a3 :: a4 :: a5 :: a6 :: l : va_W)[i]?) = ([a1, a2, a3, a4, a5, a6] : va_W) := rfl
theorem nd_1_2_3_4_5_6 : va_nd [1, 2, 3, 4, 5, 6] = true := by decide
theorem sm_0_7_8_9_10_11_12_13 {a0 a1 a2 a3 a4 a5 a6 a7 a8 a9 a10 a11 a12 a13 : Nat × va_E} {l : va_W} : ([0, 7, 8, 9, 10, 11, 12, 13] : List Nat).map (fun i => (a0 :: a1 :: a2 :: a3 :: a4 :: a5 :: a6 :: a7 :: a8 :: a9 :: a10 :: a11 :: a12 :: a13 :: l : va_W)[i]?) = ([a0, a7, a8, a9, a10, a11, a12, a13] : va_W).map some := rfl
theorem nd_0_7_8_9_10_11_12_13 : va_nd [0, 7, 8, 9, 10, 11, 12, 13] = true := by decide
theorem dj_1_2_3_4_5_6__0_7_8_9_10_11_12_13 : ∀ i ∈ ([0, 7, 8, 9, 10, 11, 12, 13] : List Nat), i ∉ ([1, 2, 3, 4, 5, 6] : List Nat) := by decide
theorem rm_33_1_1 {mc ms : Nat} : 1 + 1 ≤ (RM 33 mc ms).frames ∧ 8 + (1 + 11) + 40 * 1 ≤ (RM 33 mc ms).locals := ⟨by show 1 + 1 ≤ 33; decide, by show 8 + (1 + 11) + 40 * 1 ≤ 40 * 33; decide⟩
theorem sm_0_1_2_3_4_5_6_7_9_10_11_12_13 {a0 a1 a2 a3 a4 a5 a6 a7 a8 a9 a10 a11 a12 a13 : Nat × va_E} {l : va_W} : ([0, 1, 2, 3, 4, 5, 6, 7, 9, 10, 11, 12, 13] : List Nat).map (fun i => (a0 :: a1 :: a2 :: a3 :: a4 :: a5 :: a6 :: a7 :: a8 :: a9 :: a10 :: a11 :: a12 :: a13 :: l : va_W)[i]?) = ([a0, a1, a2, a3, a4, a5, a6, a7, a9, a10, a11, a12, a13] : va_W).map some := rfl
theorem nd_0_1_2_3_4_5_6_7_9_10_11_12_13 : va_nd [0, 1, 2, 3, 4, 5, 6, 7, 9, 10, 11, 12, 13] = true := by decide
theorem dj_8__0_1_2_3_4_5_6_7_9_10_11_12_13 : ∀ i ∈ ([0, 1, 2, 3, 4, 5, 6, 7, 9, 10, 11, 12, 13] : List Nat), i ∉ ([8] : List Nat) := by decide
theorem rm_33_3_7 {mc ms : Nat} : 3 + 1 ≤ (RM 33 mc ms).frames ∧ 8 + (7 + 11) + 40 * 3 ≤ (RM 33 mc ms).locals := ⟨by show 3 + 1 ≤ 33; decide, by show 8 + (7 + 11) + 40 * 3 ≤ 40 * 33; decide⟩
theorem sm_13_9_10_11_12_1_2_3_4_5_6_7 {a0 a1 a2 a3 a4 a5 a6 a7 a8 a9 a10 a11 a12 a13 : Nat × va_E} {l : va_W} : ([13, 9, 10, 11, 12, 1, 2, 3, 4, 5, 6, 7] : List Nat).map (fun i => (a0 :: a1 :: a2 :: a3 :: a4 :: a5 :: a6 :: a7 :: a8 :: a9 :: a10 :: a11 :: a12 :: a13 :: l : va_W)[i]?) = ([a13, a9, a10, a11, a12, a1, a2, a3, a4, a5, a6, a7] : va_W).map some := rfl
theorem fm_13_9_10_11_12_1_2_3_4_5_6_7 {a0 a1 a2 a3 a4 a5 a6 a7 a8 a9 a10 a11 a12 a13 : Nat × va_E} {l : va_W} : ([13, 9, 10, 11, 12, 1, 2, 3, 4, 5, 6, 7] : List Nat).filterMap (fun i => (a0 :: a1 :: a2 :: a3 :: a4 :: a5 :: a6 :: a7 :: a8 :: a9 :: a10 :: a11 :: a12 :: a13 :: l : va_W)[i]?) = ([a13, a9, a10, a11, a12, a1, a2, a3, a4, a5, a6, a7] : va_W) := rfl
theorem nd_13_9_10_11_12_1_2_3_4_5_6_7 : va_nd [13, 9, 10, 11, 12, 1, 2, 3, 4, 5, 6, 7] = true := by decide
theorem sm_0_8 {a0 a1 a2 a3 a4 a5 a6 a7 a8 : Nat × va_E} {l : va_W} : ([0, 8] : List Nat).map (fun i => (a0 :: a1 :: a2 :: a3 :: a4 :: a5 :: a6 :: a7 :: a8 :: l : va_W)[i]?) = ([a0, a8] : va_W).map some := rfl
theorem nd_0_8 : va_nd [0, 8] = true := by decide
theorem dj_13_9_10_11_12_1_2_3_4_5_6_7__0_8 : ∀ i ∈ ([0, 8] : List Nat), i ∉ ([13, 9, 10, 11, 12, 1, 2, 3, 4, 5, 6, 7] : List Nat) := by decide
def K_t_store (l : Launch) (G : GG) (h0 : Nat) (bb : Nat) (tby : Nat) (kt : Nat) (tln : Nat) (tsp : Nat) (tkd : Int32) (ts9 : Int32) (tn9 : Int32) (tf9 : Int32) (tlnc : Nat) (kln : Nat) (ftln : Nat → Int32) (tspc : Nat) (ksp : Nat) (ftsp : Nat → Int32) (bpersons : Nat) (bpapers : Nat) (bstamps : Nat) (bversions : Nat) (blines : Nat) (bsteps : Nat) (bsayings : Nat) (bfindings : Nat) (bwarnings : Nat) (bquestions : Nat) (td : Int32) (vd : Int32) (vl : Int32) (gp : Int32) (bversionsc : Nat) (kbversions : Nat) (fbversions : Nat → Int32) (blinesc : Nat) (kblines : Nat) (fblines : Nat → Int32) (bstepsc : Nat) (kbsteps : Nat) (fbsteps : Nat → Int32) : Prop := MI l G yX10_store cX10_store 7 (some .int) 3 0 0 [.ref h0, .ref bb] [(h0, oX10 tby (nI kt) tln tsp tkd ts9 tn9 tf9), (tln, oX8 9 7 tlnc (nI kln)), (tlnc, iA G 63 ftln), (tsp, oX8 120 1 tspc (nI ksp)), (tspc, iA G 120 ftsp), (bb, oX0 bpersons bpapers bstamps bversions blines bsteps bsayings bfindings bwarnings bquestions td vd vl gp), (bversions, oX8 8 3 bversionsc (nI kbversions)), (bversionsc, iA G 24 fbversions), (blines, oX8 72 7 blinesc (nI kblines)), (blinesc, iA G 504 fblines), (bsteps, oX8 960 1 bstepsc (nI kbsteps)), (bstepsc, iA G 960 fbsteps)] (fun (r : Int32) (u : (Nat → Int32) × (Nat → Int32)) => (r = nI kbversions) ∧ (CPLN kblines kbsteps ftln fblines kln u.1 ∧ CPST kbsteps ftsp fbsteps ksp u.2)) (fun u : (Nat → Int32) × (Nat → Int32) => [(h0, oX10 tby (nI kt) tln tsp tkd ts9 tn9 tf9), (tln, oX8 9 7 tlnc (nI kln)), (tlnc, iA G 63 ftln), (tsp, oX8 120 1 tspc (nI ksp)), (tspc, iA G 120 ftsp), (bb, oX0 bpersons bpapers bstamps bversions blines bsteps bsayings bfindings bwarnings bquestions td vd vl gp), (bversions, oX8 8 3 bversionsc (nI (kbversions + 1))), (bversionsc, iA G 24 (upd (upd (upd fbversions (kbversions * 3) td) (kbversions * 3 + 1) (nI kblines)) (kbversions * 3 + 2) (nI kln))), (blines, oX8 72 7 blinesc (nI (kblines + kln))), (blinesc, iA G 504 u.1), (bsteps, oX8 960 1 bstepsc (nI (kbsteps + ksp))), (bstepsc, iA G 960 u.2)])
set_option maxHeartbeats 4000000 in
set_option maxRecDepth 100000 in
theorem t_store (l : Launch) (G : GG) (h0 : Nat) (bb : Nat) (tby : Nat) (kt : Nat) (tln : Nat) (tsp : Nat) (tkd : Int32) (ts9 : Int32) (tn9 : Int32) (tf9 : Int32) (tlnc : Nat) (kln : Nat) (ftln : Nat → Int32) (tspc : Nat) (ksp : Nat) (ftsp : Nat → Int32) (bpersons : Nat) (bpapers : Nat) (bstamps : Nat) (bversions : Nat) (blines : Nat) (bsteps : Nat) (bsayings : Nat) (bfindings : Nat) (bwarnings : Nat) (bquestions : Nat) (td : Int32) (vd : Int32) (vl : Int32) (gp : Int32) (bversionsc : Nat) (kbversions : Nat) (fbversions : Nat → Int32) (blinesc : Nat) (kblines : Nat) (fblines : Nat → Int32) (bstepsc : Nat) (kbsteps : Nat) (fbsteps : Nat → Int32) (hkln : kln ≤ 9) (hksp : ksp ≤ 120) (hkbv : kbversions < 8) (hlr : kblines + kln ≤ 72) (hsr : kbsteps + ksp ≤ 960) : K_t_store l G h0 bb tby kt tln tsp tkd ts9 tn9 tf9 tlnc kln ftln tspc ksp ftsp bpersons bpapers bstamps bversions blines bsteps bsayings bfindings bwarnings bquestions td vd vl gp bversionsc kbversions fbversions blinesc kblines fblines bstepsc kbsteps fbsteps := by
  refine MI.start (by decide +kernel) (Nat.le_of_ble_eq_true rfl) ?_
  intro p e s m below meth c A ls hC hK hP hD hS hA hl
  refine absQ (fun Q0 hQ0 => ?_)
  have hl : lv_has ls 7 [(0, .ref h0), (1, .ref bb)] := hl
  refine Kan8 hC (fun hx hb hr hml hB hown hlocks hnm => ?_)
  refine lv_aload_n hx hb gX10_store_0.1 rfl (lv_at1 hl) ?_
  refine gf_X10_54 hC rfl hK hP 5 rfl rfl gX10_store_0.2.1 ?_
  refine iV (wr := [(h0, oX10 tby (nI kt) tln tsp tkd ts9 tn9 tf9), (tln, oX8 9 7 tlnc (nI kln)), (tlnc, iA G 63 ftln), (tsp, oX8 120 1 tspc (nI ksp)), (tspc, iA G 120 ftsp), (bb, oX0 bpersons bpapers bstamps bversions blines bsteps bsayings bfindings bwarnings bquestions td vd vl gp), (bversionsc, iA G 24 fbversions), (blines, oX8 72 7 blinesc (nI kblines)), (blinesc, iA G 504 fblines), (bsteps, oX8 960 1 bstepsc (nI kbsteps)), (bstepsc, iA G 960 fbsteps)]) hC hK hl hP hD hS hA (c_T_append l G bversions 8 3 bversionsc kbversions (hkbv) (by omega)) si_X10_59 [6] [0, 1, 2, 3, 4, 5, 7, 8, 9, 10, 11] sm_6 fm_6 nd_6 sm_0_1_2_3_4_5_7_8_9_10_11 nd_0_1_2_3_4_5_7_8_9_10_11 dj_6__0_1_2_3_4_5_7_8_9_10_11 rfl rfl rfl rfl rfl (Nat.le_of_ble_eq_true rfl) rm_3_1_1 ⟨Nat.le_of_ble_eq_true rfl, Nat.le_of_ble_eq_true rfl⟩ gX10_store_0.2.2.1 (fun r3521 u3522 H locs hr3521 hP hD hS => ?_)
  refine Kpdr (ws := [(h0, oX10 tby (nI kt) tln tsp tkd ts9 tn9 tf9), (tln, oX8 9 7 tlnc (nI kln)), (tlnc, iA G 63 ftln), (tsp, oX8 120 1 tspc (nI ksp)), (tspc, iA G 120 ftsp), (bb, oX0 bpersons bpapers bstamps bversions blines bsteps bsayings bfindings bwarnings bquestions td vd vl gp), (bversionsc, iA G 24 fbversions), (blines, oX8 72 7 blinesc (nI kblines)), (blinesc, iA G 504 fblines), (bsteps, oX8 960 1 bstepsc (nI kbsteps)), (bstepsc, iA G 960 fbsteps), (bversions, oX8 8 3 bversionsc (nI (kbversions + 1)))]) hP hD (fun hP hD => ?_)
  obtain rfl := hr3521
  refine lv_istore_n (lv' := [(2, .int (nI kbversions)), (0, .ref h0), (1, .ref bb)]) hx hb gX10_store_0.2.2.2.1 rfl hl (by decide) rfl (fun ls hl => ?_)
  refine lv_aload_n hx hb gX10_store_0.2.2.2.2.1 rfl (lv_at2 hl) ?_
  refine gf_X10_54 hC rfl hK hP 5 rfl rfl gX10_store_0.2.2.2.2.2.1 ?_
  refine lv_iload_n hx hb gX10_store_0.2.2.2.2.2.2.1 rfl (lv_at0 hl) ?_
  refine lv_iconst (v := 0) hx hb gX10_store_0.2.2.2.2.2.2.2.1 (by decide) ?_
  refine lv_aload_n hx hb gX10_store_0.2.2.2.2.2.2.2.2.1 rfl (lv_at2 hl) ?_
  refine gf_X10_63 hC rfl hK hP 5 rfl rfl gX10_store_0.2.2.2.2.2.2.2.2.2 ?_
  refine vV (wr := [(h0, oX10 tby (nI kt) tln tsp tkd ts9 tn9 tf9), (tln, oX8 9 7 tlnc (nI kln)), (tlnc, iA G 63 ftln), (tsp, oX8 120 1 tspc (nI ksp)), (tspc, iA G 120 ftsp), (bb, oX0 bpersons bpapers bstamps bversions blines bsteps bsayings bfindings bwarnings bquestions td vd vl gp), (blines, oX8 72 7 blinesc (nI kblines)), (blinesc, iA G 504 fblines), (bsteps, oX8 960 1 bstepsc (nI kbsteps)), (bstepsc, iA G 960 fbsteps)]) hC hK hl hP hD hS hA (c_T_set l G bversions (nI kbversions) 0 td 8 3 bversionsc (kbversions + 1) fbversions (by omega) (by omega) (by omega)) si_X10_66 [11, 6] [0, 1, 2, 3, 4, 5, 7, 8, 9, 10] sm_11_6 fm_11_6 nd_11_6 sm_0_1_2_3_4_5_7_8_9_10 nd_0_1_2_3_4_5_7_8_9_10 dj_11_6__0_1_2_3_4_5_7_8_9_10 rfl rfl rfl rfl rfl (Nat.le_of_ble_eq_true rfl) rm_3_1_4 ⟨Nat.le_of_ble_eq_true rfl, Nat.le_of_ble_eq_true rfl⟩ gX10_store_1.1 (fun f13526 H locs hr3524 hP hD hS => ?_)
  try dsimp only at hr3524
  refine Kpdr (ws := [(h0, oX10 tby (nI kt) tln tsp tkd ts9 tn9 tf9), (tln, oX8 9 7 tlnc (nI kln)), (tlnc, iA G 63 ftln), (tsp, oX8 120 1 tspc (nI ksp)), (tspc, iA G 120 ftsp), (bb, oX0 bpersons bpapers bstamps bversions blines bsteps bsayings bfindings bwarnings bquestions td vd vl gp), (blines, oX8 72 7 blinesc (nI kblines)), (blinesc, iA G 504 fblines), (bsteps, oX8 960 1 bstepsc (nI kbsteps)), (bstepsc, iA G 960 fbsteps), (bversions, oX8 8 3 bversionsc (nI (kbversions + 1))), (bversionsc, iA G 24 f13526)]) hP hD (fun hP hD => ?_)
  have w3527 := hr3524
  obtain rfl : upd fbversions (kbversions * 3) td = f13526 := ((tsj (j := kbversions) (c := 0) (by omega) (by omega) (by omega) (by decide) rfl).symm.trans w3527)
  refine Kpdr (ws := [(h0, oX10 tby (nI kt) tln tsp tkd ts9 tn9 tf9), (tln, oX8 9 7 tlnc (nI kln)), (tlnc, iA G 63 ftln), (tsp, oX8 120 1 tspc (nI ksp)), (tspc, iA G 120 ftsp), (bb, oX0 bpersons bpapers bstamps bversions blines bsteps bsayings bfindings bwarnings bquestions td vd vl gp), (blines, oX8 72 7 blinesc (nI kblines)), (blinesc, iA G 504 fblines), (bsteps, oX8 960 1 bstepsc (nI kbsteps)), (bstepsc, iA G 960 fbsteps), (bversions, oX8 8 3 bversionsc (nI (kbversions + 1))), (bversionsc, iA G 24 (upd fbversions (kbversions * 3) td))]) hP hD (fun hP hD => ?_)
  refine lv_aload_n hx hb gX10_store_1.2.1 rfl (lv_at2 hl) ?_
  refine gf_X10_54 hC rfl hK hP 5 rfl rfl gX10_store_1.2.2.1 ?_
  refine lv_iload_n hx hb gX10_store_1.2.2.2.1 rfl (lv_at0 hl) ?_
  refine lv_iconst (v := 1) hx hb gX10_store_1.2.2.2.2.1 (by decide) ?_
  refine lv_aload_n hx hb gX10_store_1.2.2.2.2.2.1 rfl (lv_at2 hl) ?_
  refine gf_X10_70 hC rfl hK hP 5 rfl rfl gX10_store_1.2.2.2.2.2.2.1 ?_
  refine pV hC hK hl hP hD (c_T_count l G blines 72 7 blinesc kblines) si_X10_71 [6] sm_6 fm_6 nd_6 rfl rfl rfl rfl rfl (Nat.le_of_ble_eq_true rfl) rm_3_1_1 ⟨by first | exact Nat.le_of_ble_eq_true rfl | exact Nat.zero_le _, by first | exact Nat.le_of_ble_eq_true rfl | exact Nat.zero_le _⟩ gX10_store_1.2.2.2.2.2.2.2.1 (Keqr ?_)
  refine vV (wr := [(h0, oX10 tby (nI kt) tln tsp tkd ts9 tn9 tf9), (tln, oX8 9 7 tlnc (nI kln)), (tlnc, iA G 63 ftln), (tsp, oX8 120 1 tspc (nI ksp)), (tspc, iA G 120 ftsp), (bb, oX0 bpersons bpapers bstamps bversions blines bsteps bsayings bfindings bwarnings bquestions td vd vl gp), (blines, oX8 72 7 blinesc (nI kblines)), (blinesc, iA G 504 fblines), (bsteps, oX8 960 1 bstepsc (nI kbsteps)), (bstepsc, iA G 960 fbsteps)]) hC hK hl hP hD hS hA (c_T_set l G bversions (nI kbversions) 1 (nI kblines) 8 3 bversionsc (kbversions + 1) (upd fbversions (kbversions * 3) td) (by omega) (by omega) (by omega)) si_X10_66 [10, 11] [0, 1, 2, 3, 4, 5, 6, 7, 8, 9] sm_10_11 fm_10_11 nd_10_11 sm_0_1_2_3_4_5_6_7_8_9 nd_0_1_2_3_4_5_6_7_8_9 dj_10_11__0_1_2_3_4_5_6_7_8_9 rfl rfl rfl rfl rfl (Nat.le_of_ble_eq_true rfl) rm_3_1_4 ⟨Nat.le_of_ble_eq_true rfl, Nat.le_of_ble_eq_true rfl⟩ gX10_store_1.2.2.2.2.2.2.2.2.1 (fun f13532 H locs hr3530 hP hD hS => ?_)
  try dsimp only at hr3530
  refine Kpdr (ws := [(h0, oX10 tby (nI kt) tln tsp tkd ts9 tn9 tf9), (tln, oX8 9 7 tlnc (nI kln)), (tlnc, iA G 63 ftln), (tsp, oX8 120 1 tspc (nI ksp)), (tspc, iA G 120 ftsp), (bb, oX0 bpersons bpapers bstamps bversions blines bsteps bsayings bfindings bwarnings bquestions td vd vl gp), (blines, oX8 72 7 blinesc (nI kblines)), (blinesc, iA G 504 fblines), (bsteps, oX8 960 1 bstepsc (nI kbsteps)), (bstepsc, iA G 960 fbsteps), (bversions, oX8 8 3 bversionsc (nI (kbversions + 1))), (bversionsc, iA G 24 f13532)]) hP hD (fun hP hD => ?_)
  have w3533 := hr3530
  obtain rfl : upd (upd fbversions (kbversions * 3) td) (kbversions * 3 + 1) (nI kblines) = f13532 := ((tsj (j := kbversions) (c := 1) (by omega) (by omega) (by omega) (by decide) rfl).symm.trans w3533)
  refine Kpdr (ws := [(h0, oX10 tby (nI kt) tln tsp tkd ts9 tn9 tf9), (tln, oX8 9 7 tlnc (nI kln)), (tlnc, iA G 63 ftln), (tsp, oX8 120 1 tspc (nI ksp)), (tspc, iA G 120 ftsp), (bb, oX0 bpersons bpapers bstamps bversions blines bsteps bsayings bfindings bwarnings bquestions td vd vl gp), (blines, oX8 72 7 blinesc (nI kblines)), (blinesc, iA G 504 fblines), (bsteps, oX8 960 1 bstepsc (nI kbsteps)), (bstepsc, iA G 960 fbsteps), (bversions, oX8 8 3 bversionsc (nI (kbversions + 1))), (bversionsc, iA G 24 (upd (upd fbversions (kbversions * 3) td) (kbversions * 3 + 1) (nI kblines)))]) hP hD (fun hP hD => ?_)
  refine lv_aload_n hx hb gX10_store_1.2.2.2.2.2.2.2.2.2 rfl (lv_at2 hl) ?_
  refine gf_X10_54 hC rfl hK hP 5 rfl rfl gX10_store_2.1 ?_
  refine lv_iload_n hx hb gX10_store_2.2.1 rfl (lv_at0 hl) ?_
  refine lv_iconst (v := 2) hx hb gX10_store_2.2.2.1 (by decide) ?_
  refine lv_aload_n hx hb gX10_store_2.2.2.2.1 rfl (lv_at1 hl) ?_
  refine gf_X10_20 hC rfl hK hP 0 rfl rfl gX10_store_2.2.2.2.2.1 ?_
  refine pV hC hK hl hP hD (c_T_count l G tln 9 7 tlnc kln) si_X10_71 [1] sm_1 fm_1 nd_1 rfl rfl rfl rfl rfl (Nat.le_of_ble_eq_true rfl) rm_3_1_1 ⟨by first | exact Nat.le_of_ble_eq_true rfl | exact Nat.zero_le _, by first | exact Nat.le_of_ble_eq_true rfl | exact Nat.zero_le _⟩ gX10_store_2.2.2.2.2.2.1 (Keqr ?_)
  refine vV (wr := [(h0, oX10 tby (nI kt) tln tsp tkd ts9 tn9 tf9), (tln, oX8 9 7 tlnc (nI kln)), (tlnc, iA G 63 ftln), (tsp, oX8 120 1 tspc (nI ksp)), (tspc, iA G 120 ftsp), (bb, oX0 bpersons bpapers bstamps bversions blines bsteps bsayings bfindings bwarnings bquestions td vd vl gp), (blines, oX8 72 7 blinesc (nI kblines)), (blinesc, iA G 504 fblines), (bsteps, oX8 960 1 bstepsc (nI kbsteps)), (bstepsc, iA G 960 fbsteps)]) hC hK hl hP hD hS hA (c_T_set l G bversions (nI kbversions) 2 (nI kln) 8 3 bversionsc (kbversions + 1) (upd (upd fbversions (kbversions * 3) td) (kbversions * 3 + 1) (nI kblines)) (by omega) (by omega) (by omega)) si_X10_66 [10, 11] [0, 1, 2, 3, 4, 5, 6, 7, 8, 9] sm_10_11 fm_10_11 nd_10_11 sm_0_1_2_3_4_5_6_7_8_9 nd_0_1_2_3_4_5_6_7_8_9 dj_10_11__0_1_2_3_4_5_6_7_8_9 rfl rfl rfl rfl rfl (Nat.le_of_ble_eq_true rfl) rm_3_1_4 ⟨Nat.le_of_ble_eq_true rfl, Nat.le_of_ble_eq_true rfl⟩ gX10_store_2.2.2.2.2.2.2.1 (fun f13538 H locs hr3536 hP hD hS => ?_)
  try dsimp only at hr3536
  refine Kpdr (ws := [(h0, oX10 tby (nI kt) tln tsp tkd ts9 tn9 tf9), (tln, oX8 9 7 tlnc (nI kln)), (tlnc, iA G 63 ftln), (tsp, oX8 120 1 tspc (nI ksp)), (tspc, iA G 120 ftsp), (bb, oX0 bpersons bpapers bstamps bversions blines bsteps bsayings bfindings bwarnings bquestions td vd vl gp), (blines, oX8 72 7 blinesc (nI kblines)), (blinesc, iA G 504 fblines), (bsteps, oX8 960 1 bstepsc (nI kbsteps)), (bstepsc, iA G 960 fbsteps), (bversions, oX8 8 3 bversionsc (nI (kbversions + 1))), (bversionsc, iA G 24 f13538)]) hP hD (fun hP hD => ?_)
  have w3539 := hr3536
  obtain rfl : upd (upd (upd fbversions (kbversions * 3) td) (kbversions * 3 + 1) (nI kblines)) (kbversions * 3 + 2) (nI kln) = f13538 := ((tsj (j := kbversions) (c := 2) (by omega) (by omega) (by omega) (by decide) rfl).symm.trans w3539)
  refine Kpdr (ws := [(h0, oX10 tby (nI kt) tln tsp tkd ts9 tn9 tf9), (tln, oX8 9 7 tlnc (nI kln)), (tlnc, iA G 63 ftln), (tsp, oX8 120 1 tspc (nI ksp)), (tspc, iA G 120 ftsp), (bb, oX0 bpersons bpapers bstamps bversions blines bsteps bsayings bfindings bwarnings bquestions td vd vl gp), (blines, oX8 72 7 blinesc (nI kblines)), (blinesc, iA G 504 fblines), (bsteps, oX8 960 1 bstepsc (nI kbsteps)), (bstepsc, iA G 960 fbsteps), (bversions, oX8 8 3 bversionsc (nI (kbversions + 1))), (bversionsc, iA G 24 (upd (upd (upd fbversions (kbversions * 3) td) (kbversions * 3 + 1) (nI kblines)) (kbversions * 3 + 2) (nI kln)))]) hP hD (fun hP hD => ?_)
  refine lv_aload_n hx hb gX10_store_2.2.2.2.2.2.2.2.1 rfl (lv_at2 hl) ?_
  refine gf_X10_73 hC rfl hK hP 5 rfl rfl gX10_store_2.2.2.2.2.2.2.2.2.1 ?_
  refine pV hC hK hl hP hD (c_T_count l G bsteps 960 1 bstepsc kbsteps) si_X10_71 [8] sm_8 fm_8 nd_8 rfl rfl rfl rfl rfl (Nat.le_of_ble_eq_true rfl) rm_3_1_1 ⟨by first | exact Nat.le_of_ble_eq_true rfl | exact Nat.zero_le _, by first | exact Nat.le_of_ble_eq_true rfl | exact Nat.zero_le _⟩ gX10_store_2.2.2.2.2.2.2.2.2.2 (Keqr ?_)
  refine lv_istore_n (lv' := [(3, .int (nI kbsteps)), (2, .int (nI kbversions)), (0, .ref h0), (1, .ref bb)]) hx hb gX10_store_3.1 rfl hl (by decide) rfl (fun ls hl => ?_)
  refine lv_iconst (v := 0) hx hb gX10_store_3.2.1 (by decide) ?_
  refine lv_istore (lv' := [(4, .int 0), (3, .int (nI kbsteps)), (2, .int (nI kbversions)), (0, .ref h0), (1, .ref bb)]) hx hb gX10_store_3.2.2.1 hl (by decide) rfl (fun ls hl => ?_)
  have keyP : ∀ (nP kP : Nat) (vbl : Nat → Int32) (H : Heap) (locs : List Loc) (ls : Array Slot), kP + nP = kln → (CPLN kblines kbsteps ftln fblines kP vbl) → va_PD G A [(h0, oX10 tby (nI kt) tln tsp tkd ts9 tn9 tf9), (tln, oX8 9 7 tlnc (nI kln)), (tlnc, iA G 63 ftln), (tsp, oX8 120 1 tspc (nI ksp)), (tspc, iA G 120 ftsp), (bb, oX0 bpersons bpapers bstamps bversions blines bsteps bsayings bfindings bwarnings bquestions td vd vl gp), (blines, oX8 72 7 blinesc (nI (kblines + kP))), (blinesc, iA G 504 vbl), (bsteps, oX8 960 1 bstepsc (nI kbsteps)), (bstepsc, iA G 960 fbsteps), (bversions, oX8 8 3 bversionsc (nI (kbversions + 1))), (bversionsc, iA G 24 (upd (upd (upd fbversions (kbversions * 3) td) (kbversions * 3 + 1) (nI kblines)) (kbversions * 3 + 2) (nI kln)))] H → va_S A s.heap H locs → lv_has ls 7 [(4, .int (nI kP)), (3, .int (nI kbsteps)), (2, .int (nI kbversions)), (0, .ref h0), (1, .ref bb)] → W p l e (RM 3 0 0) s m ([.ref h0, .ref bb] : List Value).toArray below meth c H locs 0 0 Q0 (F0 m 64 ls []) := by
    intro nP
    induction nP with
    | zero =>
      intro kP vbl H locs ls hkP hcl hPD hS hl
      refine Kan2 hPD (fun hP hD => ?_)
      obtain rfl : kln = kP := by omega
      refine Kpdr (ws := [(h0, oX10 tby (nI kt) tln tsp tkd ts9 tn9 tf9), (tln, oX8 9 7 tlnc (nI kln)), (tlnc, iA G 63 ftln), (tsp, oX8 120 1 tspc (nI ksp)), (tspc, iA G 120 ftsp), (bb, oX0 bpersons bpapers bstamps bversions blines bsteps bsayings bfindings bwarnings bquestions td vd vl gp), (blines, oX8 72 7 blinesc (nI (kblines + kln))), (blinesc, iA G 504 vbl), (bsteps, oX8 960 1 bstepsc (nI kbsteps)), (bstepsc, iA G 960 fbsteps), (bversions, oX8 8 3 bversionsc (nI (kbversions + 1))), (bversionsc, iA G 24 (upd (upd (upd fbversions (kbversions * 3) td) (kbversions * 3 + 1) (nI kblines)) (kbversions * 3 + 2) (nI kln)))]) hP hD (fun hP hD => ?_)
      have hl : lv_has ls 7 [(4, .int (nI kln)), (3, .int (nI kbsteps)), (2, .int (nI kbversions)), (0, .ref h0), (1, .ref bb)] := hl
      refine lv_iload hx hb gX10_store_3.2.2.2.1 (lv_at0 hl) ?_
      refine lv_aload_n hx hb gX10_store_3.2.2.2.2.1 rfl (lv_at3 hl) ?_
      refine gf_X10_20 hC rfl hK hP 0 rfl rfl gX10_store_3.2.2.2.2.2.1 ?_
      refine pV hC hK hl hP hD (c_T_count l G tln 9 7 tlnc kln) si_X10_71 [1] sm_1 fm_1 nd_1 rfl rfl rfl rfl rfl (Nat.le_of_ble_eq_true rfl) rm_3_1_1 ⟨by first | exact Nat.le_of_ble_eq_true rfl | exact Nat.zero_le _, by first | exact Nat.le_of_ble_eq_true rfl | exact Nat.zero_le _⟩ gX10_store_3.2.2.2.2.2.2.1 (Keqr ?_)
      refine lv_icmp_ge (tgt := 151) hx hb gX10_store_3.2.2.2.2.2.2.2.1 (by decide) (fun _ => ?_) (fun c9 => absurd (Int32.le_refl _) c9)
      refine lv_iconst (v := 0) hx hb gX10_store_7.2.2.2.1 (by decide) ?_
      refine lv_istore (lv' := [(4, .int 0), (3, .int (nI kbsteps)), (2, .int (nI kbversions)), (0, .ref h0), (1, .ref bb)]) hx hb gX10_store_7.2.2.2.2.1 hl (by decide) rfl (fun ls hl => ?_)
      have keyQ : ∀ (nQ kQ : Nat) (vbs : Nat → Int32) (H : Heap) (locs : List Loc) (ls : Array Slot), kQ + nQ = ksp → (CPST kbsteps ftsp fbsteps kQ vbs) → va_PD G A [(h0, oX10 tby (nI kt) tln tsp tkd ts9 tn9 tf9), (tln, oX8 9 7 tlnc (nI kln)), (tlnc, iA G 63 ftln), (tsp, oX8 120 1 tspc (nI ksp)), (tspc, iA G 120 ftsp), (bb, oX0 bpersons bpapers bstamps bversions blines bsteps bsayings bfindings bwarnings bquestions td vd vl gp), (blines, oX8 72 7 blinesc (nI (kblines + kln))), (blinesc, iA G 504 vbl), (bsteps, oX8 960 1 bstepsc (nI (kbsteps + kQ))), (bstepsc, iA G 960 vbs), (bversions, oX8 8 3 bversionsc (nI (kbversions + 1))), (bversionsc, iA G 24 (upd (upd (upd fbversions (kbversions * 3) td) (kbversions * 3 + 1) (nI kblines)) (kbversions * 3 + 2) (nI kln)))] H → va_S A s.heap H locs → lv_has ls 7 [(4, .int (nI kQ)), (3, .int (nI kbsteps)), (2, .int (nI kbversions)), (0, .ref h0), (1, .ref bb)] → W p l e (RM 3 0 0) s m ([.ref h0, .ref bb] : List Value).toArray below meth c H locs 0 0 Q0 (F0 m 154 ls []) := by
        intro nQ
        induction nQ with
        | zero =>
          intro kQ vbs H locs ls hkQ hcs hPD hS hl
          refine Kan2 hPD (fun hP hD => ?_)
          obtain rfl : ksp = kQ := by omega
          refine Kpdr (ws := [(h0, oX10 tby (nI kt) tln tsp tkd ts9 tn9 tf9), (tln, oX8 9 7 tlnc (nI kln)), (tlnc, iA G 63 ftln), (tsp, oX8 120 1 tspc (nI ksp)), (tspc, iA G 120 ftsp), (bb, oX0 bpersons bpapers bstamps bversions blines bsteps bsayings bfindings bwarnings bquestions td vd vl gp), (blines, oX8 72 7 blinesc (nI (kblines + kln))), (blinesc, iA G 504 vbl), (bsteps, oX8 960 1 bstepsc (nI (kbsteps + ksp))), (bstepsc, iA G 960 vbs), (bversions, oX8 8 3 bversionsc (nI (kbversions + 1))), (bversionsc, iA G 24 (upd (upd (upd fbversions (kbversions * 3) td) (kbversions * 3 + 1) (nI kblines)) (kbversions * 3 + 2) (nI kln)))]) hP hD (fun hP hD => ?_)
          have hl : lv_has ls 7 [(4, .int (nI ksp)), (3, .int (nI kbsteps)), (2, .int (nI kbversions)), (0, .ref h0), (1, .ref bb)] := hl
          refine lv_iload hx hb gX10_store_7.2.2.2.2.2.1 (lv_at0 hl) ?_
          refine lv_aload_n hx hb gX10_store_7.2.2.2.2.2.2.1 rfl (lv_at3 hl) ?_
          refine gf_X10_24 hC rfl hK hP 0 rfl rfl gX10_store_7.2.2.2.2.2.2.2.1 ?_
          refine pV hC hK hl hP hD (c_T_count l G tsp 120 1 tspc ksp) si_X10_71 [3] sm_3 fm_3 nd_3 rfl rfl rfl rfl rfl (Nat.le_of_ble_eq_true rfl) rm_3_1_1 ⟨by first | exact Nat.le_of_ble_eq_true rfl | exact Nat.zero_le _, by first | exact Nat.le_of_ble_eq_true rfl | exact Nat.zero_le _⟩ gX10_store_7.2.2.2.2.2.2.2.2.1 (Keqr ?_)
          refine lv_icmp_ge (tgt := 197) hx hb gX10_store_7.2.2.2.2.2.2.2.2.2 (by decide) (fun _ => ?_) (fun c9 => absurd (Int32.le_refl _) c9)
          refine lv_iload_n hx hb gX10_store_9.2.2.2.2.1 rfl (lv_at2 hl) ?_
          refine toQ hQ0 ?_
          exact RI (v := nI kbversions) hC hP hD hS [0, 1, 2, 3, 4, 5, 10, 11, 6, 7, 8, 9] (vbl, vbs) rfl rfl (by decide) (⟨rfl, ⟨hcl, hcs⟩⟩) rfl gX10_store_9.2.2.2.2.2
        | succ nQ ihQ =>
          intro kQ vbs H locs ls hkQ hcs hPD hS hl
          refine Kan2 hPD (fun hP hD => ?_)
          refine lv_iload hx hb gX10_store_7.2.2.2.2.2.1 (lv_at0 hl) ?_
          refine lv_aload_n hx hb gX10_store_7.2.2.2.2.2.2.1 rfl (lv_at3 hl) ?_
          refine gf_X10_24 hC rfl hK hP 0 rfl rfl gX10_store_7.2.2.2.2.2.2.2.1 ?_
          refine pV hC hK hl hP hD (c_T_count l G tsp 120 1 tspc ksp) si_X10_71 [3] sm_3 fm_3 nd_3 rfl rfl rfl rfl rfl (Nat.le_of_ble_eq_true rfl) rm_3_1_1 ⟨by first | exact Nat.le_of_ble_eq_true rfl | exact Nat.zero_le _, by first | exact Nat.le_of_ble_eq_true rfl | exact Nat.zero_le _⟩ gX10_store_7.2.2.2.2.2.2.2.2.1 (Keqr ?_)
          refine lv_icmp_ge (tgt := 197) hx hb gX10_store_7.2.2.2.2.2.2.2.2.2 (by decide) (fun c9 => absurd c9 (nI_ge (a := kQ) (b := ksp) (by omega) (by omega))) (fun _ => ?_)
          refine lv_aload_n hx hb gX10_store_8.1 rfl (lv_at4 hl) ?_
          refine gf_X10_73 hC rfl hK hP 5 rfl rfl gX10_store_8.2.1 ?_
          refine lv_aload_n hx hb gX10_store_8.2.2.1 rfl (lv_at4 hl) ?_
          refine gf_X10_73 hC rfl hK hP 5 rfl rfl gX10_store_8.2.2.2.1 ?_
          refine iV (wr := [(h0, oX10 tby (nI kt) tln tsp tkd ts9 tn9 tf9), (tln, oX8 9 7 tlnc (nI kln)), (tlnc, iA G 63 ftln), (tsp, oX8 120 1 tspc (nI ksp)), (tspc, iA G 120 ftsp), (bb, oX0 bpersons bpapers bstamps bversions blines bsteps bsayings bfindings bwarnings bquestions td vd vl gp), (blines, oX8 72 7 blinesc (nI (kblines + kln))), (blinesc, iA G 504 vbl), (bstepsc, iA G 960 vbs), (bversions, oX8 8 3 bversionsc (nI (kbversions + 1))), (bversionsc, iA G 24 (upd (upd (upd fbversions (kbversions * 3) td) (kbversions * 3 + 1) (nI kblines)) (kbversions * 3 + 2) (nI kln)))]) hC hK hl hP hD hS hA (c_T_append l G bsteps 960 1 bstepsc (kbsteps + kQ) (by omega) (by omega)) si_X10_59 [8] [0, 1, 2, 3, 4, 5, 6, 7, 9, 10, 11] sm_8 fm_8 nd_8 sm_0_1_2_3_4_5_6_7_9_10_11 nd_0_1_2_3_4_5_6_7_9_10_11 dj_8__0_1_2_3_4_5_6_7_9_10_11 rfl rfl rfl rfl rfl (Nat.le_of_ble_eq_true rfl) rm_3_1_1 ⟨Nat.le_of_ble_eq_true rfl, Nat.le_of_ble_eq_true rfl⟩ gX10_store_8.2.2.2.2.1 (fun r3548 u3549 H locs hr3548 hP hD hS => ?_)
          refine Kpdr (ws := [(h0, oX10 tby (nI kt) tln tsp tkd ts9 tn9 tf9), (tln, oX8 9 7 tlnc (nI kln)), (tlnc, iA G 63 ftln), (tsp, oX8 120 1 tspc (nI ksp)), (tspc, iA G 120 ftsp), (bb, oX0 bpersons bpapers bstamps bversions blines bsteps bsayings bfindings bwarnings bquestions td vd vl gp), (blines, oX8 72 7 blinesc (nI (kblines + kln))), (blinesc, iA G 504 vbl), (bstepsc, iA G 960 vbs), (bversions, oX8 8 3 bversionsc (nI (kbversions + 1))), (bversionsc, iA G 24 (upd (upd (upd fbversions (kbversions * 3) td) (kbversions * 3 + 1) (nI kblines)) (kbversions * 3 + 2) (nI kln))), (bsteps, oX8 960 1 bstepsc (nI ((kbsteps + kQ) + 1)))]) hP hD (fun hP hD => ?_)
          obtain rfl := hr3548
          refine lv_iconst (v := 0) hx hb gX10_store_8.2.2.2.2.2.1 (by decide) ?_
          refine lv_aload_n hx hb gX10_store_8.2.2.2.2.2.2.1 rfl (lv_at3 hl) ?_
          refine gf_X10_24 hC rfl hK hP 0 rfl rfl gX10_store_8.2.2.2.2.2.2.2.1 ?_
          refine lv_iload hx hb gX10_store_8.2.2.2.2.2.2.2.2.1 (lv_at0 hl) ?_
          refine lv_iconst (v := 0) hx hb gX10_store_8.2.2.2.2.2.2.2.2.2 (by decide) ?_
          refine pV hC hK hl hP hD (c_T_at l G tsp (nI kQ) 0 120 1 tspc ksp ftsp (hksp) (by omega) (by omega)) si_X10_74 [3, 4] sm_3_4 fm_3_4 nd_3_4 rfl rfl rfl rfl rfl (Nat.le_of_ble_eq_true rfl) rm_3_1_3 ⟨by first | exact Nat.le_of_ble_eq_true rfl | exact Nat.zero_le _, by first | exact Nat.le_of_ble_eq_true rfl | exact Nat.zero_le _⟩ gX10_store_9.1 (fun r3551 hr3551 => ?_)
          refine eqi (x1 := ftsp kQ) (hr3551.trans ((tatr (j := kQ) (c := 0) (by omega) (by omega) (by omega) (by decide) rfl).trans (congrArg ftsp (show kQ * 1 + 0 = kQ by omega)))) ?_
          refine vV (wr := [(h0, oX10 tby (nI kt) tln tsp tkd ts9 tn9 tf9), (tln, oX8 9 7 tlnc (nI kln)), (tlnc, iA G 63 ftln), (tsp, oX8 120 1 tspc (nI ksp)), (tspc, iA G 120 ftsp), (bb, oX0 bpersons bpapers bstamps bversions blines bsteps bsayings bfindings bwarnings bquestions td vd vl gp), (blines, oX8 72 7 blinesc (nI (kblines + kln))), (blinesc, iA G 504 vbl), (bversions, oX8 8 3 bversionsc (nI (kbversions + 1))), (bversionsc, iA G 24 (upd (upd (upd fbversions (kbversions * 3) td) (kbversions * 3 + 1) (nI kblines)) (kbversions * 3 + 2) (nI kln)))]) hC hK hl hP hD hS hA (c_T_set l G bsteps (nI (kbsteps + kQ)) 0 (ftsp kQ) 960 1 bstepsc ((kbsteps + kQ) + 1) vbs (by omega) (by omega) (by omega)) si_X10_66 [11, 8] [0, 1, 2, 3, 4, 5, 6, 7, 9, 10] sm_11_8 fm_11_8 nd_11_8 sm_0_1_2_3_4_5_6_7_9_10 nd_0_1_2_3_4_5_6_7_9_10 dj_11_8__0_1_2_3_4_5_6_7_9_10 rfl rfl rfl rfl rfl (Nat.le_of_ble_eq_true rfl) rm_3_1_4 ⟨Nat.le_of_ble_eq_true rfl, Nat.le_of_ble_eq_true rfl⟩ gX10_store_9.2.1 (fun f13555 H locs hr3553 hP hD hS => ?_)
          try dsimp only at hr3553
          refine Kpdr (ws := [(h0, oX10 tby (nI kt) tln tsp tkd ts9 tn9 tf9), (tln, oX8 9 7 tlnc (nI kln)), (tlnc, iA G 63 ftln), (tsp, oX8 120 1 tspc (nI ksp)), (tspc, iA G 120 ftsp), (bb, oX0 bpersons bpapers bstamps bversions blines bsteps bsayings bfindings bwarnings bquestions td vd vl gp), (blines, oX8 72 7 blinesc (nI (kblines + kln))), (blinesc, iA G 504 vbl), (bversions, oX8 8 3 bversionsc (nI (kbversions + 1))), (bversionsc, iA G 24 (upd (upd (upd fbversions (kbversions * 3) td) (kbversions * 3 + 1) (nI kblines)) (kbversions * 3 + 2) (nI kln))), (bsteps, oX8 960 1 bstepsc (nI ((kbsteps + kQ) + 1))), (bstepsc, iA G 960 f13555)]) hP hD (fun hP hD => ?_)
          have w3556 := hr3553
          obtain rfl : upd vbs (kbsteps + kQ) (ftsp kQ) = f13555 := (congrArg (fun z9 => upd vbs z9 (ftsp kQ)) (show (kbsteps + kQ) = (kbsteps + kQ) * 1 + 0 by omega)).trans ((tsj (j := (kbsteps + kQ)) (c := 0) (by omega) (by omega) (by omega) (by decide) rfl).symm.trans w3556)
          refine Kpdr (ws := [(h0, oX10 tby (nI kt) tln tsp tkd ts9 tn9 tf9), (tln, oX8 9 7 tlnc (nI kln)), (tlnc, iA G 63 ftln), (tsp, oX8 120 1 tspc (nI ksp)), (tspc, iA G 120 ftsp), (bb, oX0 bpersons bpapers bstamps bversions blines bsteps bsayings bfindings bwarnings bquestions td vd vl gp), (blines, oX8 72 7 blinesc (nI (kblines + kln))), (blinesc, iA G 504 vbl), (bversions, oX8 8 3 bversionsc (nI (kbversions + 1))), (bversionsc, iA G 24 (upd (upd (upd fbversions (kbversions * 3) td) (kbversions * 3 + 1) (nI kblines)) (kbversions * 3 + 2) (nI kln))), (bsteps, oX8 960 1 bstepsc (nI ((kbsteps + kQ) + 1))), (bstepsc, iA G 960 (upd vbs (kbsteps + kQ) (ftsp kQ)))]) hP hD (fun hP hD => ?_)
          refine lv_iinc (v := nI (kQ + 1)) (lv' := [(4, .int (nI (kQ + 1))), (3, .int (nI kbsteps)), (2, .int (nI kbversions)), (0, .ref h0), (1, .ref bb)]) hx hb gX10_store_9.2.2.1 hl (k := 0) rfl (nI_1 _) (by decide) rfl (fun ls hl => ?_)
          refine lv_goto (tgt := 154) hx hb gX10_store_9.2.2.2.1 (by decide) ?_
          refine Kpds (ws' := [(h0, oX10 tby (nI kt) tln tsp tkd ts9 tn9 tf9), (tln, oX8 9 7 tlnc (nI kln)), (tlnc, iA G 63 ftln), (tsp, oX8 120 1 tspc (nI ksp)), (tspc, iA G 120 ftsp), (bb, oX0 bpersons bpapers bstamps bversions blines bsteps bsayings bfindings bwarnings bquestions td vd vl gp), (blines, oX8 72 7 blinesc (nI (kblines + kln))), (blinesc, iA G 504 vbl), (bsteps, oX8 960 1 bstepsc (nI ((kbsteps + kQ) + 1))), (bstepsc, iA G 960 (upd vbs (kbsteps + kQ) (ftsp kQ))), (bversions, oX8 8 3 bversionsc (nI (kbversions + 1))), (bversionsc, iA G 24 (upd (upd (upd fbversions (kbversions * 3) td) (kbversions * 3 + 1) (nI kblines)) (kbversions * 3 + 2) (nI kln)))]) hP hD [0, 1, 2, 3, 4, 5, 6, 7, 10, 11, 8, 9] fm_0_1_2_3_4_5_6_7_10_11_8_9 nd_0_1_2_3_4_5_6_7_10_11_8_9 sm_0_1_2_3_4_5_6_7_10_11_8_9 (fun hP hD => ?_)
          exact ihQ (kQ + 1) (upd vbs (kbsteps + kQ) (ftsp kQ)) _ _ _ (by omega) (by first | assumption | exact Or.inl rfl | exact Or.inr rfl | exact CPST.zero | exact CPST.next hcs) (And.intro hP hD) hS (lv_sub hl [0, 1, 2, 3, 4] rfl)
      exact keyQ ksp 0 fbsteps _ _ _ (by omega) (by first | assumption | exact Or.inl rfl | exact Or.inr rfl | exact CPST.zero | exact CPST.next hcs) (And.intro hP hD) hS (lv_sub hl [0, 1, 2, 3, 4] rfl)
    | succ nP ihP =>
      intro kP vbl H locs ls hkP hcl hPD hS hl
      refine Kan2 hPD (fun hP hD => ?_)
      refine lv_iload hx hb gX10_store_3.2.2.2.1 (lv_at0 hl) ?_
      refine lv_aload_n hx hb gX10_store_3.2.2.2.2.1 rfl (lv_at3 hl) ?_
      refine gf_X10_20 hC rfl hK hP 0 rfl rfl gX10_store_3.2.2.2.2.2.1 ?_
      refine pV hC hK hl hP hD (c_T_count l G tln 9 7 tlnc kln) si_X10_71 [1] sm_1 fm_1 nd_1 rfl rfl rfl rfl rfl (Nat.le_of_ble_eq_true rfl) rm_3_1_1 ⟨by first | exact Nat.le_of_ble_eq_true rfl | exact Nat.zero_le _, by first | exact Nat.le_of_ble_eq_true rfl | exact Nat.zero_le _⟩ gX10_store_3.2.2.2.2.2.2.1 (Keqr ?_)
      refine lv_icmp_ge (tgt := 151) hx hb gX10_store_3.2.2.2.2.2.2.2.1 (by decide) (fun c9 => absurd c9 (nI_ge (a := kP) (b := kln) (by omega) (by omega))) (fun _ => ?_)
      refine lv_aload_n hx hb gX10_store_3.2.2.2.2.2.2.2.2.1 rfl (lv_at4 hl) ?_
      refine gf_X10_70 hC rfl hK hP 5 rfl rfl gX10_store_3.2.2.2.2.2.2.2.2.2 ?_
      refine iV (wr := [(h0, oX10 tby (nI kt) tln tsp tkd ts9 tn9 tf9), (tln, oX8 9 7 tlnc (nI kln)), (tlnc, iA G 63 ftln), (tsp, oX8 120 1 tspc (nI ksp)), (tspc, iA G 120 ftsp), (bb, oX0 bpersons bpapers bstamps bversions blines bsteps bsayings bfindings bwarnings bquestions td vd vl gp), (blinesc, iA G 504 vbl), (bsteps, oX8 960 1 bstepsc (nI kbsteps)), (bstepsc, iA G 960 fbsteps), (bversions, oX8 8 3 bversionsc (nI (kbversions + 1))), (bversionsc, iA G 24 (upd (upd (upd fbversions (kbversions * 3) td) (kbversions * 3 + 1) (nI kblines)) (kbversions * 3 + 2) (nI kln)))]) hC hK hl hP hD hS hA (c_T_append l G blines 72 7 blinesc (kblines + kP) (by omega) (by omega)) si_X10_59 [6] [0, 1, 2, 3, 4, 5, 7, 8, 9, 10, 11] sm_6 fm_6 nd_6 sm_0_1_2_3_4_5_7_8_9_10_11 nd_0_1_2_3_4_5_7_8_9_10_11 dj_6__0_1_2_3_4_5_7_8_9_10_11 rfl rfl rfl rfl rfl (Nat.le_of_ble_eq_true rfl) rm_3_1_1 ⟨Nat.le_of_ble_eq_true rfl, Nat.le_of_ble_eq_true rfl⟩ gX10_store_4.1 (fun r3559 u3560 H locs hr3559 hP hD hS => ?_)
      refine Kpdr (ws := [(h0, oX10 tby (nI kt) tln tsp tkd ts9 tn9 tf9), (tln, oX8 9 7 tlnc (nI kln)), (tlnc, iA G 63 ftln), (tsp, oX8 120 1 tspc (nI ksp)), (tspc, iA G 120 ftsp), (bb, oX0 bpersons bpapers bstamps bversions blines bsteps bsayings bfindings bwarnings bquestions td vd vl gp), (blinesc, iA G 504 vbl), (bsteps, oX8 960 1 bstepsc (nI kbsteps)), (bstepsc, iA G 960 fbsteps), (bversions, oX8 8 3 bversionsc (nI (kbversions + 1))), (bversionsc, iA G 24 (upd (upd (upd fbversions (kbversions * 3) td) (kbversions * 3 + 1) (nI kblines)) (kbversions * 3 + 2) (nI kln))), (blines, oX8 72 7 blinesc (nI ((kblines + kP) + 1)))]) hP hD (fun hP hD => ?_)
      obtain rfl := hr3559
      refine lv_istore (lv' := [(5, .int (nI (kblines + kP))), (4, .int (nI kP)), (3, .int (nI kbsteps)), (2, .int (nI kbversions)), (0, .ref h0), (1, .ref bb)]) hx hb gX10_store_4.2.1 hl (by decide) rfl (fun ls hl => ?_)
      refine lv_iconst (v := 0) hx hb gX10_store_4.2.2.1 (by decide) ?_
      refine lv_istore (lv' := [(6, .int 0), (5, .int (nI (kblines + kP))), (4, .int (nI kP)), (3, .int (nI kbsteps)), (2, .int (nI kbversions)), (0, .ref h0), (1, .ref bb)]) hx hb gX10_store_4.2.2.2.1 hl (by decide) rfl (fun ls hl => ?_)
      refine lv_iload hx hb gX10_store_4.2.2.2.2.1 (lv_at0 hl) ?_
      refine lv_bipush (v := 6) hx hb gX10_store_4.2.2.2.2.2.1 (by decide) ?_
      refine lv_icmp_gt (tgt := 123) hx hb gX10_store_4.2.2.2.2.2.2.1 (by decide) (fun c9 => absurd c9 (by decide)) (fun _ => ?_)
      refine lv_aload_n hx hb gX10_store_4.2.2.2.2.2.2.2.1 rfl (lv_at6 hl) ?_
      refine gf_X10_70 hC rfl hK hP 5 rfl rfl gX10_store_4.2.2.2.2.2.2.2.2.1 ?_
      refine lv_iload hx hb gX10_store_4.2.2.2.2.2.2.2.2.2 (lv_at1 hl) ?_
      refine lv_iload hx hb gX10_store_5.1 (lv_at0 hl) ?_
      refine lv_aload_n hx hb gX10_store_5.2.1 rfl (lv_at5 hl) ?_
      refine gf_X10_20 hC rfl hK hP 0 rfl rfl gX10_store_5.2.2.1 ?_
      refine lv_iload hx hb gX10_store_5.2.2.2.1 (lv_at2 hl) ?_
      refine lv_iload hx hb gX10_store_5.2.2.2.2.1 (lv_at0 hl) ?_
      refine pV hC hK hl hP hD (c_T_at l G tln (nI kP) 0 9 7 tlnc kln ftln (hkln) (by omega) (by omega)) si_X10_74 [1, 2] sm_1_2 fm_1_2 nd_1_2 rfl rfl rfl rfl rfl (Nat.le_of_ble_eq_true rfl) rm_3_1_3 ⟨by first | exact Nat.le_of_ble_eq_true rfl | exact Nat.zero_le _, by first | exact Nat.le_of_ble_eq_true rfl | exact Nat.zero_le _⟩ gX10_store_5.2.2.2.2.2.1 (fun r3562 hr3562 => ?_)
      refine eqi (x1 := ftln (kP * 7)) (hr3562.trans ((tatr (j := kP) (c := 0) (by omega) (by omega) (by omega) (by decide) rfl))) ?_
      refine vV (wr := [(h0, oX10 tby (nI kt) tln tsp tkd ts9 tn9 tf9), (tln, oX8 9 7 tlnc (nI kln)), (tlnc, iA G 63 ftln), (tsp, oX8 120 1 tspc (nI ksp)), (tspc, iA G 120 ftsp), (bb, oX0 bpersons bpapers bstamps bversions blines bsteps bsayings bfindings bwarnings bquestions td vd vl gp), (bsteps, oX8 960 1 bstepsc (nI kbsteps)), (bstepsc, iA G 960 fbsteps), (bversions, oX8 8 3 bversionsc (nI (kbversions + 1))), (bversionsc, iA G 24 (upd (upd (upd fbversions (kbversions * 3) td) (kbversions * 3 + 1) (nI kblines)) (kbversions * 3 + 2) (nI kln)))]) hC hK hl hP hD hS hA (c_T_set l G blines (nI (kblines + kP)) 0 (ftln (kP * 7)) 72 7 blinesc ((kblines + kP) + 1) vbl (by omega) (by omega) (by omega)) si_X10_66 [11, 6] [0, 1, 2, 3, 4, 5, 7, 8, 9, 10] sm_11_6 fm_11_6 nd_11_6 sm_0_1_2_3_4_5_7_8_9_10 nd_0_1_2_3_4_5_7_8_9_10 dj_11_6__0_1_2_3_4_5_7_8_9_10 rfl rfl rfl rfl rfl (Nat.le_of_ble_eq_true rfl) rm_3_1_4 ⟨Nat.le_of_ble_eq_true rfl, Nat.le_of_ble_eq_true rfl⟩ gX10_store_5.2.2.2.2.2.2.1 (fun f13566 H locs hr3564 hP hD hS => ?_)
      try dsimp only at hr3564
      refine Kpdr (ws := [(h0, oX10 tby (nI kt) tln tsp tkd ts9 tn9 tf9), (tln, oX8 9 7 tlnc (nI kln)), (tlnc, iA G 63 ftln), (tsp, oX8 120 1 tspc (nI ksp)), (tspc, iA G 120 ftsp), (bb, oX0 bpersons bpapers bstamps bversions blines bsteps bsayings bfindings bwarnings bquestions td vd vl gp), (bsteps, oX8 960 1 bstepsc (nI kbsteps)), (bstepsc, iA G 960 fbsteps), (bversions, oX8 8 3 bversionsc (nI (kbversions + 1))), (bversionsc, iA G 24 (upd (upd (upd fbversions (kbversions * 3) td) (kbversions * 3 + 1) (nI kblines)) (kbversions * 3 + 2) (nI kln))), (blines, oX8 72 7 blinesc (nI ((kblines + kP) + 1))), (blinesc, iA G 504 f13566)]) hP hD (fun hP hD => ?_)
      have w3567 := hr3564
      obtain rfl : upd vbl ((kblines + kP) * 7) (ftln (kP * 7)) = f13566 := ((tsj (j := (kblines + kP)) (c := 0) (by omega) (by omega) (by omega) (by decide) rfl).symm.trans w3567)
      refine Kpdr (ws := [(h0, oX10 tby (nI kt) tln tsp tkd ts9 tn9 tf9), (tln, oX8 9 7 tlnc (nI kln)), (tlnc, iA G 63 ftln), (tsp, oX8 120 1 tspc (nI ksp)), (tspc, iA G 120 ftsp), (bb, oX0 bpersons bpapers bstamps bversions blines bsteps bsayings bfindings bwarnings bquestions td vd vl gp), (bsteps, oX8 960 1 bstepsc (nI kbsteps)), (bstepsc, iA G 960 fbsteps), (bversions, oX8 8 3 bversionsc (nI (kbversions + 1))), (bversionsc, iA G 24 (upd (upd (upd fbversions (kbversions * 3) td) (kbversions * 3 + 1) (nI kblines)) (kbversions * 3 + 2) (nI kln))), (blines, oX8 72 7 blinesc (nI ((kblines + kP) + 1))), (blinesc, iA G 504 (upd vbl ((kblines + kP) * 7) (ftln (kP * 7))))]) hP hD (fun hP hD => ?_)
      refine lv_iinc (v := 1) (lv' := [(6, .int 1), (5, .int (nI (kblines + kP))), (4, .int (nI kP)), (3, .int (nI kbsteps)), (2, .int (nI kbversions)), (0, .ref h0), (1, .ref bb)]) hx hb gX10_store_5.2.2.2.2.2.2.2.1 hl (k := 0) rfl (by decide) (by decide) rfl (fun ls hl => ?_)
      refine lv_goto (tgt := 88) hx hb gX10_store_5.2.2.2.2.2.2.2.2.1 (by decide) ?_
      refine lv_iload hx hb gX10_store_4.2.2.2.2.1 (lv_at0 hl) ?_
      refine lv_bipush (v := 6) hx hb gX10_store_4.2.2.2.2.2.1 (by decide) ?_
      refine lv_icmp_gt (tgt := 123) hx hb gX10_store_4.2.2.2.2.2.2.1 (by decide) (fun c9 => absurd c9 (by decide)) (fun _ => ?_)
      refine lv_aload_n hx hb gX10_store_4.2.2.2.2.2.2.2.1 rfl (lv_at6 hl) ?_
      refine gf_X10_70 hC rfl hK hP 5 rfl rfl gX10_store_4.2.2.2.2.2.2.2.2.1 ?_
      refine lv_iload hx hb gX10_store_4.2.2.2.2.2.2.2.2.2 (lv_at1 hl) ?_
      refine lv_iload hx hb gX10_store_5.1 (lv_at0 hl) ?_
      refine lv_aload_n hx hb gX10_store_5.2.1 rfl (lv_at5 hl) ?_
      refine gf_X10_20 hC rfl hK hP 0 rfl rfl gX10_store_5.2.2.1 ?_
      refine lv_iload hx hb gX10_store_5.2.2.2.1 (lv_at2 hl) ?_
      refine lv_iload hx hb gX10_store_5.2.2.2.2.1 (lv_at0 hl) ?_
      refine pV hC hK hl hP hD (c_T_at l G tln (nI kP) 1 9 7 tlnc kln ftln (hkln) (by omega) (by omega)) si_X10_74 [1, 2] sm_1_2 fm_1_2 nd_1_2 rfl rfl rfl rfl rfl (Nat.le_of_ble_eq_true rfl) rm_3_1_3 ⟨by first | exact Nat.le_of_ble_eq_true rfl | exact Nat.zero_le _, by first | exact Nat.le_of_ble_eq_true rfl | exact Nat.zero_le _⟩ gX10_store_5.2.2.2.2.2.1 (fun r3568 hr3568 => ?_)
      refine eqi (x1 := ftln (kP * 7 + 1)) (hr3568.trans ((tatr (j := kP) (c := 1) (by omega) (by omega) (by omega) (by decide) rfl))) ?_
      refine vV (wr := [(h0, oX10 tby (nI kt) tln tsp tkd ts9 tn9 tf9), (tln, oX8 9 7 tlnc (nI kln)), (tlnc, iA G 63 ftln), (tsp, oX8 120 1 tspc (nI ksp)), (tspc, iA G 120 ftsp), (bb, oX0 bpersons bpapers bstamps bversions blines bsteps bsayings bfindings bwarnings bquestions td vd vl gp), (bsteps, oX8 960 1 bstepsc (nI kbsteps)), (bstepsc, iA G 960 fbsteps), (bversions, oX8 8 3 bversionsc (nI (kbversions + 1))), (bversionsc, iA G 24 (upd (upd (upd fbversions (kbversions * 3) td) (kbversions * 3 + 1) (nI kblines)) (kbversions * 3 + 2) (nI kln)))]) hC hK hl hP hD hS hA (c_T_set l G blines (nI (kblines + kP)) 1 (ftln (kP * 7 + 1)) 72 7 blinesc ((kblines + kP) + 1) (upd vbl ((kblines + kP) * 7) (ftln (kP * 7))) (by omega) (by omega) (by omega)) si_X10_66 [10, 11] [0, 1, 2, 3, 4, 5, 6, 7, 8, 9] sm_10_11 fm_10_11 nd_10_11 sm_0_1_2_3_4_5_6_7_8_9 nd_0_1_2_3_4_5_6_7_8_9 dj_10_11__0_1_2_3_4_5_6_7_8_9 rfl rfl rfl rfl rfl (Nat.le_of_ble_eq_true rfl) rm_3_1_4 ⟨Nat.le_of_ble_eq_true rfl, Nat.le_of_ble_eq_true rfl⟩ gX10_store_5.2.2.2.2.2.2.1 (fun f13572 H locs hr3570 hP hD hS => ?_)
      try dsimp only at hr3570
      refine Kpdr (ws := [(h0, oX10 tby (nI kt) tln tsp tkd ts9 tn9 tf9), (tln, oX8 9 7 tlnc (nI kln)), (tlnc, iA G 63 ftln), (tsp, oX8 120 1 tspc (nI ksp)), (tspc, iA G 120 ftsp), (bb, oX0 bpersons bpapers bstamps bversions blines bsteps bsayings bfindings bwarnings bquestions td vd vl gp), (bsteps, oX8 960 1 bstepsc (nI kbsteps)), (bstepsc, iA G 960 fbsteps), (bversions, oX8 8 3 bversionsc (nI (kbversions + 1))), (bversionsc, iA G 24 (upd (upd (upd fbversions (kbversions * 3) td) (kbversions * 3 + 1) (nI kblines)) (kbversions * 3 + 2) (nI kln))), (blines, oX8 72 7 blinesc (nI ((kblines + kP) + 1))), (blinesc, iA G 504 f13572)]) hP hD (fun hP hD => ?_)
      have w3573 := hr3570
      obtain rfl : upd (upd vbl ((kblines + kP) * 7) (ftln (kP * 7))) ((kblines + kP) * 7 + 1) (ftln (kP * 7 + 1)) = f13572 := ((tsj (j := (kblines + kP)) (c := 1) (by omega) (by omega) (by omega) (by decide) rfl).symm.trans w3573)
      refine Kpdr (ws := [(h0, oX10 tby (nI kt) tln tsp tkd ts9 tn9 tf9), (tln, oX8 9 7 tlnc (nI kln)), (tlnc, iA G 63 ftln), (tsp, oX8 120 1 tspc (nI ksp)), (tspc, iA G 120 ftsp), (bb, oX0 bpersons bpapers bstamps bversions blines bsteps bsayings bfindings bwarnings bquestions td vd vl gp), (bsteps, oX8 960 1 bstepsc (nI kbsteps)), (bstepsc, iA G 960 fbsteps), (bversions, oX8 8 3 bversionsc (nI (kbversions + 1))), (bversionsc, iA G 24 (upd (upd (upd fbversions (kbversions * 3) td) (kbversions * 3 + 1) (nI kblines)) (kbversions * 3 + 2) (nI kln))), (blines, oX8 72 7 blinesc (nI ((kblines + kP) + 1))), (blinesc, iA G 504 (upd (upd vbl ((kblines + kP) * 7) (ftln (kP * 7))) ((kblines + kP) * 7 + 1) (ftln (kP * 7 + 1))))]) hP hD (fun hP hD => ?_)
      refine lv_iinc (v := 2) (lv' := [(6, .int 2), (5, .int (nI (kblines + kP))), (4, .int (nI kP)), (3, .int (nI kbsteps)), (2, .int (nI kbversions)), (0, .ref h0), (1, .ref bb)]) hx hb gX10_store_5.2.2.2.2.2.2.2.1 hl (k := 0) rfl (by decide) (by decide) rfl (fun ls hl => ?_)
      refine lv_goto (tgt := 88) hx hb gX10_store_5.2.2.2.2.2.2.2.2.1 (by decide) ?_
      refine lv_iload hx hb gX10_store_4.2.2.2.2.1 (lv_at0 hl) ?_
      refine lv_bipush (v := 6) hx hb gX10_store_4.2.2.2.2.2.1 (by decide) ?_
      refine lv_icmp_gt (tgt := 123) hx hb gX10_store_4.2.2.2.2.2.2.1 (by decide) (fun c9 => absurd c9 (by decide)) (fun _ => ?_)
      refine lv_aload_n hx hb gX10_store_4.2.2.2.2.2.2.2.1 rfl (lv_at6 hl) ?_
      refine gf_X10_70 hC rfl hK hP 5 rfl rfl gX10_store_4.2.2.2.2.2.2.2.2.1 ?_
      refine lv_iload hx hb gX10_store_4.2.2.2.2.2.2.2.2.2 (lv_at1 hl) ?_
      refine lv_iload hx hb gX10_store_5.1 (lv_at0 hl) ?_
      refine lv_aload_n hx hb gX10_store_5.2.1 rfl (lv_at5 hl) ?_
      refine gf_X10_20 hC rfl hK hP 0 rfl rfl gX10_store_5.2.2.1 ?_
      refine lv_iload hx hb gX10_store_5.2.2.2.1 (lv_at2 hl) ?_
      refine lv_iload hx hb gX10_store_5.2.2.2.2.1 (lv_at0 hl) ?_
      refine pV hC hK hl hP hD (c_T_at l G tln (nI kP) 2 9 7 tlnc kln ftln (hkln) (by omega) (by omega)) si_X10_74 [1, 2] sm_1_2 fm_1_2 nd_1_2 rfl rfl rfl rfl rfl (Nat.le_of_ble_eq_true rfl) rm_3_1_3 ⟨by first | exact Nat.le_of_ble_eq_true rfl | exact Nat.zero_le _, by first | exact Nat.le_of_ble_eq_true rfl | exact Nat.zero_le _⟩ gX10_store_5.2.2.2.2.2.1 (fun r3574 hr3574 => ?_)
      refine eqi (x1 := ftln (kP * 7 + 2)) (hr3574.trans ((tatr (j := kP) (c := 2) (by omega) (by omega) (by omega) (by decide) rfl))) ?_
      refine vV (wr := [(h0, oX10 tby (nI kt) tln tsp tkd ts9 tn9 tf9), (tln, oX8 9 7 tlnc (nI kln)), (tlnc, iA G 63 ftln), (tsp, oX8 120 1 tspc (nI ksp)), (tspc, iA G 120 ftsp), (bb, oX0 bpersons bpapers bstamps bversions blines bsteps bsayings bfindings bwarnings bquestions td vd vl gp), (bsteps, oX8 960 1 bstepsc (nI kbsteps)), (bstepsc, iA G 960 fbsteps), (bversions, oX8 8 3 bversionsc (nI (kbversions + 1))), (bversionsc, iA G 24 (upd (upd (upd fbversions (kbversions * 3) td) (kbversions * 3 + 1) (nI kblines)) (kbversions * 3 + 2) (nI kln)))]) hC hK hl hP hD hS hA (c_T_set l G blines (nI (kblines + kP)) 2 (ftln (kP * 7 + 2)) 72 7 blinesc ((kblines + kP) + 1) (upd (upd vbl ((kblines + kP) * 7) (ftln (kP * 7))) ((kblines + kP) * 7 + 1) (ftln (kP * 7 + 1))) (by omega) (by omega) (by omega)) si_X10_66 [10, 11] [0, 1, 2, 3, 4, 5, 6, 7, 8, 9] sm_10_11 fm_10_11 nd_10_11 sm_0_1_2_3_4_5_6_7_8_9 nd_0_1_2_3_4_5_6_7_8_9 dj_10_11__0_1_2_3_4_5_6_7_8_9 rfl rfl rfl rfl rfl (Nat.le_of_ble_eq_true rfl) rm_3_1_4 ⟨Nat.le_of_ble_eq_true rfl, Nat.le_of_ble_eq_true rfl⟩ gX10_store_5.2.2.2.2.2.2.1 (fun f13578 H locs hr3576 hP hD hS => ?_)
      try dsimp only at hr3576
      refine Kpdr (ws := [(h0, oX10 tby (nI kt) tln tsp tkd ts9 tn9 tf9), (tln, oX8 9 7 tlnc (nI kln)), (tlnc, iA G 63 ftln), (tsp, oX8 120 1 tspc (nI ksp)), (tspc, iA G 120 ftsp), (bb, oX0 bpersons bpapers bstamps bversions blines bsteps bsayings bfindings bwarnings bquestions td vd vl gp), (bsteps, oX8 960 1 bstepsc (nI kbsteps)), (bstepsc, iA G 960 fbsteps), (bversions, oX8 8 3 bversionsc (nI (kbversions + 1))), (bversionsc, iA G 24 (upd (upd (upd fbversions (kbversions * 3) td) (kbversions * 3 + 1) (nI kblines)) (kbversions * 3 + 2) (nI kln))), (blines, oX8 72 7 blinesc (nI ((kblines + kP) + 1))), (blinesc, iA G 504 f13578)]) hP hD (fun hP hD => ?_)
      have w3579 := hr3576
      obtain rfl : upd (upd (upd vbl ((kblines + kP) * 7) (ftln (kP * 7))) ((kblines + kP) * 7 + 1) (ftln (kP * 7 + 1))) ((kblines + kP) * 7 + 2) (ftln (kP * 7 + 2)) = f13578 := ((tsj (j := (kblines + kP)) (c := 2) (by omega) (by omega) (by omega) (by decide) rfl).symm.trans w3579)
      refine Kpdr (ws := [(h0, oX10 tby (nI kt) tln tsp tkd ts9 tn9 tf9), (tln, oX8 9 7 tlnc (nI kln)), (tlnc, iA G 63 ftln), (tsp, oX8 120 1 tspc (nI ksp)), (tspc, iA G 120 ftsp), (bb, oX0 bpersons bpapers bstamps bversions blines bsteps bsayings bfindings bwarnings bquestions td vd vl gp), (bsteps, oX8 960 1 bstepsc (nI kbsteps)), (bstepsc, iA G 960 fbsteps), (bversions, oX8 8 3 bversionsc (nI (kbversions + 1))), (bversionsc, iA G 24 (upd (upd (upd fbversions (kbversions * 3) td) (kbversions * 3 + 1) (nI kblines)) (kbversions * 3 + 2) (nI kln))), (blines, oX8 72 7 blinesc (nI ((kblines + kP) + 1))), (blinesc, iA G 504 (upd (upd (upd vbl ((kblines + kP) * 7) (ftln (kP * 7))) ((kblines + kP) * 7 + 1) (ftln (kP * 7 + 1))) ((kblines + kP) * 7 + 2) (ftln (kP * 7 + 2))))]) hP hD (fun hP hD => ?_)
      refine lv_iinc (v := 3) (lv' := [(6, .int 3), (5, .int (nI (kblines + kP))), (4, .int (nI kP)), (3, .int (nI kbsteps)), (2, .int (nI kbversions)), (0, .ref h0), (1, .ref bb)]) hx hb gX10_store_5.2.2.2.2.2.2.2.1 hl (k := 0) rfl (by decide) (by decide) rfl (fun ls hl => ?_)
      refine lv_goto (tgt := 88) hx hb gX10_store_5.2.2.2.2.2.2.2.2.1 (by decide) ?_
      refine lv_iload hx hb gX10_store_4.2.2.2.2.1 (lv_at0 hl) ?_
      refine lv_bipush (v := 6) hx hb gX10_store_4.2.2.2.2.2.1 (by decide) ?_
      refine lv_icmp_gt (tgt := 123) hx hb gX10_store_4.2.2.2.2.2.2.1 (by decide) (fun c9 => absurd c9 (by decide)) (fun _ => ?_)
      refine lv_aload_n hx hb gX10_store_4.2.2.2.2.2.2.2.1 rfl (lv_at6 hl) ?_
      refine gf_X10_70 hC rfl hK hP 5 rfl rfl gX10_store_4.2.2.2.2.2.2.2.2.1 ?_
      refine lv_iload hx hb gX10_store_4.2.2.2.2.2.2.2.2.2 (lv_at1 hl) ?_
      refine lv_iload hx hb gX10_store_5.1 (lv_at0 hl) ?_
      refine lv_aload_n hx hb gX10_store_5.2.1 rfl (lv_at5 hl) ?_
      refine gf_X10_20 hC rfl hK hP 0 rfl rfl gX10_store_5.2.2.1 ?_
      refine lv_iload hx hb gX10_store_5.2.2.2.1 (lv_at2 hl) ?_
      refine lv_iload hx hb gX10_store_5.2.2.2.2.1 (lv_at0 hl) ?_
      refine pV hC hK hl hP hD (c_T_at l G tln (nI kP) 3 9 7 tlnc kln ftln (hkln) (by omega) (by omega)) si_X10_74 [1, 2] sm_1_2 fm_1_2 nd_1_2 rfl rfl rfl rfl rfl (Nat.le_of_ble_eq_true rfl) rm_3_1_3 ⟨by first | exact Nat.le_of_ble_eq_true rfl | exact Nat.zero_le _, by first | exact Nat.le_of_ble_eq_true rfl | exact Nat.zero_le _⟩ gX10_store_5.2.2.2.2.2.1 (fun r3580 hr3580 => ?_)
      refine eqi (x1 := ftln (kP * 7 + 3)) (hr3580.trans ((tatr (j := kP) (c := 3) (by omega) (by omega) (by omega) (by decide) rfl))) ?_
      refine vV (wr := [(h0, oX10 tby (nI kt) tln tsp tkd ts9 tn9 tf9), (tln, oX8 9 7 tlnc (nI kln)), (tlnc, iA G 63 ftln), (tsp, oX8 120 1 tspc (nI ksp)), (tspc, iA G 120 ftsp), (bb, oX0 bpersons bpapers bstamps bversions blines bsteps bsayings bfindings bwarnings bquestions td vd vl gp), (bsteps, oX8 960 1 bstepsc (nI kbsteps)), (bstepsc, iA G 960 fbsteps), (bversions, oX8 8 3 bversionsc (nI (kbversions + 1))), (bversionsc, iA G 24 (upd (upd (upd fbversions (kbversions * 3) td) (kbversions * 3 + 1) (nI kblines)) (kbversions * 3 + 2) (nI kln)))]) hC hK hl hP hD hS hA (c_T_set l G blines (nI (kblines + kP)) 3 (ftln (kP * 7 + 3)) 72 7 blinesc ((kblines + kP) + 1) (upd (upd (upd vbl ((kblines + kP) * 7) (ftln (kP * 7))) ((kblines + kP) * 7 + 1) (ftln (kP * 7 + 1))) ((kblines + kP) * 7 + 2) (ftln (kP * 7 + 2))) (by omega) (by omega) (by omega)) si_X10_66 [10, 11] [0, 1, 2, 3, 4, 5, 6, 7, 8, 9] sm_10_11 fm_10_11 nd_10_11 sm_0_1_2_3_4_5_6_7_8_9 nd_0_1_2_3_4_5_6_7_8_9 dj_10_11__0_1_2_3_4_5_6_7_8_9 rfl rfl rfl rfl rfl (Nat.le_of_ble_eq_true rfl) rm_3_1_4 ⟨Nat.le_of_ble_eq_true rfl, Nat.le_of_ble_eq_true rfl⟩ gX10_store_5.2.2.2.2.2.2.1 (fun f13584 H locs hr3582 hP hD hS => ?_)
      try dsimp only at hr3582
      refine Kpdr (ws := [(h0, oX10 tby (nI kt) tln tsp tkd ts9 tn9 tf9), (tln, oX8 9 7 tlnc (nI kln)), (tlnc, iA G 63 ftln), (tsp, oX8 120 1 tspc (nI ksp)), (tspc, iA G 120 ftsp), (bb, oX0 bpersons bpapers bstamps bversions blines bsteps bsayings bfindings bwarnings bquestions td vd vl gp), (bsteps, oX8 960 1 bstepsc (nI kbsteps)), (bstepsc, iA G 960 fbsteps), (bversions, oX8 8 3 bversionsc (nI (kbversions + 1))), (bversionsc, iA G 24 (upd (upd (upd fbversions (kbversions * 3) td) (kbversions * 3 + 1) (nI kblines)) (kbversions * 3 + 2) (nI kln))), (blines, oX8 72 7 blinesc (nI ((kblines + kP) + 1))), (blinesc, iA G 504 f13584)]) hP hD (fun hP hD => ?_)
      have w3585 := hr3582
      obtain rfl : upd (upd (upd (upd vbl ((kblines + kP) * 7) (ftln (kP * 7))) ((kblines + kP) * 7 + 1) (ftln (kP * 7 + 1))) ((kblines + kP) * 7 + 2) (ftln (kP * 7 + 2))) ((kblines + kP) * 7 + 3) (ftln (kP * 7 + 3)) = f13584 := ((tsj (j := (kblines + kP)) (c := 3) (by omega) (by omega) (by omega) (by decide) rfl).symm.trans w3585)
      refine Kpdr (ws := [(h0, oX10 tby (nI kt) tln tsp tkd ts9 tn9 tf9), (tln, oX8 9 7 tlnc (nI kln)), (tlnc, iA G 63 ftln), (tsp, oX8 120 1 tspc (nI ksp)), (tspc, iA G 120 ftsp), (bb, oX0 bpersons bpapers bstamps bversions blines bsteps bsayings bfindings bwarnings bquestions td vd vl gp), (bsteps, oX8 960 1 bstepsc (nI kbsteps)), (bstepsc, iA G 960 fbsteps), (bversions, oX8 8 3 bversionsc (nI (kbversions + 1))), (bversionsc, iA G 24 (upd (upd (upd fbversions (kbversions * 3) td) (kbversions * 3 + 1) (nI kblines)) (kbversions * 3 + 2) (nI kln))), (blines, oX8 72 7 blinesc (nI ((kblines + kP) + 1))), (blinesc, iA G 504 (upd (upd (upd (upd vbl ((kblines + kP) * 7) (ftln (kP * 7))) ((kblines + kP) * 7 + 1) (ftln (kP * 7 + 1))) ((kblines + kP) * 7 + 2) (ftln (kP * 7 + 2))) ((kblines + kP) * 7 + 3) (ftln (kP * 7 + 3))))]) hP hD (fun hP hD => ?_)
      refine lv_iinc (v := 4) (lv' := [(6, .int 4), (5, .int (nI (kblines + kP))), (4, .int (nI kP)), (3, .int (nI kbsteps)), (2, .int (nI kbversions)), (0, .ref h0), (1, .ref bb)]) hx hb gX10_store_5.2.2.2.2.2.2.2.1 hl (k := 0) rfl (by decide) (by decide) rfl (fun ls hl => ?_)
      refine lv_goto (tgt := 88) hx hb gX10_store_5.2.2.2.2.2.2.2.2.1 (by decide) ?_
      refine lv_iload hx hb gX10_store_4.2.2.2.2.1 (lv_at0 hl) ?_
      refine lv_bipush (v := 6) hx hb gX10_store_4.2.2.2.2.2.1 (by decide) ?_
      refine lv_icmp_gt (tgt := 123) hx hb gX10_store_4.2.2.2.2.2.2.1 (by decide) (fun c9 => absurd c9 (by decide)) (fun _ => ?_)
      refine lv_aload_n hx hb gX10_store_4.2.2.2.2.2.2.2.1 rfl (lv_at6 hl) ?_
      refine gf_X10_70 hC rfl hK hP 5 rfl rfl gX10_store_4.2.2.2.2.2.2.2.2.1 ?_
      refine lv_iload hx hb gX10_store_4.2.2.2.2.2.2.2.2.2 (lv_at1 hl) ?_
      refine lv_iload hx hb gX10_store_5.1 (lv_at0 hl) ?_
      refine lv_aload_n hx hb gX10_store_5.2.1 rfl (lv_at5 hl) ?_
      refine gf_X10_20 hC rfl hK hP 0 rfl rfl gX10_store_5.2.2.1 ?_
      refine lv_iload hx hb gX10_store_5.2.2.2.1 (lv_at2 hl) ?_
      refine lv_iload hx hb gX10_store_5.2.2.2.2.1 (lv_at0 hl) ?_
      refine pV hC hK hl hP hD (c_T_at l G tln (nI kP) 4 9 7 tlnc kln ftln (hkln) (by omega) (by omega)) si_X10_74 [1, 2] sm_1_2 fm_1_2 nd_1_2 rfl rfl rfl rfl rfl (Nat.le_of_ble_eq_true rfl) rm_3_1_3 ⟨by first | exact Nat.le_of_ble_eq_true rfl | exact Nat.zero_le _, by first | exact Nat.le_of_ble_eq_true rfl | exact Nat.zero_le _⟩ gX10_store_5.2.2.2.2.2.1 (fun r3586 hr3586 => ?_)
      refine eqi (x1 := ftln (kP * 7 + 4)) (hr3586.trans ((tatr (j := kP) (c := 4) (by omega) (by omega) (by omega) (by decide) rfl))) ?_
      refine vV (wr := [(h0, oX10 tby (nI kt) tln tsp tkd ts9 tn9 tf9), (tln, oX8 9 7 tlnc (nI kln)), (tlnc, iA G 63 ftln), (tsp, oX8 120 1 tspc (nI ksp)), (tspc, iA G 120 ftsp), (bb, oX0 bpersons bpapers bstamps bversions blines bsteps bsayings bfindings bwarnings bquestions td vd vl gp), (bsteps, oX8 960 1 bstepsc (nI kbsteps)), (bstepsc, iA G 960 fbsteps), (bversions, oX8 8 3 bversionsc (nI (kbversions + 1))), (bversionsc, iA G 24 (upd (upd (upd fbversions (kbversions * 3) td) (kbversions * 3 + 1) (nI kblines)) (kbversions * 3 + 2) (nI kln)))]) hC hK hl hP hD hS hA (c_T_set l G blines (nI (kblines + kP)) 4 (ftln (kP * 7 + 4)) 72 7 blinesc ((kblines + kP) + 1) (upd (upd (upd (upd vbl ((kblines + kP) * 7) (ftln (kP * 7))) ((kblines + kP) * 7 + 1) (ftln (kP * 7 + 1))) ((kblines + kP) * 7 + 2) (ftln (kP * 7 + 2))) ((kblines + kP) * 7 + 3) (ftln (kP * 7 + 3))) (by omega) (by omega) (by omega)) si_X10_66 [10, 11] [0, 1, 2, 3, 4, 5, 6, 7, 8, 9] sm_10_11 fm_10_11 nd_10_11 sm_0_1_2_3_4_5_6_7_8_9 nd_0_1_2_3_4_5_6_7_8_9 dj_10_11__0_1_2_3_4_5_6_7_8_9 rfl rfl rfl rfl rfl (Nat.le_of_ble_eq_true rfl) rm_3_1_4 ⟨Nat.le_of_ble_eq_true rfl, Nat.le_of_ble_eq_true rfl⟩ gX10_store_5.2.2.2.2.2.2.1 (fun f13590 H locs hr3588 hP hD hS => ?_)
      try dsimp only at hr3588
      refine Kpdr (ws := [(h0, oX10 tby (nI kt) tln tsp tkd ts9 tn9 tf9), (tln, oX8 9 7 tlnc (nI kln)), (tlnc, iA G 63 ftln), (tsp, oX8 120 1 tspc (nI ksp)), (tspc, iA G 120 ftsp), (bb, oX0 bpersons bpapers bstamps bversions blines bsteps bsayings bfindings bwarnings bquestions td vd vl gp), (bsteps, oX8 960 1 bstepsc (nI kbsteps)), (bstepsc, iA G 960 fbsteps), (bversions, oX8 8 3 bversionsc (nI (kbversions + 1))), (bversionsc, iA G 24 (upd (upd (upd fbversions (kbversions * 3) td) (kbversions * 3 + 1) (nI kblines)) (kbversions * 3 + 2) (nI kln))), (blines, oX8 72 7 blinesc (nI ((kblines + kP) + 1))), (blinesc, iA G 504 f13590)]) hP hD (fun hP hD => ?_)
      have w3591 := hr3588
      obtain rfl : upd (upd (upd (upd (upd vbl ((kblines + kP) * 7) (ftln (kP * 7))) ((kblines + kP) * 7 + 1) (ftln (kP * 7 + 1))) ((kblines + kP) * 7 + 2) (ftln (kP * 7 + 2))) ((kblines + kP) * 7 + 3) (ftln (kP * 7 + 3))) ((kblines + kP) * 7 + 4) (ftln (kP * 7 + 4)) = f13590 := ((tsj (j := (kblines + kP)) (c := 4) (by omega) (by omega) (by omega) (by decide) rfl).symm.trans w3591)
      refine Kpdr (ws := [(h0, oX10 tby (nI kt) tln tsp tkd ts9 tn9 tf9), (tln, oX8 9 7 tlnc (nI kln)), (tlnc, iA G 63 ftln), (tsp, oX8 120 1 tspc (nI ksp)), (tspc, iA G 120 ftsp), (bb, oX0 bpersons bpapers bstamps bversions blines bsteps bsayings bfindings bwarnings bquestions td vd vl gp), (bsteps, oX8 960 1 bstepsc (nI kbsteps)), (bstepsc, iA G 960 fbsteps), (bversions, oX8 8 3 bversionsc (nI (kbversions + 1))), (bversionsc, iA G 24 (upd (upd (upd fbversions (kbversions * 3) td) (kbversions * 3 + 1) (nI kblines)) (kbversions * 3 + 2) (nI kln))), (blines, oX8 72 7 blinesc (nI ((kblines + kP) + 1))), (blinesc, iA G 504 (upd (upd (upd (upd (upd vbl ((kblines + kP) * 7) (ftln (kP * 7))) ((kblines + kP) * 7 + 1) (ftln (kP * 7 + 1))) ((kblines + kP) * 7 + 2) (ftln (kP * 7 + 2))) ((kblines + kP) * 7 + 3) (ftln (kP * 7 + 3))) ((kblines + kP) * 7 + 4) (ftln (kP * 7 + 4))))]) hP hD (fun hP hD => ?_)
      refine lv_iinc (v := 5) (lv' := [(6, .int 5), (5, .int (nI (kblines + kP))), (4, .int (nI kP)), (3, .int (nI kbsteps)), (2, .int (nI kbversions)), (0, .ref h0), (1, .ref bb)]) hx hb gX10_store_5.2.2.2.2.2.2.2.1 hl (k := 0) rfl (by decide) (by decide) rfl (fun ls hl => ?_)
      refine lv_goto (tgt := 88) hx hb gX10_store_5.2.2.2.2.2.2.2.2.1 (by decide) ?_
      refine lv_iload hx hb gX10_store_4.2.2.2.2.1 (lv_at0 hl) ?_
      refine lv_bipush (v := 6) hx hb gX10_store_4.2.2.2.2.2.1 (by decide) ?_
      refine lv_icmp_gt (tgt := 123) hx hb gX10_store_4.2.2.2.2.2.2.1 (by decide) (fun c9 => absurd c9 (by decide)) (fun _ => ?_)
      refine lv_aload_n hx hb gX10_store_4.2.2.2.2.2.2.2.1 rfl (lv_at6 hl) ?_
      refine gf_X10_70 hC rfl hK hP 5 rfl rfl gX10_store_4.2.2.2.2.2.2.2.2.1 ?_
      refine lv_iload hx hb gX10_store_4.2.2.2.2.2.2.2.2.2 (lv_at1 hl) ?_
      refine lv_iload hx hb gX10_store_5.1 (lv_at0 hl) ?_
      refine lv_aload_n hx hb gX10_store_5.2.1 rfl (lv_at5 hl) ?_
      refine gf_X10_20 hC rfl hK hP 0 rfl rfl gX10_store_5.2.2.1 ?_
      refine lv_iload hx hb gX10_store_5.2.2.2.1 (lv_at2 hl) ?_
      refine lv_iload hx hb gX10_store_5.2.2.2.2.1 (lv_at0 hl) ?_
      refine pV hC hK hl hP hD (c_T_at l G tln (nI kP) 5 9 7 tlnc kln ftln (hkln) (by omega) (by omega)) si_X10_74 [1, 2] sm_1_2 fm_1_2 nd_1_2 rfl rfl rfl rfl rfl (Nat.le_of_ble_eq_true rfl) rm_3_1_3 ⟨by first | exact Nat.le_of_ble_eq_true rfl | exact Nat.zero_le _, by first | exact Nat.le_of_ble_eq_true rfl | exact Nat.zero_le _⟩ gX10_store_5.2.2.2.2.2.1 (fun r3592 hr3592 => ?_)
      refine eqi (x1 := ftln (kP * 7 + 5)) (hr3592.trans ((tatr (j := kP) (c := 5) (by omega) (by omega) (by omega) (by decide) rfl))) ?_
      refine vV (wr := [(h0, oX10 tby (nI kt) tln tsp tkd ts9 tn9 tf9), (tln, oX8 9 7 tlnc (nI kln)), (tlnc, iA G 63 ftln), (tsp, oX8 120 1 tspc (nI ksp)), (tspc, iA G 120 ftsp), (bb, oX0 bpersons bpapers bstamps bversions blines bsteps bsayings bfindings bwarnings bquestions td vd vl gp), (bsteps, oX8 960 1 bstepsc (nI kbsteps)), (bstepsc, iA G 960 fbsteps), (bversions, oX8 8 3 bversionsc (nI (kbversions + 1))), (bversionsc, iA G 24 (upd (upd (upd fbversions (kbversions * 3) td) (kbversions * 3 + 1) (nI kblines)) (kbversions * 3 + 2) (nI kln)))]) hC hK hl hP hD hS hA (c_T_set l G blines (nI (kblines + kP)) 5 (ftln (kP * 7 + 5)) 72 7 blinesc ((kblines + kP) + 1) (upd (upd (upd (upd (upd vbl ((kblines + kP) * 7) (ftln (kP * 7))) ((kblines + kP) * 7 + 1) (ftln (kP * 7 + 1))) ((kblines + kP) * 7 + 2) (ftln (kP * 7 + 2))) ((kblines + kP) * 7 + 3) (ftln (kP * 7 + 3))) ((kblines + kP) * 7 + 4) (ftln (kP * 7 + 4))) (by omega) (by omega) (by omega)) si_X10_66 [10, 11] [0, 1, 2, 3, 4, 5, 6, 7, 8, 9] sm_10_11 fm_10_11 nd_10_11 sm_0_1_2_3_4_5_6_7_8_9 nd_0_1_2_3_4_5_6_7_8_9 dj_10_11__0_1_2_3_4_5_6_7_8_9 rfl rfl rfl rfl rfl (Nat.le_of_ble_eq_true rfl) rm_3_1_4 ⟨Nat.le_of_ble_eq_true rfl, Nat.le_of_ble_eq_true rfl⟩ gX10_store_5.2.2.2.2.2.2.1 (fun f13596 H locs hr3594 hP hD hS => ?_)
      try dsimp only at hr3594
      refine Kpdr (ws := [(h0, oX10 tby (nI kt) tln tsp tkd ts9 tn9 tf9), (tln, oX8 9 7 tlnc (nI kln)), (tlnc, iA G 63 ftln), (tsp, oX8 120 1 tspc (nI ksp)), (tspc, iA G 120 ftsp), (bb, oX0 bpersons bpapers bstamps bversions blines bsteps bsayings bfindings bwarnings bquestions td vd vl gp), (bsteps, oX8 960 1 bstepsc (nI kbsteps)), (bstepsc, iA G 960 fbsteps), (bversions, oX8 8 3 bversionsc (nI (kbversions + 1))), (bversionsc, iA G 24 (upd (upd (upd fbversions (kbversions * 3) td) (kbversions * 3 + 1) (nI kblines)) (kbversions * 3 + 2) (nI kln))), (blines, oX8 72 7 blinesc (nI ((kblines + kP) + 1))), (blinesc, iA G 504 f13596)]) hP hD (fun hP hD => ?_)
      have w3597 := hr3594
      obtain rfl : upd (upd (upd (upd (upd (upd vbl ((kblines + kP) * 7) (ftln (kP * 7))) ((kblines + kP) * 7 + 1) (ftln (kP * 7 + 1))) ((kblines + kP) * 7 + 2) (ftln (kP * 7 + 2))) ((kblines + kP) * 7 + 3) (ftln (kP * 7 + 3))) ((kblines + kP) * 7 + 4) (ftln (kP * 7 + 4))) ((kblines + kP) * 7 + 5) (ftln (kP * 7 + 5)) = f13596 := ((tsj (j := (kblines + kP)) (c := 5) (by omega) (by omega) (by omega) (by decide) rfl).symm.trans w3597)
      refine Kpdr (ws := [(h0, oX10 tby (nI kt) tln tsp tkd ts9 tn9 tf9), (tln, oX8 9 7 tlnc (nI kln)), (tlnc, iA G 63 ftln), (tsp, oX8 120 1 tspc (nI ksp)), (tspc, iA G 120 ftsp), (bb, oX0 bpersons bpapers bstamps bversions blines bsteps bsayings bfindings bwarnings bquestions td vd vl gp), (bsteps, oX8 960 1 bstepsc (nI kbsteps)), (bstepsc, iA G 960 fbsteps), (bversions, oX8 8 3 bversionsc (nI (kbversions + 1))), (bversionsc, iA G 24 (upd (upd (upd fbversions (kbversions * 3) td) (kbversions * 3 + 1) (nI kblines)) (kbversions * 3 + 2) (nI kln))), (blines, oX8 72 7 blinesc (nI ((kblines + kP) + 1))), (blinesc, iA G 504 (upd (upd (upd (upd (upd (upd vbl ((kblines + kP) * 7) (ftln (kP * 7))) ((kblines + kP) * 7 + 1) (ftln (kP * 7 + 1))) ((kblines + kP) * 7 + 2) (ftln (kP * 7 + 2))) ((kblines + kP) * 7 + 3) (ftln (kP * 7 + 3))) ((kblines + kP) * 7 + 4) (ftln (kP * 7 + 4))) ((kblines + kP) * 7 + 5) (ftln (kP * 7 + 5))))]) hP hD (fun hP hD => ?_)
      refine lv_iinc (v := 6) (lv' := [(6, .int 6), (5, .int (nI (kblines + kP))), (4, .int (nI kP)), (3, .int (nI kbsteps)), (2, .int (nI kbversions)), (0, .ref h0), (1, .ref bb)]) hx hb gX10_store_5.2.2.2.2.2.2.2.1 hl (k := 0) rfl (by decide) (by decide) rfl (fun ls hl => ?_)
      refine lv_goto (tgt := 88) hx hb gX10_store_5.2.2.2.2.2.2.2.2.1 (by decide) ?_
      refine lv_iload hx hb gX10_store_4.2.2.2.2.1 (lv_at0 hl) ?_
      refine lv_bipush (v := 6) hx hb gX10_store_4.2.2.2.2.2.1 (by decide) ?_
      refine lv_icmp_gt (tgt := 123) hx hb gX10_store_4.2.2.2.2.2.2.1 (by decide) (fun c9 => absurd c9 (by decide)) (fun _ => ?_)
      refine lv_aload_n hx hb gX10_store_4.2.2.2.2.2.2.2.1 rfl (lv_at6 hl) ?_
      refine gf_X10_70 hC rfl hK hP 5 rfl rfl gX10_store_4.2.2.2.2.2.2.2.2.1 ?_
      refine lv_iload hx hb gX10_store_4.2.2.2.2.2.2.2.2.2 (lv_at1 hl) ?_
      refine lv_iload hx hb gX10_store_5.1 (lv_at0 hl) ?_
      refine lv_aload_n hx hb gX10_store_5.2.1 rfl (lv_at5 hl) ?_
      refine gf_X10_20 hC rfl hK hP 0 rfl rfl gX10_store_5.2.2.1 ?_
      refine lv_iload hx hb gX10_store_5.2.2.2.1 (lv_at2 hl) ?_
      refine lv_iload hx hb gX10_store_5.2.2.2.2.1 (lv_at0 hl) ?_
      refine pV hC hK hl hP hD (c_T_at l G tln (nI kP) 6 9 7 tlnc kln ftln (hkln) (by omega) (by omega)) si_X10_74 [1, 2] sm_1_2 fm_1_2 nd_1_2 rfl rfl rfl rfl rfl (Nat.le_of_ble_eq_true rfl) rm_3_1_3 ⟨by first | exact Nat.le_of_ble_eq_true rfl | exact Nat.zero_le _, by first | exact Nat.le_of_ble_eq_true rfl | exact Nat.zero_le _⟩ gX10_store_5.2.2.2.2.2.1 (fun r3598 hr3598 => ?_)
      refine eqi (x1 := ftln (kP * 7 + 6)) (hr3598.trans ((tatr (j := kP) (c := 6) (by omega) (by omega) (by omega) (by decide) rfl))) ?_
      refine vV (wr := [(h0, oX10 tby (nI kt) tln tsp tkd ts9 tn9 tf9), (tln, oX8 9 7 tlnc (nI kln)), (tlnc, iA G 63 ftln), (tsp, oX8 120 1 tspc (nI ksp)), (tspc, iA G 120 ftsp), (bb, oX0 bpersons bpapers bstamps bversions blines bsteps bsayings bfindings bwarnings bquestions td vd vl gp), (bsteps, oX8 960 1 bstepsc (nI kbsteps)), (bstepsc, iA G 960 fbsteps), (bversions, oX8 8 3 bversionsc (nI (kbversions + 1))), (bversionsc, iA G 24 (upd (upd (upd fbversions (kbversions * 3) td) (kbversions * 3 + 1) (nI kblines)) (kbversions * 3 + 2) (nI kln)))]) hC hK hl hP hD hS hA (c_T_set l G blines (nI (kblines + kP)) 6 (ftln (kP * 7 + 6)) 72 7 blinesc ((kblines + kP) + 1) (upd (upd (upd (upd (upd (upd vbl ((kblines + kP) * 7) (ftln (kP * 7))) ((kblines + kP) * 7 + 1) (ftln (kP * 7 + 1))) ((kblines + kP) * 7 + 2) (ftln (kP * 7 + 2))) ((kblines + kP) * 7 + 3) (ftln (kP * 7 + 3))) ((kblines + kP) * 7 + 4) (ftln (kP * 7 + 4))) ((kblines + kP) * 7 + 5) (ftln (kP * 7 + 5))) (by omega) (by omega) (by omega)) si_X10_66 [10, 11] [0, 1, 2, 3, 4, 5, 6, 7, 8, 9] sm_10_11 fm_10_11 nd_10_11 sm_0_1_2_3_4_5_6_7_8_9 nd_0_1_2_3_4_5_6_7_8_9 dj_10_11__0_1_2_3_4_5_6_7_8_9 rfl rfl rfl rfl rfl (Nat.le_of_ble_eq_true rfl) rm_3_1_4 ⟨Nat.le_of_ble_eq_true rfl, Nat.le_of_ble_eq_true rfl⟩ gX10_store_5.2.2.2.2.2.2.1 (fun f13602 H locs hr3600 hP hD hS => ?_)
      try dsimp only at hr3600
      refine Kpdr (ws := [(h0, oX10 tby (nI kt) tln tsp tkd ts9 tn9 tf9), (tln, oX8 9 7 tlnc (nI kln)), (tlnc, iA G 63 ftln), (tsp, oX8 120 1 tspc (nI ksp)), (tspc, iA G 120 ftsp), (bb, oX0 bpersons bpapers bstamps bversions blines bsteps bsayings bfindings bwarnings bquestions td vd vl gp), (bsteps, oX8 960 1 bstepsc (nI kbsteps)), (bstepsc, iA G 960 fbsteps), (bversions, oX8 8 3 bversionsc (nI (kbversions + 1))), (bversionsc, iA G 24 (upd (upd (upd fbversions (kbversions * 3) td) (kbversions * 3 + 1) (nI kblines)) (kbversions * 3 + 2) (nI kln))), (blines, oX8 72 7 blinesc (nI ((kblines + kP) + 1))), (blinesc, iA G 504 f13602)]) hP hD (fun hP hD => ?_)
      have w3603 := hr3600
      obtain rfl : upd (upd (upd (upd (upd (upd (upd vbl ((kblines + kP) * 7) (ftln (kP * 7))) ((kblines + kP) * 7 + 1) (ftln (kP * 7 + 1))) ((kblines + kP) * 7 + 2) (ftln (kP * 7 + 2))) ((kblines + kP) * 7 + 3) (ftln (kP * 7 + 3))) ((kblines + kP) * 7 + 4) (ftln (kP * 7 + 4))) ((kblines + kP) * 7 + 5) (ftln (kP * 7 + 5))) ((kblines + kP) * 7 + 6) (ftln (kP * 7 + 6)) = f13602 := ((tsj (j := (kblines + kP)) (c := 6) (by omega) (by omega) (by omega) (by decide) rfl).symm.trans w3603)
      refine Kpdr (ws := [(h0, oX10 tby (nI kt) tln tsp tkd ts9 tn9 tf9), (tln, oX8 9 7 tlnc (nI kln)), (tlnc, iA G 63 ftln), (tsp, oX8 120 1 tspc (nI ksp)), (tspc, iA G 120 ftsp), (bb, oX0 bpersons bpapers bstamps bversions blines bsteps bsayings bfindings bwarnings bquestions td vd vl gp), (bsteps, oX8 960 1 bstepsc (nI kbsteps)), (bstepsc, iA G 960 fbsteps), (bversions, oX8 8 3 bversionsc (nI (kbversions + 1))), (bversionsc, iA G 24 (upd (upd (upd fbversions (kbversions * 3) td) (kbversions * 3 + 1) (nI kblines)) (kbversions * 3 + 2) (nI kln))), (blines, oX8 72 7 blinesc (nI ((kblines + kP) + 1))), (blinesc, iA G 504 (upd (upd (upd (upd (upd (upd (upd vbl ((kblines + kP) * 7) (ftln (kP * 7))) ((kblines + kP) * 7 + 1) (ftln (kP * 7 + 1))) ((kblines + kP) * 7 + 2) (ftln (kP * 7 + 2))) ((kblines + kP) * 7 + 3) (ftln (kP * 7 + 3))) ((kblines + kP) * 7 + 4) (ftln (kP * 7 + 4))) ((kblines + kP) * 7 + 5) (ftln (kP * 7 + 5))) ((kblines + kP) * 7 + 6) (ftln (kP * 7 + 6))))]) hP hD (fun hP hD => ?_)
      refine lv_iinc (v := 7) (lv' := [(6, .int 7), (5, .int (nI (kblines + kP))), (4, .int (nI kP)), (3, .int (nI kbsteps)), (2, .int (nI kbversions)), (0, .ref h0), (1, .ref bb)]) hx hb gX10_store_5.2.2.2.2.2.2.2.1 hl (k := 0) rfl (by decide) (by decide) rfl (fun ls hl => ?_)
      refine lv_goto (tgt := 88) hx hb gX10_store_5.2.2.2.2.2.2.2.2.1 (by decide) ?_
      refine lv_iload hx hb gX10_store_4.2.2.2.2.1 (lv_at0 hl) ?_
      refine lv_bipush (v := 6) hx hb gX10_store_4.2.2.2.2.2.1 (by decide) ?_
      refine lv_icmp_gt (tgt := 123) hx hb gX10_store_4.2.2.2.2.2.2.1 (by decide) (fun _ => ?_) (fun c9 => absurd (by decide) c9)
      refine lv_aload_n hx hb gX10_store_5.2.2.2.2.2.2.2.2.2 rfl (lv_at6 hl) ?_
      refine gf_X10_70 hC rfl hK hP 5 rfl rfl gX10_store_6.1 ?_
      refine lv_iload hx hb gX10_store_6.2.1 (lv_at1 hl) ?_
      refine lv_iconst (v := 5) hx hb gX10_store_6.2.2.1 (by decide) ?_
      refine lv_aload_n hx hb gX10_store_6.2.2.2.1 rfl (lv_at5 hl) ?_
      refine gf_X10_20 hC rfl hK hP 0 rfl rfl gX10_store_6.2.2.2.2.1 ?_
      refine lv_iload hx hb gX10_store_6.2.2.2.2.2.1 (lv_at2 hl) ?_
      refine lv_iconst (v := 5) hx hb gX10_store_6.2.2.2.2.2.2.1 (by decide) ?_
      refine pV hC hK hl hP hD (c_T_at l G tln (nI kP) 5 9 7 tlnc kln ftln (hkln) (by omega) (by omega)) si_X10_74 [1, 2] sm_1_2 fm_1_2 nd_1_2 rfl rfl rfl rfl rfl (Nat.le_of_ble_eq_true rfl) rm_3_1_3 ⟨by first | exact Nat.le_of_ble_eq_true rfl | exact Nat.zero_le _, by first | exact Nat.le_of_ble_eq_true rfl | exact Nat.zero_le _⟩ gX10_store_6.2.2.2.2.2.2.2.1 (fun r3604 hr3604 => ?_)
      refine eqi (x1 := ftln (kP * 7 + 5)) (hr3604.trans ((tatr (j := kP) (c := 5) (by omega) (by omega) (by omega) (by decide) rfl))) ?_
      refine lv_iload_n hx hb gX10_store_6.2.2.2.2.2.2.2.2.1 rfl (lv_at3 hl) ?_
      refine lv_iadd hx hb gX10_store_6.2.2.2.2.2.2.2.2.2 ?_
      refine vV (wr := [(h0, oX10 tby (nI kt) tln tsp tkd ts9 tn9 tf9), (tln, oX8 9 7 tlnc (nI kln)), (tlnc, iA G 63 ftln), (tsp, oX8 120 1 tspc (nI ksp)), (tspc, iA G 120 ftsp), (bb, oX0 bpersons bpapers bstamps bversions blines bsteps bsayings bfindings bwarnings bquestions td vd vl gp), (bsteps, oX8 960 1 bstepsc (nI kbsteps)), (bstepsc, iA G 960 fbsteps), (bversions, oX8 8 3 bversionsc (nI (kbversions + 1))), (bversionsc, iA G 24 (upd (upd (upd fbversions (kbversions * 3) td) (kbversions * 3 + 1) (nI kblines)) (kbversions * 3 + 2) (nI kln)))]) hC hK hl hP hD hS hA (c_T_set l G blines (nI (kblines + kP)) 5 ((ftln (kP * 7 + 5)) + (nI kbsteps)) 72 7 blinesc ((kblines + kP) + 1) (upd (upd (upd (upd (upd (upd (upd vbl ((kblines + kP) * 7) (ftln (kP * 7))) ((kblines + kP) * 7 + 1) (ftln (kP * 7 + 1))) ((kblines + kP) * 7 + 2) (ftln (kP * 7 + 2))) ((kblines + kP) * 7 + 3) (ftln (kP * 7 + 3))) ((kblines + kP) * 7 + 4) (ftln (kP * 7 + 4))) ((kblines + kP) * 7 + 5) (ftln (kP * 7 + 5))) ((kblines + kP) * 7 + 6) (ftln (kP * 7 + 6))) (by omega) (by omega) (by omega)) si_X10_66 [10, 11] [0, 1, 2, 3, 4, 5, 6, 7, 8, 9] sm_10_11 fm_10_11 nd_10_11 sm_0_1_2_3_4_5_6_7_8_9 nd_0_1_2_3_4_5_6_7_8_9 dj_10_11__0_1_2_3_4_5_6_7_8_9 rfl rfl rfl rfl rfl (Nat.le_of_ble_eq_true rfl) rm_3_1_4 ⟨Nat.le_of_ble_eq_true rfl, Nat.le_of_ble_eq_true rfl⟩ gX10_store_7.1 (fun f13608 H locs hr3606 hP hD hS => ?_)
      try dsimp only at hr3606
      refine Kpdr (ws := [(h0, oX10 tby (nI kt) tln tsp tkd ts9 tn9 tf9), (tln, oX8 9 7 tlnc (nI kln)), (tlnc, iA G 63 ftln), (tsp, oX8 120 1 tspc (nI ksp)), (tspc, iA G 120 ftsp), (bb, oX0 bpersons bpapers bstamps bversions blines bsteps bsayings bfindings bwarnings bquestions td vd vl gp), (bsteps, oX8 960 1 bstepsc (nI kbsteps)), (bstepsc, iA G 960 fbsteps), (bversions, oX8 8 3 bversionsc (nI (kbversions + 1))), (bversionsc, iA G 24 (upd (upd (upd fbversions (kbversions * 3) td) (kbversions * 3 + 1) (nI kblines)) (kbversions * 3 + 2) (nI kln))), (blines, oX8 72 7 blinesc (nI ((kblines + kP) + 1))), (blinesc, iA G 504 f13608)]) hP hD (fun hP hD => ?_)
      have w3609 := hr3606
      obtain rfl : upd (upd (upd (upd (upd (upd (upd (upd vbl ((kblines + kP) * 7) (ftln (kP * 7))) ((kblines + kP) * 7 + 1) (ftln (kP * 7 + 1))) ((kblines + kP) * 7 + 2) (ftln (kP * 7 + 2))) ((kblines + kP) * 7 + 3) (ftln (kP * 7 + 3))) ((kblines + kP) * 7 + 4) (ftln (kP * 7 + 4))) ((kblines + kP) * 7 + 5) (ftln (kP * 7 + 5))) ((kblines + kP) * 7 + 6) (ftln (kP * 7 + 6))) ((kblines + kP) * 7 + 5) ((ftln (kP * 7 + 5)) + (nI kbsteps)) = f13608 := ((tsj (j := (kblines + kP)) (c := 5) (by omega) (by omega) (by omega) (by decide) rfl).symm.trans w3609)
      refine Kpdr (ws := [(h0, oX10 tby (nI kt) tln tsp tkd ts9 tn9 tf9), (tln, oX8 9 7 tlnc (nI kln)), (tlnc, iA G 63 ftln), (tsp, oX8 120 1 tspc (nI ksp)), (tspc, iA G 120 ftsp), (bb, oX0 bpersons bpapers bstamps bversions blines bsteps bsayings bfindings bwarnings bquestions td vd vl gp), (bsteps, oX8 960 1 bstepsc (nI kbsteps)), (bstepsc, iA G 960 fbsteps), (bversions, oX8 8 3 bversionsc (nI (kbversions + 1))), (bversionsc, iA G 24 (upd (upd (upd fbversions (kbversions * 3) td) (kbversions * 3 + 1) (nI kblines)) (kbversions * 3 + 2) (nI kln))), (blines, oX8 72 7 blinesc (nI ((kblines + kP) + 1))), (blinesc, iA G 504 (upd (upd (upd (upd (upd (upd (upd (upd vbl ((kblines + kP) * 7) (ftln (kP * 7))) ((kblines + kP) * 7 + 1) (ftln (kP * 7 + 1))) ((kblines + kP) * 7 + 2) (ftln (kP * 7 + 2))) ((kblines + kP) * 7 + 3) (ftln (kP * 7 + 3))) ((kblines + kP) * 7 + 4) (ftln (kP * 7 + 4))) ((kblines + kP) * 7 + 5) (ftln (kP * 7 + 5))) ((kblines + kP) * 7 + 6) (ftln (kP * 7 + 6))) ((kblines + kP) * 7 + 5) ((ftln (kP * 7 + 5)) + (nI kbsteps))))]) hP hD (fun hP hD => ?_)
      refine lv_iinc (v := nI (kP + 1)) (lv' := [(4, .int (nI (kP + 1))), (6, .int 7), (5, .int (nI (kblines + kP))), (3, .int (nI kbsteps)), (2, .int (nI kbversions)), (0, .ref h0), (1, .ref bb)]) hx hb gX10_store_7.2.1 hl (k := 2) rfl (nI_1 _) (by decide) rfl (fun ls hl => ?_)
      refine lv_goto (tgt := 64) hx hb gX10_store_7.2.2.1 (by decide) ?_
      refine Kpds (ws' := [(h0, oX10 tby (nI kt) tln tsp tkd ts9 tn9 tf9), (tln, oX8 9 7 tlnc (nI kln)), (tlnc, iA G 63 ftln), (tsp, oX8 120 1 tspc (nI ksp)), (tspc, iA G 120 ftsp), (bb, oX0 bpersons bpapers bstamps bversions blines bsteps bsayings bfindings bwarnings bquestions td vd vl gp), (blines, oX8 72 7 blinesc (nI ((kblines + kP) + 1))), (blinesc, iA G 504 (upd (upd (upd (upd (upd (upd (upd (upd vbl ((kblines + kP) * 7) (ftln (kP * 7))) ((kblines + kP) * 7 + 1) (ftln (kP * 7 + 1))) ((kblines + kP) * 7 + 2) (ftln (kP * 7 + 2))) ((kblines + kP) * 7 + 3) (ftln (kP * 7 + 3))) ((kblines + kP) * 7 + 4) (ftln (kP * 7 + 4))) ((kblines + kP) * 7 + 5) (ftln (kP * 7 + 5))) ((kblines + kP) * 7 + 6) (ftln (kP * 7 + 6))) ((kblines + kP) * 7 + 5) ((ftln (kP * 7 + 5)) + (nI kbsteps)))), (bsteps, oX8 960 1 bstepsc (nI kbsteps)), (bstepsc, iA G 960 fbsteps), (bversions, oX8 8 3 bversionsc (nI (kbversions + 1))), (bversionsc, iA G 24 (upd (upd (upd fbversions (kbversions * 3) td) (kbversions * 3 + 1) (nI kblines)) (kbversions * 3 + 2) (nI kln)))]) hP hD [0, 1, 2, 3, 4, 5, 10, 11, 6, 7, 8, 9] fm_0_1_2_3_4_5_10_11_6_7_8_9 nd_0_1_2_3_4_5_10_11_6_7_8_9 sm_0_1_2_3_4_5_10_11_6_7_8_9 (fun hP hD => ?_)
      exact ihP (kP + 1) (upd (upd (upd (upd (upd (upd (upd (upd vbl ((kblines + kP) * 7) (ftln (kP * 7))) ((kblines + kP) * 7 + 1) (ftln (kP * 7 + 1))) ((kblines + kP) * 7 + 2) (ftln (kP * 7 + 2))) ((kblines + kP) * 7 + 3) (ftln (kP * 7 + 3))) ((kblines + kP) * 7 + 4) (ftln (kP * 7 + 4))) ((kblines + kP) * 7 + 5) (ftln (kP * 7 + 5))) ((kblines + kP) * 7 + 6) (ftln (kP * 7 + 6))) ((kblines + kP) * 7 + 5) ((ftln (kP * 7 + 5)) + (nI kbsteps))) _ _ _ (by omega) (by first | assumption | exact Or.inl rfl | exact Or.inr rfl | exact CPLN.zero | exact CPLN.next hcl) (And.intro hP hD) hS (lv_sub hl [0, 3, 4, 5, 6] rfl)
  exact keyP kln 0 fblines _ _ _ (by omega) (by first | assumption | exact Or.inl rfl | exact Or.inr rfl | exact CPLN.zero | exact CPLN.next hcl) (And.intro hP hD) hS (lv_sub hl [0, 1, 2, 3, 4] rfl)
def K_p_line (l : Launch) (G : GG) (h0 : Nat) (x1 : Int32) (x2 : Int32) (x3 : Int32) (bb : Nat) (kk : Nat) (ikp : Int32) (sg : Nat) (do9 : Nat) (ru9 : Nat) (ta9 : Nat) (tp9 : Nat) (ro9 : Nat) (ho9 : Nat) (de9 : Nat) (bpersons : Nat) (bpapers : Nat) (bstamps : Nat) (bversions : Nat) (blines : Nat) (bsteps : Nat) (bsayings : Nat) (bfindings : Nat) (bwarnings : Nat) (bquestions : Nat) (td : Int32) (vd : Int32) (vl : Int32) (gp : Int32) (bversionsc : Nat) (kbversions : Nat) (fbversions : Nat → Int32) (blinesc : Nat) (kblines : Nat) (fblines : Nat → Int32) (VL : Nat → List LNT) : Prop := MP l G yX11_line cX11_line 5 (some .int) 4 [.ref h0, .int x1, .int x2, .int x3] [(h0, oX11 bb kk ikp sg do9 ru9 ta9 tp9 ro9 ho9 de9), (bb, oX0 bpersons bpapers bstamps bversions blines bsteps bsayings bfindings bwarnings bquestions td vd vl gp), (bversions, oX8 8 3 bversionsc (nI kbversions)), (bversionsc, iA G 24 fbversions), (blines, oX8 72 7 blinesc (nI kblines)), (blinesc, iA G 504 fblines)] (fun r : Int32 => ∃ s9, (LIQ kbversions VL x1 x2 x3 s9) ∧ r = s9)
set_option maxHeartbeats 4000000 in
set_option maxRecDepth 100000 in
theorem p_line (l : Launch) (G : GG) (h0 : Nat) (x1 : Int32) (x2 : Int32) (x3 : Int32) (bb : Nat) (kk : Nat) (ikp : Int32) (sg : Nat) (do9 : Nat) (ru9 : Nat) (ta9 : Nat) (tp9 : Nat) (ro9 : Nat) (ho9 : Nat) (de9 : Nat) (bpersons : Nat) (bpapers : Nat) (bstamps : Nat) (bversions : Nat) (blines : Nat) (bsteps : Nat) (bsayings : Nat) (bfindings : Nat) (bwarnings : Nat) (bquestions : Nat) (td : Int32) (vd : Int32) (vl : Int32) (gp : Int32) (bversionsc : Nat) (kbversions : Nat) (fbversions : Nat → Int32) (blinesc : Nat) (kblines : Nat) (fblines : Nat → Int32) (VL : Nat → List LNT) (hkbversions : kbversions ≤ 8) (hkblines : kblines ≤ 72) (hVC : VCL fbversions fblines kbversions kblines VL) : K_p_line l G h0 x1 x2 x3 bb kk ikp sg do9 ru9 ta9 tp9 ro9 ho9 de9 bpersons bpapers bstamps bversions blines bsteps bsayings bfindings bwarnings bquestions td vd vl gp bversionsc kbversions fbversions blinesc kblines fblines VL := by
  refine MP.start (by decide +kernel) (Nat.le_of_ble_eq_true rfl) ?_
  intro p e s m below meth c ls hC hK hP hD hl
  refine absQ (fun Q0 hQ0 => ?_)
  have hl : lv_has ls 5 [(0, .ref h0), (1, .int x1), (2, .int x2), (3, .int x3)] := hl
  refine Kan8 hC (fun hx hb hr hml hB hown hlocks hnm => ?_)
  refine lv_aload_n hx hb gX11_line_0.1 rfl (lv_at0 hl) ?_
  refine gf_X11_15 hC rfl hK hP 0 rfl rfl gX11_line_0.2.1 ?_
  refine gf_X11_233 hC rfl hK hP 1 rfl rfl gX11_line_0.2.2.1 ?_
  refine lv_iload_n hx hb gX11_line_0.2.2.2.1 rfl (lv_at1 hl) ?_
  refine pV hC hK hl hP hD (c_T_has l G bversions x1 8 3 bversionsc kbversions) si_X11_124 [2] sm_2 fm_2 nd_2 rfl rfl rfl rfl rfl (Nat.le_of_ble_eq_true rfl) rm_4_1_2 ⟨by first | exact Nat.le_of_ble_eq_true rfl | exact Nat.zero_le _, by first | exact Nat.le_of_ble_eq_true rfl | exact Nat.zero_le _⟩ gX11_line_0.2.2.2.2.1 (Kors (Keqa fun a3611 => ?_) (Keqa fun a3611 => ?_))
  · refine lv_if_eq (tgt := 36) hx hb gX11_line_0.2.2.2.2.2.1 (by decide) (fun c9 => absurd c9 (by decide)) (fun _ => ?_)
    obtain ⟨jv, hjv, rfl⟩ := Hs_nat (by omega) a3611
    obtain ⟨hL9, lo9, so9, elo9, eln9, hlo9, hrow9⟩ := hVC jv hjv
    obtain ⟨L9, hL9e⟩ : ∃ z9, z9 = (VL jv).length := ⟨_, rfl⟩
    refine lv_iload_n hx hb gX11_line_0.2.2.2.2.2.2.1 rfl (lv_at2 hl) ?_
    refine lv_iconst (v := 0) hx hb gX11_line_0.2.2.2.2.2.2.2.1 (by decide) ?_
    refine lv_aload_n hx hb gX11_line_0.2.2.2.2.2.2.2.2.1 rfl (lv_at0 hl) ?_
    refine gf_X11_15 hC rfl hK hP 0 rfl rfl gX11_line_0.2.2.2.2.2.2.2.2.2 ?_
    refine gf_X11_233 hC rfl hK hP 1 rfl rfl gX11_line_1.1 ?_
    refine lv_iload_n hx hb gX11_line_1.2.1 rfl (lv_at1 hl) ?_
    refine lv_iconst (v := 2) hx hb gX11_line_1.2.2.1 (by decide) ?_
    refine pV hC hK hl hP hD (c_T_at l G bversions (nI jv) 2 8 3 bversionsc kbversions fbversions (hkbversions) (by omega) (by omega)) si_X11_128 [2, 3] sm_2_3 fm_2_3 nd_2_3 rfl rfl rfl rfl rfl (Nat.le_of_ble_eq_true rfl) rm_4_1_3 ⟨by first | exact Nat.le_of_ble_eq_true rfl | exact Nat.zero_le _, by first | exact Nat.le_of_ble_eq_true rfl | exact Nat.zero_le _⟩ gX11_line_1.2.2.2.1 (fun r3612 hr3612 => ?_)
    refine eqi (x1 := fbversions (jv * 3 + 2)) (hr3612.trans ((tatr (j := jv) (c := 2) (by omega) (by omega) (by omega) (by decide) rfl))) ?_
    refine eqi (x1 := nI L9) (eln9.trans (congrArg nI hL9e.symm)) ?_
    refine lv_iconst (v := 1) hx hb gX11_line_1.2.2.2.2.1 (by decide) ?_
    refine lv_isub hx hb gX11_line_1.2.2.2.2.2.1 ?_
    refine pS hC hK hl (c_within l G x2 0 ((nI L9) - 1)) si_X11_83 rfl rfl (Nat.le_of_ble_eq_true rfl) rm_4_1_3 ⟨by first | exact Nat.le_of_ble_eq_true rfl | exact Nat.zero_le _, by first | exact Nat.le_of_ble_eq_true rfl | exact Nat.zero_le _⟩ gX11_line_1.2.2.2.2.2.2.1 (Kors (Keqa fun a3615 => ?_) (Keqa fun a3615 => ?_))
    · refine lv_if_ne (tgt := 39) hx hb gX11_line_1.2.2.2.2.2.2.2.1 (by decide) (fun _ => ?_) (fun c9 => absurd c9 (by decide))
      obtain ⟨jl, hjl, rfl⟩ := Hs_nat (by omega) ((WiHc (by omega)).mp a3615)
      refine lv_aload_n hx hb gX11_line_2.1 rfl (lv_at0 hl) ?_
      refine gf_X11_15 hC rfl hK hP 0 rfl rfl gX11_line_2.2.1 ?_
      refine gf_X11_233 hC rfl hK hP 1 rfl rfl gX11_line_2.2.2.1 ?_
      refine lv_iload_n hx hb gX11_line_2.2.2.2.1 rfl (lv_at1 hl) ?_
      refine lv_iconst (v := 1) hx hb gX11_line_2.2.2.2.2.1 (by decide) ?_
      refine pV hC hK hl hP hD (c_T_at l G bversions (nI jv) 1 8 3 bversionsc kbversions fbversions (hkbversions) (by omega) (by omega)) si_X11_128 [2, 3] sm_2_3 fm_2_3 nd_2_3 rfl rfl rfl rfl rfl (Nat.le_of_ble_eq_true rfl) rm_4_1_3 ⟨by first | exact Nat.le_of_ble_eq_true rfl | exact Nat.zero_le _, by first | exact Nat.le_of_ble_eq_true rfl | exact Nat.zero_le _⟩ gX11_line_2.2.2.2.2.2.1 (fun r3616 hr3616 => ?_)
      refine eqi (x1 := fbversions (jv * 3 + 1)) (hr3616.trans ((tatr (j := jv) (c := 1) (by omega) (by omega) (by omega) (by decide) rfl))) ?_
      refine eqi (x1 := nI lo9) elo9 ?_
      refine lv_iload_n hx hb gX11_line_2.2.2.2.2.2.2.1 rfl (lv_at2 hl) ?_
      refine lv_iadd hx hb gX11_line_2.2.2.2.2.2.2.2.1 ?_
      refine eqi (x1 := nI (lo9 + jl)) (nI_add lo9 jl) ?_
      refine lv_istore (lv' := [(4, .int (nI (lo9 + jl))), (0, .ref h0), (1, .int (nI jv)), (2, .int (nI jl)), (3, .int x3)]) hx hb gX11_line_2.2.2.2.2.2.2.2.2.1 hl (by decide) rfl (fun ls hl => ?_)
      refine lv_iload_n hx hb gX11_line_2.2.2.2.2.2.2.2.2.2 rfl (lv_at4 hl) ?_
      by_cases c_56_3618 : x3 = 0
      · refine lv_tableIn (tgt := 92) hx hb gX11_line_3.1 (by rw [c_56_3618]; decide) (by rw [c_56_3618]; decide) (by rw [c_56_3618]; rfl) (by decide) ?_
        refine lv_aload_n hx hb gX11_line_3.2.1 rfl (lv_at1 hl) ?_
        refine gf_X11_15 hC rfl hK hP 0 rfl rfl gX11_line_3.2.2.1 ?_
        refine gf_X11_240 hC rfl hK hP 1 rfl rfl gX11_line_3.2.2.2.1 ?_
        refine lv_iload hx hb gX11_line_3.2.2.2.2.1 (lv_at0 hl) ?_
        refine lv_iconst (v := 0) hx hb gX11_line_3.2.2.2.2.2.1 (by decide) ?_
        refine pV hC hK hl hP hD (c_T_at l G blines (nI (lo9 + jl)) 0 72 7 blinesc kblines fblines (hkblines) (by omega) (by omega)) si_X11_128 [4, 5] sm_4_5 fm_4_5 nd_4_5 rfl rfl rfl rfl rfl (Nat.le_of_ble_eq_true rfl) rm_4_1_3 ⟨by first | exact Nat.le_of_ble_eq_true rfl | exact Nat.zero_le _, by first | exact Nat.le_of_ble_eq_true rfl | exact Nat.zero_le _⟩ gX11_line_3.2.2.2.2.2.2.1 (fun r3619 hr3619 => ?_)
        refine eqi (x1 := fblines ((lo9 + jl) * 7)) (hr3619.trans ((tatr (j := (lo9 + jl)) (c := 0) (by omega) (by omega) (by omega) (by decide) rfl))) ?_
        refine toQ hQ0 ?_
        exact RP (v := fblines ((lo9 + jl) * 7)) hC (⟨_, Or.inr ⟨jv, hjv, rfl, Or.inr ⟨jl, by omega, rfl, Or.inr ⟨0, by decide, c_56_3618, (hrow9 jl (by omega)).1⟩⟩⟩, rfl⟩) rfl gX11_line_3.2.2.2.2.2.2.2.1
      by_cases c_56_3621 : x3 = 1
      · refine lv_tableIn (tgt := 106) hx hb gX11_line_3.1 (by rw [c_56_3621]; decide) (by rw [c_56_3621]; decide) (by rw [c_56_3621]; rfl) (by decide) ?_
        refine lv_aload_n hx hb gX11_line_3.2.2.2.2.2.2.2.2.1 rfl (lv_at1 hl) ?_
        refine gf_X11_15 hC rfl hK hP 0 rfl rfl gX11_line_3.2.2.2.2.2.2.2.2.2 ?_
        refine gf_X11_240 hC rfl hK hP 1 rfl rfl gX11_line_4.1 ?_
        refine lv_iload hx hb gX11_line_4.2.1 (lv_at0 hl) ?_
        refine lv_iconst (v := 1) hx hb gX11_line_4.2.2.1 (by decide) ?_
        refine pV hC hK hl hP hD (c_T_at l G blines (nI (lo9 + jl)) 1 72 7 blinesc kblines fblines (hkblines) (by omega) (by omega)) si_X11_128 [4, 5] sm_4_5 fm_4_5 nd_4_5 rfl rfl rfl rfl rfl (Nat.le_of_ble_eq_true rfl) rm_4_1_3 ⟨by first | exact Nat.le_of_ble_eq_true rfl | exact Nat.zero_le _, by first | exact Nat.le_of_ble_eq_true rfl | exact Nat.zero_le _⟩ gX11_line_4.2.2.2.1 (fun r3622 hr3622 => ?_)
        refine eqi (x1 := fblines ((lo9 + jl) * 7 + 1)) (hr3622.trans ((tatr (j := (lo9 + jl)) (c := 1) (by omega) (by omega) (by omega) (by decide) rfl))) ?_
        refine toQ hQ0 ?_
        exact RP (v := fblines ((lo9 + jl) * 7 + 1)) hC (⟨_, Or.inr ⟨jv, hjv, rfl, Or.inr ⟨jl, by omega, rfl, Or.inr ⟨1, by decide, c_56_3621, (hrow9 jl (by omega)).2.1⟩⟩⟩, rfl⟩) rfl gX11_line_4.2.2.2.2.1
      by_cases c_56_3624 : x3 = 2
      · refine lv_tableIn (tgt := 120) hx hb gX11_line_3.1 (by rw [c_56_3624]; decide) (by rw [c_56_3624]; decide) (by rw [c_56_3624]; rfl) (by decide) ?_
        refine lv_aload_n hx hb gX11_line_4.2.2.2.2.2.1 rfl (lv_at1 hl) ?_
        refine gf_X11_15 hC rfl hK hP 0 rfl rfl gX11_line_4.2.2.2.2.2.2.1 ?_
        refine gf_X11_240 hC rfl hK hP 1 rfl rfl gX11_line_4.2.2.2.2.2.2.2.1 ?_
        refine lv_iload hx hb gX11_line_4.2.2.2.2.2.2.2.2.1 (lv_at0 hl) ?_
        refine lv_iconst (v := 2) hx hb gX11_line_4.2.2.2.2.2.2.2.2.2 (by decide) ?_
        refine pV hC hK hl hP hD (c_T_at l G blines (nI (lo9 + jl)) 2 72 7 blinesc kblines fblines (hkblines) (by omega) (by omega)) si_X11_128 [4, 5] sm_4_5 fm_4_5 nd_4_5 rfl rfl rfl rfl rfl (Nat.le_of_ble_eq_true rfl) rm_4_1_3 ⟨by first | exact Nat.le_of_ble_eq_true rfl | exact Nat.zero_le _, by first | exact Nat.le_of_ble_eq_true rfl | exact Nat.zero_le _⟩ gX11_line_5.1 (fun r3625 hr3625 => ?_)
        refine eqi (x1 := fblines ((lo9 + jl) * 7 + 2)) (hr3625.trans ((tatr (j := (lo9 + jl)) (c := 2) (by omega) (by omega) (by omega) (by decide) rfl))) ?_
        refine toQ hQ0 ?_
        exact RP (v := fblines ((lo9 + jl) * 7 + 2)) hC (⟨_, Or.inr ⟨jv, hjv, rfl, Or.inr ⟨jl, by omega, rfl, Or.inr ⟨2, by decide, c_56_3624, (hrow9 jl (by omega)).2.2.1⟩⟩⟩, rfl⟩) rfl gX11_line_5.2.1
      by_cases c_56_3627 : x3 = 3
      · refine lv_tableIn (tgt := 134) hx hb gX11_line_3.1 (by rw [c_56_3627]; decide) (by rw [c_56_3627]; decide) (by rw [c_56_3627]; rfl) (by decide) ?_
        refine lv_aload_n hx hb gX11_line_5.2.2.1 rfl (lv_at1 hl) ?_
        refine gf_X11_15 hC rfl hK hP 0 rfl rfl gX11_line_5.2.2.2.1 ?_
        refine gf_X11_240 hC rfl hK hP 1 rfl rfl gX11_line_5.2.2.2.2.1 ?_
        refine lv_iload hx hb gX11_line_5.2.2.2.2.2.1 (lv_at0 hl) ?_
        refine lv_iconst (v := 3) hx hb gX11_line_5.2.2.2.2.2.2.1 (by decide) ?_
        refine pV hC hK hl hP hD (c_T_at l G blines (nI (lo9 + jl)) 3 72 7 blinesc kblines fblines (hkblines) (by omega) (by omega)) si_X11_128 [4, 5] sm_4_5 fm_4_5 nd_4_5 rfl rfl rfl rfl rfl (Nat.le_of_ble_eq_true rfl) rm_4_1_3 ⟨by first | exact Nat.le_of_ble_eq_true rfl | exact Nat.zero_le _, by first | exact Nat.le_of_ble_eq_true rfl | exact Nat.zero_le _⟩ gX11_line_5.2.2.2.2.2.2.2.1 (fun r3628 hr3628 => ?_)
        refine eqi (x1 := fblines ((lo9 + jl) * 7 + 3)) (hr3628.trans ((tatr (j := (lo9 + jl)) (c := 3) (by omega) (by omega) (by omega) (by decide) rfl))) ?_
        refine toQ hQ0 ?_
        exact RP (v := fblines ((lo9 + jl) * 7 + 3)) hC (⟨_, Or.inr ⟨jv, hjv, rfl, Or.inr ⟨jl, by omega, rfl, Or.inr ⟨3, by decide, c_56_3627, (hrow9 jl (by omega)).2.2.2.1⟩⟩⟩, rfl⟩) rfl gX11_line_5.2.2.2.2.2.2.2.2.1
      by_cases c_56_3630 : x3 = 4
      · refine lv_tableIn (tgt := 148) hx hb gX11_line_3.1 (by rw [c_56_3630]; decide) (by rw [c_56_3630]; decide) (by rw [c_56_3630]; rfl) (by decide) ?_
        refine lv_aload_n hx hb gX11_line_5.2.2.2.2.2.2.2.2.2 rfl (lv_at1 hl) ?_
        refine gf_X11_15 hC rfl hK hP 0 rfl rfl gX11_line_6.1 ?_
        refine gf_X11_240 hC rfl hK hP 1 rfl rfl gX11_line_6.2.1 ?_
        refine lv_iload hx hb gX11_line_6.2.2.1 (lv_at0 hl) ?_
        refine lv_iconst (v := 4) hx hb gX11_line_6.2.2.2.1 (by decide) ?_
        refine pV hC hK hl hP hD (c_T_at l G blines (nI (lo9 + jl)) 4 72 7 blinesc kblines fblines (hkblines) (by omega) (by omega)) si_X11_128 [4, 5] sm_4_5 fm_4_5 nd_4_5 rfl rfl rfl rfl rfl (Nat.le_of_ble_eq_true rfl) rm_4_1_3 ⟨by first | exact Nat.le_of_ble_eq_true rfl | exact Nat.zero_le _, by first | exact Nat.le_of_ble_eq_true rfl | exact Nat.zero_le _⟩ gX11_line_6.2.2.2.2.1 (fun r3631 hr3631 => ?_)
        refine eqi (x1 := fblines ((lo9 + jl) * 7 + 4)) (hr3631.trans ((tatr (j := (lo9 + jl)) (c := 4) (by omega) (by omega) (by omega) (by decide) rfl))) ?_
        refine toQ hQ0 ?_
        exact RP (v := fblines ((lo9 + jl) * 7 + 4)) hC (⟨_, Or.inr ⟨jv, hjv, rfl, Or.inr ⟨jl, by omega, rfl, Or.inr ⟨4, by decide, c_56_3630, (hrow9 jl (by omega)).2.2.2.2.1⟩⟩⟩, rfl⟩) rfl gX11_line_6.2.2.2.2.2.1
      refine lv_tableOut (tgt := 162) hx hb gX11_line_3.1 (by have q9 := sw_0_4 (x := x3); simp only [c_56_3618, c_56_3621, c_56_3624, c_56_3627, c_56_3630, not_false_eq_true, true_implies] at q9; exact q9) (by decide) ?_
      refine lv_bipush (v := (-9)) hx hb gX11_line_6.2.2.2.2.2.2.1 (by decide) ?_
      refine toQ hQ0 ?_
      exact RP (v := (-9)) hC (⟨_, Or.inr ⟨jv, hjv, rfl, Or.inr ⟨jl, by omega, rfl, Or.inl ⟨Wi04.no c_56_3618 c_56_3621 c_56_3624 c_56_3627 c_56_3630, rfl⟩⟩⟩, rfl⟩) rfl gX11_line_6.2.2.2.2.2.2.2
    · refine lv_if_ne (tgt := 39) hx hb gX11_line_1.2.2.2.2.2.2.2.1 (by decide) (fun c9 => absurd (by decide) c9) (fun _ => ?_)
      refine lv_bipush (v := (-9)) hx hb gX11_line_1.2.2.2.2.2.2.2.2.1 (by decide) ?_
      refine toQ hQ0 ?_
      exact RP (v := (-9)) hC (⟨_, Or.inr ⟨jv, hjv, rfl, Or.inl ⟨fun h9 => a3615 ((WiHc (by omega)).mpr (by rw [hL9e]; exact h9)), rfl⟩⟩, rfl⟩) rfl gX11_line_1.2.2.2.2.2.2.2.2.2
  · refine lv_if_eq (tgt := 36) hx hb gX11_line_0.2.2.2.2.2.1 (by decide) (fun _ => ?_) (fun c9 => absurd (by decide) c9)
    refine lv_bipush (v := (-9)) hx hb gX11_line_1.2.2.2.2.2.2.2.2.1 (by decide) ?_
    refine toQ hQ0 ?_
    exact RP (v := (-9)) hC (⟨_, Or.inl ⟨a3611, rfl⟩, rfl⟩) rfl gX11_line_1.2.2.2.2.2.2.2.2.2
def K_p_read (l : Launch) (G : GG) (K : OO) (h0 : Nat) (bb : Nat) (kk : Nat) (ikp : Int32) (sg : Nat) (do9 : Nat) (ru9 : Nat) (ta9 : Nat) (tp9 : Nat) (ro9 : Nat) (ho9 : Nat) (de9 : Nat) (tby : Nat) (kt : Nat) (tln : Nat) (tsp : Nat) (tkd : Int32) (ts9 : Int32) (tn9 : Int32) (tf9 : Int32) (fby : Nat → Int32) (tlnc : Nat) (kln : Nat) (ftln : Nat → Int32) (tspc : Nat) (ksp : Nat) (ftsp : Nat → Int32) (bpersons : Nat) (bpapers : Nat) (bstamps : Nat) (bversions : Nat) (blines : Nat) (bsteps : Nat) (bsayings : Nat) (bfindings : Nat) (bwarnings : Nat) (bquestions : Nat) (td : Int32) (vd : Int32) (vl : Int32) (gp : Int32) (bversionsc : Nat) (kbversions : Nat) (fbversions : Nat → Int32) (blinesc : Nat) (kblines : Nat) (fblines : Nat → Int32) (bstepsc : Nat) (kbsteps : Nat) (fbsteps : Nat → Int32) : Prop := MIo l G K yX11_read cX11_read 2 (some .int) 33 0 0 [.ref h0] [(h0, oX11 bb kk ikp sg do9 ru9 ta9 tp9 ro9 ho9 de9), (tp9, oX10 tby (nI kt) tln tsp tkd ts9 tn9 tf9), (tby, iA G 240 fby), (tln, oX8 9 7 tlnc (nI kln)), (tlnc, iA G 63 ftln), (tsp, oX8 120 1 tspc (nI ksp)), (tspc, iA G 120 ftsp), (bb, oX0 bpersons bpapers bstamps bversions blines bsteps bsayings bfindings bwarnings bquestions td vd vl gp), (bversions, oX8 8 3 bversionsc (nI kbversions)), (bversionsc, iA G 24 fbversions), (blines, oX8 72 7 blinesc (nI kblines)), (blinesc, iA G 504 fblines), (bsteps, oX8 960 1 bstepsc (nI kbsteps)), (bstepsc, iA G 960 fbsteps)] (fun (r : Int32) (u : Int32 × Int32 × Int32 × Int32 × Nat × Nat × (Nat → Int32) × Nat × (Nat → Int32) × Nat × Nat × Nat × (Nat → Int32) × (Nat → Int32) × (Nat → Int32)) => (∃ (rq:Int32), (RDQ fby kt kbversions rq ∧ nI u.2.2.2.2.2.2.2.2.2.1 = ifc (rq = nI kbversions) (nI kbversions + 1) (nI kbversions) ∧ CRD fby kt rq kbversions kblines kbsteps fbversions fblines u.2.2.2.2.2.2.2.2.2.2.2.2.1 u.2.2.2.2.2.2.2.2.2.2.2.2.2.1 u.2.2.2.2.2.2.2.2.2.2.1 u.2.2.2.2.2.2.2.2.2.2.2.1 td) ∧ r = rq) ∧ (u.2.2.2.2.2.1 ≤ 9 ∧ u.2.2.2.2.2.2.2.1 ≤ 120 ∧ u.2.2.2.2.1 = 0 ∧ u.2.2.2.2.2.2.2.2.2.1 ≤ 8 ∧ u.2.2.2.2.2.2.2.2.2.2.1 ≤ 72 ∧ u.2.2.2.2.2.2.2.2.2.2.2.1 ≤ 960)) (fun u : Int32 × Int32 × Int32 × Int32 × Nat × Nat × (Nat → Int32) × Nat × (Nat → Int32) × Nat × Nat × Nat × (Nat → Int32) × (Nat → Int32) × (Nat → Int32) => [(h0, oX11 bb kk ikp sg do9 ru9 ta9 tp9 ro9 ho9 de9), (tp9, oX10 tby (nI u.2.2.2.2.1) tln tsp u.1 u.2.1 u.2.2.1 u.2.2.2.1), (tby, iA G 240 fby), (tln, oX8 9 7 tlnc (nI u.2.2.2.2.2.1)), (tlnc, iA G 63 u.2.2.2.2.2.2.1), (tsp, oX8 120 1 tspc (nI u.2.2.2.2.2.2.2.1)), (tspc, iA G 120 u.2.2.2.2.2.2.2.2.1), (bb, oX0 bpersons bpapers bstamps bversions blines bsteps bsayings bfindings bwarnings bquestions td vd vl gp), (bversions, oX8 8 3 bversionsc (nI u.2.2.2.2.2.2.2.2.2.1)), (bversionsc, iA G 24 u.2.2.2.2.2.2.2.2.2.2.2.2.1), (blines, oX8 72 7 blinesc (nI u.2.2.2.2.2.2.2.2.2.2.1)), (blinesc, iA G 504 u.2.2.2.2.2.2.2.2.2.2.2.2.2.1), (bsteps, oX8 960 1 bstepsc (nI u.2.2.2.2.2.2.2.2.2.2.2.1)), (bstepsc, iA G 960 u.2.2.2.2.2.2.2.2.2.2.2.2.2.2)])
set_option maxHeartbeats 4000000 in
set_option maxRecDepth 100000 in
theorem p_read (l : Launch) (G : GG) (K : OO) (h0 : Nat) (bb : Nat) (kk : Nat) (ikp : Int32) (sg : Nat) (do9 : Nat) (ru9 : Nat) (ta9 : Nat) (tp9 : Nat) (ro9 : Nat) (ho9 : Nat) (de9 : Nat) (tby : Nat) (kt : Nat) (tln : Nat) (tsp : Nat) (tkd : Int32) (ts9 : Int32) (tn9 : Int32) (tf9 : Int32) (fby : Nat → Int32) (tlnc : Nat) (kln : Nat) (ftln : Nat → Int32) (tspc : Nat) (ksp : Nat) (ftsp : Nat → Int32) (bpersons : Nat) (bpapers : Nat) (bstamps : Nat) (bversions : Nat) (blines : Nat) (bsteps : Nat) (bsayings : Nat) (bfindings : Nat) (bwarnings : Nat) (bquestions : Nat) (td : Int32) (vd : Int32) (vl : Int32) (gp : Int32) (bversionsc : Nat) (kbversions : Nat) (fbversions : Nat → Int32) (blinesc : Nat) (kblines : Nat) (fblines : Nat → Int32) (bstepsc : Nat) (kbsteps : Nat) (fbsteps : Nat → Int32) (hkt : kt ≤ 240) (hBB : BNN fby kt) (hkln : kln ≤ 9) (hksp : ksp ≤ 120) (hkbversions : kbversions ≤ 8) (hkblines : kblines ≤ 72) (hkbsteps : kbsteps ≤ 960) (hr1 : kblines ≤ 9 * kbversions) (hr2 : kbsteps ≤ 120 * kbversions) : K_p_read l G K h0 bb kk ikp sg do9 ru9 ta9 tp9 ro9 ho9 de9 tby kt tln tsp tkd ts9 tn9 tf9 fby tlnc kln ftln tspc ksp ftsp bpersons bpapers bstamps bversions blines bsteps bsayings bfindings bwarnings bquestions td vd vl gp bversionsc kbversions fbversions blinesc kblines fblines bstepsc kbsteps fbsteps := by
  refine MIo.start (by decide +kernel) (Nat.le_of_ble_eq_true rfl) ?_
  intro p e s m below meth c A ls hC hK hP hD hS hA hl hO
  refine absQ (fun Q0 hQ0 => ?_)
  have hl : lv_has ls 2 [(0, .ref h0)] := hl
  refine Kan8 hC (fun hx hb hr hml hB hown hlocks hnm => ?_)
  refine lv_aload_n hx hb gX11_read_0.1 rfl (lv_at0 hl) ?_
  refine gf_X11_58 hC rfl hK hP 0 rfl rfl gX11_read_0.2.1 ?_
  refine iVo (wr := [(h0, oX11 bb kk ikp sg do9 ru9 ta9 tp9 ro9 ho9 de9), (bb, oX0 bpersons bpapers bstamps bversions blines bsteps bsayings bfindings bwarnings bquestions td vd vl gp), (bversions, oX8 8 3 bversionsc (nI kbversions)), (bversionsc, iA G 24 fbversions), (blines, oX8 72 7 blinesc (nI kblines)), (blinesc, iA G 504 fblines), (bsteps, oX8 960 1 bstepsc (nI kbsteps)), (bstepsc, iA G 960 fbsteps)]) hO hC hK hl hP hD hS hA (t_scan l G K tp9 tby kt tln tsp tkd ts9 tn9 tf9 fby tlnc kln ftln tspc ksp ftsp (hkt) (hBB) (hkln) (hksp)) si_X11_227 [1, 2, 3, 4, 5, 6] [0, 7, 8, 9, 10, 11, 12, 13] sm_1_2_3_4_5_6 fm_1_2_3_4_5_6 nd_1_2_3_4_5_6 sm_0_7_8_9_10_11_12_13 nd_0_7_8_9_10_11_12_13 dj_1_2_3_4_5_6__0_7_8_9_10_11_12_13 rfl rfl rfl rfl rfl (Nat.le_of_ble_eq_true rfl) rm_33_31_2 ⟨Nat.le_of_ble_eq_true rfl, Nat.le_of_ble_eq_true rfl⟩ gX11_read_0.2.2.1 (fun r3633 => Ktu9 fun ks13635 tf13636 kln13637 gtln3638 ksp13639 gtsp3640 ls13641 c13642 r13643 => ?_)
  intro H locs hr3633 hP hD hS
  try dsimp only at hr3633
  refine Kpdr (ws := [(h0, oX11 bb kk ikp sg do9 ru9 ta9 tp9 ro9 ho9 de9), (bb, oX0 bpersons bpapers bstamps bversions blines bsteps bsayings bfindings bwarnings bquestions td vd vl gp), (bversions, oX8 8 3 bversionsc (nI kbversions)), (bversionsc, iA G 24 fbversions), (blines, oX8 72 7 blinesc (nI kblines)), (blinesc, iA G 504 fblines), (bsteps, oX8 960 1 bstepsc (nI kbsteps)), (bstepsc, iA G 960 fbsteps), (tp9, oX10 tby (nI kt) tln tsp (CKD fby kt ks13635) (nI ks13635) (nI (TKE fby kt ks13635)) tf13636), (tby, iA G 240 fby), (tln, oX8 9 7 tlnc (nI kln13637)), (tlnc, iA G 63 gtln3638), (tsp, oX8 120 1 tspc (nI ksp13639)), (tspc, iA G 120 gtsp3640)]) hP hD (fun hP hD => ?_)
  rcases hr3633 with ⟨rfl, a3644⟩ | ⟨rfl, a3644⟩
  · obtain ⟨hq3645, hq3646, hq3647, hq3648, hq3649, hq3650⟩ := a3644
    have xl3651 := hq3647.1
    refine lv_istore_n (lv' := [(1, .int (-1)), (0, .ref h0)]) hx hb gX11_read_0.2.2.2.1 rfl hl (by decide) rfl (fun ls hl => ?_)
    refine lv_aload_n hx hb gX11_read_0.2.2.2.2.1 rfl (lv_at1 hl) ?_
    refine gf_X11_58 hC rfl hK hP 0 rfl rfl gX11_read_0.2.2.2.2.2.1 ?_
    refine vV (wr := [(h0, oX11 bb kk ikp sg do9 ru9 ta9 tp9 ro9 ho9 de9), (bb, oX0 bpersons bpapers bstamps bversions blines bsteps bsayings bfindings bwarnings bquestions td vd vl gp), (bversions, oX8 8 3 bversionsc (nI kbversions)), (bversionsc, iA G 24 fbversions), (blines, oX8 72 7 blinesc (nI kblines)), (blinesc, iA G 504 fblines), (bsteps, oX8 960 1 bstepsc (nI kbsteps)), (bstepsc, iA G 960 fbsteps), (tby, iA G 240 fby), (tln, oX8 9 7 tlnc (nI kln13637)), (tlnc, iA G 63 gtln3638), (tsp, oX8 120 1 tspc (nI ksp13639)), (tspc, iA G 120 gtsp3640)]) hC hK hl hP hD hS hA (t_clear l G tp9 tby kt tln tsp (CKD fby kt ks13635) (nI ks13635) (nI (TKE fby kt ks13635)) tf13636) si_X11_230 [8] [0, 1, 2, 3, 4, 5, 6, 7, 9, 10, 11, 12, 13] sm_8 fm_8 nd_8 sm_0_1_2_3_4_5_6_7_9_10_11_12_13 nd_0_1_2_3_4_5_6_7_9_10_11_12_13 dj_8__0_1_2_3_4_5_6_7_9_10_11_12_13 rfl rfl rfl rfl rfl (Nat.le_of_ble_eq_true rfl) rm_33_1_1 ⟨Nat.le_of_ble_eq_true rfl, Nat.le_of_ble_eq_true rfl⟩ gX11_read_0.2.2.2.2.2.2.1 (fun u3653 H locs hr3652 hP hD hS => ?_)
    refine Kpdr (ws := [(h0, oX11 bb kk ikp sg do9 ru9 ta9 tp9 ro9 ho9 de9), (bb, oX0 bpersons bpapers bstamps bversions blines bsteps bsayings bfindings bwarnings bquestions td vd vl gp), (bversions, oX8 8 3 bversionsc (nI kbversions)), (bversionsc, iA G 24 fbversions), (blines, oX8 72 7 blinesc (nI kblines)), (blinesc, iA G 504 fblines), (bsteps, oX8 960 1 bstepsc (nI kbsteps)), (bstepsc, iA G 960 fbsteps), (tby, iA G 240 fby), (tln, oX8 9 7 tlnc (nI kln13637)), (tlnc, iA G 63 gtln3638), (tsp, oX8 120 1 tspc (nI ksp13639)), (tspc, iA G 120 gtsp3640), (tp9, oX10 tby 0 tln tsp (CKD fby kt ks13635) (nI ks13635) (nI (TKE fby kt ks13635)) tf13636)]) hP hD (fun hP hD => ?_)
    refine lv_iload_n hx hb gX11_read_0.2.2.2.2.2.2.2.1 rfl (lv_at0 hl) ?_
    refine lv_if_lt (tgt := 24) hx hb gX11_read_0.2.2.2.2.2.2.2.2.1 (by decide) (fun _ => ?_) (fun c9 => absurd (by decide) c9)
    refine lv_aload_n hx hb gX11_read_1.2.2.2.1 rfl (lv_at1 hl) ?_
    refine gf_X11_15 hC rfl hK hP 0 rfl rfl gX11_read_1.2.2.2.2.1 ?_
    refine gf_X11_233 hC rfl hK hP 1 rfl rfl gX11_read_1.2.2.2.2.2.1 ?_
    refine pV hC hK hl hP hD (c_T_isFull l G bversions 8 3 bversionsc kbversions (hkbversions) (by omega)) si_X11_111 [2] sm_2 fm_2 nd_2 rfl rfl rfl rfl rfl (Nat.le_of_ble_eq_true rfl) rm_33_1_1 ⟨by first | exact Nat.le_of_ble_eq_true rfl | exact Nat.zero_le _, by first | exact Nat.le_of_ble_eq_true rfl | exact Nat.zero_le _⟩ gX11_read_1.2.2.2.2.2.2.1 (Kors (Keqa fun a3655 => ?_) (Keqa fun a3655 => ?_))
    · refine lv_if_eq (tgt := 40) hx hb gX11_read_1.2.2.2.2.2.2.2.1 (by decide) (fun c9 => absurd c9 (by decide)) (fun _ => ?_)
      refine lv_bipush (v := (-2)) hx hb gX11_read_1.2.2.2.2.2.2.2.2.1 (by decide) ?_
      refine toQ hQ0 ?_
      exact RI (v := (-2)) hC hP hD hS [0, 13, 8, 9, 10, 11, 12, 1, 2, 3, 4, 5, 6, 7] (CKD fby kt ks13635, nI ks13635, nI (TKE fby kt ks13635), tf13636, 0, kln13637, gtln3638, ksp13639, gtsp3640, kbversions, kblines, kbsteps, fbversions, fblines, fbsteps) rfl rfl (by decide) (⟨⟨_, ⟨Or.inr ⟨_, _, _, hq3645, Or.inl ⟨by omega, rfl⟩⟩, (ifc_f (RDQ.n8 (by omega))).symm, CRD.n (RDQ.n8 (by omega))⟩, rfl⟩, (by dsimp only; omega)⟩) rfl gX11_read_1.2.2.2.2.2.2.2.2.2
    · refine lv_if_eq (tgt := 40) hx hb gX11_read_1.2.2.2.2.2.2.2.1 (by decide) (fun _ => ?_) (fun c9 => absurd (by decide) c9)
      refine lv_aload_n hx hb gX11_read_2.1 rfl (lv_at1 hl) ?_
      refine gf_X11_58 hC rfl hK hP 0 rfl rfl gX11_read_2.2.1 ?_
      refine lv_aload_n hx hb gX11_read_2.2.2.1 rfl (lv_at1 hl) ?_
      refine gf_X11_15 hC rfl hK hP 0 rfl rfl gX11_read_2.2.2.2.1 ?_
      refine iV (wr := [(h0, oX11 bb kk ikp sg do9 ru9 ta9 tp9 ro9 ho9 de9), (tby, iA G 240 fby)]) hC hK hl hP hD hS hA (t_store l G tp9 bb tby 0 tln tsp (CKD fby kt ks13635) (nI ks13635) (nI (TKE fby kt ks13635)) tf13636 tlnc kln13637 gtln3638 tspc ksp13639 gtsp3640 bpersons bpapers bstamps bversions blines bsteps bsayings bfindings bwarnings bquestions td vd vl gp bversionsc kbversions fbversions blinesc kblines fblines bstepsc kbsteps fbsteps (hq3649) (hq3650) (a3655) (by omega) (by omega)) si_X11_236 [13, 9, 10, 11, 12, 1, 2, 3, 4, 5, 6, 7] [0, 8] sm_13_9_10_11_12_1_2_3_4_5_6_7 fm_13_9_10_11_12_1_2_3_4_5_6_7 nd_13_9_10_11_12_1_2_3_4_5_6_7 sm_0_8 nd_0_8 dj_13_9_10_11_12_1_2_3_4_5_6_7__0_8 rfl rfl rfl rfl rfl (Nat.le_of_ble_eq_true rfl) rm_33_3_7 ⟨Nat.le_of_ble_eq_true rfl, Nat.le_of_ble_eq_true rfl⟩ gX11_read_2.2.2.2.2.1 (fun r3656 => Ktu2 fun glines3658 gsteps3659 => ?_)
      intro H locs hr3656 hP hD hS
      try dsimp only at hr3656
      refine Kpdr (ws := [(h0, oX11 bb kk ikp sg do9 ru9 ta9 tp9 ro9 ho9 de9), (tby, iA G 240 fby), (tp9, oX10 tby 0 tln tsp (CKD fby kt ks13635) (nI ks13635) (nI (TKE fby kt ks13635)) tf13636), (tln, oX8 9 7 tlnc (nI kln13637)), (tlnc, iA G 63 gtln3638), (tsp, oX8 120 1 tspc (nI ksp13639)), (tspc, iA G 120 gtsp3640), (bb, oX0 bpersons bpapers bstamps bversions blines bsteps bsayings bfindings bwarnings bquestions td vd vl gp), (bversions, oX8 8 3 bversionsc (nI (kbversions + 1))), (bversionsc, iA G 24 (upd (upd (upd fbversions (kbversions * 3) td) (kbversions * 3 + 1) (nI kblines)) (kbversions * 3 + 2) (nI kln13637))), (blines, oX8 72 7 blinesc (nI (kblines + kln13637))), (blinesc, iA G 504 glines3658), (bsteps, oX8 960 1 bstepsc (nI (kbsteps + ksp13639))), (bstepsc, iA G 960 gsteps3659)]) hP hD (fun hP hD => ?_)
      obtain ⟨hr3656, w3660⟩ := hr3656
      obtain rfl := hr3656
      refine toQ hQ0 ?_
      exact RI (v := nI kbversions) hC hP hD hS [0, 2, 1, 3, 4, 5, 6, 7, 8, 9, 10, 11, 12, 13] (CKD fby kt ks13635, nI ks13635, nI (TKE fby kt ks13635), tf13636, 0, kln13637, gtln3638, ksp13639, gtsp3640, (kbversions + 1), (kblines + kln13637), (kbsteps + ksp13639), (upd (upd (upd fbversions (kbversions * 3) td) (kbversions * 3 + 1) (nI kblines)) (kbversions * 3 + 2) (nI kln13637)), glines3658, gsteps3659) rfl rfl (by decide) (⟨⟨_, ⟨Or.inr ⟨_, _, _, hq3645, Or.inr ⟨by omega, rfl⟩⟩, ((ifc_t rfl).trans (nI_1 kbversions)).symm, CRD.y hq3645 hq3646 hq3647 w3660.1 (by omega) (by omega)⟩, rfl⟩, (by dsimp only; omega)⟩) rfl gX11_read_2.2.2.2.2.2
  · obtain ⟨hq3662, hq3663, hq3664, hq3665⟩ := a3644
    refine lv_istore_n (lv' := [(1, .int (nI ks13635)), (0, .ref h0)]) hx hb gX11_read_0.2.2.2.1 rfl hl (by decide) rfl (fun ls hl => ?_)
    refine lv_aload_n hx hb gX11_read_0.2.2.2.2.1 rfl (lv_at1 hl) ?_
    refine gf_X11_58 hC rfl hK hP 0 rfl rfl gX11_read_0.2.2.2.2.2.1 ?_
    refine vV (wr := [(h0, oX11 bb kk ikp sg do9 ru9 ta9 tp9 ro9 ho9 de9), (bb, oX0 bpersons bpapers bstamps bversions blines bsteps bsayings bfindings bwarnings bquestions td vd vl gp), (bversions, oX8 8 3 bversionsc (nI kbversions)), (bversionsc, iA G 24 fbversions), (blines, oX8 72 7 blinesc (nI kblines)), (blinesc, iA G 504 fblines), (bsteps, oX8 960 1 bstepsc (nI kbsteps)), (bstepsc, iA G 960 fbsteps), (tby, iA G 240 fby), (tln, oX8 9 7 tlnc (nI kln13637)), (tlnc, iA G 63 gtln3638), (tsp, oX8 120 1 tspc (nI ksp13639)), (tspc, iA G 120 gtsp3640)]) hC hK hl hP hD hS hA (t_clear l G tp9 tby kt tln tsp (CKD fby kt ks13635) (nI ks13635) (nI (TKE fby kt ks13635)) tf13636) si_X11_230 [8] [0, 1, 2, 3, 4, 5, 6, 7, 9, 10, 11, 12, 13] sm_8 fm_8 nd_8 sm_0_1_2_3_4_5_6_7_9_10_11_12_13 nd_0_1_2_3_4_5_6_7_9_10_11_12_13 dj_8__0_1_2_3_4_5_6_7_9_10_11_12_13 rfl rfl rfl rfl rfl (Nat.le_of_ble_eq_true rfl) rm_33_1_1 ⟨Nat.le_of_ble_eq_true rfl, Nat.le_of_ble_eq_true rfl⟩ gX11_read_0.2.2.2.2.2.2.1 (fun u3667 H locs hr3666 hP hD hS => ?_)
    refine Kpdr (ws := [(h0, oX11 bb kk ikp sg do9 ru9 ta9 tp9 ro9 ho9 de9), (bb, oX0 bpersons bpapers bstamps bversions blines bsteps bsayings bfindings bwarnings bquestions td vd vl gp), (bversions, oX8 8 3 bversionsc (nI kbversions)), (bversionsc, iA G 24 fbversions), (blines, oX8 72 7 blinesc (nI kblines)), (blinesc, iA G 504 fblines), (bsteps, oX8 960 1 bstepsc (nI kbsteps)), (bstepsc, iA G 960 fbsteps), (tby, iA G 240 fby), (tln, oX8 9 7 tlnc (nI kln13637)), (tlnc, iA G 63 gtln3638), (tsp, oX8 120 1 tspc (nI ksp13639)), (tspc, iA G 120 gtsp3640), (tp9, oX10 tby 0 tln tsp (CKD fby kt ks13635) (nI ks13635) (nI (TKE fby kt ks13635)) tf13636)]) hP hD (fun hP hD => ?_)
    refine lv_iload_n hx hb gX11_read_0.2.2.2.2.2.2.2.1 rfl (lv_at0 hl) ?_
    refine lv_if_lt (tgt := 24) hx hb gX11_read_0.2.2.2.2.2.2.2.2.1 (by decide) (fun c9 => absurd c9 (nI_pos (by omega))) (fun _ => ?_)
    refine lv_bipush (v := (-100)) hx hb gX11_read_0.2.2.2.2.2.2.2.2.2 (by decide) ?_
    refine lv_iload_n hx hb gX11_read_1.1 rfl (lv_at0 hl) ?_
    refine lv_isub hx hb gX11_read_1.2.1 ?_
    refine toQ hQ0 ?_
    exact RI (v := (-100) - (nI ks13635)) hC hP hD hS [0, 13, 8, 9, 10, 11, 12, 1, 2, 3, 4, 5, 6, 7] (CKD fby kt ks13635, nI ks13635, nI (TKE fby kt ks13635), tf13636, 0, kln13637, gtln3638, ksp13639, gtsp3640, kbversions, kblines, kbsteps, fbversions, fblines, fbsteps) rfl rfl (by decide) (⟨⟨_, ⟨Or.inl ⟨_, hq3662, rfl⟩, (ifc_f (RDQ.nf (by omega) (by omega))).symm, CRD.n (RDQ.nf (by omega) (by omega))⟩, rfl⟩, (by dsimp only; omega)⟩) rfl gX11_read_1.2.2.1
