section WR
variable {p : Program} {l : Launch} {e : Env} {R : Room} {s : State} {m : MethodId} {args : Array Value} {below : List Frame} {meth : Method} {c : Code} {H : Heap} {locs : List Loc} {cells slots : Nat} {Q : State → Prop}
variable {pc : Nat} {ls : Array Slot} {rest : List Value} {G : GG} {ws : va_W} {A : Nat → Prop} {y0 : MethodName} {b0 : ByteArray} {mL0 : Nat} {rt0 : Option FieldType} {a : Nat} {H0 : Heap}
end WR
/-- the bounds of a cell of the reference's row -/
def CAPS : List Int := [10, 12, 24, 8, 16, 12, 16, 7]
def bnd (i : Nat) : Int × Int :=
  if i < 4 then (-2147483648, 2147483647)
  else if i < 12 then (0, CAPS.getD (i - 4) 0)
  else if i < 32 then (0, 48)
  else if i < 104 then (-2147483648, 2147483647)
  else if i < 176 then (if (i - 104) % 3 = 0 then (0, 11) else if (i - 104) % 3 = 1 then (0, 5) else (0, 999))
  else if i < 1424 then (-2147483648, 2147483647)
  else if i < 1552 then (if (i - 1424) % 8 = 1 then (0, 9) else if (i - 1424) % 8 = 2 then (0, 11) else (-2147483648, 2147483647))
  else if i < 1600 then (if (i - 1552) % 4 = 0 then (0, 9) else if (i - 1552) % 4 = 1 then (0, 7) else (-2147483648, 2147483647))
  else (-2147483648, 2147483647)
def NI (f : Nat → Int32) : Prop := ∀ i : Nat, (bnd i).1 ≤ (f i).toInt ∧ (f i).toInt ≤ (bnd i).2
theorem nI_ti {n : Nat} (h : n < 2 ^ 31) : (nI n).toInt = (n : Int) := nI_toInt h
theorem NI.nat {f : Nat → Int32} (hN : NI f) {i B : Nat} (h : bnd i = (0, (B : Int))) (hB : B < 2 ^ 31) : ∃ k, k ≤ B ∧ f i = nI k := by
  obtain ⟨h1, h2⟩ := hN i
  rw [h] at h1 h2
  have h0 : ¬ f i < 0 := by
    intro h9
    rw [Int32.lt_iff_toInt_lt] at h9
    have e0 : (0 : Int32).toInt = 0 := by decide
    simp only at h1
    omega
  obtain ⟨j, hj, e⟩ := nI_of h0
  refine ⟨j, ?_, e⟩
  rw [e, nI_ti hj] at h2
  simp only at h2
  omega
theorem NI.set {f : Nat → Int32} (hN : NI f) {k : Nat} {v : Int32} (h1 : (bnd k).1 ≤ v.toInt) (h2 : v.toInt ≤ (bnd k).2) : NI (upd f k v) := by
  intro i
  unfold upd
  by_cases e : i = k
  · rw [if_pos e, e]; exact ⟨h1, h2⟩
  · rw [if_neg e]; exact hN i
theorem NI.setA {f : Nat → Int32} (hN : NI f) {k : Nat} {v : Int32} (h : bnd k = (-2147483648, 2147483647)) : NI (upd f k v) := by
  refine hN.set ?_ ?_
  · rw [h]
    have := Int32.le_toInt v
    simp only
    omega
  · rw [h]
    have := Int32.toInt_lt v
    simp only
    omega
theorem NI.setN {f : Nat → Int32} (hN : NI f) {k j B : Nat} (h : bnd k = (0, (B : Int))) (hj : j ≤ B) (hB : B < 2 ^ 31) : NI (upd f k (nI j)) := by
  refine hN.set ?_ ?_
  · rw [h, nI_ti (by omega)]
    simp only
    omega
  · rw [h, nI_ti (by omega)]
    simp only
    omega
theorem bnd_per {i : Nat} (h1 : 12 ≤ i) (h2 : i < 32) : bnd i = (0, ((48 : Nat) : Int)) := by
  unfold bnd
  rw [if_neg (by omega), if_neg (by omega), if_pos h2]
  rfl
theorem bnd_pap {i : Nat} (h1 : 32 ≤ i) (h2 : i < 104) : bnd i = (-2147483648, 2147483647) := by
  unfold bnd
  rw [if_neg (by omega), if_neg (by omega), if_neg (by omega), if_pos h2]
theorem bnd_st0 {i s : Nat} (h : i = 104 + 3 * s) (hs : s < 24) : bnd i = (0, ((11 : Nat) : Int)) := by
  unfold bnd
  rw [if_neg (by omega), if_neg (by omega), if_neg (by omega), if_neg (by omega), if_pos (by omega), if_pos (by omega)]
  rfl
theorem bnd_st1 {i s : Nat} (h : i = 104 + 3 * s + 1) (hs : s < 24) : bnd i = (0, ((5 : Nat) : Int)) := by
  unfold bnd
  rw [if_neg (by omega), if_neg (by omega), if_neg (by omega), if_neg (by omega), if_pos (by omega), if_neg (by omega), if_pos (by omega)]
  rfl
theorem bnd_st2 {i s : Nat} (h : i = 104 + 3 * s + 2) (hs : s < 24) : bnd i = (0, ((999 : Nat) : Int)) := by
  unfold bnd
  rw [if_neg (by omega), if_neg (by omega), if_neg (by omega), if_neg (by omega), if_pos (by omega), if_neg (by omega), if_neg (by omega)]
  rfl
theorem bnd_ver {i : Nat} (h1 : 176 ≤ i) (h2 : i < 1424) : bnd i = (-2147483648, 2147483647) := by
  unfold bnd
  rw [if_neg (by omega), if_neg (by omega), if_neg (by omega), if_neg (by omega), if_neg (by omega), if_pos h2]
theorem bnd_say1 {i s : Nat} (h : i = 1424 + 8 * s + 1) (hs : s < 16) : bnd i = (0, ((9 : Nat) : Int)) := by
  unfold bnd
  rw [if_neg (by omega), if_neg (by omega), if_neg (by omega), if_neg (by omega), if_neg (by omega), if_neg (by omega), if_pos (by omega), if_pos (by omega)]
  rfl
theorem bnd_say2 {i s : Nat} (h : i = 1424 + 8 * s + 2) (hs : s < 16) : bnd i = (0, ((11 : Nat) : Int)) := by
  unfold bnd
  rw [if_neg (by omega), if_neg (by omega), if_neg (by omega), if_neg (by omega), if_neg (by omega), if_neg (by omega), if_pos (by omega), if_neg (by omega), if_pos (by omega)]
  rfl
theorem bnd_sayA {i s r : Nat} (h : i = 1424 + 8 * s + r) (hs : s < 16) (hr : r < 8) (h1 : r ≠ 1) (h2 : r ≠ 2) : bnd i = (-2147483648, 2147483647) := by
  unfold bnd
  rw [if_neg (by omega), if_neg (by omega), if_neg (by omega), if_neg (by omega), if_neg (by omega), if_neg (by omega), if_pos (by omega), if_neg (by omega), if_neg (by omega)]
theorem bnd_fin0 {i s : Nat} (h : i = 1552 + 4 * s) (hs : s < 12) : bnd i = (0, ((9 : Nat) : Int)) := by
  unfold bnd
  rw [if_neg (by omega), if_neg (by omega), if_neg (by omega), if_neg (by omega), if_neg (by omega), if_neg (by omega), if_neg (by omega), if_pos (by omega), if_pos (by omega)]
  rfl
theorem bnd_fin1 {i s : Nat} (h : i = 1552 + 4 * s + 1) (hs : s < 12) : bnd i = (0, ((7 : Nat) : Int)) := by
  unfold bnd
  rw [if_neg (by omega), if_neg (by omega), if_neg (by omega), if_neg (by omega), if_neg (by omega), if_neg (by omega), if_neg (by omega), if_pos (by omega), if_neg (by omega), if_pos (by omega)]
  rfl
theorem bnd_finA {i s r : Nat} (h : i = 1552 + 4 * s + r) (hs : s < 12) (hr : r < 4) (h1 : 2 ≤ r) : bnd i = (-2147483648, 2147483647) := by
  unfold bnd
  rw [if_neg (by omega), if_neg (by omega), if_neg (by omega), if_neg (by omega), if_neg (by omega), if_neg (by omega), if_neg (by omega), if_pos (by omega), if_neg (by omega), if_neg (by omega)]
theorem bnd_end {i : Nat} (h1 : 1600 ≤ i) : bnd i = (-2147483648, 2147483647) := by
  unfold bnd
  rw [if_neg (by omega), if_neg (by omega), if_neg (by omega), if_neg (by omega), if_neg (by omega), if_neg (by omega), if_neg (by omega), if_neg (by omega)]
theorem bnd_low {i : Nat} (h1 : i < 4) : bnd i = (-2147483648, 2147483647) := by
  unfold bnd
  rw [if_pos h1]
/-- steps of a line's cond, on a pile -/
def STEP (c : Int32) (a b : Nat) : Prop := (c < 30000 ∧ b = a + 1) ∨ (¬ c < 30000 ∧ c = 30000 ∧ 1 ≤ a ∧ b = a) ∨ (¬ c < 30000 ∧ ¬ c = 30000 ∧ 2 ≤ a ∧ b + 1 = a)
def WFC (cd : Nat → Int32) (a b : Nat) : Prop := ∃ ht : Nat → Nat, ht a = 0 ∧ ∀ k : Nat, a ≤ k → k < b → STEP (cd k) (ht k) (ht (k + 1))
def LOK (ln cd : Nat → Int32) : Prop := (∃ so, so < 4 ∧ ln 0 = nI so ∧ (so = 0 → (∃ n2, n2 < 8 ∧ ln 2 = nI n2) ∧ ∃ n3, n3 < 8 ∧ ln 3 = nI n3) ∧ (so = 2 → ∃ n1, n1 < 8 ∧ ln 1 = nI n1)) ∧ ∃ a b, ln 4 = nI a ∧ ln 5 = nI b ∧ a ≤ b ∧ b ≤ 100 ∧ WFC cd a b
def VOK (g : Nat → Int32) : Prop := ∃ L, L ≤ 9 ∧ g 1 = nI L ∧ ∀ l, l < L → LOK (fun j => g (2 + 6 * l + j)) (fun j => g (56 + j))
def VI (f : Nat → Int32) : Prop := ∀ v, v < 8 → VOK (fun j => f (176 + 156 * v + j))
theorem LOK.ext {l1 l2 c1 c2 : Nat → Int32} (h1 : ∀ j, j < 6 → l1 j = l2 j) (h2 : ∀ j, j < 100 → c1 j = c2 j) (h : LOK l1 c1) : LOK l2 c2 := by
  obtain ⟨⟨so, hs, e0, hA, hB⟩, a, b, e4, e5, hab, hb, ht, h0, hst⟩ := h
  refine ⟨⟨so, hs, (h1 0 (by omega)) ▸ e0, fun h => ?_, fun h => ?_⟩, a, b, (h1 4 (by omega)) ▸ e4, (h1 5 (by omega)) ▸ e5, hab, hb, ht, h0, fun k hk1 hk2 => ?_⟩
  · obtain ⟨⟨n2, q1, q2⟩, n3, q3, q4⟩ := hA h
    exact ⟨⟨n2, q1, (h1 2 (by omega)) ▸ q2⟩, n3, q3, (h1 3 (by omega)) ▸ q4⟩
  · obtain ⟨n1, q1, q2⟩ := hB h
    exact ⟨n1, q1, (h1 1 (by omega)) ▸ q2⟩
  · rw [← h2 k (by omega)]
    exact hst k hk1 hk2
theorem VOK.ext {g1 g2 : Nat → Int32} (h1 : ∀ j, j < 156 → g1 j = g2 j) (h : VOK g1) : VOK g2 := by
  obtain ⟨L, hL, e, hl⟩ := h
  exact ⟨L, hL, (h1 1 (by omega)) ▸ e, fun l h9 => LOK.ext (fun j hj => h1 _ (by omega)) (fun j hj => h1 _ (by omega)) (hl l h9)⟩
theorem VI.set {f : Nat → Int32} (h : VI f) {k : Nat} {v : Int32} (hk : k < 176 ∨ 1424 ≤ k) : VI (upd f k v) := by
  intro v9 hv9
  refine VOK.ext (fun j hj => ?_) (h v9 hv9)
  show _ = upd f k v (176 + 156 * v9 + j)
  unfold upd
  rw [if_neg (by omega)]
/-- how many stamps of a paper lie among the first n -/
def cntS (f : Nat → Int32) (p : Int32) : Nat → Nat
  | 0 => 0
  | n + 1 => cntS f p n + (if f (104 + 3 * n) = p then 1 else 0)
theorem cntS_t {f : Nat → Int32} {p : Int32} {n : Nat} (h : f (104 + 3 * n) = p) : cntS f p (n + 1) = cntS f p n + 1 := by
  show cntS f p n + (if f (104 + 3 * n) = p then 1 else 0) = _
  rw [if_pos h]
theorem cntS_f {f : Nat → Int32} {p : Int32} {n : Nat} (h : ¬ f (104 + 3 * n) = p) : cntS f p (n + 1) = cntS f p n := by
  show cntS f p n + (if f (104 + 3 * n) = p then 1 else 0) = _
  rw [if_neg h]
  rfl
theorem cntS_le (f : Nat → Int32) (p : Int32) : ∀ n, cntS f p n ≤ n
  | 0 => Nat.le_refl 0
  | n + 1 => by
    show cntS f p n + (if f (104 + 3 * n) = p then 1 else 0) ≤ n + 1
    have h := cntS_le f p n
    split <;> omega
theorem WiHs {v : Int32} {k : Nat} (hk : k < 2 ^ 31) : Wi v 0 (nI k - 1) ↔ Hs v k := by
  rw [Wi_iff]
  unfold Hs
  rw [Int32.lt_iff_toInt_lt, Int32.le_iff_toInt_le, nI_ti hk]
  have e0 : (0 : Int32).toInt = 0 := by decide
  have e1 : (nI k - 1).toInt = (k : Int) - 1 := by
    cases k with
    | zero => decide
    | succ k => rw [nI_sub1, nI_ti (by omega)]; omega
  rw [e0, e1]
  omega
section WR
variable {p : Program} {l : Launch} {e : Env} {R : Room} {s : State} {m : MethodId} {args : Array Value} {below : List Frame} {meth : Method} {c : Code} {H : Heap} {locs : List Loc} {cells slots : Nat} {Q : State → Prop}
variable {pc : Nat} {ls : Array Slot} {rest : List Value} {G : GG} {ws : va_W} {A : Nat → Prop} {y0 : MethodName} {b0 : ByteArray} {mL0 : Nat} {rt0 : Option FieldType} {a : Nat} {H0 : Heap}
theorem gX12_has_0 : (decode cX12_has 0 = .ok (.iload_n 0, 1)) ∧ (decode cX12_has 1 = .ok (.iload_n 1, 1)) ∧ (decode cX12_has 2 = .ok (.ishr, 1)) ∧ (decode cX12_has 3 = .ok (.iconst 1, 1)) ∧ (decode cX12_has 4 = .ok (.iand, 1)) ∧ (decode cX12_has 5 = .ok (.iconst 1, 1)) ∧ (decode cX12_has 6 = .ok (.if_icmp .ne 7, 3)) ∧ (decode cX12_has 9 = .ok (.iconst 1, 1)) ∧ (decode cX12_has 10 = .ok (.goto 4, 3)) ∧ (decode cX12_has 13 = .ok (.iconst 0, 1)) := by decide +kernel
theorem gX12_has_1 : (decode cX12_has 14 = .ok (.ireturn, 1)) := by decide +kernel
theorem gX12_bits_0 : (decode cX12_bits 0 = .ok (.iconst 0, 1)) ∧ (decode cX12_bits 1 = .ok (.istore_n 1, 1)) ∧ (decode cX12_bits 2 = .ok (.iconst 0, 1)) ∧ (decode cX12_bits 3 = .ok (.istore_n 2, 1)) ∧ (decode cX12_bits 4 = .ok (.iload_n 2, 1)) ∧ (decode cX12_bits 5 = .ok (.bipush 16, 2)) ∧ (decode cX12_bits 7 = .ok (.if_icmp .ge 17, 3)) ∧ (decode cX12_bits 10 = .ok (.iload_n 1, 1)) ∧ (decode cX12_bits 11 = .ok (.iload_n 0, 1)) ∧ (decode cX12_bits 12 = .ok (.iload_n 2, 1)) := by decide +kernel
theorem gX12_bits_1 : (decode cX12_bits 13 = .ok (.ishr, 1)) ∧ (decode cX12_bits 14 = .ok (.iconst 1, 1)) ∧ (decode cX12_bits 15 = .ok (.iand, 1)) ∧ (decode cX12_bits 16 = .ok (.iadd, 1)) ∧ (decode cX12_bits 17 = .ok (.istore_n 1, 1)) ∧ (decode cX12_bits 18 = .ok (.iinc 2 1, 3)) ∧ (decode cX12_bits 21 = .ok (.goto (-17), 3)) ∧ (decode cX12_bits 24 = .ok (.iload_n 1, 1)) ∧ (decode cX12_bits 25 = .ok (.ireturn, 1)) := by decide +kernel
theorem gX12_is_0 : (decode cX12_is 0 = .ok (.iload_n 1, 1)) ∧ (decode cX12_is 1 = .ok (.iconst 0, 1)) ∧ (decode cX12_is 2 = .ok (.aload_n 0, 1)) ∧ (decode cX12_is 3 = .ok (.getfield 9, 3)) ∧ (decode cX12_is 6 = .ok (.iload_n 2, 1)) ∧ (decode cX12_is 7 = .ok (.iaload, 1)) ∧ (decode cX12_is 8 = .ok (.iconst 1, 1)) ∧ (decode cX12_is 9 = .ok (.isub, 1)) ∧ (decode cX12_is 10 = .ok (.invokestatic 84, 3)) ∧ (decode cX12_is 13 = .ok (.ireturn, 1)) := by decide +kernel
theorem in_X12 : ∀ w ∈ wsX120, w ∈ BW := iB_wsX120
theorem m_1030 : Cond.fieldLink RX12 9 "InquiryBenchModel" "now" "[I" ∈ BW := iB_BW54 _ (List.mem_of_getElem? (i := 19) rfl)
theorem gf_X12_9 (hC : CX p s m meth c y0 b0 mL0 rt0 args) (hy0 : y0.cls = RX12) (hK : KK G s) (hP : va_P G.1 vwCl ws H) (q0 : Nat) {fs : List Value} {v : Value} (he : ws[q0]? = some (a, .inr (12, fs))) (hv : fs[0]? = some v) (hdg : decode b0 pc = .ok (.getfield 9, 3)) (kk : W p l e R s m args below meth c H locs cells slots Q (F0 m (pc + 3) ls (v :: rest))) : W p l e R s m args below meth c H locs cells slots Q (F0 m pc ls (.ref a :: rest)) := by
  obtain ⟨hx, hb, hr, hml, hB, hown, hlocks, hnm⟩ := hC
  rw [hy0] at hown
  exact va_get (ci := 12) (C := RX12) (T := TX12) (N := 41) hx hb hB in_X12 hown hK.1 hP q0 he rfl 0 (by decide) (hB _ m_1030) (fun _ h => h) hv hdg kk
theorem gX12_paper_0 : (decode cX12_paper 0 = .ok (.aload_n 0, 1)) ∧ (decode cX12_paper 1 = .ok (.getfield 9, 3)) ∧ (decode cX12_paper 4 = .ok (.bipush 32, 2)) ∧ (decode cX12_paper 6 = .ok (.bipush 6, 2)) ∧ (decode cX12_paper 8 = .ok (.iload_n 1, 1)) ∧ (decode cX12_paper 9 = .ok (.imul, 1)) ∧ (decode cX12_paper 10 = .ok (.iadd, 1)) ∧ (decode cX12_paper 11 = .ok (.iload_n 2, 1)) ∧ (decode cX12_paper 12 = .ok (.iadd, 1)) ∧ (decode cX12_paper 13 = .ok (.iaload, 1)) := by decide +kernel
theorem gX12_paper_1 : (decode cX12_paper 14 = .ok (.ireturn, 1)) := by decide +kernel
theorem gX12_saying_0 : (decode cX12_saying 0 = .ok (.aload_n 0, 1)) ∧ (decode cX12_saying 1 = .ok (.getfield 9, 3)) ∧ (decode cX12_saying 4 = .ok (.sipush 1424, 3)) ∧ (decode cX12_saying 7 = .ok (.bipush 8, 2)) ∧ (decode cX12_saying 9 = .ok (.iload_n 1, 1)) ∧ (decode cX12_saying 10 = .ok (.imul, 1)) ∧ (decode cX12_saying 11 = .ok (.iadd, 1)) ∧ (decode cX12_saying 12 = .ok (.iload_n 2, 1)) ∧ (decode cX12_saying 13 = .ok (.iadd, 1)) ∧ (decode cX12_saying 14 = .ok (.iaload, 1)) := by decide +kernel
theorem gX12_saying_1 : (decode cX12_saying 15 = .ok (.ireturn, 1)) := by decide +kernel
theorem gX12_day_0 : (decode cX12_day 0 = .ok (.aload_n 0, 1)) ∧ (decode cX12_day 1 = .ok (.getfield 9, 3)) ∧ (decode cX12_day 4 = .ok (.iconst 1, 1)) ∧ (decode cX12_day 5 = .ok (.iaload, 1)) ∧ (decode cX12_day 6 = .ok (.ifCond .ge 12, 3)) ∧ (decode cX12_day 9 = .ok (.aload_n 0, 1)) ∧ (decode cX12_day 10 = .ok (.getfield 9, 3)) ∧ (decode cX12_day 13 = .ok (.iconst 0, 1)) ∧ (decode cX12_day 14 = .ok (.iaload, 1)) ∧ (decode cX12_day 15 = .ok (.goto 9, 3)) := by decide +kernel
theorem gX12_day_1 : (decode cX12_day 18 = .ok (.aload_n 0, 1)) ∧ (decode cX12_day 19 = .ok (.getfield 9, 3)) ∧ (decode cX12_day 22 = .ok (.iconst 1, 1)) ∧ (decode cX12_day 23 = .ok (.iaload, 1)) ∧ (decode cX12_day 24 = .ok (.ireturn, 1)) := by decide +kernel
theorem gX12_isIn_0 : (decode cX12_isIn 0 = .ok (.aload_n 0, 1)) ∧ (decode cX12_isIn 1 = .ok (.iload_n 1, 1)) ∧ (decode cX12_isIn 2 = .ok (.iconst 5, 1)) ∧ (decode cX12_isIn 3 = .ok (.invokevirtual 88, 3)) ∧ (decode cX12_isIn 6 = .ok (.ifCond .lt 20, 3)) ∧ (decode cX12_isIn 9 = .ok (.aload_n 0, 1)) ∧ (decode cX12_isIn 10 = .ok (.iload_n 1, 1)) ∧ (decode cX12_isIn 11 = .ok (.iconst 5, 1)) ∧ (decode cX12_isIn 12 = .ok (.invokevirtual 88, 3)) ∧ (decode cX12_isIn 15 = .ok (.aload_n 0, 1)) := by decide +kernel
theorem m_1090 : Cond.code yX12_paper cX12_paper 3 (some .int) ∈ BW := iB_BW57 _ (List.mem_of_getElem? (i := 19) rfl)
theorem m_1088 : Cond.methodLink RX12 88 yX12_paper ∈ BW := iB_BW57 _ (List.mem_of_getElem? (i := 17) rfl)
theorem m_1089 : Cond.instanceMethod yX12_paper ∈ BW := iB_BW57 _ (List.mem_of_getElem? (i := 18) rfl)
theorem m_50 : Cond.selects RX12 yX12_paper yX12_paper ∈ BW := iB_BW2 _ (List.mem_of_getElem? (i := 10) rfl)
theorem si_X12_88 : SV RX12 RX12 88 yX12_paper cX12_paper 3 (some .int) 2 := ⟨⟨m_1088, m_1089, m_50, m_115, m_1090⟩, rfl, nK_RX12.1, nK_RX12.2, pd_2⟩
theorem gX12_isIn_1 : (decode cX12_isIn 16 = .ok (.invokevirtual 92, 3)) ∧ (decode cX12_isIn 19 = .ok (.if_icmp .gt 7, 3)) ∧ (decode cX12_isIn 22 = .ok (.iconst 1, 1)) ∧ (decode cX12_isIn 23 = .ok (.goto 4, 3)) ∧ (decode cX12_isIn 26 = .ok (.iconst 0, 1)) ∧ (decode cX12_isIn 27 = .ok (.istore_n 2, 1)) ∧ (decode cX12_isIn 28 = .ok (.aload_n 0, 1)) ∧ (decode cX12_isIn 29 = .ok (.iload_n 1, 1)) ∧ (decode cX12_isIn 30 = .ok (.iconst 4, 1)) ∧ (decode cX12_isIn 31 = .ok (.invokevirtual 88, 3)) := by decide +kernel
theorem gX12_isIn_2 : (decode cX12_isIn 34 = .ok (.aload_n 0, 1)) ∧ (decode cX12_isIn 35 = .ok (.invokevirtual 92, 3)) ∧ (decode cX12_isIn 38 = .ok (.if_icmp .gt 37, 3)) ∧ (decode cX12_isIn 41 = .ok (.aload_n 0, 1)) ∧ (decode cX12_isIn 42 = .ok (.iload_n 1, 1)) ∧ (decode cX12_isIn 43 = .ok (.iconst 3, 1)) ∧ (decode cX12_isIn 44 = .ok (.invokevirtual 88, 3)) ∧ (decode cX12_isIn 47 = .ok (.aload_n 0, 1)) ∧ (decode cX12_isIn 48 = .ok (.getfield 9, 3)) ∧ (decode cX12_isIn 51 = .ok (.iconst 2, 1)) := by decide +kernel
theorem m_1093 : Cond.code yX12_day cX12_day 1 (some .int) ∈ BW := iB_BW58 _ (List.mem_of_getElem? (i := 2) rfl)
theorem m_1091 : Cond.methodLink RX12 92 yX12_day ∈ BW := iB_BW58 _ (List.mem_of_getElem? (i := 0) rfl)
theorem m_1092 : Cond.instanceMethod yX12_day ∈ BW := iB_BW58 _ (List.mem_of_getElem? (i := 1) rfl)
theorem m_51 : Cond.selects RX12 yX12_day yX12_day ∈ BW := iB_BW2 _ (List.mem_of_getElem? (i := 11) rfl)
theorem si_X12_92 : SV RX12 RX12 92 yX12_day cX12_day 1 (some .int) 0 := ⟨⟨m_1091, m_1092, m_51, m_115, m_1093⟩, rfl, nK_RX12.1, nK_RX12.2, pd_1⟩
theorem gX12_isIn_4 : (decode cX12_isIn 72 = .ok (.goto 4, 3)) ∧ (decode cX12_isIn 75 = .ok (.iconst 0, 1)) ∧ (decode cX12_isIn 76 = .ok (.ireturn, 1)) := by decide +kernel
theorem gX12_isIn_3 : (decode cX12_isIn 52 = .ok (.iaload, 1)) ∧ (decode cX12_isIn 53 = .ok (.if_icmp .gt 22, 3)) ∧ (decode cX12_isIn 56 = .ok (.iload_n 2, 1)) ∧ (decode cX12_isIn 57 = .ok (.ifCond .ne 18, 3)) ∧ (decode cX12_isIn 60 = .ok (.aload_n 0, 1)) ∧ (decode cX12_isIn 61 = .ok (.getfield 96, 3)) ∧ (decode cX12_isIn 64 = .ok (.iload_n 1, 1)) ∧ (decode cX12_isIn 65 = .ok (.invokestatic 99, 3)) ∧ (decode cX12_isIn 68 = .ok (.ifCond .ne 7, 3)) ∧ (decode cX12_isIn 71 = .ok (.iconst 1, 1)) := by decide +kernel
theorem m_1039 : Cond.fieldLink RX12 96 "InquiryBenchModel" "outs" "I" ∈ BW := iB_BW55 _ (List.mem_of_getElem? (i := 8) rfl)
theorem gf_X12_96 (hC : CX p s m meth c y0 b0 mL0 rt0 args) (hy0 : y0.cls = RX12) (hK : KK G s) (hP : va_P G.1 vwCl ws H) (q0 : Nat) {fs : List Value} {v : Value} (he : ws[q0]? = some (a, .inr (12, fs))) (hv : fs[9]? = some v) (hdg : decode b0 pc = .ok (.getfield 96, 3)) (kk : W p l e R s m args below meth c H locs cells slots Q (F0 m (pc + 3) ls (v :: rest))) : W p l e R s m args below meth c H locs cells slots Q (F0 m pc ls (.ref a :: rest)) := by
  obtain ⟨hx, hb, hr, hml, hB, hown, hlocks, hnm⟩ := hC
  rw [hy0] at hown
  exact va_get (ci := 12) (C := RX12) (T := TX12) (N := 41) hx hb hB in_X12 hown hK.1 hP q0 he rfl 9 (by decide) (hB _ m_1039) (fun _ h => h) hv hdg kk
theorem m_1096 : Cond.code yX12_has cX12_has 2 (some .boolean) ∈ BW := iB_BW58 _ (List.mem_of_getElem? (i := 5) rfl)
theorem m_1094 : Cond.methodLink RX12 99 yX12_has ∈ BW := iB_BW58 _ (List.mem_of_getElem? (i := 3) rfl)
theorem m_1095 : Cond.static yX12_has ∈ BW := iB_BW58 _ (List.mem_of_getElem? (i := 4) rfl)
theorem si_X12_99 : SS RX12 99 yX12_has cX12_has 2 (some .boolean) 2 := ⟨⟨m_1094, m_1095, m_115, m_1096⟩, ⟨nK_RX12.1, nK_RX12.2, pd_3⟩⟩
theorem gX12_inView_0 : (decode cX12_inView 0 = .ok (.iconst 0, 1)) ∧ (decode cX12_inView 1 = .ok (.istore_n 1, 1)) ∧ (decode cX12_inView 2 = .ok (.iconst 0, 1)) ∧ (decode cX12_inView 3 = .ok (.istore_n 2, 1)) ∧ (decode cX12_inView 4 = .ok (.iload_n 2, 1)) ∧ (decode cX12_inView 5 = .ok (.aload_n 0, 1)) ∧ (decode cX12_inView 6 = .ok (.getfield 9, 3)) ∧ (decode cX12_inView 9 = .ok (.iconst 5, 1)) ∧ (decode cX12_inView 10 = .ok (.iaload, 1)) ∧ (decode cX12_inView 11 = .ok (.if_icmp .ge 27, 3)) := by decide +kernel
theorem gX12_inView_2 : (decode cX12_inView 30 = .ok (.ior, 1)) ∧ (decode cX12_inView 31 = .ok (.istore_n 1, 1)) ∧ (decode cX12_inView 32 = .ok (.iinc 2 1, 3)) ∧ (decode cX12_inView 35 = .ok (.goto (-31), 3)) ∧ (decode cX12_inView 38 = .ok (.iload_n 1, 1)) ∧ (decode cX12_inView 39 = .ok (.ireturn, 1)) := by decide +kernel
theorem gX12_inView_1 : (decode cX12_inView 14 = .ok (.iload_n 1, 1)) ∧ (decode cX12_inView 15 = .ok (.aload_n 0, 1)) ∧ (decode cX12_inView 16 = .ok (.iload_n 2, 1)) ∧ (decode cX12_inView 17 = .ok (.invokevirtual 103, 3)) ∧ (decode cX12_inView 20 = .ok (.ifCond .eq 9, 3)) ∧ (decode cX12_inView 23 = .ok (.iconst 1, 1)) ∧ (decode cX12_inView 24 = .ok (.iload_n 2, 1)) ∧ (decode cX12_inView 25 = .ok (.ishl, 1)) ∧ (decode cX12_inView 26 = .ok (.goto 4, 3)) ∧ (decode cX12_inView 29 = .ok (.iconst 0, 1)) := by decide +kernel
theorem m_1087 : Cond.code yX12_isIn cX12_isIn 3 (some .boolean) ∈ BW := iB_BW57 _ (List.mem_of_getElem? (i := 16) rfl)
theorem m_1085 : Cond.methodLink RX12 103 yX12_isIn ∈ BW := iB_BW57 _ (List.mem_of_getElem? (i := 14) rfl)
theorem m_1086 : Cond.instanceMethod yX12_isIn ∈ BW := iB_BW57 _ (List.mem_of_getElem? (i := 15) rfl)
theorem m_49 : Cond.selects RX12 yX12_isIn yX12_isIn ∈ BW := iB_BW2 _ (List.mem_of_getElem? (i := 9) rfl)
theorem si_X12_103 : SV RX12 RX12 103 yX12_isIn cX12_isIn 3 (some .boolean) 1 := ⟨⟨m_1085, m_1086, m_49, m_115, m_1087⟩, rfl, nK_RX12.1, nK_RX12.2, pd_5⟩
theorem gX12_papersOf_0 : (decode cX12_papersOf 0 = .ok (.iconst 0, 1)) ∧ (decode cX12_papersOf 1 = .ok (.istore_n 3, 1)) ∧ (decode cX12_papersOf 2 = .ok (.iconst 0, 1)) ∧ (decode cX12_papersOf 3 = .ok (.istore 4, 2)) ∧ (decode cX12_papersOf 5 = .ok (.iload 4, 2)) ∧ (decode cX12_papersOf 7 = .ok (.aload_n 0, 1)) ∧ (decode cX12_papersOf 8 = .ok (.getfield 9, 3)) ∧ (decode cX12_papersOf 11 = .ok (.iconst 5, 1)) ∧ (decode cX12_papersOf 12 = .ok (.iaload, 1)) ∧ (decode cX12_papersOf 13 = .ok (.if_icmp .ge 58, 3)) := by decide +kernel
theorem gX12_papersOf_3 : (decode cX12_papersOf 55 = .ok (.ifCond .eq 7, 3)) ∧ (decode cX12_papersOf 58 = .ok (.iconst 1, 1)) ∧ (decode cX12_papersOf 59 = .ok (.goto 4, 3)) ∧ (decode cX12_papersOf 62 = .ok (.iconst 0, 1)) ∧ (decode cX12_papersOf 63 = .ok (.iadd, 1)) ∧ (decode cX12_papersOf 64 = .ok (.istore_n 3, 1)) ∧ (decode cX12_papersOf 65 = .ok (.iinc 4 1, 3)) ∧ (decode cX12_papersOf 68 = .ok (.goto (-63), 3)) ∧ (decode cX12_papersOf 71 = .ok (.iload_n 3, 1)) ∧ (decode cX12_papersOf 72 = .ok (.ireturn, 1)) := by decide +kernel
theorem gX12_papersOf_1 : (decode cX12_papersOf 16 = .ok (.iload_n 3, 1)) ∧ (decode cX12_papersOf 17 = .ok (.aload_n 0, 1)) ∧ (decode cX12_papersOf 18 = .ok (.iload 4, 2)) ∧ (decode cX12_papersOf 20 = .ok (.invokevirtual 103, 3)) ∧ (decode cX12_papersOf 23 = .ok (.ifCond .eq 39, 3)) ∧ (decode cX12_papersOf 26 = .ok (.iload_n 2, 1)) ∧ (decode cX12_papersOf 27 = .ok (.ifCond .eq 17, 3)) ∧ (decode cX12_papersOf 30 = .ok (.aload_n 0, 1)) ∧ (decode cX12_papersOf 31 = .ok (.iload 4, 2)) ∧ (decode cX12_papersOf 33 = .ok (.iconst 0, 1)) := by decide +kernel
theorem gX12_papersOf_2 : (decode cX12_papersOf 34 = .ok (.invokevirtual 88, 3)) ∧ (decode cX12_papersOf 37 = .ok (.iload_n 1, 1)) ∧ (decode cX12_papersOf 38 = .ok (.if_icmp .ne 24, 3)) ∧ (decode cX12_papersOf 41 = .ok (.goto 17, 3)) ∧ (decode cX12_papersOf 44 = .ok (.aload_n 0, 1)) ∧ (decode cX12_papersOf 45 = .ok (.iload 4, 2)) ∧ (decode cX12_papersOf 47 = .ok (.iconst 1, 1)) ∧ (decode cX12_papersOf 48 = .ok (.invokevirtual 88, 3)) ∧ (decode cX12_papersOf 51 = .ok (.iload_n 1, 1)) ∧ (decode cX12_papersOf 52 = .ok (.invokestatic 99, 3)) := by decide +kernel
theorem gX12_doesCount_0 : (decode cX12_doesCount 0 = .ok (.aload_n 0, 1)) ∧ (decode cX12_doesCount 1 = .ok (.iload_n 1, 1)) ∧ (decode cX12_doesCount 2 = .ok (.bipush 6, 2)) ∧ (decode cX12_doesCount 4 = .ok (.invokevirtual 114, 3)) ∧ (decode cX12_doesCount 7 = .ok (.ifCond .ge 34, 3)) ∧ (decode cX12_doesCount 10 = .ok (.aload_n 0, 1)) ∧ (decode cX12_doesCount 11 = .ok (.iload_n 1, 1)) ∧ (decode cX12_doesCount 12 = .ok (.bipush 7, 2)) ∧ (decode cX12_doesCount 14 = .ok (.invokevirtual 114, 3)) ∧ (decode cX12_doesCount 17 = .ok (.aload_n 0, 1)) := by decide +kernel
theorem m_1122 : Cond.code yX12_saying cX12_saying 3 (some .int) ∈ BW := iB_BW59 _ (List.mem_of_getElem? (i := 11) rfl)
theorem m_1120 : Cond.methodLink RX12 114 yX12_saying ∈ BW := iB_BW59 _ (List.mem_of_getElem? (i := 9) rfl)
theorem m_1121 : Cond.instanceMethod yX12_saying ∈ BW := iB_BW59 _ (List.mem_of_getElem? (i := 10) rfl)
theorem m_56 : Cond.selects RX12 yX12_saying yX12_saying ∈ BW := iB_BW2 _ (List.mem_of_getElem? (i := 16) rfl)
theorem si_X12_114 : SV RX12 RX12 114 yX12_saying cX12_saying 3 (some .int) 2 := ⟨⟨m_1120, m_1121, m_56, m_115, m_1122⟩, rfl, nK_RX12.1, nK_RX12.2, pd_2⟩
theorem gX12_doesCount_2 : (decode cX12_doesCount 38 = .ok (.goto 4, 3)) ∧ (decode cX12_doesCount 41 = .ok (.iconst 0, 1)) ∧ (decode cX12_doesCount 42 = .ok (.ireturn, 1)) := by decide +kernel
theorem gX12_doesCount_1 : (decode cX12_doesCount 18 = .ok (.invokevirtual 92, 3)) ∧ (decode cX12_doesCount 21 = .ok (.if_icmp .gt 20, 3)) ∧ (decode cX12_doesCount 24 = .ok (.aload_n 0, 1)) ∧ (decode cX12_doesCount 25 = .ok (.aload_n 0, 1)) ∧ (decode cX12_doesCount 26 = .ok (.iload_n 1, 1)) ∧ (decode cX12_doesCount 27 = .ok (.iconst 2, 1)) ∧ (decode cX12_doesCount 28 = .ok (.invokevirtual 114, 3)) ∧ (decode cX12_doesCount 31 = .ok (.invokevirtual 103, 3)) ∧ (decode cX12_doesCount 34 = .ok (.ifCond .eq 7, 3)) ∧ (decode cX12_doesCount 37 = .ok (.iconst 1, 1)) := by decide +kernel
theorem gX12_saidBy_0 : (decode cX12_saidBy 0 = .ok (.iconst 0, 1)) ∧ (decode cX12_saidBy 1 = .ok (.istore_n 2, 1)) ∧ (decode cX12_saidBy 2 = .ok (.iconst 0, 1)) ∧ (decode cX12_saidBy 3 = .ok (.istore_n 3, 1)) ∧ (decode cX12_saidBy 4 = .ok (.iload_n 3, 1)) ∧ (decode cX12_saidBy 5 = .ok (.aload_n 0, 1)) ∧ (decode cX12_saidBy 6 = .ok (.getfield 9, 3)) ∧ (decode cX12_saidBy 9 = .ok (.bipush 8, 2)) ∧ (decode cX12_saidBy 11 = .ok (.iaload, 1)) ∧ (decode cX12_saidBy 12 = .ok (.if_icmp .ge 39, 3)) := by decide +kernel
theorem gX12_saidBy_3 : (decode cX12_saidBy 51 = .ok (.iload_n 2, 1)) ∧ (decode cX12_saidBy 52 = .ok (.ireturn, 1)) := by decide +kernel
theorem gX12_saidBy_1 : (decode cX12_saidBy 15 = .ok (.iload_n 2, 1)) ∧ (decode cX12_saidBy 16 = .ok (.aload_n 0, 1)) ∧ (decode cX12_saidBy 17 = .ok (.iload_n 3, 1)) ∧ (decode cX12_saidBy 18 = .ok (.invokevirtual 117, 3)) ∧ (decode cX12_saidBy 21 = .ok (.ifCond .eq 21, 3)) ∧ (decode cX12_saidBy 24 = .ok (.iload_n 1, 1)) ∧ (decode cX12_saidBy 25 = .ok (.ifCond .lt 13, 3)) ∧ (decode cX12_saidBy 28 = .ok (.aload_n 0, 1)) ∧ (decode cX12_saidBy 29 = .ok (.iload_n 3, 1)) ∧ (decode cX12_saidBy 30 = .ok (.iconst 0, 1)) := by decide +kernel
theorem m_1119 : Cond.code yX12_doesCount cX12_doesCount 2 (some .boolean) ∈ BW := iB_BW59 _ (List.mem_of_getElem? (i := 8) rfl)
theorem m_1117 : Cond.methodLink RX12 117 yX12_doesCount ∈ BW := iB_BW59 _ (List.mem_of_getElem? (i := 6) rfl)
theorem m_1118 : Cond.instanceMethod yX12_doesCount ∈ BW := iB_BW59 _ (List.mem_of_getElem? (i := 7) rfl)
theorem m_55 : Cond.selects RX12 yX12_doesCount yX12_doesCount ∈ BW := iB_BW2 _ (List.mem_of_getElem? (i := 15) rfl)
theorem si_X12_117 : SV RX12 RX12 117 yX12_doesCount cX12_doesCount 2 (some .boolean) 1 := ⟨⟨m_1117, m_1118, m_55, m_115, m_1119⟩, rfl, nK_RX12.1, nK_RX12.2, pd_5⟩
theorem gX12_saidBy_2 : (decode cX12_saidBy 31 = .ok (.invokevirtual 114, 3)) ∧ (decode cX12_saidBy 34 = .ok (.iload_n 1, 1)) ∧ (decode cX12_saidBy 35 = .ok (.if_icmp .ne 7, 3)) ∧ (decode cX12_saidBy 38 = .ok (.iconst 1, 1)) ∧ (decode cX12_saidBy 39 = .ok (.goto 4, 3)) ∧ (decode cX12_saidBy 42 = .ok (.iconst 0, 1)) ∧ (decode cX12_saidBy 43 = .ok (.iadd, 1)) ∧ (decode cX12_saidBy 44 = .ok (.istore_n 2, 1)) ∧ (decode cX12_saidBy 45 = .ok (.iinc 3 1, 3)) ∧ (decode cX12_saidBy 48 = .ok (.goto (-44), 3)) := by decide +kernel
end WR
theorem rm_4_2_3 {mc ms : Nat} : 2 + 1 ≤ (RM 4 mc ms).frames ∧ 8 + (3 + 11) + 40 * 2 ≤ (RM 4 mc ms).locals := ⟨by show 2 + 1 ≤ 4; decide, by show 8 + (3 + 11) + 40 * 2 ≤ 40 * 4; decide⟩
def K_m_has (l : Launch) (G : GG) (se : Int32) (k : Int32) : Prop := MP l G yX12_has cX12_has 2 (some .boolean) 1 [.int se, .int k] [] (fun r : Int32 => (r = 1 ∧ (se >>> (k &&& 31)) &&& 1 = 1) ∨ (r = 0 ∧ ¬ (se >>> (k &&& 31)) &&& 1 = 1))
set_option maxHeartbeats 4000000 in
set_option maxRecDepth 100000 in
theorem m_has (l : Launch) (G : GG) (se : Int32) (k : Int32) : K_m_has l G se k := by
  refine MP.start (by decide +kernel) (Nat.le_of_ble_eq_true rfl) ?_
  intro p e s m below meth c ls hC hK hP hD hl
  refine absQ (fun Q0 hQ0 => ?_)
  have hl : lv_has ls 2 [(0, .int se), (1, .int k)] := hl
  refine Kan8 hC (fun hx hb hr hml hB hown hlocks hnm => ?_)
  refine lv_iload_n hx hb gX12_has_0.1 rfl (lv_at0 hl) ?_
  refine lv_iload_n hx hb gX12_has_0.2.1 rfl (lv_at1 hl) ?_
  refine lv_ishr hx hb gX12_has_0.2.2.1 ?_
  refine lv_iconst (v := 1) hx hb gX12_has_0.2.2.2.1 (by decide) ?_
  refine lv_iand hx hb gX12_has_0.2.2.2.2.1 ?_
  refine lv_iconst (v := 1) hx hb gX12_has_0.2.2.2.2.2.1 (by decide) ?_
  refine lv_icmp_ne (tgt := 13) hx hb gX12_has_0.2.2.2.2.2.2.1 (by decide) (fun c_6_5157 => ?_) (fun c_6_5157 => ?_)
  · refine lv_iconst (v := 0) hx hb gX12_has_0.2.2.2.2.2.2.2.2.2 (by decide) ?_
    refine toQ hQ0 ?_
    exact RP (v := 0) hC (Or.inr ⟨rfl, c_6_5157⟩) (by decide +kernel) gX12_has_1
  · refine lv_iconst (v := 1) hx hb gX12_has_0.2.2.2.2.2.2.2.1 (by decide) ?_
    refine lv_goto (tgt := 14) hx hb gX12_has_0.2.2.2.2.2.2.2.2.1 (by decide) ?_
    refine toQ hQ0 ?_
    exact RP (v := 1) hC (Or.inl ⟨rfl, c_6_5157⟩) (by decide +kernel) gX12_has_1
def K_m_bits (l : Launch) (G : GG) (se : Int32) : Prop := MP l G yX12_bits cX12_bits 3 (some .int) 1 [.int se] [] (fun r : Int32 => True)
set_option maxHeartbeats 4000000 in
set_option maxRecDepth 100000 in
theorem m_bits (l : Launch) (G : GG) (se : Int32) : K_m_bits l G se := by
  refine MP.start (by decide +kernel) (Nat.le_of_ble_eq_true rfl) ?_
  intro p e s m below meth c ls hC hK hP hD hl
  refine absQ (fun Q0 hQ0 => ?_)
  have hl : lv_has ls 3 [(0, .int se)] := hl
  refine Kan8 hC (fun hx hb hr hml hB hown hlocks hnm => ?_)
  refine lv_iconst (v := 0) hx hb gX12_bits_0.1 (by decide) ?_
  refine lv_istore_n (lv' := [(1, .int 0), (0, .int se)]) hx hb gX12_bits_0.2.1 rfl hl (by decide) rfl (fun ls hl => ?_)
  refine lv_iconst (v := 0) hx hb gX12_bits_0.2.2.1 (by decide) ?_
  refine lv_istore_n (lv' := [(2, .int 0), (1, .int 0), (0, .int se)]) hx hb gX12_bits_0.2.2.2.1 rfl hl (by decide) rfl (fun ls hl => ?_)
  have keyP : ∀ (nP kP : Nat) (nn : Int32) (ls : Array Slot), kP + nP = 16 → lv_has ls 3 [(2, .int (nI kP)), (1, .int nn), (0, .int se)] → W p l e (RM 1 0 0) s m ([.int se] : List Value).toArray below meth c s.heap [] 0 0 Q0 (F0 m 4 ls []) := by
    intro nP
    induction nP with
    | zero =>
      intro kP nn ls hkP hl
      obtain rfl : 16 = kP := by omega
      have hl : lv_has ls 3 [(2, .int 16), (1, .int nn), (0, .int se)] := hl
      refine lv_iload_n hx hb gX12_bits_0.2.2.2.2.1 rfl (lv_at0 hl) ?_
      refine lv_bipush (v := 16) hx hb gX12_bits_0.2.2.2.2.2.1 (by decide) ?_
      refine lv_icmp_ge (tgt := 24) hx hb gX12_bits_0.2.2.2.2.2.2.1 (by decide) (fun _ => ?_) (fun c9 => absurd (by decide) c9)
      refine lv_iload_n hx hb gX12_bits_1.2.2.2.2.2.2.2.1 rfl (lv_at1 hl) ?_
      refine toQ hQ0 ?_
      exact RP (v := nn) hC (trivial) rfl gX12_bits_1.2.2.2.2.2.2.2.2
    | succ nP ihP =>
      intro kP nn ls hkP hl
      refine lv_iload_n hx hb gX12_bits_0.2.2.2.2.1 rfl (lv_at0 hl) ?_
      refine lv_bipush (v := 16) hx hb gX12_bits_0.2.2.2.2.2.1 (by decide) ?_
      refine lv_icmp_ge (tgt := 24) hx hb gX12_bits_0.2.2.2.2.2.2.1 (by decide) (fun c9 => absurd c9 (nI_ge (a := kP) (b := 16) (by omega) (by omega))) (fun _ => ?_)
      refine lv_iload_n hx hb gX12_bits_0.2.2.2.2.2.2.2.1 rfl (lv_at1 hl) ?_
      refine lv_iload_n hx hb gX12_bits_0.2.2.2.2.2.2.2.2.1 rfl (lv_at2 hl) ?_
      refine lv_iload_n hx hb gX12_bits_0.2.2.2.2.2.2.2.2.2 rfl (lv_at0 hl) ?_
      refine lv_ishr hx hb gX12_bits_1.1 ?_
      refine lv_iconst (v := 1) hx hb gX12_bits_1.2.1 (by decide) ?_
      refine lv_iand hx hb gX12_bits_1.2.2.1 ?_
      refine lv_iadd hx hb gX12_bits_1.2.2.2.1 ?_
      refine lv_istore_n (lv' := [(1, .int (nn + ((se >>> ((nI kP) &&& 31)) &&& 1))), (2, .int (nI kP)), (0, .int se)]) hx hb gX12_bits_1.2.2.2.2.1 rfl hl (by decide) rfl (fun ls hl => ?_)
      refine lv_iinc (v := nI (kP + 1)) (lv' := [(2, .int (nI (kP + 1))), (1, .int (nn + ((se >>> ((nI kP) &&& 31)) &&& 1))), (0, .int se)]) hx hb gX12_bits_1.2.2.2.2.2.1 hl (k := 1) rfl (nI_1 _) (by decide) rfl (fun ls hl => ?_)
      refine lv_goto (tgt := 4) hx hb gX12_bits_1.2.2.2.2.2.2.1 (by decide) ?_
      exact ihP (kP + 1) (nn + ((se >>> ((nI kP) &&& 31)) &&& 1)) _ (by omega) (lv_sub hl [0, 1, 2] rfl)
  exact keyP 16 0 0 _ (by omega) (lv_sub hl [0, 1, 2] rfl)
def K_m_is (l : Launch) (G : GG) (kc : Nat) (h0 : Nat) (k : Int32) (jc : Nat) (nw : Nat) (nk : Nat) (mhasKept : Int32) (nt : Nat) (mtaped : Int32) (nr : Nat) (mrowMany : Int32) (mroundOf : Int32) (mroundFrom : Int32) (mouts : Int32) (nm : Nat) (mfromHour : Int32) (mtoHour : Int32) (ns : Nat) (mfrom : Int32) (mto : Int32) (msort : Int32) (misFault : Int32) (mdeep : Int32) (mcoded : Int32) (mlines : Int32) (nl : Nat) (nc : Nat) (nF : Nat) (np : Nat) (ntr : Nat) (nb : Nat) (mbestCost : Int32) (nso : Nat) (nsi : Nat) (nit : Nat) (nsh : Nat) (nsf : Nat) (nss : Nat) (nrc : Nat) (mtraced : Int32) (mdealer : Int32) (mnumber : Int32) (mwhose : Int32) (msize : Int32) (misParted : Int32) (fnw : Nat → Int32) : Prop := MP l G yX12_is cX12_is 3 (some .boolean) 2 [.ref h0, .int k, .int (nI jc)] [(h0, oX12 nw nk mhasKept nt mtaped nr mrowMany mroundOf mroundFrom mouts nm mfromHour mtoHour ns mfrom mto msort misFault mdeep mcoded mlines nl nc nF np ntr nb mbestCost nso nsi nit nsh nsf nss nrc mtraced mdealer mnumber mwhose msize misParted), (nw, iA G 1662 fnw)] (fun r : Int32 => (r = 1 ∧ Hs k kc) ∨ (r = 0 ∧ ¬ Hs k kc))
set_option maxHeartbeats 4000000 in
set_option maxRecDepth 100000 in
theorem m_is (l : Launch) (G : GG) (kc : Nat) (h0 : Nat) (k : Int32) (jc : Nat) (nw : Nat) (nk : Nat) (mhasKept : Int32) (nt : Nat) (mtaped : Int32) (nr : Nat) (mrowMany : Int32) (mroundOf : Int32) (mroundFrom : Int32) (mouts : Int32) (nm : Nat) (mfromHour : Int32) (mtoHour : Int32) (ns : Nat) (mfrom : Int32) (mto : Int32) (msort : Int32) (misFault : Int32) (mdeep : Int32) (mcoded : Int32) (mlines : Int32) (nl : Nat) (nc : Nat) (nF : Nat) (np : Nat) (ntr : Nat) (nb : Nat) (mbestCost : Int32) (nso : Nat) (nsi : Nat) (nit : Nat) (nsh : Nat) (nsf : Nat) (nss : Nat) (nrc : Nat) (mtraced : Int32) (mdealer : Int32) (mnumber : Int32) (mwhose : Int32) (msize : Int32) (misParted : Int32) (fnw : Nat → Int32) (hjc : jc < 1662) (hkc : fnw jc = nI kc) (hkc2 : kc < 2 ^ 31) : K_m_is l G kc h0 k jc nw nk mhasKept nt mtaped nr mrowMany mroundOf mroundFrom mouts nm mfromHour mtoHour ns mfrom mto msort misFault mdeep mcoded mlines nl nc nF np ntr nb mbestCost nso nsi nit nsh nsf nss nrc mtraced mdealer mnumber mwhose msize misParted fnw := by
  refine MP.start (by decide +kernel) (Nat.le_of_ble_eq_true rfl) ?_
  intro p e s m below meth c ls hC hK hP hD hl
  refine absQ (fun Q0 hQ0 => ?_)
  have hl : lv_has ls 3 [(0, .ref h0), (1, .int k), (2, .int (nI jc))] := hl
  refine Kan8 hC (fun hx hb hr hml hB hown hlocks hnm => ?_)
  refine lv_iload_n hx hb gX12_is_0.1 rfl (lv_at1 hl) ?_
  refine lv_iconst (v := 0) hx hb gX12_is_0.2.1 (by decide) ?_
  refine lv_aload_n hx hb gX12_is_0.2.2.1 rfl (lv_at0 hl) ?_
  refine gf_X12_9 hC rfl hK hP 0 rfl rfl gX12_is_0.2.2.2.1 ?_
  refine lv_iload_n hx hb gX12_is_0.2.2.2.2.1 rfl (lv_at2 hl) ?_
  refine aldN hC hK hP 1 rfl (k := jc) (by omega) (Nat.le_of_ble_eq_true rfl) (v := nI kc) (hkc) gX12_is_0.2.2.2.2.2.1 ?_
  refine lv_iconst (v := 1) hx hb gX12_is_0.2.2.2.2.2.2.1 (by decide) ?_
  refine lv_isub hx hb gX12_is_0.2.2.2.2.2.2.2.1 ?_
  refine pS hC hK hl (m_within l G k 0 ((nI kc) - 1)) si_X12_84 rfl rfl (Nat.le_of_ble_eq_true rfl) rm_2_1_3 ⟨by first | exact Nat.le_of_ble_eq_true rfl | exact Nat.zero_le _, by first | exact Nat.le_of_ble_eq_true rfl | exact Nat.zero_le _⟩ gX12_is_0.2.2.2.2.2.2.2.2.1 (Kors (Keqa fun a5159 => ?_) (Keqa fun a5159 => ?_))
  · refine toQ hQ0 ?_
    exact RP (v := 1) hC (Or.inl ⟨rfl, (WiHs (by omega)).mp a5159⟩) (by decide +kernel) gX12_is_0.2.2.2.2.2.2.2.2.2
  · refine toQ hQ0 ?_
    exact RP (v := 0) hC (Or.inr ⟨rfl, fun h9 => a5159 ((WiHs (by omega)).mpr h9)⟩) (by decide +kernel) gX12_is_0.2.2.2.2.2.2.2.2.2
def K_m_paper (l : Launch) (G : GG) (h0 : Nat) (jp : Nat) (jf : Nat) (nw : Nat) (nk : Nat) (mhasKept : Int32) (nt : Nat) (mtaped : Int32) (nr : Nat) (mrowMany : Int32) (mroundOf : Int32) (mroundFrom : Int32) (mouts : Int32) (nm : Nat) (mfromHour : Int32) (mtoHour : Int32) (ns : Nat) (mfrom : Int32) (mto : Int32) (msort : Int32) (misFault : Int32) (mdeep : Int32) (mcoded : Int32) (mlines : Int32) (nl : Nat) (nc : Nat) (nF : Nat) (np : Nat) (ntr : Nat) (nb : Nat) (mbestCost : Int32) (nso : Nat) (nsi : Nat) (nit : Nat) (nsh : Nat) (nsf : Nat) (nss : Nat) (nrc : Nat) (mtraced : Int32) (mdealer : Int32) (mnumber : Int32) (mwhose : Int32) (msize : Int32) (misParted : Int32) (fnw : Nat → Int32) : Prop := MP l G yX12_paper cX12_paper 3 (some .int) 1 [.ref h0, .int (nI jp), .int (nI jf)] [(h0, oX12 nw nk mhasKept nt mtaped nr mrowMany mroundOf mroundFrom mouts nm mfromHour mtoHour ns mfrom mto msort misFault mdeep mcoded mlines nl nc nF np ntr nb mbestCost nso nsi nit nsh nsf nss nrc mtraced mdealer mnumber mwhose msize misParted), (nw, iA G 1662 fnw)] (fun r : Int32 => r = fnw (32 + 6 * jp + jf))
set_option maxHeartbeats 4000000 in
set_option maxRecDepth 100000 in
theorem m_paper (l : Launch) (G : GG) (h0 : Nat) (jp : Nat) (jf : Nat) (nw : Nat) (nk : Nat) (mhasKept : Int32) (nt : Nat) (mtaped : Int32) (nr : Nat) (mrowMany : Int32) (mroundOf : Int32) (mroundFrom : Int32) (mouts : Int32) (nm : Nat) (mfromHour : Int32) (mtoHour : Int32) (ns : Nat) (mfrom : Int32) (mto : Int32) (msort : Int32) (misFault : Int32) (mdeep : Int32) (mcoded : Int32) (mlines : Int32) (nl : Nat) (nc : Nat) (nF : Nat) (np : Nat) (ntr : Nat) (nb : Nat) (mbestCost : Int32) (nso : Nat) (nsi : Nat) (nit : Nat) (nsh : Nat) (nsf : Nat) (nss : Nat) (nrc : Nat) (mtraced : Int32) (mdealer : Int32) (mnumber : Int32) (mwhose : Int32) (msize : Int32) (misParted : Int32) (fnw : Nat → Int32) (hjp : jp < 12) (hjf : jf < 6) : K_m_paper l G h0 jp jf nw nk mhasKept nt mtaped nr mrowMany mroundOf mroundFrom mouts nm mfromHour mtoHour ns mfrom mto msort misFault mdeep mcoded mlines nl nc nF np ntr nb mbestCost nso nsi nit nsh nsf nss nrc mtraced mdealer mnumber mwhose msize misParted fnw := by
  refine MP.start (by decide +kernel) (Nat.le_of_ble_eq_true rfl) ?_
  intro p e s m below meth c ls hC hK hP hD hl
  refine absQ (fun Q0 hQ0 => ?_)
  have hl : lv_has ls 3 [(0, .ref h0), (1, .int (nI jp)), (2, .int (nI jf))] := hl
  refine Kan8 hC (fun hx hb hr hml hB hown hlocks hnm => ?_)
  refine lv_aload_n hx hb gX12_paper_0.1 rfl (lv_at0 hl) ?_
  refine gf_X12_9 hC rfl hK hP 0 rfl rfl gX12_paper_0.2.1 ?_
  refine lv_bipush (v := 32) hx hb gX12_paper_0.2.2.1 (by decide) ?_
  refine lv_bipush (v := 6) hx hb gX12_paper_0.2.2.2.1 (by decide) ?_
  refine lv_iload_n hx hb gX12_paper_0.2.2.2.2.1 rfl (lv_at1 hl) ?_
  refine lv_imul hx hb gX12_paper_0.2.2.2.2.2.1 ?_
  refine eqi (x1 := nI (6 * jp)) (nI_mul 6 jp) ?_
  refine lv_iadd hx hb gX12_paper_0.2.2.2.2.2.2.1 ?_
  refine eqi (x1 := nI (32 + 6 * jp)) (nI_add 32 (6 * jp)) ?_
  refine lv_iload_n hx hb gX12_paper_0.2.2.2.2.2.2.2.1 rfl (lv_at2 hl) ?_
  refine lv_iadd hx hb gX12_paper_0.2.2.2.2.2.2.2.2.1 ?_
  refine eqi (x1 := nI (32 + 6 * jp + jf)) (nI_add (32 + 6 * jp) jf) ?_
  refine aldN hC hK hP 1 rfl (k := (32 + 6 * jp + jf)) (by omega) (Nat.le_of_ble_eq_true rfl) (v := fnw (32 + 6 * jp + jf)) (rfl) gX12_paper_0.2.2.2.2.2.2.2.2.2 ?_
  refine toQ hQ0 ?_
  exact RP (v := fnw (32 + 6 * jp + jf)) hC (rfl) rfl gX12_paper_1
def K_m_saying (l : Launch) (G : GG) (h0 : Nat) (js : Nat) (jf : Nat) (nw : Nat) (nk : Nat) (mhasKept : Int32) (nt : Nat) (mtaped : Int32) (nr : Nat) (mrowMany : Int32) (mroundOf : Int32) (mroundFrom : Int32) (mouts : Int32) (nm : Nat) (mfromHour : Int32) (mtoHour : Int32) (ns : Nat) (mfrom : Int32) (mto : Int32) (msort : Int32) (misFault : Int32) (mdeep : Int32) (mcoded : Int32) (mlines : Int32) (nl : Nat) (nc : Nat) (nF : Nat) (np : Nat) (ntr : Nat) (nb : Nat) (mbestCost : Int32) (nso : Nat) (nsi : Nat) (nit : Nat) (nsh : Nat) (nsf : Nat) (nss : Nat) (nrc : Nat) (mtraced : Int32) (mdealer : Int32) (mnumber : Int32) (mwhose : Int32) (msize : Int32) (misParted : Int32) (fnw : Nat → Int32) : Prop := MP l G yX12_saying cX12_saying 3 (some .int) 1 [.ref h0, .int (nI js), .int (nI jf)] [(h0, oX12 nw nk mhasKept nt mtaped nr mrowMany mroundOf mroundFrom mouts nm mfromHour mtoHour ns mfrom mto msort misFault mdeep mcoded mlines nl nc nF np ntr nb mbestCost nso nsi nit nsh nsf nss nrc mtraced mdealer mnumber mwhose msize misParted), (nw, iA G 1662 fnw)] (fun r : Int32 => r = fnw (1424 + 8 * js + jf))
set_option maxHeartbeats 4000000 in
set_option maxRecDepth 100000 in
theorem m_saying (l : Launch) (G : GG) (h0 : Nat) (js : Nat) (jf : Nat) (nw : Nat) (nk : Nat) (mhasKept : Int32) (nt : Nat) (mtaped : Int32) (nr : Nat) (mrowMany : Int32) (mroundOf : Int32) (mroundFrom : Int32) (mouts : Int32) (nm : Nat) (mfromHour : Int32) (mtoHour : Int32) (ns : Nat) (mfrom : Int32) (mto : Int32) (msort : Int32) (misFault : Int32) (mdeep : Int32) (mcoded : Int32) (mlines : Int32) (nl : Nat) (nc : Nat) (nF : Nat) (np : Nat) (ntr : Nat) (nb : Nat) (mbestCost : Int32) (nso : Nat) (nsi : Nat) (nit : Nat) (nsh : Nat) (nsf : Nat) (nss : Nat) (nrc : Nat) (mtraced : Int32) (mdealer : Int32) (mnumber : Int32) (mwhose : Int32) (msize : Int32) (misParted : Int32) (fnw : Nat → Int32) (hjs : js < 16) (hjf : jf < 8) : K_m_saying l G h0 js jf nw nk mhasKept nt mtaped nr mrowMany mroundOf mroundFrom mouts nm mfromHour mtoHour ns mfrom mto msort misFault mdeep mcoded mlines nl nc nF np ntr nb mbestCost nso nsi nit nsh nsf nss nrc mtraced mdealer mnumber mwhose msize misParted fnw := by
  refine MP.start (by decide +kernel) (Nat.le_of_ble_eq_true rfl) ?_
  intro p e s m below meth c ls hC hK hP hD hl
  refine absQ (fun Q0 hQ0 => ?_)
  have hl : lv_has ls 3 [(0, .ref h0), (1, .int (nI js)), (2, .int (nI jf))] := hl
  refine Kan8 hC (fun hx hb hr hml hB hown hlocks hnm => ?_)
  refine lv_aload_n hx hb gX12_saying_0.1 rfl (lv_at0 hl) ?_
  refine gf_X12_9 hC rfl hK hP 0 rfl rfl gX12_saying_0.2.1 ?_
  refine lv_sipush (v := 1424) hx hb gX12_saying_0.2.2.1 (by decide) ?_
  refine lv_bipush (v := 8) hx hb gX12_saying_0.2.2.2.1 (by decide) ?_
  refine lv_iload_n hx hb gX12_saying_0.2.2.2.2.1 rfl (lv_at1 hl) ?_
  refine lv_imul hx hb gX12_saying_0.2.2.2.2.2.1 ?_
  refine eqi (x1 := nI (8 * js)) (nI_mul 8 js) ?_
  refine lv_iadd hx hb gX12_saying_0.2.2.2.2.2.2.1 ?_
  refine eqi (x1 := nI (1424 + 8 * js)) (nI_add 1424 (8 * js)) ?_
  refine lv_iload_n hx hb gX12_saying_0.2.2.2.2.2.2.2.1 rfl (lv_at2 hl) ?_
  refine lv_iadd hx hb gX12_saying_0.2.2.2.2.2.2.2.2.1 ?_
  refine eqi (x1 := nI (1424 + 8 * js + jf)) (nI_add (1424 + 8 * js) jf) ?_
  refine aldN hC hK hP 1 rfl (k := (1424 + 8 * js + jf)) (by omega) (Nat.le_of_ble_eq_true rfl) (v := fnw (1424 + 8 * js + jf)) (rfl) gX12_saying_0.2.2.2.2.2.2.2.2.2 ?_
  refine toQ hQ0 ?_
  exact RP (v := fnw (1424 + 8 * js + jf)) hC (rfl) rfl gX12_saying_1
def K_m_day (l : Launch) (G : GG) (h0 : Nat) (nw : Nat) (nk : Nat) (mhasKept : Int32) (nt : Nat) (mtaped : Int32) (nr : Nat) (mrowMany : Int32) (mroundOf : Int32) (mroundFrom : Int32) (mouts : Int32) (nm : Nat) (mfromHour : Int32) (mtoHour : Int32) (ns : Nat) (mfrom : Int32) (mto : Int32) (msort : Int32) (misFault : Int32) (mdeep : Int32) (mcoded : Int32) (mlines : Int32) (nl : Nat) (nc : Nat) (nF : Nat) (np : Nat) (ntr : Nat) (nb : Nat) (mbestCost : Int32) (nso : Nat) (nsi : Nat) (nit : Nat) (nsh : Nat) (nsf : Nat) (nss : Nat) (nrc : Nat) (mtraced : Int32) (mdealer : Int32) (mnumber : Int32) (mwhose : Int32) (msize : Int32) (misParted : Int32) (fnw : Nat → Int32) : Prop := MP l G yX12_day cX12_day 1 (some .int) 1 [.ref h0] [(h0, oX12 nw nk mhasKept nt mtaped nr mrowMany mroundOf mroundFrom mouts nm mfromHour mtoHour ns mfrom mto msort misFault mdeep mcoded mlines nl nc nF np ntr nb mbestCost nso nsi nit nsh nsf nss nrc mtraced mdealer mnumber mwhose msize misParted), (nw, iA G 1662 fnw)] (fun r : Int32 => True)
set_option maxHeartbeats 4000000 in
set_option maxRecDepth 100000 in
theorem m_day (l : Launch) (G : GG) (h0 : Nat) (nw : Nat) (nk : Nat) (mhasKept : Int32) (nt : Nat) (mtaped : Int32) (nr : Nat) (mrowMany : Int32) (mroundOf : Int32) (mroundFrom : Int32) (mouts : Int32) (nm : Nat) (mfromHour : Int32) (mtoHour : Int32) (ns : Nat) (mfrom : Int32) (mto : Int32) (msort : Int32) (misFault : Int32) (mdeep : Int32) (mcoded : Int32) (mlines : Int32) (nl : Nat) (nc : Nat) (nF : Nat) (np : Nat) (ntr : Nat) (nb : Nat) (mbestCost : Int32) (nso : Nat) (nsi : Nat) (nit : Nat) (nsh : Nat) (nsf : Nat) (nss : Nat) (nrc : Nat) (mtraced : Int32) (mdealer : Int32) (mnumber : Int32) (mwhose : Int32) (msize : Int32) (misParted : Int32) (fnw : Nat → Int32) : K_m_day l G h0 nw nk mhasKept nt mtaped nr mrowMany mroundOf mroundFrom mouts nm mfromHour mtoHour ns mfrom mto msort misFault mdeep mcoded mlines nl nc nF np ntr nb mbestCost nso nsi nit nsh nsf nss nrc mtraced mdealer mnumber mwhose msize misParted fnw := by
  refine MP.start (by decide +kernel) (Nat.le_of_ble_eq_true rfl) ?_
  intro p e s m below meth c ls hC hK hP hD hl
  refine absQ (fun Q0 hQ0 => ?_)
  have hl : lv_has ls 1 [(0, .ref h0)] := hl
  refine Kan8 hC (fun hx hb hr hml hB hown hlocks hnm => ?_)
  refine lv_aload_n hx hb gX12_day_0.1 rfl (lv_at0 hl) ?_
  refine gf_X12_9 hC rfl hK hP 0 rfl rfl gX12_day_0.2.1 ?_
  refine lv_iconst (v := 1) hx hb gX12_day_0.2.2.1 (by decide) ?_
  refine ald hC hK hP 1 rfl (vin (by decide +kernel)) (k := 1) (by decide +kernel) (v := fnw 1) (rfl) gX12_day_0.2.2.2.1 ?_
  refine lv_if_ge (tgt := 18) hx hb gX12_day_0.2.2.2.2.1 (by decide) (fun c_6_5160 => ?_) (fun c_6_5160 => ?_)
  · refine lv_aload_n hx hb gX12_day_1.1 rfl (lv_at0 hl) ?_
    refine gf_X12_9 hC rfl hK hP 0 rfl rfl gX12_day_1.2.1 ?_
    refine lv_iconst (v := 1) hx hb gX12_day_1.2.2.1 (by decide) ?_
    refine ald hC hK hP 1 rfl (vin (by decide +kernel)) (k := 1) (by decide +kernel) (v := fnw 1) (rfl) gX12_day_1.2.2.2.1 ?_
    refine toQ hQ0 ?_
    exact RP (v := fnw 1) hC (trivial) rfl gX12_day_1.2.2.2.2
  · refine lv_aload_n hx hb gX12_day_0.2.2.2.2.2.1 rfl (lv_at0 hl) ?_
    refine gf_X12_9 hC rfl hK hP 0 rfl rfl gX12_day_0.2.2.2.2.2.2.1 ?_
    refine lv_iconst (v := 0) hx hb gX12_day_0.2.2.2.2.2.2.2.1 (by decide) ?_
    refine ald hC hK hP 1 rfl (vin (by decide +kernel)) (k := 0) (by decide +kernel) (v := fnw 0) (rfl) gX12_day_0.2.2.2.2.2.2.2.2.1 ?_
    refine lv_goto (tgt := 24) hx hb gX12_day_0.2.2.2.2.2.2.2.2.2 (by decide) ?_
    refine toQ hQ0 ?_
    exact RP (v := fnw 0) hC (trivial) rfl gX12_day_1.2.2.2.2
def K_m_isIn (l : Launch) (G : GG) (h0 : Nat) (jp : Nat) (nw : Nat) (nk : Nat) (mhasKept : Int32) (nt : Nat) (mtaped : Int32) (nr : Nat) (mrowMany : Int32) (mroundOf : Int32) (mroundFrom : Int32) (mouts : Int32) (nm : Nat) (mfromHour : Int32) (mtoHour : Int32) (ns : Nat) (mfrom : Int32) (mto : Int32) (msort : Int32) (misFault : Int32) (mdeep : Int32) (mcoded : Int32) (mlines : Int32) (nl : Nat) (nc : Nat) (nF : Nat) (np : Nat) (ntr : Nat) (nb : Nat) (mbestCost : Int32) (nso : Nat) (nsi : Nat) (nit : Nat) (nsh : Nat) (nsf : Nat) (nss : Nat) (nrc : Nat) (mtraced : Int32) (mdealer : Int32) (mnumber : Int32) (mwhose : Int32) (msize : Int32) (misParted : Int32) (fnw : Nat → Int32) : Prop := MP l G yX12_isIn cX12_isIn 3 (some .boolean) 2 [.ref h0, .int (nI jp)] [(h0, oX12 nw nk mhasKept nt mtaped nr mrowMany mroundOf mroundFrom mouts nm mfromHour mtoHour ns mfrom mto msort misFault mdeep mcoded mlines nl nc nF np ntr nb mbestCost nso nsi nit nsh nsf nss nrc mtraced mdealer mnumber mwhose msize misParted), (nw, iA G 1662 fnw)] (fun r : Int32 => r = 1 ∨ r = 0)
set_option maxHeartbeats 4000000 in
set_option maxRecDepth 100000 in
theorem m_isIn (l : Launch) (G : GG) (h0 : Nat) (jp : Nat) (nw : Nat) (nk : Nat) (mhasKept : Int32) (nt : Nat) (mtaped : Int32) (nr : Nat) (mrowMany : Int32) (mroundOf : Int32) (mroundFrom : Int32) (mouts : Int32) (nm : Nat) (mfromHour : Int32) (mtoHour : Int32) (ns : Nat) (mfrom : Int32) (mto : Int32) (msort : Int32) (misFault : Int32) (mdeep : Int32) (mcoded : Int32) (mlines : Int32) (nl : Nat) (nc : Nat) (nF : Nat) (np : Nat) (ntr : Nat) (nb : Nat) (mbestCost : Int32) (nso : Nat) (nsi : Nat) (nit : Nat) (nsh : Nat) (nsf : Nat) (nss : Nat) (nrc : Nat) (mtraced : Int32) (mdealer : Int32) (mnumber : Int32) (mwhose : Int32) (msize : Int32) (misParted : Int32) (fnw : Nat → Int32) (hjp : jp < 12) : K_m_isIn l G h0 jp nw nk mhasKept nt mtaped nr mrowMany mroundOf mroundFrom mouts nm mfromHour mtoHour ns mfrom mto msort misFault mdeep mcoded mlines nl nc nF np ntr nb mbestCost nso nsi nit nsh nsf nss nrc mtraced mdealer mnumber mwhose msize misParted fnw := by
  refine MP.start (by decide +kernel) (Nat.le_of_ble_eq_true rfl) ?_
  intro p e s m below meth c ls hC hK hP hD hl
  refine absQ (fun Q0 hQ0 => ?_)
  have hl : lv_has ls 3 [(0, .ref h0), (1, .int (nI jp))] := hl
  refine Kan8 hC (fun hx hb hr hml hB hown hlocks hnm => ?_)
  refine lv_aload_n hx hb gX12_isIn_0.1 rfl (lv_at0 hl) ?_
  refine lv_iload_n hx hb gX12_isIn_0.2.1 rfl (lv_at1 hl) ?_
  refine lv_iconst (v := 5) hx hb gX12_isIn_0.2.2.1 (by decide) ?_
  refine pV hC hK hl hP hD (m_paper l G h0 jp 5 nw nk mhasKept nt mtaped nr mrowMany mroundOf mroundFrom mouts nm mfromHour mtoHour ns mfrom mto msort misFault mdeep mcoded mlines nl nc nF np ntr nb mbestCost nso nsi nit nsh nsf nss nrc mtraced mdealer mnumber mwhose msize misParted fnw (hjp) (by omega)) si_X12_88 [0, 1] sm_0_1 fm_0_1 nd_0_1 rfl rfl rfl rfl rfl (Nat.le_of_ble_eq_true rfl) rm_2_1_3 ⟨by first | exact Nat.le_of_ble_eq_true rfl | exact Nat.zero_le _, by first | exact Nat.le_of_ble_eq_true rfl | exact Nat.zero_le _⟩ gX12_isIn_0.2.2.2.1 (Keqr ?_)
  refine lv_if_lt (tgt := 26) hx hb gX12_isIn_0.2.2.2.2.1 (by decide) (fun c_6_5163 => ?_) (fun c_6_5163 => ?_)
  · refine lv_iconst (v := 0) hx hb gX12_isIn_1.2.2.2.2.1 (by decide) ?_
    refine lv_istore_n (lv' := [(2, .int 0), (0, .ref h0), (1, .int (nI jp))]) hx hb gX12_isIn_1.2.2.2.2.2.1 rfl hl (by decide) rfl (fun ls hl => ?_)
    refine lv_aload_n hx hb gX12_isIn_1.2.2.2.2.2.2.1 rfl (lv_at1 hl) ?_
    refine lv_iload_n hx hb gX12_isIn_1.2.2.2.2.2.2.2.1 rfl (lv_at2 hl) ?_
    refine lv_iconst (v := 4) hx hb gX12_isIn_1.2.2.2.2.2.2.2.2.1 (by decide) ?_
    refine pV hC hK hl hP hD (m_paper l G h0 jp 4 nw nk mhasKept nt mtaped nr mrowMany mroundOf mroundFrom mouts nm mfromHour mtoHour ns mfrom mto msort misFault mdeep mcoded mlines nl nc nF np ntr nb mbestCost nso nsi nit nsh nsf nss nrc mtraced mdealer mnumber mwhose msize misParted fnw (hjp) (by omega)) si_X12_88 [0, 1] sm_0_1 fm_0_1 nd_0_1 rfl rfl rfl rfl rfl (Nat.le_of_ble_eq_true rfl) rm_2_1_3 ⟨by first | exact Nat.le_of_ble_eq_true rfl | exact Nat.zero_le _, by first | exact Nat.le_of_ble_eq_true rfl | exact Nat.zero_le _⟩ gX12_isIn_1.2.2.2.2.2.2.2.2.2 (Keqr ?_)
    refine lv_aload_n hx hb gX12_isIn_2.1 rfl (lv_at1 hl) ?_
    refine pV hC hK hl hP hD (m_day l G h0 nw nk mhasKept nt mtaped nr mrowMany mroundOf mroundFrom mouts nm mfromHour mtoHour ns mfrom mto msort misFault mdeep mcoded mlines nl nc nF np ntr nb mbestCost nso nsi nit nsh nsf nss nrc mtraced mdealer mnumber mwhose msize misParted fnw) si_X12_92 [0, 1] sm_0_1 fm_0_1 nd_0_1 rfl rfl rfl rfl rfl (Nat.le_of_ble_eq_true rfl) rm_2_1_1 ⟨by first | exact Nat.le_of_ble_eq_true rfl | exact Nat.zero_le _, by first | exact Nat.le_of_ble_eq_true rfl | exact Nat.zero_le _⟩ gX12_isIn_2.2.1 (fun r5166 hr5166 => ?_)
    refine lv_icmp_gt (tgt := 75) hx hb gX12_isIn_2.2.2.1 (by decide) (fun c_38_5167 => ?_) (fun c_38_5167 => ?_)
    · refine lv_iconst (v := 0) hx hb gX12_isIn_4.2.1 (by decide) ?_
      refine toQ hQ0 ?_
      exact RP (v := 0) hC (Or.inr (rfl)) (by decide +kernel) gX12_isIn_4.2.2
    · refine lv_aload_n hx hb gX12_isIn_2.2.2.2.1 rfl (lv_at1 hl) ?_
      refine lv_iload_n hx hb gX12_isIn_2.2.2.2.2.1 rfl (lv_at2 hl) ?_
      refine lv_iconst (v := 3) hx hb gX12_isIn_2.2.2.2.2.2.1 (by decide) ?_
      refine pV hC hK hl hP hD (m_paper l G h0 jp 3 nw nk mhasKept nt mtaped nr mrowMany mroundOf mroundFrom mouts nm mfromHour mtoHour ns mfrom mto msort misFault mdeep mcoded mlines nl nc nF np ntr nb mbestCost nso nsi nit nsh nsf nss nrc mtraced mdealer mnumber mwhose msize misParted fnw (hjp) (by omega)) si_X12_88 [0, 1] sm_0_1 fm_0_1 nd_0_1 rfl rfl rfl rfl rfl (Nat.le_of_ble_eq_true rfl) rm_2_1_3 ⟨by first | exact Nat.le_of_ble_eq_true rfl | exact Nat.zero_le _, by first | exact Nat.le_of_ble_eq_true rfl | exact Nat.zero_le _⟩ gX12_isIn_2.2.2.2.2.2.2.1 (Keqr ?_)
      refine lv_aload_n hx hb gX12_isIn_2.2.2.2.2.2.2.2.1 rfl (lv_at1 hl) ?_
      refine gf_X12_9 hC rfl hK hP 0 rfl rfl gX12_isIn_2.2.2.2.2.2.2.2.2.1 ?_
      refine lv_iconst (v := 2) hx hb gX12_isIn_2.2.2.2.2.2.2.2.2.2 (by decide) ?_
      refine ald hC hK hP 1 rfl (vin (by decide +kernel)) (k := 2) (by decide +kernel) (v := fnw 2) (rfl) gX12_isIn_3.1 ?_
      refine lv_icmp_gt (tgt := 75) hx hb gX12_isIn_3.2.1 (by decide) (fun c_53_5170 => ?_) (fun c_53_5170 => ?_)
      · refine lv_iconst (v := 0) hx hb gX12_isIn_4.2.1 (by decide) ?_
        refine toQ hQ0 ?_
        exact RP (v := 0) hC (Or.inr (rfl)) (by decide +kernel) gX12_isIn_4.2.2
      · refine lv_iload_n hx hb gX12_isIn_3.2.2.1 rfl (lv_at0 hl) ?_
        refine lv_if_ne (tgt := 75) hx hb gX12_isIn_3.2.2.2.1 (by decide) (fun c9 => absurd (by decide) c9) (fun _ => ?_)
        refine lv_aload_n hx hb gX12_isIn_3.2.2.2.2.1 rfl (lv_at1 hl) ?_
        refine gf_X12_96 hC rfl hK hP 0 rfl rfl gX12_isIn_3.2.2.2.2.2.1 ?_
        refine lv_iload_n hx hb gX12_isIn_3.2.2.2.2.2.2.1 rfl (lv_at2 hl) ?_
        refine pS hC hK hl (m_has l G mouts (nI jp)) si_X12_99 rfl rfl (Nat.le_of_ble_eq_true rfl) rm_2_1_2 ⟨by first | exact Nat.le_of_ble_eq_true rfl | exact Nat.zero_le _, by first | exact Nat.le_of_ble_eq_true rfl | exact Nat.zero_le _⟩ gX12_isIn_3.2.2.2.2.2.2.2.1 (Kors (Keqa fun a5172 => ?_) (Keqa fun a5172 => ?_))
        · refine lv_if_ne (tgt := 75) hx hb gX12_isIn_3.2.2.2.2.2.2.2.2.1 (by decide) (fun _ => ?_) (fun c9 => absurd c9 (by decide))
          refine lv_iconst (v := 0) hx hb gX12_isIn_4.2.1 (by decide) ?_
          refine toQ hQ0 ?_
          exact RP (v := 0) hC (Or.inr (rfl)) (by decide +kernel) gX12_isIn_4.2.2
        · refine lv_if_ne (tgt := 75) hx hb gX12_isIn_3.2.2.2.2.2.2.2.2.1 (by decide) (fun c9 => absurd (by decide) c9) (fun _ => ?_)
          refine lv_iconst (v := 1) hx hb gX12_isIn_3.2.2.2.2.2.2.2.2.2 (by decide) ?_
          refine lv_goto (tgt := 76) hx hb gX12_isIn_4.1 (by decide) ?_
          refine toQ hQ0 ?_
          exact RP (v := 1) hC (Or.inl (rfl)) (by decide +kernel) gX12_isIn_4.2.2
  · refine lv_aload_n hx hb gX12_isIn_0.2.2.2.2.2.1 rfl (lv_at0 hl) ?_
    refine lv_iload_n hx hb gX12_isIn_0.2.2.2.2.2.2.1 rfl (lv_at1 hl) ?_
    refine lv_iconst (v := 5) hx hb gX12_isIn_0.2.2.2.2.2.2.2.1 (by decide) ?_
    refine pV hC hK hl hP hD (m_paper l G h0 jp 5 nw nk mhasKept nt mtaped nr mrowMany mroundOf mroundFrom mouts nm mfromHour mtoHour ns mfrom mto msort misFault mdeep mcoded mlines nl nc nF np ntr nb mbestCost nso nsi nit nsh nsf nss nrc mtraced mdealer mnumber mwhose msize misParted fnw (hjp) (by omega)) si_X12_88 [0, 1] sm_0_1 fm_0_1 nd_0_1 rfl rfl rfl rfl rfl (Nat.le_of_ble_eq_true rfl) rm_2_1_3 ⟨by first | exact Nat.le_of_ble_eq_true rfl | exact Nat.zero_le _, by first | exact Nat.le_of_ble_eq_true rfl | exact Nat.zero_le _⟩ gX12_isIn_0.2.2.2.2.2.2.2.2.1 (Keqr ?_)
    refine lv_aload_n hx hb gX12_isIn_0.2.2.2.2.2.2.2.2.2 rfl (lv_at0 hl) ?_
    refine pV hC hK hl hP hD (m_day l G h0 nw nk mhasKept nt mtaped nr mrowMany mroundOf mroundFrom mouts nm mfromHour mtoHour ns mfrom mto msort misFault mdeep mcoded mlines nl nc nF np ntr nb mbestCost nso nsi nit nsh nsf nss nrc mtraced mdealer mnumber mwhose msize misParted fnw) si_X12_92 [0, 1] sm_0_1 fm_0_1 nd_0_1 rfl rfl rfl rfl rfl (Nat.le_of_ble_eq_true rfl) rm_2_1_1 ⟨by first | exact Nat.le_of_ble_eq_true rfl | exact Nat.zero_le _, by first | exact Nat.le_of_ble_eq_true rfl | exact Nat.zero_le _⟩ gX12_isIn_1.1 (fun r5175 hr5175 => ?_)
    refine lv_icmp_gt (tgt := 26) hx hb gX12_isIn_1.2.1 (by decide) (fun c_19_5176 => ?_) (fun c_19_5176 => ?_)
    · refine lv_iconst (v := 0) hx hb gX12_isIn_1.2.2.2.2.1 (by decide) ?_
      refine lv_istore_n (lv' := [(2, .int 0), (0, .ref h0), (1, .int (nI jp))]) hx hb gX12_isIn_1.2.2.2.2.2.1 rfl hl (by decide) rfl (fun ls hl => ?_)
      refine lv_aload_n hx hb gX12_isIn_1.2.2.2.2.2.2.1 rfl (lv_at1 hl) ?_
      refine lv_iload_n hx hb gX12_isIn_1.2.2.2.2.2.2.2.1 rfl (lv_at2 hl) ?_
      refine lv_iconst (v := 4) hx hb gX12_isIn_1.2.2.2.2.2.2.2.2.1 (by decide) ?_
      refine pV hC hK hl hP hD (m_paper l G h0 jp 4 nw nk mhasKept nt mtaped nr mrowMany mroundOf mroundFrom mouts nm mfromHour mtoHour ns mfrom mto msort misFault mdeep mcoded mlines nl nc nF np ntr nb mbestCost nso nsi nit nsh nsf nss nrc mtraced mdealer mnumber mwhose msize misParted fnw (hjp) (by omega)) si_X12_88 [0, 1] sm_0_1 fm_0_1 nd_0_1 rfl rfl rfl rfl rfl (Nat.le_of_ble_eq_true rfl) rm_2_1_3 ⟨by first | exact Nat.le_of_ble_eq_true rfl | exact Nat.zero_le _, by first | exact Nat.le_of_ble_eq_true rfl | exact Nat.zero_le _⟩ gX12_isIn_1.2.2.2.2.2.2.2.2.2 (Keqr ?_)
      refine lv_aload_n hx hb gX12_isIn_2.1 rfl (lv_at1 hl) ?_
      refine pV hC hK hl hP hD (m_day l G h0 nw nk mhasKept nt mtaped nr mrowMany mroundOf mroundFrom mouts nm mfromHour mtoHour ns mfrom mto msort misFault mdeep mcoded mlines nl nc nF np ntr nb mbestCost nso nsi nit nsh nsf nss nrc mtraced mdealer mnumber mwhose msize misParted fnw) si_X12_92 [0, 1] sm_0_1 fm_0_1 nd_0_1 rfl rfl rfl rfl rfl (Nat.le_of_ble_eq_true rfl) rm_2_1_1 ⟨by first | exact Nat.le_of_ble_eq_true rfl | exact Nat.zero_le _, by first | exact Nat.le_of_ble_eq_true rfl | exact Nat.zero_le _⟩ gX12_isIn_2.2.1 (fun r5179 hr5179 => ?_)
      refine lv_icmp_gt (tgt := 75) hx hb gX12_isIn_2.2.2.1 (by decide) (fun c_38_5180 => ?_) (fun c_38_5180 => ?_)
      · refine lv_iconst (v := 0) hx hb gX12_isIn_4.2.1 (by decide) ?_
        refine toQ hQ0 ?_
        exact RP (v := 0) hC (Or.inr (rfl)) (by decide +kernel) gX12_isIn_4.2.2
      · refine lv_aload_n hx hb gX12_isIn_2.2.2.2.1 rfl (lv_at1 hl) ?_
        refine lv_iload_n hx hb gX12_isIn_2.2.2.2.2.1 rfl (lv_at2 hl) ?_
        refine lv_iconst (v := 3) hx hb gX12_isIn_2.2.2.2.2.2.1 (by decide) ?_
        refine pV hC hK hl hP hD (m_paper l G h0 jp 3 nw nk mhasKept nt mtaped nr mrowMany mroundOf mroundFrom mouts nm mfromHour mtoHour ns mfrom mto msort misFault mdeep mcoded mlines nl nc nF np ntr nb mbestCost nso nsi nit nsh nsf nss nrc mtraced mdealer mnumber mwhose msize misParted fnw (hjp) (by omega)) si_X12_88 [0, 1] sm_0_1 fm_0_1 nd_0_1 rfl rfl rfl rfl rfl (Nat.le_of_ble_eq_true rfl) rm_2_1_3 ⟨by first | exact Nat.le_of_ble_eq_true rfl | exact Nat.zero_le _, by first | exact Nat.le_of_ble_eq_true rfl | exact Nat.zero_le _⟩ gX12_isIn_2.2.2.2.2.2.2.1 (Keqr ?_)
        refine lv_aload_n hx hb gX12_isIn_2.2.2.2.2.2.2.2.1 rfl (lv_at1 hl) ?_
        refine gf_X12_9 hC rfl hK hP 0 rfl rfl gX12_isIn_2.2.2.2.2.2.2.2.2.1 ?_
        refine lv_iconst (v := 2) hx hb gX12_isIn_2.2.2.2.2.2.2.2.2.2 (by decide) ?_
        refine ald hC hK hP 1 rfl (vin (by decide +kernel)) (k := 2) (by decide +kernel) (v := fnw 2) (rfl) gX12_isIn_3.1 ?_
        refine lv_icmp_gt (tgt := 75) hx hb gX12_isIn_3.2.1 (by decide) (fun c_53_5183 => ?_) (fun c_53_5183 => ?_)
        · refine lv_iconst (v := 0) hx hb gX12_isIn_4.2.1 (by decide) ?_
          refine toQ hQ0 ?_
          exact RP (v := 0) hC (Or.inr (rfl)) (by decide +kernel) gX12_isIn_4.2.2
        · refine lv_iload_n hx hb gX12_isIn_3.2.2.1 rfl (lv_at0 hl) ?_
          refine lv_if_ne (tgt := 75) hx hb gX12_isIn_3.2.2.2.1 (by decide) (fun c9 => absurd (by decide) c9) (fun _ => ?_)
          refine lv_aload_n hx hb gX12_isIn_3.2.2.2.2.1 rfl (lv_at1 hl) ?_
          refine gf_X12_96 hC rfl hK hP 0 rfl rfl gX12_isIn_3.2.2.2.2.2.1 ?_
          refine lv_iload_n hx hb gX12_isIn_3.2.2.2.2.2.2.1 rfl (lv_at2 hl) ?_
          refine pS hC hK hl (m_has l G mouts (nI jp)) si_X12_99 rfl rfl (Nat.le_of_ble_eq_true rfl) rm_2_1_2 ⟨by first | exact Nat.le_of_ble_eq_true rfl | exact Nat.zero_le _, by first | exact Nat.le_of_ble_eq_true rfl | exact Nat.zero_le _⟩ gX12_isIn_3.2.2.2.2.2.2.2.1 (Kors (Keqa fun a5185 => ?_) (Keqa fun a5185 => ?_))
          · refine lv_if_ne (tgt := 75) hx hb gX12_isIn_3.2.2.2.2.2.2.2.2.1 (by decide) (fun _ => ?_) (fun c9 => absurd c9 (by decide))
            refine lv_iconst (v := 0) hx hb gX12_isIn_4.2.1 (by decide) ?_
            refine toQ hQ0 ?_
            exact RP (v := 0) hC (Or.inr (rfl)) (by decide +kernel) gX12_isIn_4.2.2
          · refine lv_if_ne (tgt := 75) hx hb gX12_isIn_3.2.2.2.2.2.2.2.2.1 (by decide) (fun c9 => absurd (by decide) c9) (fun _ => ?_)
            refine lv_iconst (v := 1) hx hb gX12_isIn_3.2.2.2.2.2.2.2.2.2 (by decide) ?_
            refine lv_goto (tgt := 76) hx hb gX12_isIn_4.1 (by decide) ?_
            refine toQ hQ0 ?_
            exact RP (v := 1) hC (Or.inl (rfl)) (by decide +kernel) gX12_isIn_4.2.2
    · refine lv_iconst (v := 1) hx hb gX12_isIn_1.2.2.1 (by decide) ?_
      refine lv_goto (tgt := 27) hx hb gX12_isIn_1.2.2.2.1 (by decide) ?_
      refine lv_istore_n (lv' := [(2, .int 1), (0, .ref h0), (1, .int (nI jp))]) hx hb gX12_isIn_1.2.2.2.2.2.1 rfl hl (by decide) rfl (fun ls hl => ?_)
      refine lv_aload_n hx hb gX12_isIn_1.2.2.2.2.2.2.1 rfl (lv_at1 hl) ?_
      refine lv_iload_n hx hb gX12_isIn_1.2.2.2.2.2.2.2.1 rfl (lv_at2 hl) ?_
      refine lv_iconst (v := 4) hx hb gX12_isIn_1.2.2.2.2.2.2.2.2.1 (by decide) ?_
      refine pV hC hK hl hP hD (m_paper l G h0 jp 4 nw nk mhasKept nt mtaped nr mrowMany mroundOf mroundFrom mouts nm mfromHour mtoHour ns mfrom mto msort misFault mdeep mcoded mlines nl nc nF np ntr nb mbestCost nso nsi nit nsh nsf nss nrc mtraced mdealer mnumber mwhose msize misParted fnw (hjp) (by omega)) si_X12_88 [0, 1] sm_0_1 fm_0_1 nd_0_1 rfl rfl rfl rfl rfl (Nat.le_of_ble_eq_true rfl) rm_2_1_3 ⟨by first | exact Nat.le_of_ble_eq_true rfl | exact Nat.zero_le _, by first | exact Nat.le_of_ble_eq_true rfl | exact Nat.zero_le _⟩ gX12_isIn_1.2.2.2.2.2.2.2.2.2 (Keqr ?_)
      refine lv_aload_n hx hb gX12_isIn_2.1 rfl (lv_at1 hl) ?_
      refine pV hC hK hl hP hD (m_day l G h0 nw nk mhasKept nt mtaped nr mrowMany mroundOf mroundFrom mouts nm mfromHour mtoHour ns mfrom mto msort misFault mdeep mcoded mlines nl nc nF np ntr nb mbestCost nso nsi nit nsh nsf nss nrc mtraced mdealer mnumber mwhose msize misParted fnw) si_X12_92 [0, 1] sm_0_1 fm_0_1 nd_0_1 rfl rfl rfl rfl rfl (Nat.le_of_ble_eq_true rfl) rm_2_1_1 ⟨by first | exact Nat.le_of_ble_eq_true rfl | exact Nat.zero_le _, by first | exact Nat.le_of_ble_eq_true rfl | exact Nat.zero_le _⟩ gX12_isIn_2.2.1 (fun r5188 hr5188 => ?_)
      refine lv_icmp_gt (tgt := 75) hx hb gX12_isIn_2.2.2.1 (by decide) (fun c_38_5189 => ?_) (fun c_38_5189 => ?_)
      · refine lv_iconst (v := 0) hx hb gX12_isIn_4.2.1 (by decide) ?_
        refine toQ hQ0 ?_
        exact RP (v := 0) hC (Or.inr (rfl)) (by decide +kernel) gX12_isIn_4.2.2
      · refine lv_aload_n hx hb gX12_isIn_2.2.2.2.1 rfl (lv_at1 hl) ?_
        refine lv_iload_n hx hb gX12_isIn_2.2.2.2.2.1 rfl (lv_at2 hl) ?_
        refine lv_iconst (v := 3) hx hb gX12_isIn_2.2.2.2.2.2.1 (by decide) ?_
        refine pV hC hK hl hP hD (m_paper l G h0 jp 3 nw nk mhasKept nt mtaped nr mrowMany mroundOf mroundFrom mouts nm mfromHour mtoHour ns mfrom mto msort misFault mdeep mcoded mlines nl nc nF np ntr nb mbestCost nso nsi nit nsh nsf nss nrc mtraced mdealer mnumber mwhose msize misParted fnw (hjp) (by omega)) si_X12_88 [0, 1] sm_0_1 fm_0_1 nd_0_1 rfl rfl rfl rfl rfl (Nat.le_of_ble_eq_true rfl) rm_2_1_3 ⟨by first | exact Nat.le_of_ble_eq_true rfl | exact Nat.zero_le _, by first | exact Nat.le_of_ble_eq_true rfl | exact Nat.zero_le _⟩ gX12_isIn_2.2.2.2.2.2.2.1 (Keqr ?_)
        refine lv_aload_n hx hb gX12_isIn_2.2.2.2.2.2.2.2.1 rfl (lv_at1 hl) ?_
        refine gf_X12_9 hC rfl hK hP 0 rfl rfl gX12_isIn_2.2.2.2.2.2.2.2.2.1 ?_
        refine lv_iconst (v := 2) hx hb gX12_isIn_2.2.2.2.2.2.2.2.2.2 (by decide) ?_
        refine ald hC hK hP 1 rfl (vin (by decide +kernel)) (k := 2) (by decide +kernel) (v := fnw 2) (rfl) gX12_isIn_3.1 ?_
        refine lv_icmp_gt (tgt := 75) hx hb gX12_isIn_3.2.1 (by decide) (fun c_53_5192 => ?_) (fun c_53_5192 => ?_)
        · refine lv_iconst (v := 0) hx hb gX12_isIn_4.2.1 (by decide) ?_
          refine toQ hQ0 ?_
          exact RP (v := 0) hC (Or.inr (rfl)) (by decide +kernel) gX12_isIn_4.2.2
        · refine lv_iload_n hx hb gX12_isIn_3.2.2.1 rfl (lv_at0 hl) ?_
          refine lv_if_ne (tgt := 75) hx hb gX12_isIn_3.2.2.2.1 (by decide) (fun _ => ?_) (fun c9 => absurd c9 (by decide))
          refine lv_iconst (v := 0) hx hb gX12_isIn_4.2.1 (by decide) ?_
          refine toQ hQ0 ?_
          exact RP (v := 0) hC (Or.inr (rfl)) (by decide +kernel) gX12_isIn_4.2.2
def K_m_inView (l : Launch) (G : GG) (h0 : Nat) (nw : Nat) (nk : Nat) (mhasKept : Int32) (nt : Nat) (mtaped : Int32) (nr : Nat) (mrowMany : Int32) (mroundOf : Int32) (mroundFrom : Int32) (mouts : Int32) (nm : Nat) (mfromHour : Int32) (mtoHour : Int32) (ns : Nat) (mfrom : Int32) (mto : Int32) (msort : Int32) (misFault : Int32) (mdeep : Int32) (mcoded : Int32) (mlines : Int32) (nl : Nat) (nc : Nat) (nF : Nat) (np : Nat) (ntr : Nat) (nb : Nat) (mbestCost : Int32) (nso : Nat) (nsi : Nat) (nit : Nat) (nsh : Nat) (nsf : Nat) (nss : Nat) (nrc : Nat) (mtraced : Int32) (mdealer : Int32) (mnumber : Int32) (mwhose : Int32) (msize : Int32) (misParted : Int32) (fnw : Nat → Int32) : Prop := MP l G yX12_inView cX12_inView 3 (some .int) 3 [.ref h0] [(h0, oX12 nw nk mhasKept nt mtaped nr mrowMany mroundOf mroundFrom mouts nm mfromHour mtoHour ns mfrom mto msort misFault mdeep mcoded mlines nl nc nF np ntr nb mbestCost nso nsi nit nsh nsf nss nrc mtraced mdealer mnumber mwhose msize misParted), (nw, iA G 1662 fnw)] (fun r : Int32 => True)
set_option maxHeartbeats 4000000 in
set_option maxRecDepth 100000 in
theorem m_inView (l : Launch) (G : GG) (h0 : Nat) (nw : Nat) (nk : Nat) (mhasKept : Int32) (nt : Nat) (mtaped : Int32) (nr : Nat) (mrowMany : Int32) (mroundOf : Int32) (mroundFrom : Int32) (mouts : Int32) (nm : Nat) (mfromHour : Int32) (mtoHour : Int32) (ns : Nat) (mfrom : Int32) (mto : Int32) (msort : Int32) (misFault : Int32) (mdeep : Int32) (mcoded : Int32) (mlines : Int32) (nl : Nat) (nc : Nat) (nF : Nat) (np : Nat) (ntr : Nat) (nb : Nat) (mbestCost : Int32) (nso : Nat) (nsi : Nat) (nit : Nat) (nsh : Nat) (nsf : Nat) (nss : Nat) (nrc : Nat) (mtraced : Int32) (mdealer : Int32) (mnumber : Int32) (mwhose : Int32) (msize : Int32) (misParted : Int32) (fnw : Nat → Int32) (hN : NI fnw) : K_m_inView l G h0 nw nk mhasKept nt mtaped nr mrowMany mroundOf mroundFrom mouts nm mfromHour mtoHour ns mfrom mto msort misFault mdeep mcoded mlines nl nc nF np ntr nb mbestCost nso nsi nit nsh nsf nss nrc mtraced mdealer mnumber mwhose msize misParted fnw := by
  refine MP.start (by decide +kernel) (Nat.le_of_ble_eq_true rfl) ?_
  intro p e s m below meth c ls hC hK hP hD hl
  refine absQ (fun Q0 hQ0 => ?_)
  have hl : lv_has ls 3 [(0, .ref h0)] := hl
  refine Kan8 hC (fun hx hb hr hml hB hown hlocks hnm => ?_)
  obtain ⟨kq, hkq, ekq⟩ := NI.nat hN (i := 5) (B := 12) (by decide +kernel) (by decide)
  refine lv_iconst (v := 0) hx hb gX12_inView_0.1 (by decide) ?_
  refine lv_istore_n (lv' := [(1, .int 0), (0, .ref h0)]) hx hb gX12_inView_0.2.1 rfl hl (by decide) rfl (fun ls hl => ?_)
  refine lv_iconst (v := 0) hx hb gX12_inView_0.2.2.1 (by decide) ?_
  refine lv_istore_n (lv' := [(2, .int 0), (1, .int 0), (0, .ref h0)]) hx hb gX12_inView_0.2.2.2.1 rfl hl (by decide) rfl (fun ls hl => ?_)
  have keyP : ∀ (nP kP : Nat) (se : Int32) (ls : Array Slot), kP + nP = kq → lv_has ls 3 [(2, .int (nI kP)), (1, .int se), (0, .ref h0)] → W p l e (RM 3 0 0) s m ([.ref h0] : List Value).toArray below meth c s.heap [] 0 0 Q0 (F0 m 4 ls []) := by
    intro nP
    induction nP with
    | zero =>
      intro kP se ls hkP hl
      obtain rfl : kq = kP := by omega
      have hl : lv_has ls 3 [(2, .int (nI kq)), (1, .int se), (0, .ref h0)] := hl
      refine lv_iload_n hx hb gX12_inView_0.2.2.2.2.1 rfl (lv_at0 hl) ?_
      refine lv_aload_n hx hb gX12_inView_0.2.2.2.2.2.1 rfl (lv_at2 hl) ?_
      refine gf_X12_9 hC rfl hK hP 0 rfl rfl gX12_inView_0.2.2.2.2.2.2.1 ?_
      refine lv_iconst (v := 5) hx hb gX12_inView_0.2.2.2.2.2.2.2.1 (by decide) ?_
      refine ald hC hK hP 1 rfl (vin (by decide +kernel)) (k := 5) (by decide +kernel) (v := nI kq) (ekq) gX12_inView_0.2.2.2.2.2.2.2.2.1 ?_
      refine lv_icmp_ge (tgt := 38) hx hb gX12_inView_0.2.2.2.2.2.2.2.2.2 (by decide) (fun _ => ?_) (fun c9 => absurd (Int32.le_refl _) c9)
      refine lv_iload_n hx hb gX12_inView_2.2.2.2.2.1 rfl (lv_at1 hl) ?_
      refine toQ hQ0 ?_
      exact RP (v := se) hC (trivial) rfl gX12_inView_2.2.2.2.2.2
    | succ nP ihP =>
      intro kP se ls hkP hl
      refine lv_iload_n hx hb gX12_inView_0.2.2.2.2.1 rfl (lv_at0 hl) ?_
      refine lv_aload_n hx hb gX12_inView_0.2.2.2.2.2.1 rfl (lv_at2 hl) ?_
      refine gf_X12_9 hC rfl hK hP 0 rfl rfl gX12_inView_0.2.2.2.2.2.2.1 ?_
      refine lv_iconst (v := 5) hx hb gX12_inView_0.2.2.2.2.2.2.2.1 (by decide) ?_
      refine ald hC hK hP 1 rfl (vin (by decide +kernel)) (k := 5) (by decide +kernel) (v := nI kq) (ekq) gX12_inView_0.2.2.2.2.2.2.2.2.1 ?_
      refine lv_icmp_ge (tgt := 38) hx hb gX12_inView_0.2.2.2.2.2.2.2.2.2 (by decide) (fun c9 => absurd c9 (nI_ge (a := kP) (b := kq) (by omega) (by omega))) (fun _ => ?_)
      refine lv_iload_n hx hb gX12_inView_1.1 rfl (lv_at1 hl) ?_
      refine lv_aload_n hx hb gX12_inView_1.2.1 rfl (lv_at2 hl) ?_
      refine lv_iload_n hx hb gX12_inView_1.2.2.1 rfl (lv_at0 hl) ?_
      refine pV hC hK hl hP hD (m_isIn l G h0 kP nw nk mhasKept nt mtaped nr mrowMany mroundOf mroundFrom mouts nm mfromHour mtoHour ns mfrom mto msort misFault mdeep mcoded mlines nl nc nF np ntr nb mbestCost nso nsi nit nsh nsf nss nrc mtraced mdealer mnumber mwhose msize misParted fnw (by omega)) si_X12_103 [0, 1] sm_0_1 fm_0_1 nd_0_1 rfl rfl rfl rfl rfl (Nat.le_of_ble_eq_true rfl) rm_3_2_3 ⟨by first | exact Nat.le_of_ble_eq_true rfl | exact Nat.zero_le _, by first | exact Nat.le_of_ble_eq_true rfl | exact Nat.zero_le _⟩ gX12_inView_1.2.2.2.1 (Kors (Keqr ?_) (Keqr ?_))
      · refine lv_if_eq (tgt := 29) hx hb gX12_inView_1.2.2.2.2.1 (by decide) (fun c9 => absurd c9 (by decide)) (fun _ => ?_)
        refine lv_iconst (v := 1) hx hb gX12_inView_1.2.2.2.2.2.1 (by decide) ?_
        refine lv_iload_n hx hb gX12_inView_1.2.2.2.2.2.2.1 rfl (lv_at0 hl) ?_
        refine lv_ishl hx hb gX12_inView_1.2.2.2.2.2.2.2.1 ?_
        refine lv_goto (tgt := 30) hx hb gX12_inView_1.2.2.2.2.2.2.2.2.1 (by decide) ?_
        refine lv_ior hx hb gX12_inView_2.1 ?_
        refine lv_istore_n (lv' := [(1, .int (se ||| (1 <<< ((nI kP) &&& 31)))), (2, .int (nI kP)), (0, .ref h0)]) hx hb gX12_inView_2.2.1 rfl hl (by decide) rfl (fun ls hl => ?_)
        refine lv_iinc (v := nI (kP + 1)) (lv' := [(2, .int (nI (kP + 1))), (1, .int (se ||| (1 <<< ((nI kP) &&& 31)))), (0, .ref h0)]) hx hb gX12_inView_2.2.2.1 hl (k := 1) rfl (nI_1 _) (by decide) rfl (fun ls hl => ?_)
        refine lv_goto (tgt := 4) hx hb gX12_inView_2.2.2.2.1 (by decide) ?_
        exact ihP (kP + 1) (se ||| (1 <<< ((nI kP) &&& 31))) _ (by omega) (lv_sub hl [0, 1, 2] rfl)
      · refine lv_if_eq (tgt := 29) hx hb gX12_inView_1.2.2.2.2.1 (by decide) (fun _ => ?_) (fun c9 => absurd (by decide) c9)
        refine lv_iconst (v := 0) hx hb gX12_inView_1.2.2.2.2.2.2.2.2.2 (by decide) ?_
        refine lv_ior hx hb gX12_inView_2.1 ?_
        refine lv_istore_n (lv' := [(1, .int (se ||| 0)), (2, .int (nI kP)), (0, .ref h0)]) hx hb gX12_inView_2.2.1 rfl hl (by decide) rfl (fun ls hl => ?_)
        refine lv_iinc (v := nI (kP + 1)) (lv' := [(2, .int (nI (kP + 1))), (1, .int (se ||| 0)), (0, .ref h0)]) hx hb gX12_inView_2.2.2.1 hl (k := 1) rfl (nI_1 _) (by decide) rfl (fun ls hl => ?_)
        refine lv_goto (tgt := 4) hx hb gX12_inView_2.2.2.2.1 (by decide) ?_
        exact ihP (kP + 1) (se ||| 0) _ (by omega) (lv_sub hl [0, 1, 2] rfl)
  exact keyP kq 0 0 _ (by omega) (lv_sub hl [0, 1, 2] rfl)
def K_m_papersOf (l : Launch) (G : GG) (h0 : Nat) (pe : Int32) (ma : Int32) (nw : Nat) (nk : Nat) (mhasKept : Int32) (nt : Nat) (mtaped : Int32) (nr : Nat) (mrowMany : Int32) (mroundOf : Int32) (mroundFrom : Int32) (mouts : Int32) (nm : Nat) (mfromHour : Int32) (mtoHour : Int32) (ns : Nat) (mfrom : Int32) (mto : Int32) (msort : Int32) (misFault : Int32) (mdeep : Int32) (mcoded : Int32) (mlines : Int32) (nl : Nat) (nc : Nat) (nF : Nat) (np : Nat) (ntr : Nat) (nb : Nat) (mbestCost : Int32) (nso : Nat) (nsi : Nat) (nit : Nat) (nsh : Nat) (nsf : Nat) (nss : Nat) (nrc : Nat) (mtraced : Int32) (mdealer : Int32) (mnumber : Int32) (mwhose : Int32) (msize : Int32) (misParted : Int32) (fnw : Nat → Int32) : Prop := MP l G yX12_papersOf cX12_papersOf 5 (some .int) 3 [.ref h0, .int pe, .int ma] [(h0, oX12 nw nk mhasKept nt mtaped nr mrowMany mroundOf mroundFrom mouts nm mfromHour mtoHour ns mfrom mto msort misFault mdeep mcoded mlines nl nc nF np ntr nb mbestCost nso nsi nit nsh nsf nss nrc mtraced mdealer mnumber mwhose msize misParted), (nw, iA G 1662 fnw)] (fun r : Int32 => True)
set_option maxHeartbeats 4000000 in
set_option maxRecDepth 100000 in
theorem m_papersOf (l : Launch) (G : GG) (h0 : Nat) (pe : Int32) (ma : Int32) (nw : Nat) (nk : Nat) (mhasKept : Int32) (nt : Nat) (mtaped : Int32) (nr : Nat) (mrowMany : Int32) (mroundOf : Int32) (mroundFrom : Int32) (mouts : Int32) (nm : Nat) (mfromHour : Int32) (mtoHour : Int32) (ns : Nat) (mfrom : Int32) (mto : Int32) (msort : Int32) (misFault : Int32) (mdeep : Int32) (mcoded : Int32) (mlines : Int32) (nl : Nat) (nc : Nat) (nF : Nat) (np : Nat) (ntr : Nat) (nb : Nat) (mbestCost : Int32) (nso : Nat) (nsi : Nat) (nit : Nat) (nsh : Nat) (nsf : Nat) (nss : Nat) (nrc : Nat) (mtraced : Int32) (mdealer : Int32) (mnumber : Int32) (mwhose : Int32) (msize : Int32) (misParted : Int32) (fnw : Nat → Int32) (hN : NI fnw) : K_m_papersOf l G h0 pe ma nw nk mhasKept nt mtaped nr mrowMany mroundOf mroundFrom mouts nm mfromHour mtoHour ns mfrom mto msort misFault mdeep mcoded mlines nl nc nF np ntr nb mbestCost nso nsi nit nsh nsf nss nrc mtraced mdealer mnumber mwhose msize misParted fnw := by
  refine MP.start (by decide +kernel) (Nat.le_of_ble_eq_true rfl) ?_
  intro p e s m below meth c ls hC hK hP hD hl
  refine absQ (fun Q0 hQ0 => ?_)
  have hl : lv_has ls 5 [(0, .ref h0), (1, .int pe), (2, .int ma)] := hl
  refine Kan8 hC (fun hx hb hr hml hB hown hlocks hnm => ?_)
  obtain ⟨kq, hkq, ekq⟩ := NI.nat hN (i := 5) (B := 12) (by decide +kernel) (by decide)
  refine lv_iconst (v := 0) hx hb gX12_papersOf_0.1 (by decide) ?_
  refine lv_istore_n (lv' := [(3, .int 0), (0, .ref h0), (1, .int pe), (2, .int ma)]) hx hb gX12_papersOf_0.2.1 rfl hl (by decide) rfl (fun ls hl => ?_)
  refine lv_iconst (v := 0) hx hb gX12_papersOf_0.2.2.1 (by decide) ?_
  refine lv_istore (lv' := [(4, .int 0), (3, .int 0), (0, .ref h0), (1, .int pe), (2, .int ma)]) hx hb gX12_papersOf_0.2.2.2.1 hl (by decide) rfl (fun ls hl => ?_)
  have keyP : ∀ (nP kP : Nat) (nn : Int32) (ls : Array Slot), kP + nP = kq → lv_has ls 5 [(4, .int (nI kP)), (3, .int nn), (0, .ref h0), (1, .int pe), (2, .int ma)] → W p l e (RM 3 0 0) s m ([.ref h0, .int pe, .int ma] : List Value).toArray below meth c s.heap [] 0 0 Q0 (F0 m 5 ls []) := by
    intro nP
    induction nP with
    | zero =>
      intro kP nn ls hkP hl
      obtain rfl : kq = kP := by omega
      have hl : lv_has ls 5 [(4, .int (nI kq)), (3, .int nn), (0, .ref h0), (1, .int pe), (2, .int ma)] := hl
      refine lv_iload hx hb gX12_papersOf_0.2.2.2.2.1 (lv_at0 hl) ?_
      refine lv_aload_n hx hb gX12_papersOf_0.2.2.2.2.2.1 rfl (lv_at2 hl) ?_
      refine gf_X12_9 hC rfl hK hP 0 rfl rfl gX12_papersOf_0.2.2.2.2.2.2.1 ?_
      refine lv_iconst (v := 5) hx hb gX12_papersOf_0.2.2.2.2.2.2.2.1 (by decide) ?_
      refine ald hC hK hP 1 rfl (vin (by decide +kernel)) (k := 5) (by decide +kernel) (v := nI kq) (ekq) gX12_papersOf_0.2.2.2.2.2.2.2.2.1 ?_
      refine lv_icmp_ge (tgt := 71) hx hb gX12_papersOf_0.2.2.2.2.2.2.2.2.2 (by decide) (fun _ => ?_) (fun c9 => absurd (Int32.le_refl _) c9)
      refine lv_iload_n hx hb gX12_papersOf_3.2.2.2.2.2.2.2.2.1 rfl (lv_at1 hl) ?_
      refine toQ hQ0 ?_
      exact RP (v := nn) hC (trivial) rfl gX12_papersOf_3.2.2.2.2.2.2.2.2.2
    | succ nP ihP =>
      intro kP nn ls hkP hl
      refine lv_iload hx hb gX12_papersOf_0.2.2.2.2.1 (lv_at0 hl) ?_
      refine lv_aload_n hx hb gX12_papersOf_0.2.2.2.2.2.1 rfl (lv_at2 hl) ?_
      refine gf_X12_9 hC rfl hK hP 0 rfl rfl gX12_papersOf_0.2.2.2.2.2.2.1 ?_
      refine lv_iconst (v := 5) hx hb gX12_papersOf_0.2.2.2.2.2.2.2.1 (by decide) ?_
      refine ald hC hK hP 1 rfl (vin (by decide +kernel)) (k := 5) (by decide +kernel) (v := nI kq) (ekq) gX12_papersOf_0.2.2.2.2.2.2.2.2.1 ?_
      refine lv_icmp_ge (tgt := 71) hx hb gX12_papersOf_0.2.2.2.2.2.2.2.2.2 (by decide) (fun c9 => absurd c9 (nI_ge (a := kP) (b := kq) (by omega) (by omega))) (fun _ => ?_)
      refine lv_iload_n hx hb gX12_papersOf_1.1 rfl (lv_at1 hl) ?_
      refine lv_aload_n hx hb gX12_papersOf_1.2.1 rfl (lv_at2 hl) ?_
      refine lv_iload hx hb gX12_papersOf_1.2.2.1 (lv_at0 hl) ?_
      refine pV hC hK hl hP hD (m_isIn l G h0 kP nw nk mhasKept nt mtaped nr mrowMany mroundOf mroundFrom mouts nm mfromHour mtoHour ns mfrom mto msort misFault mdeep mcoded mlines nl nc nF np ntr nb mbestCost nso nsi nit nsh nsf nss nrc mtraced mdealer mnumber mwhose msize misParted fnw (by omega)) si_X12_103 [0, 1] sm_0_1 fm_0_1 nd_0_1 rfl rfl rfl rfl rfl (Nat.le_of_ble_eq_true rfl) rm_3_2_3 ⟨by first | exact Nat.le_of_ble_eq_true rfl | exact Nat.zero_le _, by first | exact Nat.le_of_ble_eq_true rfl | exact Nat.zero_le _⟩ gX12_papersOf_1.2.2.2.1 (Kors (Keqr ?_) (Keqr ?_))
      · refine lv_if_eq (tgt := 62) hx hb gX12_papersOf_1.2.2.2.2.1 (by decide) (fun c9 => absurd c9 (by decide)) (fun _ => ?_)
        refine lv_iload_n hx hb gX12_papersOf_1.2.2.2.2.2.1 rfl (lv_at4 hl) ?_
        refine lv_if_eq (tgt := 44) hx hb gX12_papersOf_1.2.2.2.2.2.2.1 (by decide) (fun c_27_5197 => ?_) (fun c_27_5197 => ?_)
        · refine lv_aload_n hx hb gX12_papersOf_2.2.2.2.2.1 rfl (lv_at2 hl) ?_
          refine lv_iload hx hb gX12_papersOf_2.2.2.2.2.2.1 (lv_at0 hl) ?_
          refine lv_iconst (v := 1) hx hb gX12_papersOf_2.2.2.2.2.2.2.1 (by decide) ?_
          refine pV hC hK hl hP hD (m_paper l G h0 kP 1 nw nk mhasKept nt mtaped nr mrowMany mroundOf mroundFrom mouts nm mfromHour mtoHour ns mfrom mto msort misFault mdeep mcoded mlines nl nc nF np ntr nb mbestCost nso nsi nit nsh nsf nss nrc mtraced mdealer mnumber mwhose msize misParted fnw (by omega) (by omega)) si_X12_88 [0, 1] sm_0_1 fm_0_1 nd_0_1 rfl rfl rfl rfl rfl (Nat.le_of_ble_eq_true rfl) rm_3_1_3 ⟨by first | exact Nat.le_of_ble_eq_true rfl | exact Nat.zero_le _, by first | exact Nat.le_of_ble_eq_true rfl | exact Nat.zero_le _⟩ gX12_papersOf_2.2.2.2.2.2.2.2.1 (Keqr ?_)
          refine lv_iload_n hx hb gX12_papersOf_2.2.2.2.2.2.2.2.2.1 rfl (lv_at3 hl) ?_
          refine pS hC hK hl (m_has l G (fnw (32 + 6 * kP + 1)) pe) si_X12_99 rfl rfl (Nat.le_of_ble_eq_true rfl) rm_3_1_2 ⟨by first | exact Nat.le_of_ble_eq_true rfl | exact Nat.zero_le _, by first | exact Nat.le_of_ble_eq_true rfl | exact Nat.zero_le _⟩ gX12_papersOf_2.2.2.2.2.2.2.2.2.2 (Kors (Keqa fun a5201 => ?_) (Keqa fun a5201 => ?_))
          · refine lv_if_eq (tgt := 62) hx hb gX12_papersOf_3.1 (by decide) (fun c9 => absurd c9 (by decide)) (fun _ => ?_)
            refine lv_iconst (v := 1) hx hb gX12_papersOf_3.2.1 (by decide) ?_
            refine lv_goto (tgt := 63) hx hb gX12_papersOf_3.2.2.1 (by decide) ?_
            refine lv_iadd hx hb gX12_papersOf_3.2.2.2.2.1 ?_
            refine lv_istore_n (lv' := [(3, .int (nn + 1)), (4, .int (nI kP)), (0, .ref h0), (1, .int pe), (2, .int ma)]) hx hb gX12_papersOf_3.2.2.2.2.2.1 rfl hl (by decide) rfl (fun ls hl => ?_)
            refine lv_iinc (v := nI (kP + 1)) (lv' := [(4, .int (nI (kP + 1))), (3, .int (nn + 1)), (0, .ref h0), (1, .int pe), (2, .int ma)]) hx hb gX12_papersOf_3.2.2.2.2.2.2.1 hl (k := 1) rfl (nI_1 _) (by decide) rfl (fun ls hl => ?_)
            refine lv_goto (tgt := 5) hx hb gX12_papersOf_3.2.2.2.2.2.2.2.1 (by decide) ?_
            exact ihP (kP + 1) (nn + 1) _ (by omega) (lv_sub hl [0, 1, 2, 3, 4] rfl)
          · refine lv_if_eq (tgt := 62) hx hb gX12_papersOf_3.1 (by decide) (fun _ => ?_) (fun c9 => absurd (by decide) c9)
            refine lv_iconst (v := 0) hx hb gX12_papersOf_3.2.2.2.1 (by decide) ?_
            refine lv_iadd hx hb gX12_papersOf_3.2.2.2.2.1 ?_
            refine lv_istore_n (lv' := [(3, .int (nn + 0)), (4, .int (nI kP)), (0, .ref h0), (1, .int pe), (2, .int ma)]) hx hb gX12_papersOf_3.2.2.2.2.2.1 rfl hl (by decide) rfl (fun ls hl => ?_)
            refine lv_iinc (v := nI (kP + 1)) (lv' := [(4, .int (nI (kP + 1))), (3, .int (nn + 0)), (0, .ref h0), (1, .int pe), (2, .int ma)]) hx hb gX12_papersOf_3.2.2.2.2.2.2.1 hl (k := 1) rfl (nI_1 _) (by decide) rfl (fun ls hl => ?_)
            refine lv_goto (tgt := 5) hx hb gX12_papersOf_3.2.2.2.2.2.2.2.1 (by decide) ?_
            exact ihP (kP + 1) (nn + 0) _ (by omega) (lv_sub hl [0, 1, 2, 3, 4] rfl)
        · refine lv_aload_n hx hb gX12_papersOf_1.2.2.2.2.2.2.2.1 rfl (lv_at2 hl) ?_
          refine lv_iload hx hb gX12_papersOf_1.2.2.2.2.2.2.2.2.1 (lv_at0 hl) ?_
          refine lv_iconst (v := 0) hx hb gX12_papersOf_1.2.2.2.2.2.2.2.2.2 (by decide) ?_
          refine pV hC hK hl hP hD (m_paper l G h0 kP 0 nw nk mhasKept nt mtaped nr mrowMany mroundOf mroundFrom mouts nm mfromHour mtoHour ns mfrom mto msort misFault mdeep mcoded mlines nl nc nF np ntr nb mbestCost nso nsi nit nsh nsf nss nrc mtraced mdealer mnumber mwhose msize misParted fnw (by omega) (by omega)) si_X12_88 [0, 1] sm_0_1 fm_0_1 nd_0_1 rfl rfl rfl rfl rfl (Nat.le_of_ble_eq_true rfl) rm_3_1_3 ⟨by first | exact Nat.le_of_ble_eq_true rfl | exact Nat.zero_le _, by first | exact Nat.le_of_ble_eq_true rfl | exact Nat.zero_le _⟩ gX12_papersOf_2.1 (Keqr ?_)
          refine lv_iload_n hx hb gX12_papersOf_2.2.1 rfl (lv_at3 hl) ?_
          refine lv_icmp_ne (tgt := 62) hx hb gX12_papersOf_2.2.2.1 (by decide) (fun c_38_5204 => ?_) (fun c_38_5204 => ?_)
          · refine lv_iconst (v := 0) hx hb gX12_papersOf_3.2.2.2.1 (by decide) ?_
            refine lv_iadd hx hb gX12_papersOf_3.2.2.2.2.1 ?_
            refine lv_istore_n (lv' := [(3, .int (nn + 0)), (4, .int (nI kP)), (0, .ref h0), (1, .int pe), (2, .int ma)]) hx hb gX12_papersOf_3.2.2.2.2.2.1 rfl hl (by decide) rfl (fun ls hl => ?_)
            refine lv_iinc (v := nI (kP + 1)) (lv' := [(4, .int (nI (kP + 1))), (3, .int (nn + 0)), (0, .ref h0), (1, .int pe), (2, .int ma)]) hx hb gX12_papersOf_3.2.2.2.2.2.2.1 hl (k := 1) rfl (nI_1 _) (by decide) rfl (fun ls hl => ?_)
            refine lv_goto (tgt := 5) hx hb gX12_papersOf_3.2.2.2.2.2.2.2.1 (by decide) ?_
            exact ihP (kP + 1) (nn + 0) _ (by omega) (lv_sub hl [0, 1, 2, 3, 4] rfl)
          · refine lv_goto (tgt := 58) hx hb gX12_papersOf_2.2.2.2.1 (by decide) ?_
            refine lv_iconst (v := 1) hx hb gX12_papersOf_3.2.1 (by decide) ?_
            refine lv_goto (tgt := 63) hx hb gX12_papersOf_3.2.2.1 (by decide) ?_
            refine lv_iadd hx hb gX12_papersOf_3.2.2.2.2.1 ?_
            refine lv_istore_n (lv' := [(3, .int (nn + 1)), (4, .int (nI kP)), (0, .ref h0), (1, .int pe), (2, .int ma)]) hx hb gX12_papersOf_3.2.2.2.2.2.1 rfl hl (by decide) rfl (fun ls hl => ?_)
            refine lv_iinc (v := nI (kP + 1)) (lv' := [(4, .int (nI (kP + 1))), (3, .int (nn + 1)), (0, .ref h0), (1, .int pe), (2, .int ma)]) hx hb gX12_papersOf_3.2.2.2.2.2.2.1 hl (k := 1) rfl (nI_1 _) (by decide) rfl (fun ls hl => ?_)
            refine lv_goto (tgt := 5) hx hb gX12_papersOf_3.2.2.2.2.2.2.2.1 (by decide) ?_
            exact ihP (kP + 1) (nn + 1) _ (by omega) (lv_sub hl [0, 1, 2, 3, 4] rfl)
      · refine lv_if_eq (tgt := 62) hx hb gX12_papersOf_1.2.2.2.2.1 (by decide) (fun _ => ?_) (fun c9 => absurd (by decide) c9)
        refine lv_iconst (v := 0) hx hb gX12_papersOf_3.2.2.2.1 (by decide) ?_
        refine lv_iadd hx hb gX12_papersOf_3.2.2.2.2.1 ?_
        refine lv_istore_n (lv' := [(3, .int (nn + 0)), (4, .int (nI kP)), (0, .ref h0), (1, .int pe), (2, .int ma)]) hx hb gX12_papersOf_3.2.2.2.2.2.1 rfl hl (by decide) rfl (fun ls hl => ?_)
        refine lv_iinc (v := nI (kP + 1)) (lv' := [(4, .int (nI (kP + 1))), (3, .int (nn + 0)), (0, .ref h0), (1, .int pe), (2, .int ma)]) hx hb gX12_papersOf_3.2.2.2.2.2.2.1 hl (k := 1) rfl (nI_1 _) (by decide) rfl (fun ls hl => ?_)
        refine lv_goto (tgt := 5) hx hb gX12_papersOf_3.2.2.2.2.2.2.2.1 (by decide) ?_
        exact ihP (kP + 1) (nn + 0) _ (by omega) (lv_sub hl [0, 1, 2, 3, 4] rfl)
  exact keyP kq 0 0 _ (by omega) (lv_sub hl [0, 1, 2, 3, 4] rfl)
def K_m_doesCount (l : Launch) (G : GG) (h0 : Nat) (js : Nat) (nw : Nat) (nk : Nat) (mhasKept : Int32) (nt : Nat) (mtaped : Int32) (nr : Nat) (mrowMany : Int32) (mroundOf : Int32) (mroundFrom : Int32) (mouts : Int32) (nm : Nat) (mfromHour : Int32) (mtoHour : Int32) (ns : Nat) (mfrom : Int32) (mto : Int32) (msort : Int32) (misFault : Int32) (mdeep : Int32) (mcoded : Int32) (mlines : Int32) (nl : Nat) (nc : Nat) (nF : Nat) (np : Nat) (ntr : Nat) (nb : Nat) (mbestCost : Int32) (nso : Nat) (nsi : Nat) (nit : Nat) (nsh : Nat) (nsf : Nat) (nss : Nat) (nrc : Nat) (mtraced : Int32) (mdealer : Int32) (mnumber : Int32) (mwhose : Int32) (msize : Int32) (misParted : Int32) (fnw : Nat → Int32) : Prop := MP l G yX12_doesCount cX12_doesCount 2 (some .boolean) 4 [.ref h0, .int (nI js)] [(h0, oX12 nw nk mhasKept nt mtaped nr mrowMany mroundOf mroundFrom mouts nm mfromHour mtoHour ns mfrom mto msort misFault mdeep mcoded mlines nl nc nF np ntr nb mbestCost nso nsi nit nsh nsf nss nrc mtraced mdealer mnumber mwhose msize misParted), (nw, iA G 1662 fnw)] (fun r : Int32 => r = 1 ∨ r = 0)
set_option maxHeartbeats 4000000 in
set_option maxRecDepth 100000 in
theorem m_doesCount (l : Launch) (G : GG) (h0 : Nat) (js : Nat) (nw : Nat) (nk : Nat) (mhasKept : Int32) (nt : Nat) (mtaped : Int32) (nr : Nat) (mrowMany : Int32) (mroundOf : Int32) (mroundFrom : Int32) (mouts : Int32) (nm : Nat) (mfromHour : Int32) (mtoHour : Int32) (ns : Nat) (mfrom : Int32) (mto : Int32) (msort : Int32) (misFault : Int32) (mdeep : Int32) (mcoded : Int32) (mlines : Int32) (nl : Nat) (nc : Nat) (nF : Nat) (np : Nat) (ntr : Nat) (nb : Nat) (mbestCost : Int32) (nso : Nat) (nsi : Nat) (nit : Nat) (nsh : Nat) (nsf : Nat) (nss : Nat) (nrc : Nat) (mtraced : Int32) (mdealer : Int32) (mnumber : Int32) (mwhose : Int32) (msize : Int32) (misParted : Int32) (fnw : Nat → Int32) (hjs : js < 16) (hN : NI fnw) : K_m_doesCount l G h0 js nw nk mhasKept nt mtaped nr mrowMany mroundOf mroundFrom mouts nm mfromHour mtoHour ns mfrom mto msort misFault mdeep mcoded mlines nl nc nF np ntr nb mbestCost nso nsi nit nsh nsf nss nrc mtraced mdealer mnumber mwhose msize misParted fnw := by
  refine MP.start (by decide +kernel) (Nat.le_of_ble_eq_true rfl) ?_
  intro p e s m below meth c ls hC hK hP hD hl
  refine absQ (fun Q0 hQ0 => ?_)
  have hl : lv_has ls 2 [(0, .ref h0), (1, .int (nI js))] := hl
  refine Kan8 hC (fun hx hb hr hml hB hown hlocks hnm => ?_)
  refine lv_aload_n hx hb gX12_doesCount_0.1 rfl (lv_at0 hl) ?_
  refine lv_iload_n hx hb gX12_doesCount_0.2.1 rfl (lv_at1 hl) ?_
  refine lv_bipush (v := 6) hx hb gX12_doesCount_0.2.2.1 (by decide) ?_
  refine pV hC hK hl hP hD (m_saying l G h0 js 6 nw nk mhasKept nt mtaped nr mrowMany mroundOf mroundFrom mouts nm mfromHour mtoHour ns mfrom mto msort misFault mdeep mcoded mlines nl nc nF np ntr nb mbestCost nso nsi nit nsh nsf nss nrc mtraced mdealer mnumber mwhose msize misParted fnw (hjs) (by omega)) si_X12_114 [0, 1] sm_0_1 fm_0_1 nd_0_1 rfl rfl rfl rfl rfl (Nat.le_of_ble_eq_true rfl) rm_4_1_3 ⟨by first | exact Nat.le_of_ble_eq_true rfl | exact Nat.zero_le _, by first | exact Nat.le_of_ble_eq_true rfl | exact Nat.zero_le _⟩ gX12_doesCount_0.2.2.2.1 (Keqr ?_)
  refine lv_if_ge (tgt := 41) hx hb gX12_doesCount_0.2.2.2.2.1 (by decide) (fun c_7_5207 => ?_) (fun c_7_5207 => ?_)
  · refine lv_iconst (v := 0) hx hb gX12_doesCount_2.2.1 (by decide) ?_
    refine toQ hQ0 ?_
    exact RP (v := 0) hC (Or.inr (rfl)) (by decide +kernel) gX12_doesCount_2.2.2
  · refine lv_aload_n hx hb gX12_doesCount_0.2.2.2.2.2.1 rfl (lv_at0 hl) ?_
    refine lv_iload_n hx hb gX12_doesCount_0.2.2.2.2.2.2.1 rfl (lv_at1 hl) ?_
    refine lv_bipush (v := 7) hx hb gX12_doesCount_0.2.2.2.2.2.2.2.1 (by decide) ?_
    refine pV hC hK hl hP hD (m_saying l G h0 js 7 nw nk mhasKept nt mtaped nr mrowMany mroundOf mroundFrom mouts nm mfromHour mtoHour ns mfrom mto msort misFault mdeep mcoded mlines nl nc nF np ntr nb mbestCost nso nsi nit nsh nsf nss nrc mtraced mdealer mnumber mwhose msize misParted fnw (hjs) (by omega)) si_X12_114 [0, 1] sm_0_1 fm_0_1 nd_0_1 rfl rfl rfl rfl rfl (Nat.le_of_ble_eq_true rfl) rm_4_1_3 ⟨by first | exact Nat.le_of_ble_eq_true rfl | exact Nat.zero_le _, by first | exact Nat.le_of_ble_eq_true rfl | exact Nat.zero_le _⟩ gX12_doesCount_0.2.2.2.2.2.2.2.2.1 (Keqr ?_)
    refine lv_aload_n hx hb gX12_doesCount_0.2.2.2.2.2.2.2.2.2 rfl (lv_at0 hl) ?_
    refine pV hC hK hl hP hD (m_day l G h0 nw nk mhasKept nt mtaped nr mrowMany mroundOf mroundFrom mouts nm mfromHour mtoHour ns mfrom mto msort misFault mdeep mcoded mlines nl nc nF np ntr nb mbestCost nso nsi nit nsh nsf nss nrc mtraced mdealer mnumber mwhose msize misParted fnw) si_X12_92 [0, 1] sm_0_1 fm_0_1 nd_0_1 rfl rfl rfl rfl rfl (Nat.le_of_ble_eq_true rfl) rm_4_1_1 ⟨by first | exact Nat.le_of_ble_eq_true rfl | exact Nat.zero_le _, by first | exact Nat.le_of_ble_eq_true rfl | exact Nat.zero_le _⟩ gX12_doesCount_1.1 (fun r5210 hr5210 => ?_)
    refine lv_icmp_gt (tgt := 41) hx hb gX12_doesCount_1.2.1 (by decide) (fun c_21_5211 => ?_) (fun c_21_5211 => ?_)
    · refine lv_iconst (v := 0) hx hb gX12_doesCount_2.2.1 (by decide) ?_
      refine toQ hQ0 ?_
      exact RP (v := 0) hC (Or.inr (rfl)) (by decide +kernel) gX12_doesCount_2.2.2
    · refine lv_aload_n hx hb gX12_doesCount_1.2.2.1 rfl (lv_at0 hl) ?_
      refine lv_aload_n hx hb gX12_doesCount_1.2.2.2.1 rfl (lv_at0 hl) ?_
      refine lv_iload_n hx hb gX12_doesCount_1.2.2.2.2.1 rfl (lv_at1 hl) ?_
      refine lv_iconst (v := 2) hx hb gX12_doesCount_1.2.2.2.2.2.1 (by decide) ?_
      refine pV hC hK hl hP hD (m_saying l G h0 js 2 nw nk mhasKept nt mtaped nr mrowMany mroundOf mroundFrom mouts nm mfromHour mtoHour ns mfrom mto msort misFault mdeep mcoded mlines nl nc nF np ntr nb mbestCost nso nsi nit nsh nsf nss nrc mtraced mdealer mnumber mwhose msize misParted fnw (hjs) (by omega)) si_X12_114 [0, 1] sm_0_1 fm_0_1 nd_0_1 rfl rfl rfl rfl rfl (Nat.le_of_ble_eq_true rfl) rm_4_1_3 ⟨by first | exact Nat.le_of_ble_eq_true rfl | exact Nat.zero_le _, by first | exact Nat.le_of_ble_eq_true rfl | exact Nat.zero_le _⟩ gX12_doesCount_1.2.2.2.2.2.2.1 (Keqr ?_)
      obtain ⟨jpp, hjpp, ejpp⟩ := NI.nat hN (i := 1424 + 8 * js + 2) (bnd_say2 (s := js) rfl (by omega)) (by decide)
      refine eqi (x1 := nI jpp) ejpp ?_
      refine pV hC hK hl hP hD (m_isIn l G h0 jpp nw nk mhasKept nt mtaped nr mrowMany mroundOf mroundFrom mouts nm mfromHour mtoHour ns mfrom mto msort misFault mdeep mcoded mlines nl nc nF np ntr nb mbestCost nso nsi nit nsh nsf nss nrc mtraced mdealer mnumber mwhose msize misParted fnw (by omega)) si_X12_103 [0, 1] sm_0_1 fm_0_1 nd_0_1 rfl rfl rfl rfl rfl (Nat.le_of_ble_eq_true rfl) rm_4_2_3 ⟨by first | exact Nat.le_of_ble_eq_true rfl | exact Nat.zero_le _, by first | exact Nat.le_of_ble_eq_true rfl | exact Nat.zero_le _⟩ gX12_doesCount_1.2.2.2.2.2.2.2.1 (Kors (Keqr ?_) (Keqr ?_))
      · refine lv_if_eq (tgt := 41) hx hb gX12_doesCount_1.2.2.2.2.2.2.2.2.1 (by decide) (fun c9 => absurd c9 (by decide)) (fun _ => ?_)
        refine lv_iconst (v := 1) hx hb gX12_doesCount_1.2.2.2.2.2.2.2.2.2 (by decide) ?_
        refine lv_goto (tgt := 42) hx hb gX12_doesCount_2.1 (by decide) ?_
        refine toQ hQ0 ?_
        exact RP (v := 1) hC (Or.inl (rfl)) (by decide +kernel) gX12_doesCount_2.2.2
      · refine lv_if_eq (tgt := 41) hx hb gX12_doesCount_1.2.2.2.2.2.2.2.2.1 (by decide) (fun _ => ?_) (fun c9 => absurd (by decide) c9)
        refine lv_iconst (v := 0) hx hb gX12_doesCount_2.2.1 (by decide) ?_
        refine toQ hQ0 ?_
        exact RP (v := 0) hC (Or.inr (rfl)) (by decide +kernel) gX12_doesCount_2.2.2
def K_m_saidBy (l : Launch) (G : GG) (h0 : Nat) (pe : Int32) (nw : Nat) (nk : Nat) (mhasKept : Int32) (nt : Nat) (mtaped : Int32) (nr : Nat) (mrowMany : Int32) (mroundOf : Int32) (mroundFrom : Int32) (mouts : Int32) (nm : Nat) (mfromHour : Int32) (mtoHour : Int32) (ns : Nat) (mfrom : Int32) (mto : Int32) (msort : Int32) (misFault : Int32) (mdeep : Int32) (mcoded : Int32) (mlines : Int32) (nl : Nat) (nc : Nat) (nF : Nat) (np : Nat) (ntr : Nat) (nb : Nat) (mbestCost : Int32) (nso : Nat) (nsi : Nat) (nit : Nat) (nsh : Nat) (nsf : Nat) (nss : Nat) (nrc : Nat) (mtraced : Int32) (mdealer : Int32) (mnumber : Int32) (mwhose : Int32) (msize : Int32) (misParted : Int32) (fnw : Nat → Int32) : Prop := MP l G yX12_saidBy cX12_saidBy 4 (some .int) 5 [.ref h0, .int pe] [(h0, oX12 nw nk mhasKept nt mtaped nr mrowMany mroundOf mroundFrom mouts nm mfromHour mtoHour ns mfrom mto msort misFault mdeep mcoded mlines nl nc nF np ntr nb mbestCost nso nsi nit nsh nsf nss nrc mtraced mdealer mnumber mwhose msize misParted), (nw, iA G 1662 fnw)] (fun r : Int32 => True)
set_option maxHeartbeats 4000000 in
set_option maxRecDepth 100000 in
theorem m_saidBy (l : Launch) (G : GG) (h0 : Nat) (pe : Int32) (nw : Nat) (nk : Nat) (mhasKept : Int32) (nt : Nat) (mtaped : Int32) (nr : Nat) (mrowMany : Int32) (mroundOf : Int32) (mroundFrom : Int32) (mouts : Int32) (nm : Nat) (mfromHour : Int32) (mtoHour : Int32) (ns : Nat) (mfrom : Int32) (mto : Int32) (msort : Int32) (misFault : Int32) (mdeep : Int32) (mcoded : Int32) (mlines : Int32) (nl : Nat) (nc : Nat) (nF : Nat) (np : Nat) (ntr : Nat) (nb : Nat) (mbestCost : Int32) (nso : Nat) (nsi : Nat) (nit : Nat) (nsh : Nat) (nsf : Nat) (nss : Nat) (nrc : Nat) (mtraced : Int32) (mdealer : Int32) (mnumber : Int32) (mwhose : Int32) (msize : Int32) (misParted : Int32) (fnw : Nat → Int32) (hN : NI fnw) : K_m_saidBy l G h0 pe nw nk mhasKept nt mtaped nr mrowMany mroundOf mroundFrom mouts nm mfromHour mtoHour ns mfrom mto msort misFault mdeep mcoded mlines nl nc nF np ntr nb mbestCost nso nsi nit nsh nsf nss nrc mtraced mdealer mnumber mwhose msize misParted fnw := by
  refine MP.start (by decide +kernel) (Nat.le_of_ble_eq_true rfl) ?_
  intro p e s m below meth c ls hC hK hP hD hl
  refine absQ (fun Q0 hQ0 => ?_)
  have hl : lv_has ls 4 [(0, .ref h0), (1, .int pe)] := hl
  refine Kan8 hC (fun hx hb hr hml hB hown hlocks hnm => ?_)
  obtain ⟨k8, hk8, ek8⟩ := NI.nat hN (i := 8) (B := 16) (by decide +kernel) (by decide)
  refine lv_iconst (v := 0) hx hb gX12_saidBy_0.1 (by decide) ?_
  refine lv_istore_n (lv' := [(2, .int 0), (0, .ref h0), (1, .int pe)]) hx hb gX12_saidBy_0.2.1 rfl hl (by decide) rfl (fun ls hl => ?_)
  refine lv_iconst (v := 0) hx hb gX12_saidBy_0.2.2.1 (by decide) ?_
  refine lv_istore_n (lv' := [(3, .int 0), (2, .int 0), (0, .ref h0), (1, .int pe)]) hx hb gX12_saidBy_0.2.2.2.1 rfl hl (by decide) rfl (fun ls hl => ?_)
  have keyP : ∀ (nP kP : Nat) (nn : Int32) (ls : Array Slot), kP + nP = k8 → lv_has ls 4 [(3, .int (nI kP)), (2, .int nn), (0, .ref h0), (1, .int pe)] → W p l e (RM 5 0 0) s m ([.ref h0, .int pe] : List Value).toArray below meth c s.heap [] 0 0 Q0 (F0 m 4 ls []) := by
    intro nP
    induction nP with
    | zero =>
      intro kP nn ls hkP hl
      obtain rfl : k8 = kP := by omega
      have hl : lv_has ls 4 [(3, .int (nI k8)), (2, .int nn), (0, .ref h0), (1, .int pe)] := hl
      refine lv_iload_n hx hb gX12_saidBy_0.2.2.2.2.1 rfl (lv_at0 hl) ?_
      refine lv_aload_n hx hb gX12_saidBy_0.2.2.2.2.2.1 rfl (lv_at2 hl) ?_
      refine gf_X12_9 hC rfl hK hP 0 rfl rfl gX12_saidBy_0.2.2.2.2.2.2.1 ?_
      refine lv_bipush (v := 8) hx hb gX12_saidBy_0.2.2.2.2.2.2.2.1 (by decide) ?_
      refine ald hC hK hP 1 rfl (vin (by decide +kernel)) (k := 8) (by decide +kernel) (v := nI k8) (ek8) gX12_saidBy_0.2.2.2.2.2.2.2.2.1 ?_
      refine lv_icmp_ge (tgt := 51) hx hb gX12_saidBy_0.2.2.2.2.2.2.2.2.2 (by decide) (fun _ => ?_) (fun c9 => absurd (Int32.le_refl _) c9)
      refine lv_iload_n hx hb gX12_saidBy_3.1 rfl (lv_at1 hl) ?_
      refine toQ hQ0 ?_
      exact RP (v := nn) hC (trivial) rfl gX12_saidBy_3.2
    | succ nP ihP =>
      intro kP nn ls hkP hl
      refine lv_iload_n hx hb gX12_saidBy_0.2.2.2.2.1 rfl (lv_at0 hl) ?_
      refine lv_aload_n hx hb gX12_saidBy_0.2.2.2.2.2.1 rfl (lv_at2 hl) ?_
      refine gf_X12_9 hC rfl hK hP 0 rfl rfl gX12_saidBy_0.2.2.2.2.2.2.1 ?_
      refine lv_bipush (v := 8) hx hb gX12_saidBy_0.2.2.2.2.2.2.2.1 (by decide) ?_
      refine ald hC hK hP 1 rfl (vin (by decide +kernel)) (k := 8) (by decide +kernel) (v := nI k8) (ek8) gX12_saidBy_0.2.2.2.2.2.2.2.2.1 ?_
      refine lv_icmp_ge (tgt := 51) hx hb gX12_saidBy_0.2.2.2.2.2.2.2.2.2 (by decide) (fun c9 => absurd c9 (nI_ge (a := kP) (b := k8) (by omega) (by omega))) (fun _ => ?_)
      refine lv_iload_n hx hb gX12_saidBy_1.1 rfl (lv_at1 hl) ?_
      refine lv_aload_n hx hb gX12_saidBy_1.2.1 rfl (lv_at2 hl) ?_
      refine lv_iload_n hx hb gX12_saidBy_1.2.2.1 rfl (lv_at0 hl) ?_
      refine pV hC hK hl hP hD (m_doesCount l G h0 kP nw nk mhasKept nt mtaped nr mrowMany mroundOf mroundFrom mouts nm mfromHour mtoHour ns mfrom mto msort misFault mdeep mcoded mlines nl nc nF np ntr nb mbestCost nso nsi nit nsh nsf nss nrc mtraced mdealer mnumber mwhose msize misParted fnw (by omega) (hN)) si_X12_117 [0, 1] sm_0_1 fm_0_1 nd_0_1 rfl rfl rfl rfl rfl (Nat.le_of_ble_eq_true rfl) rm_5_4_2 ⟨by first | exact Nat.le_of_ble_eq_true rfl | exact Nat.zero_le _, by first | exact Nat.le_of_ble_eq_true rfl | exact Nat.zero_le _⟩ gX12_saidBy_1.2.2.2.1 (Kors (Keqr ?_) (Keqr ?_))
      · refine lv_if_eq (tgt := 42) hx hb gX12_saidBy_1.2.2.2.2.1 (by decide) (fun c9 => absurd c9 (by decide)) (fun _ => ?_)
        refine lv_iload_n hx hb gX12_saidBy_1.2.2.2.2.2.1 rfl (lv_at3 hl) ?_
        refine lv_if_lt (tgt := 38) hx hb gX12_saidBy_1.2.2.2.2.2.2.1 (by decide) (fun c_25_5218 => ?_) (fun c_25_5218 => ?_)
        · refine lv_iconst (v := 1) hx hb gX12_saidBy_2.2.2.2.1 (by decide) ?_
          refine lv_goto (tgt := 43) hx hb gX12_saidBy_2.2.2.2.2.1 (by decide) ?_
          refine lv_iadd hx hb gX12_saidBy_2.2.2.2.2.2.2.1 ?_
          refine lv_istore_n (lv' := [(2, .int (nn + 1)), (3, .int (nI kP)), (0, .ref h0), (1, .int pe)]) hx hb gX12_saidBy_2.2.2.2.2.2.2.2.1 rfl hl (by decide) rfl (fun ls hl => ?_)
          refine lv_iinc (v := nI (kP + 1)) (lv' := [(3, .int (nI (kP + 1))), (2, .int (nn + 1)), (0, .ref h0), (1, .int pe)]) hx hb gX12_saidBy_2.2.2.2.2.2.2.2.2.1 hl (k := 1) rfl (nI_1 _) (by decide) rfl (fun ls hl => ?_)
          refine lv_goto (tgt := 4) hx hb gX12_saidBy_2.2.2.2.2.2.2.2.2.2 (by decide) ?_
          exact ihP (kP + 1) (nn + 1) _ (by omega) (lv_sub hl [0, 1, 2, 3] rfl)
        · refine lv_aload_n hx hb gX12_saidBy_1.2.2.2.2.2.2.2.1 rfl (lv_at2 hl) ?_
          refine lv_iload_n hx hb gX12_saidBy_1.2.2.2.2.2.2.2.2.1 rfl (lv_at0 hl) ?_
          refine lv_iconst (v := 0) hx hb gX12_saidBy_1.2.2.2.2.2.2.2.2.2 (by decide) ?_
          refine pV hC hK hl hP hD (m_saying l G h0 kP 0 nw nk mhasKept nt mtaped nr mrowMany mroundOf mroundFrom mouts nm mfromHour mtoHour ns mfrom mto msort misFault mdeep mcoded mlines nl nc nF np ntr nb mbestCost nso nsi nit nsh nsf nss nrc mtraced mdealer mnumber mwhose msize misParted fnw (by omega) (by omega)) si_X12_114 [0, 1] sm_0_1 fm_0_1 nd_0_1 rfl rfl rfl rfl rfl (Nat.le_of_ble_eq_true rfl) rm_5_1_3 ⟨by first | exact Nat.le_of_ble_eq_true rfl | exact Nat.zero_le _, by first | exact Nat.le_of_ble_eq_true rfl | exact Nat.zero_le _⟩ gX12_saidBy_2.1 (Keqr ?_)
          refine lv_iload_n hx hb gX12_saidBy_2.2.1 rfl (lv_at3 hl) ?_
          refine lv_icmp_ne (tgt := 42) hx hb gX12_saidBy_2.2.2.1 (by decide) (fun c_35_5221 => ?_) (fun c_35_5221 => ?_)
          · refine lv_iconst (v := 0) hx hb gX12_saidBy_2.2.2.2.2.2.1 (by decide) ?_
            refine lv_iadd hx hb gX12_saidBy_2.2.2.2.2.2.2.1 ?_
            refine lv_istore_n (lv' := [(2, .int (nn + 0)), (3, .int (nI kP)), (0, .ref h0), (1, .int pe)]) hx hb gX12_saidBy_2.2.2.2.2.2.2.2.1 rfl hl (by decide) rfl (fun ls hl => ?_)
            refine lv_iinc (v := nI (kP + 1)) (lv' := [(3, .int (nI (kP + 1))), (2, .int (nn + 0)), (0, .ref h0), (1, .int pe)]) hx hb gX12_saidBy_2.2.2.2.2.2.2.2.2.1 hl (k := 1) rfl (nI_1 _) (by decide) rfl (fun ls hl => ?_)
            refine lv_goto (tgt := 4) hx hb gX12_saidBy_2.2.2.2.2.2.2.2.2.2 (by decide) ?_
            exact ihP (kP + 1) (nn + 0) _ (by omega) (lv_sub hl [0, 1, 2, 3] rfl)
          · refine lv_iconst (v := 1) hx hb gX12_saidBy_2.2.2.2.1 (by decide) ?_
            refine lv_goto (tgt := 43) hx hb gX12_saidBy_2.2.2.2.2.1 (by decide) ?_
            refine lv_iadd hx hb gX12_saidBy_2.2.2.2.2.2.2.1 ?_
            refine lv_istore_n (lv' := [(2, .int (nn + 1)), (3, .int (nI kP)), (0, .ref h0), (1, .int pe)]) hx hb gX12_saidBy_2.2.2.2.2.2.2.2.1 rfl hl (by decide) rfl (fun ls hl => ?_)
            refine lv_iinc (v := nI (kP + 1)) (lv' := [(3, .int (nI (kP + 1))), (2, .int (nn + 1)), (0, .ref h0), (1, .int pe)]) hx hb gX12_saidBy_2.2.2.2.2.2.2.2.2.1 hl (k := 1) rfl (nI_1 _) (by decide) rfl (fun ls hl => ?_)
            refine lv_goto (tgt := 4) hx hb gX12_saidBy_2.2.2.2.2.2.2.2.2.2 (by decide) ?_
            exact ihP (kP + 1) (nn + 1) _ (by omega) (lv_sub hl [0, 1, 2, 3] rfl)
      · refine lv_if_eq (tgt := 42) hx hb gX12_saidBy_1.2.2.2.2.1 (by decide) (fun _ => ?_) (fun c9 => absurd (by decide) c9)
        refine lv_iconst (v := 0) hx hb gX12_saidBy_2.2.2.2.2.2.1 (by decide) ?_
        refine lv_iadd hx hb gX12_saidBy_2.2.2.2.2.2.2.1 ?_
        refine lv_istore_n (lv' := [(2, .int (nn + 0)), (3, .int (nI kP)), (0, .ref h0), (1, .int pe)]) hx hb gX12_saidBy_2.2.2.2.2.2.2.2.1 rfl hl (by decide) rfl (fun ls hl => ?_)
        refine lv_iinc (v := nI (kP + 1)) (lv' := [(3, .int (nI (kP + 1))), (2, .int (nn + 0)), (0, .ref h0), (1, .int pe)]) hx hb gX12_saidBy_2.2.2.2.2.2.2.2.2.1 hl (k := 1) rfl (nI_1 _) (by decide) rfl (fun ls hl => ?_)
        refine lv_goto (tgt := 4) hx hb gX12_saidBy_2.2.2.2.2.2.2.2.2.2 (by decide) ?_
        exact ihP (kP + 1) (nn + 0) _ (by omega) (lv_sub hl [0, 1, 2, 3] rfl)
  exact keyP k8 0 0 _ (by omega) (lv_sub hl [0, 1, 2, 3] rfl)
