section WR
variable {p : Program} {l : Launch} {e : Env} {R : Room} {s : State} {m : MethodId} {args : Array Value} {below : List Frame} {meth : Method} {c : Code} {H : Heap} {locs : List Loc} {cells slots : Nat} {Q : State → Prop}
variable {pc : Nat} {ls : Array Slot} {rest : List Value} {G : GG} {ws : va_W} {A : Nat → Prop} {y0 : MethodName} {b0 : ByteArray} {mL0 : Nat} {rt0 : Option FieldType} {a : Nat} {H0 : Heap}
end WR
theorem upd_ne {f : Nat → Int32} {k i : Nat} {v : Int32} (h : i ≠ k) : upd f k v i = f i := if_neg h
theorem upd_eq {f : Nat → Int32} {k i : Nat} {v : Int32} (h : i = k) : upd f k v i = v := if_pos h
/-- the numbers of the row that both sides hold alike -/
def SCX (g : Nat → Int32) (a b c d p q s f w u v : Int32) : Prop := g 0 = a ∧ g 1 = b ∧ g 2 = c ∧ g 3 = d ∧ g 4 = p ∧ g 5 = q ∧ g 6 = s ∧ g 8 = f ∧ g 9 = w ∧ g 10 = u ∧ g 11 = v
theorem SCX.rf {f : Nat → Int32} : SCX f (f 0) (f 1) (f 2) (f 3) (f 4) (f 5) (f 6) (f 8) (f 9) (f 10) (f 11) := ⟨rfl, rfl, rfl, rfl, rfl, rfl, rfl, rfl, rfl, rfl, rfl⟩
theorem SCX.ag {f g : Nat → Int32} {a b c d p q s r w u v : Int32} (h : SCX f a b c d p q s r w u v) (he : ∀ i, i < 12 → i ≠ 7 → g i = f i) : SCX g a b c d p q s r w u v := by
  obtain ⟨h0, h1, h2, h3, h4, h5, h6, h8, h9, h10, h11⟩ := h
  exact ⟨(he 0 (by omega) (by omega)).trans h0, (he 1 (by omega) (by omega)).trans h1, (he 2 (by omega) (by omega)).trans h2, (he 3 (by omega) (by omega)).trans h3, (he 4 (by omega) (by omega)).trans h4, (he 5 (by omega) (by omega)).trans h5, (he 6 (by omega) (by omega)).trans h6, (he 8 (by omega) (by omega)).trans h8, (he 9 (by omega) (by omega)).trans h9, (he 10 (by omega) (by omega)).trans h10, (he 11 (by omega) (by omega)).trans h11⟩
theorem SCX.set {f : Nat → Int32} {k : Nat} {x a b c d p q s r w u v : Int32} (h : SCX f a b c d p q s r w u v) (hk : k = 7 ∨ 12 ≤ k) : SCX (upd f k x) a b c d p q s r w u v :=
  h.ag fun i h1 h2 => upd_ne (by omega)
theorem SCX.st {f : Nat → Int32} {x a b c d p q s r w u v : Int32} (h : SCX f a b c d p q s r w u v) : SCX (upd f 6 x) a b c d p q x r w u v := by
  obtain ⟨h0, h1, h2, h3, h4, h5, h6, h8, h9, h10, h11⟩ := h
  exact ⟨(upd_ne (by omega)).trans h0, (upd_ne (by omega)).trans h1, (upd_ne (by omega)).trans h2, (upd_ne (by omega)).trans h3, (upd_ne (by omega)).trans h4, (upd_ne (by omega)).trans h5, upd_eq rfl, (upd_ne (by omega)).trans h8, (upd_ne (by omega)).trans h9, (upd_ne (by omega)).trans h10, (upd_ne (by omega)).trans h11⟩
theorem SCX.tr {f g : Nat → Int32} {a b c d p q s r w u v : Int32} (h : SCX f a b c d p q s r w u v) (h2 : SCX g (f 0) (f 1) (f 2) (f 3) (f 4) (f 5) (f 6) (f 8) (f 9) (f 10) (f 11)) : SCX g a b c d p q s r w u v := by
  obtain ⟨h0, h1, h2', h3, h4, h5, h6, h8, h9, h10, h11⟩ := h
  obtain ⟨k0, k1, k2, k3, k4, k5, k6, k8, k9, k10, k11⟩ := h2
  exact ⟨k0.trans h0, k1.trans h1, k2.trans h2', k3.trans h3, k4.trans h4, k5.trans h5, k6.trans h6, k8.trans h8, k9.trans h9, k10.trans h10, k11.trans h11⟩
theorem SCX.st6 {f g : Nat → Int32} {a b c d p q s x r w u v : Int32} (h : SCX f a b c d p q s r w u v) (h2 : SCX g (f 0) (f 1) (f 2) (f 3) (f 4) (f 5) x (f 8) (f 9) (f 10) (f 11)) : SCX g a b c d p q x r w u v := by
  obtain ⟨h0, h1, h2', h3, h4, h5, h6, h8, h9, h10, h11⟩ := h
  obtain ⟨k0, k1, k2, k3, k4, k5, k6, k8, k9, k10, k11⟩ := h2
  exact ⟨k0.trans h0, k1.trans h1, k2.trans h2', k3.trans h3, k4.trans h4, k5.trans h5, k6, k8.trans h8, k9.trans h9, k10.trans h10, k11.trans h11⟩
/-- the row from a place on -/
def shf (g : Nat → Int32) (base : Nat) : Nat → Int32 := fun i => g (base + i)
theorem shu {g : Nat → Int32} {base k j : Nat} {v : Int32} (h : k = base + j) : shf (upd g k v) base = upd (shf g base) j v := by
  funext i
  unfold shf upd
  by_cases c : i = j
  · rw [if_pos c, if_pos (by omega)]
  · rw [if_neg c, if_neg (by omega)]
theorem sho {g : Nat → Int32} {base k : Nat} {v : Int32} (h : k < base) : shf (upd g k v) base = shf g base := by
  funext i
  unfold shf
  exact upd_ne (by omega)
/-- beyond the first twelve, the row is as it was outside a region -/
def FRO (g f : Nat → Int32) (lo hi : Nat) : Prop := ∀ j, 12 ≤ j → (j < lo ∨ hi ≤ j) → g j = f j
theorem FRO.rf {f : Nat → Int32} {lo hi : Nat} : FRO f f lo hi := fun _ _ _ => rfl
theorem FRO.set {g f : Nat → Int32} {lo hi k : Nat} {v : Int32} (h : FRO g f lo hi) (hk : k < 12 ∨ (lo ≤ k ∧ k < hi)) : FRO (upd g k v) f lo hi := fun j h1 h2 => (upd_ne (by omega)).trans (h j h1 h2)
theorem FRO.tr {g f e : Nat → Int32} {lo hi : Nat} (h : FRO g f lo hi) (h2 : FRO f e lo hi) : FRO g e lo hi := fun j h1 h9 => (h j h1 h9).trans (h2 j h1 h9)
/-- a table's numbers lie in the row -/
def EQT (g : Nat → Int32) (base n : Nat) (f : Nat → Int32) : Prop := ∀ i, i < n → g (base + i) = f i
theorem EQT.fr {f0 g f : Nat → Int32} {base n lo hi : Nat} (h : EQT f0 base n f) (hf : FRO g f0 lo hi) (hb : 12 ≤ base) (hr : base + n ≤ lo ∨ hi ≤ base) : EQT g base n f := fun i hi' => (hf (base + i) (by omega) (by omega)).trans (h i hi')
theorem Hs_at {x : Int32} {k : Nat} (hk : k < 2 ^ 31) (h : Hs x k) : x.toNatClampNeg < k := by
  obtain ⟨j, hj, rfl⟩ := Hs_nat hk h
  rw [nI_clamp (by omega)]
  exact hj
theorem EQT.hs {g f : Nat → Int32} {base n W k c : Nat} {x : Int32} (h : EQT g base n f) (hx : Hs x k) (hk : k < 2 ^ 31) (hn : k * W ≤ n) (hc : c < W) : shf g base (x.toNatClampNeg * W + c) = f (x.toNatClampNeg * W + c) := by
  have h1 := Hs_at hk hx
  have h2 : (x.toNatClampNeg + 1) * W ≤ k * W := Nat.mul_le_mul_right W h1
  rw [Nat.succ_mul] at h2
  exact h _ (by omega)
theorem nI_neq {a b : Nat} (ha : a < 2 ^ 31) (hb : b < 2 ^ 31) (h : ¬ nI a = nI b) : a ≠ b := fun e => h (congrArg nI e)
theorem hz_end {t h : Int32} (hk : t.toInt + 1 - h.toInt ≤ 0) : t < h := by
  rw [Int32.lt_iff_toInt_lt]
  omega
theorem hz_back {t h : Int32} {n : Nat} (hc : ¬ t < h) (ht : t.toInt ≤ 1167) (hk : t.toInt + 1 - h.toInt ≤ ((n + 1 : Nat) : Int)) : t.toInt + 1 - (h + 1).toInt ≤ (n : Int) := by
  rw [Int32.lt_iff_toInt_lt] at hc
  have h1 : (1 : Int32).toInt = 1 := by decide
  have h2 := ti_lo h
  rw [ti_add (by omega) (by omega), h1]
  omega
section WR
variable {p : Program} {l : Launch} {e : Env} {R : Room} {s : State} {m : MethodId} {args : Array Value} {below : List Frame} {meth : Method} {c : Code} {H : Heap} {locs : List Loc} {cells slots : Nat} {Q : State → Prop}
variable {pc : Nat} {ls : Array Slot} {rest : List Value} {G : GG} {ws : va_W} {A : Nat → Prop} {y0 : MethodName} {b0 : ByteArray} {mL0 : Nat} {rt0 : Option FieldType} {a : Nat} {H0 : Heap}
theorem gX12_days_0 : (decode cX12_days 0 = .ok (.iload_n 1, 1)) ∧ (decode cX12_days 1 = .ok (.iconst 1, 1)) ∧ (decode cX12_days 2 = .ok (.bipush 99, 2)) ∧ (decode cX12_days 4 = .ok (.invokestatic 84, 3)) ∧ (decode cX12_days 7 = .ok (.ifCond .ne 5, 3)) ∧ (decode cX12_days 10 = .ok (.iconst (-1), 1)) ∧ (decode cX12_days 11 = .ok (.ireturn, 1)) ∧ (decode cX12_days 12 = .ok (.aload_n 0, 1)) ∧ (decode cX12_days 13 = .ok (.getfield 9, 3)) ∧ (decode cX12_days 16 = .ok (.iconst 0, 1)) := by decide +kernel
theorem gX12_days_1 : (decode cX12_days 17 = .ok (.iaload, 1)) ∧ (decode cX12_days 18 = .ok (.iload_n 1, 1)) ∧ (decode cX12_days 19 = .ok (.iadd, 1)) ∧ (decode cX12_days 20 = .ok (.sipush 499, 3)) ∧ (decode cX12_days 23 = .ok (.if_icmp .le 6, 3)) ∧ (decode cX12_days 26 = .ok (.bipush (-4), 2)) ∧ (decode cX12_days 28 = .ok (.ireturn, 1)) ∧ (decode cX12_days 29 = .ok (.aload_n 0, 1)) ∧ (decode cX12_days 30 = .ok (.getfield 9, 3)) ∧ (decode cX12_days 33 = .ok (.iconst 0, 1)) := by decide +kernel
theorem gX12_days_2 : (decode cX12_days 34 = .ok (.dup2, 1)) ∧ (decode cX12_days 35 = .ok (.iaload, 1)) ∧ (decode cX12_days 36 = .ok (.iload_n 1, 1)) ∧ (decode cX12_days 37 = .ok (.iadd, 1)) ∧ (decode cX12_days 38 = .ok (.iastore, 1)) ∧ (decode cX12_days 39 = .ok (.aload_n 0, 1)) ∧ (decode cX12_days 40 = .ok (.getfield 9, 3)) ∧ (decode cX12_days 43 = .ok (.iconst 0, 1)) ∧ (decode cX12_days 44 = .ok (.iaload, 1)) ∧ (decode cX12_days 45 = .ok (.ireturn, 1)) := by decide +kernel
theorem gX12_gap_0 : (decode cX12_gap 0 = .ok (.iload_n 1, 1)) ∧ (decode cX12_gap 1 = .ok (.iconst 0, 1)) ∧ (decode cX12_gap 2 = .ok (.bipush 99, 2)) ∧ (decode cX12_gap 4 = .ok (.invokestatic 84, 3)) ∧ (decode cX12_gap 7 = .ok (.ifCond .ne 5, 3)) ∧ (decode cX12_gap 10 = .ok (.iconst (-1), 1)) ∧ (decode cX12_gap 11 = .ok (.ireturn, 1)) ∧ (decode cX12_gap 12 = .ok (.aload_n 0, 1)) ∧ (decode cX12_gap 13 = .ok (.getfield 9, 3)) ∧ (decode cX12_gap 16 = .ok (.iconst 3, 1)) := by decide +kernel
theorem gX12_gap_1 : (decode cX12_gap 17 = .ok (.iaload, 1)) ∧ (decode cX12_gap 18 = .ok (.istore_n 2, 1)) ∧ (decode cX12_gap 19 = .ok (.aload_n 0, 1)) ∧ (decode cX12_gap 20 = .ok (.getfield 9, 3)) ∧ (decode cX12_gap 23 = .ok (.iconst 3, 1)) ∧ (decode cX12_gap 24 = .ok (.iload_n 1, 1)) ∧ (decode cX12_gap 25 = .ok (.iastore, 1)) ∧ (decode cX12_gap 26 = .ok (.iload_n 2, 1)) ∧ (decode cX12_gap 27 = .ok (.ireturn, 1)) := by decide +kernel
end WR
theorem has0 : ∀ k : Fin 16, ¬ (((0 : Int32) >>> (nI k.1 &&& 31)) &&& 1 = 1) := by decide +kernel
section WR
variable {p : Program} {l : Launch} {e : Env} {R : Room} {s : State} {m : MethodId} {args : Array Value} {below : List Frame} {meth : Method} {c : Code} {H : Heap} {locs : List Loc} {cells slots : Nat} {Q : State → Prop}
variable {pc : Nat} {ls : Array Slot} {rest : List Value} {G : GG} {ws : va_W} {A : Nat → Prop} {y0 : MethodName} {b0 : ByteArray} {mL0 : Nat} {rt0 : Option FieldType} {a : Nat} {H0 : Heap}
theorem gX12_view_0 : (decode cX12_view 0 = .ok (.iload_n 1, 1)) ∧ (decode cX12_view 1 = .ok (.iconst (-1), 1)) ∧ (decode cX12_view 2 = .ok (.sipush 499, 3)) ∧ (decode cX12_view 5 = .ok (.invokestatic 84, 3)) ∧ (decode cX12_view 8 = .ok (.ifCond .eq 12, 3)) ∧ (decode cX12_view 11 = .ok (.iload_n 2, 1)) ∧ (decode cX12_view 12 = .ok (.iconst 0, 1)) ∧ (decode cX12_view 13 = .ok (.iconst 3, 1)) ∧ (decode cX12_view 14 = .ok (.invokestatic 84, 3)) ∧ (decode cX12_view 17 = .ok (.ifCond .ne 5, 3)) := by decide +kernel
theorem gX12_view_1 : (decode cX12_view 20 = .ok (.iconst (-1), 1)) ∧ (decode cX12_view 21 = .ok (.ireturn, 1)) ∧ (decode cX12_view 22 = .ok (.aload_n 0, 1)) ∧ (decode cX12_view 23 = .ok (.getfield 9, 3)) ∧ (decode cX12_view 26 = .ok (.iconst 1, 1)) ∧ (decode cX12_view 27 = .ok (.iload_n 1, 1)) ∧ (decode cX12_view 28 = .ok (.iastore, 1)) ∧ (decode cX12_view 29 = .ok (.aload_n 0, 1)) ∧ (decode cX12_view 30 = .ok (.getfield 9, 3)) ∧ (decode cX12_view 33 = .ok (.iconst 2, 1)) := by decide +kernel
theorem gX12_view_2 : (decode cX12_view 34 = .ok (.iload_n 2, 1)) ∧ (decode cX12_view 35 = .ok (.iastore, 1)) ∧ (decode cX12_view 36 = .ok (.aload_n 0, 1)) ∧ (decode cX12_view 37 = .ok (.invokevirtual 107, 3)) ∧ (decode cX12_view 40 = .ok (.invokestatic 110, 3)) ∧ (decode cX12_view 43 = .ok (.ireturn, 1)) := by decide +kernel
theorem gX12_person_0 : (decode cX12_person 0 = .ok (.iload_n 1, 1)) ∧ (decode cX12_person 1 = .ok (.iconst 0, 1)) ∧ (decode cX12_person 2 = .ok (.bipush 9, 2)) ∧ (decode cX12_person 4 = .ok (.invokestatic 84, 3)) ∧ (decode cX12_person 7 = .ok (.ifCond .eq 13, 3)) ∧ (decode cX12_person 10 = .ok (.iload_n 2, 1)) ∧ (decode cX12_person 11 = .ok (.iconst 0, 1)) ∧ (decode cX12_person 12 = .ok (.bipush 48, 2)) ∧ (decode cX12_person 14 = .ok (.invokestatic 84, 3)) ∧ (decode cX12_person 17 = .ok (.ifCond .ne 5, 3)) := by decide +kernel
theorem gX12_person_1 : (decode cX12_person 20 = .ok (.iconst (-1), 1)) ∧ (decode cX12_person 21 = .ok (.ireturn, 1)) ∧ (decode cX12_person 22 = .ok (.aload_n 0, 1)) ∧ (decode cX12_person 23 = .ok (.getfield 9, 3)) ∧ (decode cX12_person 26 = .ok (.iconst 4, 1)) ∧ (decode cX12_person 27 = .ok (.iaload, 1)) ∧ (decode cX12_person 28 = .ok (.istore_n 3, 1)) ∧ (decode cX12_person 29 = .ok (.iload_n 3, 1)) ∧ (decode cX12_person 30 = .ok (.bipush 10, 2)) ∧ (decode cX12_person 32 = .ok (.if_icmp .ne 6, 3)) := by decide +kernel
theorem gX12_person_2 : (decode cX12_person 35 = .ok (.bipush (-2), 2)) ∧ (decode cX12_person 37 = .ok (.ireturn, 1)) ∧ (decode cX12_person 38 = .ok (.aload_n 0, 1)) ∧ (decode cX12_person 39 = .ok (.getfield 9, 3)) ∧ (decode cX12_person 42 = .ok (.bipush 12, 2)) ∧ (decode cX12_person 44 = .ok (.iconst 2, 1)) ∧ (decode cX12_person 45 = .ok (.iload_n 3, 1)) ∧ (decode cX12_person 46 = .ok (.imul, 1)) ∧ (decode cX12_person 47 = .ok (.iadd, 1)) ∧ (decode cX12_person 48 = .ok (.iload_n 1, 1)) := by decide +kernel
theorem gX12_person_3 : (decode cX12_person 49 = .ok (.iastore, 1)) ∧ (decode cX12_person 50 = .ok (.aload_n 0, 1)) ∧ (decode cX12_person 51 = .ok (.getfield 9, 3)) ∧ (decode cX12_person 54 = .ok (.bipush 12, 2)) ∧ (decode cX12_person 56 = .ok (.iconst 2, 1)) ∧ (decode cX12_person 57 = .ok (.iload_n 3, 1)) ∧ (decode cX12_person 58 = .ok (.imul, 1)) ∧ (decode cX12_person 59 = .ok (.iadd, 1)) ∧ (decode cX12_person 60 = .ok (.iconst 1, 1)) ∧ (decode cX12_person 61 = .ok (.iadd, 1)) := by decide +kernel
theorem gX12_person_4 : (decode cX12_person 62 = .ok (.iload_n 2, 1)) ∧ (decode cX12_person 63 = .ok (.iastore, 1)) ∧ (decode cX12_person 64 = .ok (.aload_n 0, 1)) ∧ (decode cX12_person 65 = .ok (.getfield 9, 3)) ∧ (decode cX12_person 68 = .ok (.iconst 4, 1)) ∧ (decode cX12_person 69 = .ok (.dup2, 1)) ∧ (decode cX12_person 70 = .ok (.iaload, 1)) ∧ (decode cX12_person 71 = .ok (.iconst 1, 1)) ∧ (decode cX12_person 72 = .ok (.iadd, 1)) ∧ (decode cX12_person 73 = .ok (.iastore, 1)) := by decide +kernel
theorem gX12_person_5 : (decode cX12_person 74 = .ok (.iload_n 3, 1)) ∧ (decode cX12_person 75 = .ok (.ireturn, 1)) := by decide +kernel
theorem gX12_paper__0 : (decode cX12_paper_ 0 = .ok (.aload_n 0, 1)) ∧ (decode cX12_paper_ 1 = .ok (.iload_n 1, 1)) ∧ (decode cX12_paper_ 2 = .ok (.iconst 4, 1)) ∧ (decode cX12_paper_ 3 = .ok (.invokevirtual 120, 3)) ∧ (decode cX12_paper_ 6 = .ok (.ifCond .eq 40, 3)) ∧ (decode cX12_paper_ 9 = .ok (.iload_n 2, 1)) ∧ (decode cX12_paper_ 10 = .ok (.ifCond .lt 36, 3)) ∧ (decode cX12_paper_ 13 = .ok (.iload_n 2, 1)) ∧ (decode cX12_paper_ 14 = .ok (.iconst 1, 1)) ∧ (decode cX12_paper_ 15 = .ok (.aload_n 0, 1)) := by decide +kernel
theorem gX12_paper__2 : (decode cX12_paper_ 36 = .ok (.iload 4, 2)) ∧ (decode cX12_paper_ 38 = .ok (.iconst 0, 1)) ∧ (decode cX12_paper_ 39 = .ok (.iconst 3, 1)) ∧ (decode cX12_paper_ 40 = .ok (.invokestatic 84, 3)) ∧ (decode cX12_paper_ 43 = .ok (.ifCond .ne 5, 3)) ∧ (decode cX12_paper_ 46 = .ok (.iconst (-1), 1)) ∧ (decode cX12_paper_ 47 = .ok (.ireturn, 1)) ∧ (decode cX12_paper_ 48 = .ok (.aload_n 0, 1)) ∧ (decode cX12_paper_ 49 = .ok (.getfield 9, 3)) ∧ (decode cX12_paper_ 52 = .ok (.iconst 5, 1)) := by decide +kernel
theorem gX12_paper__1 : (decode cX12_paper_ 16 = .ok (.getfield 9, 3)) ∧ (decode cX12_paper_ 19 = .ok (.iconst 4, 1)) ∧ (decode cX12_paper_ 20 = .ok (.iaload, 1)) ∧ (decode cX12_paper_ 21 = .ok (.ishl, 1)) ∧ (decode cX12_paper_ 22 = .ok (.if_icmp .ge 24, 3)) ∧ (decode cX12_paper_ 25 = .ok (.iload_n 3, 1)) ∧ (decode cX12_paper_ 26 = .ok (.iconst 0, 1)) ∧ (decode cX12_paper_ 27 = .ok (.sipush 255, 3)) ∧ (decode cX12_paper_ 30 = .ok (.invokestatic 84, 3)) ∧ (decode cX12_paper_ 33 = .ok (.ifCond .eq 13, 3)) := by decide +kernel
theorem gX12_paper__3 : (decode cX12_paper_ 53 = .ok (.iaload, 1)) ∧ (decode cX12_paper_ 54 = .ok (.istore 5, 2)) ∧ (decode cX12_paper_ 56 = .ok (.iload 5, 2)) ∧ (decode cX12_paper_ 58 = .ok (.bipush 12, 2)) ∧ (decode cX12_paper_ 60 = .ok (.if_icmp .ne 6, 3)) ∧ (decode cX12_paper_ 63 = .ok (.bipush (-2), 2)) ∧ (decode cX12_paper_ 65 = .ok (.ireturn, 1)) ∧ (decode cX12_paper_ 66 = .ok (.bipush 32, 2)) ∧ (decode cX12_paper_ 68 = .ok (.bipush 6, 2)) ∧ (decode cX12_paper_ 70 = .ok (.iload 5, 2)) := by decide +kernel
theorem gX12_paper__4 : (decode cX12_paper_ 72 = .ok (.imul, 1)) ∧ (decode cX12_paper_ 73 = .ok (.iadd, 1)) ∧ (decode cX12_paper_ 74 = .ok (.istore 6, 2)) ∧ (decode cX12_paper_ 76 = .ok (.aload_n 0, 1)) ∧ (decode cX12_paper_ 77 = .ok (.getfield 9, 3)) ∧ (decode cX12_paper_ 80 = .ok (.iload 6, 2)) ∧ (decode cX12_paper_ 82 = .ok (.iconst 0, 1)) ∧ (decode cX12_paper_ 83 = .ok (.iadd, 1)) ∧ (decode cX12_paper_ 84 = .ok (.iload_n 1, 1)) ∧ (decode cX12_paper_ 85 = .ok (.iastore, 1)) := by decide +kernel
theorem gX12_paper__5 : (decode cX12_paper_ 86 = .ok (.aload_n 0, 1)) ∧ (decode cX12_paper_ 87 = .ok (.getfield 9, 3)) ∧ (decode cX12_paper_ 90 = .ok (.iload 6, 2)) ∧ (decode cX12_paper_ 92 = .ok (.iconst 1, 1)) ∧ (decode cX12_paper_ 93 = .ok (.iadd, 1)) ∧ (decode cX12_paper_ 94 = .ok (.iload_n 2, 1)) ∧ (decode cX12_paper_ 95 = .ok (.iastore, 1)) ∧ (decode cX12_paper_ 96 = .ok (.aload_n 0, 1)) ∧ (decode cX12_paper_ 97 = .ok (.getfield 9, 3)) ∧ (decode cX12_paper_ 100 = .ok (.iload 6, 2)) := by decide +kernel
theorem gX12_paper__6 : (decode cX12_paper_ 102 = .ok (.iconst 2, 1)) ∧ (decode cX12_paper_ 103 = .ok (.iadd, 1)) ∧ (decode cX12_paper_ 104 = .ok (.iload_n 3, 1)) ∧ (decode cX12_paper_ 105 = .ok (.iastore, 1)) ∧ (decode cX12_paper_ 106 = .ok (.aload_n 0, 1)) ∧ (decode cX12_paper_ 107 = .ok (.getfield 9, 3)) ∧ (decode cX12_paper_ 110 = .ok (.iload 6, 2)) ∧ (decode cX12_paper_ 112 = .ok (.iconst 3, 1)) ∧ (decode cX12_paper_ 113 = .ok (.iadd, 1)) ∧ (decode cX12_paper_ 114 = .ok (.iload 4, 2)) := by decide +kernel
theorem gX12_paper__7 : (decode cX12_paper_ 116 = .ok (.iastore, 1)) ∧ (decode cX12_paper_ 117 = .ok (.aload_n 0, 1)) ∧ (decode cX12_paper_ 118 = .ok (.getfield 9, 3)) ∧ (decode cX12_paper_ 121 = .ok (.iload 6, 2)) ∧ (decode cX12_paper_ 123 = .ok (.iconst 4, 1)) ∧ (decode cX12_paper_ 124 = .ok (.iadd, 1)) ∧ (decode cX12_paper_ 125 = .ok (.aload_n 0, 1)) ∧ (decode cX12_paper_ 126 = .ok (.getfield 9, 3)) ∧ (decode cX12_paper_ 129 = .ok (.iconst 0, 1)) ∧ (decode cX12_paper_ 130 = .ok (.iaload, 1)) := by decide +kernel
theorem gX12_paper__8 : (decode cX12_paper_ 131 = .ok (.iastore, 1)) ∧ (decode cX12_paper_ 132 = .ok (.aload_n 0, 1)) ∧ (decode cX12_paper_ 133 = .ok (.getfield 9, 3)) ∧ (decode cX12_paper_ 136 = .ok (.iload 6, 2)) ∧ (decode cX12_paper_ 138 = .ok (.iconst 5, 1)) ∧ (decode cX12_paper_ 139 = .ok (.iadd, 1)) ∧ (decode cX12_paper_ 140 = .ok (.iconst (-1), 1)) ∧ (decode cX12_paper_ 141 = .ok (.iastore, 1)) ∧ (decode cX12_paper_ 142 = .ok (.aload_n 0, 1)) ∧ (decode cX12_paper_ 143 = .ok (.getfield 9, 3)) := by decide +kernel
theorem gX12_paper__9 : (decode cX12_paper_ 146 = .ok (.iconst 5, 1)) ∧ (decode cX12_paper_ 147 = .ok (.dup2, 1)) ∧ (decode cX12_paper_ 148 = .ok (.iaload, 1)) ∧ (decode cX12_paper_ 149 = .ok (.iconst 1, 1)) ∧ (decode cX12_paper_ 150 = .ok (.iadd, 1)) ∧ (decode cX12_paper_ 151 = .ok (.iastore, 1)) ∧ (decode cX12_paper_ 152 = .ok (.iload 5, 2)) ∧ (decode cX12_paper_ 154 = .ok (.ireturn, 1)) := by decide +kernel
theorem gX12_lose_0 : (decode cX12_lose 0 = .ok (.aload_n 0, 1)) ∧ (decode cX12_lose 1 = .ok (.iload_n 1, 1)) ∧ (decode cX12_lose 2 = .ok (.iconst 5, 1)) ∧ (decode cX12_lose 3 = .ok (.invokevirtual 120, 3)) ∧ (decode cX12_lose 6 = .ok (.ifCond .ne 5, 3)) ∧ (decode cX12_lose 9 = .ok (.iconst (-1), 1)) ∧ (decode cX12_lose 10 = .ok (.ireturn, 1)) ∧ (decode cX12_lose 11 = .ok (.aload_n 0, 1)) ∧ (decode cX12_lose 12 = .ok (.iload_n 1, 1)) ∧ (decode cX12_lose 13 = .ok (.iconst 5, 1)) := by decide +kernel
theorem gX12_lose_1 : (decode cX12_lose 14 = .ok (.invokevirtual 88, 3)) ∧ (decode cX12_lose 17 = .ok (.ifCond .lt 6, 3)) ∧ (decode cX12_lose 20 = .ok (.bipush (-4), 2)) ∧ (decode cX12_lose 22 = .ok (.ireturn, 1)) ∧ (decode cX12_lose 23 = .ok (.aload_n 0, 1)) ∧ (decode cX12_lose 24 = .ok (.getfield 9, 3)) ∧ (decode cX12_lose 27 = .ok (.bipush 32, 2)) ∧ (decode cX12_lose 29 = .ok (.bipush 6, 2)) ∧ (decode cX12_lose 31 = .ok (.iload_n 1, 1)) ∧ (decode cX12_lose 32 = .ok (.imul, 1)) := by decide +kernel
theorem gX12_lose_2 : (decode cX12_lose 33 = .ok (.iadd, 1)) ∧ (decode cX12_lose 34 = .ok (.iconst 5, 1)) ∧ (decode cX12_lose 35 = .ok (.iadd, 1)) ∧ (decode cX12_lose 36 = .ok (.aload_n 0, 1)) ∧ (decode cX12_lose 37 = .ok (.getfield 9, 3)) ∧ (decode cX12_lose 40 = .ok (.iconst 0, 1)) ∧ (decode cX12_lose 41 = .ok (.iaload, 1)) ∧ (decode cX12_lose 42 = .ok (.iastore, 1)) ∧ (decode cX12_lose 43 = .ok (.iconst 1, 1)) ∧ (decode cX12_lose 44 = .ok (.ireturn, 1)) := by decide +kernel
theorem gX12_stamped_0 : (decode cX12_stamped 0 = .ok (.bipush 104, 2)) ∧ (decode cX12_stamped 2 = .ok (.iconst 3, 1)) ∧ (decode cX12_stamped 3 = .ok (.aload_n 0, 1)) ∧ (decode cX12_stamped 4 = .ok (.getfield 9, 3)) ∧ (decode cX12_stamped 7 = .ok (.bipush 6, 2)) ∧ (decode cX12_stamped 9 = .ok (.iaload, 1)) ∧ (decode cX12_stamped 10 = .ok (.imul, 1)) ∧ (decode cX12_stamped 11 = .ok (.iadd, 1)) ∧ (decode cX12_stamped 12 = .ok (.istore 4, 2)) ∧ (decode cX12_stamped 14 = .ok (.aload_n 0, 1)) := by decide +kernel
theorem gX12_stamped_1 : (decode cX12_stamped 15 = .ok (.getfield 9, 3)) ∧ (decode cX12_stamped 18 = .ok (.iload 4, 2)) ∧ (decode cX12_stamped 20 = .ok (.iload_n 1, 1)) ∧ (decode cX12_stamped 21 = .ok (.iastore, 1)) ∧ (decode cX12_stamped 22 = .ok (.aload_n 0, 1)) ∧ (decode cX12_stamped 23 = .ok (.getfield 9, 3)) ∧ (decode cX12_stamped 26 = .ok (.iload 4, 2)) ∧ (decode cX12_stamped 28 = .ok (.iconst 1, 1)) ∧ (decode cX12_stamped 29 = .ok (.iadd, 1)) ∧ (decode cX12_stamped 30 = .ok (.iload_n 2, 1)) := by decide +kernel
theorem gX12_stamped_2 : (decode cX12_stamped 31 = .ok (.iastore, 1)) ∧ (decode cX12_stamped 32 = .ok (.aload_n 0, 1)) ∧ (decode cX12_stamped 33 = .ok (.getfield 9, 3)) ∧ (decode cX12_stamped 36 = .ok (.iload 4, 2)) ∧ (decode cX12_stamped 38 = .ok (.iconst 2, 1)) ∧ (decode cX12_stamped 39 = .ok (.iadd, 1)) ∧ (decode cX12_stamped 40 = .ok (.iload_n 3, 1)) ∧ (decode cX12_stamped 41 = .ok (.iastore, 1)) ∧ (decode cX12_stamped 42 = .ok (.aload_n 0, 1)) ∧ (decode cX12_stamped 43 = .ok (.getfield 9, 3)) := by decide +kernel
theorem gX12_stamped_3 : (decode cX12_stamped 46 = .ok (.bipush 6, 2)) ∧ (decode cX12_stamped 48 = .ok (.dup2, 1)) ∧ (decode cX12_stamped 49 = .ok (.iaload, 1)) ∧ (decode cX12_stamped 50 = .ok (.iconst 1, 1)) ∧ (decode cX12_stamped 51 = .ok (.iadd, 1)) ∧ (decode cX12_stamped 52 = .ok (.iastore, 1)) ∧ (decode cX12_stamped 53 = .ok (.return_, 1)) := by decide +kernel
theorem gX12_stamp_0 : (decode cX12_stamp 0 = .ok (.aload_n 0, 1)) ∧ (decode cX12_stamp 1 = .ok (.iload_n 1, 1)) ∧ (decode cX12_stamp 2 = .ok (.iconst 5, 1)) ∧ (decode cX12_stamp 3 = .ok (.invokevirtual 120, 3)) ∧ (decode cX12_stamp 6 = .ok (.ifCond .eq 23, 3)) ∧ (decode cX12_stamp 9 = .ok (.iload_n 2, 1)) ∧ (decode cX12_stamp 10 = .ok (.iconst 0, 1)) ∧ (decode cX12_stamp 11 = .ok (.iconst 5, 1)) ∧ (decode cX12_stamp 12 = .ok (.invokestatic 84, 3)) ∧ (decode cX12_stamp 15 = .ok (.ifCond .eq 14, 3)) := by decide +kernel
theorem gX12_stamp_1 : (decode cX12_stamp 18 = .ok (.iload_n 3, 1)) ∧ (decode cX12_stamp 19 = .ok (.iconst 0, 1)) ∧ (decode cX12_stamp 20 = .ok (.sipush 999, 3)) ∧ (decode cX12_stamp 23 = .ok (.invokestatic 84, 3)) ∧ (decode cX12_stamp 26 = .ok (.ifCond .ne 5, 3)) ∧ (decode cX12_stamp 29 = .ok (.iconst (-1), 1)) ∧ (decode cX12_stamp 30 = .ok (.ireturn, 1)) ∧ (decode cX12_stamp 31 = .ok (.aload_n 0, 1)) ∧ (decode cX12_stamp 32 = .ok (.getfield 9, 3)) ∧ (decode cX12_stamp 35 = .ok (.bipush 6, 2)) := by decide +kernel
theorem gX12_stamp_2 : (decode cX12_stamp 37 = .ok (.iaload, 1)) ∧ (decode cX12_stamp 38 = .ok (.bipush 24, 2)) ∧ (decode cX12_stamp 40 = .ok (.if_icmp .ne 6, 3)) ∧ (decode cX12_stamp 43 = .ok (.bipush (-2), 2)) ∧ (decode cX12_stamp 45 = .ok (.ireturn, 1)) ∧ (decode cX12_stamp 46 = .ok (.aload_n 0, 1)) ∧ (decode cX12_stamp 47 = .ok (.iload_n 1, 1)) ∧ (decode cX12_stamp 48 = .ok (.iload_n 2, 1)) ∧ (decode cX12_stamp 49 = .ok (.iload_n 3, 1)) ∧ (decode cX12_stamp 50 = .ok (.invokevirtual 133, 3)) := by decide +kernel
theorem m_1144 : Cond.code yX12_stamped cX12_stamped 5 none ∈ BW := iB_BW61 _ (List.mem_of_getElem? (i := 12) rfl)
theorem m_1142 : Cond.methodLink RX12 133 yX12_stamped ∈ BW := iB_BW61 _ (List.mem_of_getElem? (i := 10) rfl)
theorem m_1143 : Cond.instanceMethod yX12_stamped ∈ BW := iB_BW61 _ (List.mem_of_getElem? (i := 11) rfl)
theorem m_58 : Cond.selects RX12 yX12_stamped yX12_stamped ∈ BW := iB_BW2 _ (List.mem_of_getElem? (i := 18) rfl)
theorem si_X12_133 : SV RX12 RX12 133 yX12_stamped cX12_stamped 5 none 3 := ⟨⟨m_1142, m_1143, m_58, m_115, m_1144⟩, rfl, nK_RX12.1, nK_RX12.2, pd_4⟩
theorem gX12_stamp_3 : (decode cX12_stamp 53 = .ok (.aload_n 0, 1)) ∧ (decode cX12_stamp 54 = .ok (.getfield 9, 3)) ∧ (decode cX12_stamp 57 = .ok (.bipush 6, 2)) ∧ (decode cX12_stamp 59 = .ok (.iaload, 1)) ∧ (decode cX12_stamp 60 = .ok (.iconst 1, 1)) ∧ (decode cX12_stamp 61 = .ok (.isub, 1)) ∧ (decode cX12_stamp 62 = .ok (.ireturn, 1)) := by decide +kernel
theorem gX12_saying__0 : (decode cX12_saying_ 0 = .ok (.aload_n 0, 1)) ∧ (decode cX12_saying_ 1 = .ok (.iload_n 1, 1)) ∧ (decode cX12_saying_ 2 = .ok (.iconst 4, 1)) ∧ (decode cX12_saying_ 3 = .ok (.invokevirtual 120, 3)) ∧ (decode cX12_saying_ 6 = .ok (.ifCond .eq 45, 3)) ∧ (decode cX12_saying_ 9 = .ok (.aload_n 0, 1)) ∧ (decode cX12_saying_ 10 = .ok (.iload_n 2, 1)) ∧ (decode cX12_saying_ 11 = .ok (.iconst 4, 1)) ∧ (decode cX12_saying_ 12 = .ok (.invokevirtual 120, 3)) ∧ (decode cX12_saying_ 15 = .ok (.ifCond .eq 36, 3)) := by decide +kernel
theorem gX12_saying__1 : (decode cX12_saying_ 18 = .ok (.aload_n 0, 1)) ∧ (decode cX12_saying_ 19 = .ok (.iload_n 3, 1)) ∧ (decode cX12_saying_ 20 = .ok (.iconst 5, 1)) ∧ (decode cX12_saying_ 21 = .ok (.invokevirtual 120, 3)) ∧ (decode cX12_saying_ 24 = .ok (.ifCond .eq 27, 3)) ∧ (decode cX12_saying_ 27 = .ok (.iload 4, 2)) ∧ (decode cX12_saying_ 29 = .ok (.iconst 1, 1)) ∧ (decode cX12_saying_ 30 = .ok (.sipush 9999, 3)) ∧ (decode cX12_saying_ 33 = .ok (.invokestatic 84, 3)) ∧ (decode cX12_saying_ 36 = .ok (.ifCond .eq 15, 3)) := by decide +kernel
theorem gX12_saying__2 : (decode cX12_saying_ 39 = .ok (.iload 4, 2)) ∧ (decode cX12_saying_ 41 = .ok (.bipush 10, 2)) ∧ (decode cX12_saying_ 43 = .ok (.irem, 1)) ∧ (decode cX12_saying_ 44 = .ok (.ifCond .le 7, 3)) ∧ (decode cX12_saying_ 47 = .ok (.iconst 1, 1)) ∧ (decode cX12_saying_ 48 = .ok (.goto 4, 3)) ∧ (decode cX12_saying_ 51 = .ok (.iconst 0, 1)) ∧ (decode cX12_saying_ 52 = .ok (.istore 7, 2)) ∧ (decode cX12_saying_ 54 = .ok (.iload 7, 2)) ∧ (decode cX12_saying_ 56 = .ok (.ifCond .eq 20, 3)) := by decide +kernel
theorem gX12_saying__3 : (decode cX12_saying_ 59 = .ok (.iload 6, 2)) ∧ (decode cX12_saying_ 61 = .ok (.iconst (-1), 1)) ∧ (decode cX12_saying_ 62 = .ok (.if_icmp .eq 16, 3)) ∧ (decode cX12_saying_ 65 = .ok (.aload_n 0, 1)) ∧ (decode cX12_saying_ 66 = .ok (.iload 6, 2)) ∧ (decode cX12_saying_ 68 = .ok (.bipush 8, 2)) ∧ (decode cX12_saying_ 70 = .ok (.invokevirtual 120, 3)) ∧ (decode cX12_saying_ 73 = .ok (.ifCond .ne 5, 3)) ∧ (decode cX12_saying_ 76 = .ok (.iconst (-1), 1)) ∧ (decode cX12_saying_ 77 = .ok (.ireturn, 1)) := by decide +kernel
theorem gX12_saying__4 : (decode cX12_saying_ 78 = .ok (.aload_n 0, 1)) ∧ (decode cX12_saying_ 79 = .ok (.getfield 9, 3)) ∧ (decode cX12_saying_ 82 = .ok (.bipush 8, 2)) ∧ (decode cX12_saying_ 84 = .ok (.iaload, 1)) ∧ (decode cX12_saying_ 85 = .ok (.istore 8, 2)) ∧ (decode cX12_saying_ 87 = .ok (.iload 8, 2)) ∧ (decode cX12_saying_ 89 = .ok (.bipush 16, 2)) ∧ (decode cX12_saying_ 91 = .ok (.if_icmp .ne 6, 3)) ∧ (decode cX12_saying_ 94 = .ok (.bipush (-2), 2)) ∧ (decode cX12_saying_ 96 = .ok (.ireturn, 1)) := by decide +kernel
theorem gX12_saying__5 : (decode cX12_saying_ 97 = .ok (.sipush 1424, 3)) ∧ (decode cX12_saying_ 100 = .ok (.bipush 8, 2)) ∧ (decode cX12_saying_ 102 = .ok (.iload 8, 2)) ∧ (decode cX12_saying_ 104 = .ok (.imul, 1)) ∧ (decode cX12_saying_ 105 = .ok (.iadd, 1)) ∧ (decode cX12_saying_ 106 = .ok (.istore 9, 2)) ∧ (decode cX12_saying_ 108 = .ok (.aload_n 0, 1)) ∧ (decode cX12_saying_ 109 = .ok (.getfield 9, 3)) ∧ (decode cX12_saying_ 112 = .ok (.iload 9, 2)) ∧ (decode cX12_saying_ 114 = .ok (.iconst 0, 1)) := by decide +kernel
theorem gX12_saying__6 : (decode cX12_saying_ 115 = .ok (.iadd, 1)) ∧ (decode cX12_saying_ 116 = .ok (.iload_n 1, 1)) ∧ (decode cX12_saying_ 117 = .ok (.iastore, 1)) ∧ (decode cX12_saying_ 118 = .ok (.aload_n 0, 1)) ∧ (decode cX12_saying_ 119 = .ok (.getfield 9, 3)) ∧ (decode cX12_saying_ 122 = .ok (.iload 9, 2)) ∧ (decode cX12_saying_ 124 = .ok (.iconst 1, 1)) ∧ (decode cX12_saying_ 125 = .ok (.iadd, 1)) ∧ (decode cX12_saying_ 126 = .ok (.iload_n 2, 1)) ∧ (decode cX12_saying_ 127 = .ok (.iastore, 1)) := by decide +kernel
theorem gX12_saying__7 : (decode cX12_saying_ 128 = .ok (.aload_n 0, 1)) ∧ (decode cX12_saying_ 129 = .ok (.getfield 9, 3)) ∧ (decode cX12_saying_ 132 = .ok (.iload 9, 2)) ∧ (decode cX12_saying_ 134 = .ok (.iconst 2, 1)) ∧ (decode cX12_saying_ 135 = .ok (.iadd, 1)) ∧ (decode cX12_saying_ 136 = .ok (.iload_n 3, 1)) ∧ (decode cX12_saying_ 137 = .ok (.iastore, 1)) ∧ (decode cX12_saying_ 138 = .ok (.aload_n 0, 1)) ∧ (decode cX12_saying_ 139 = .ok (.getfield 9, 3)) ∧ (decode cX12_saying_ 142 = .ok (.iload 9, 2)) := by decide +kernel
theorem gX12_saying__8 : (decode cX12_saying_ 144 = .ok (.iconst 3, 1)) ∧ (decode cX12_saying_ 145 = .ok (.iadd, 1)) ∧ (decode cX12_saying_ 146 = .ok (.iload 4, 2)) ∧ (decode cX12_saying_ 148 = .ok (.bipush 10, 2)) ∧ (decode cX12_saying_ 150 = .ok (.idiv, 1)) ∧ (decode cX12_saying_ 151 = .ok (.iastore, 1)) ∧ (decode cX12_saying_ 152 = .ok (.aload_n 0, 1)) ∧ (decode cX12_saying_ 153 = .ok (.getfield 9, 3)) ∧ (decode cX12_saying_ 156 = .ok (.iload 9, 2)) ∧ (decode cX12_saying_ 158 = .ok (.iconst 4, 1)) := by decide +kernel
theorem gX12_saying__9 : (decode cX12_saying_ 159 = .ok (.iadd, 1)) ∧ (decode cX12_saying_ 160 = .ok (.iload 4, 2)) ∧ (decode cX12_saying_ 162 = .ok (.bipush 10, 2)) ∧ (decode cX12_saying_ 164 = .ok (.irem, 1)) ∧ (decode cX12_saying_ 165 = .ok (.iastore, 1)) ∧ (decode cX12_saying_ 166 = .ok (.aload_n 0, 1)) ∧ (decode cX12_saying_ 167 = .ok (.getfield 9, 3)) ∧ (decode cX12_saying_ 170 = .ok (.iload 9, 2)) ∧ (decode cX12_saying_ 172 = .ok (.iconst 5, 1)) ∧ (decode cX12_saying_ 173 = .ok (.iadd, 1)) := by decide +kernel
theorem gX12_saying__10 : (decode cX12_saying_ 174 = .ok (.iload 5, 2)) ∧ (decode cX12_saying_ 176 = .ok (.ifCond .eq 7, 3)) ∧ (decode cX12_saying_ 179 = .ok (.iconst 1, 1)) ∧ (decode cX12_saying_ 180 = .ok (.goto 4, 3)) ∧ (decode cX12_saying_ 183 = .ok (.iconst 0, 1)) ∧ (decode cX12_saying_ 184 = .ok (.iastore, 1)) ∧ (decode cX12_saying_ 185 = .ok (.aload_n 0, 1)) ∧ (decode cX12_saying_ 186 = .ok (.getfield 9, 3)) ∧ (decode cX12_saying_ 189 = .ok (.iload 9, 2)) ∧ (decode cX12_saying_ 191 = .ok (.bipush 6, 2)) := by decide +kernel
theorem gX12_saying__11 : (decode cX12_saying_ 193 = .ok (.iadd, 1)) ∧ (decode cX12_saying_ 194 = .ok (.iload 6, 2)) ∧ (decode cX12_saying_ 196 = .ok (.iastore, 1)) ∧ (decode cX12_saying_ 197 = .ok (.aload_n 0, 1)) ∧ (decode cX12_saying_ 198 = .ok (.getfield 9, 3)) ∧ (decode cX12_saying_ 201 = .ok (.iload 9, 2)) ∧ (decode cX12_saying_ 203 = .ok (.bipush 7, 2)) ∧ (decode cX12_saying_ 205 = .ok (.iadd, 1)) ∧ (decode cX12_saying_ 206 = .ok (.aload_n 0, 1)) ∧ (decode cX12_saying_ 207 = .ok (.getfield 9, 3)) := by decide +kernel
theorem gX12_saying__12 : (decode cX12_saying_ 210 = .ok (.iconst 0, 1)) ∧ (decode cX12_saying_ 211 = .ok (.iaload, 1)) ∧ (decode cX12_saying_ 212 = .ok (.iastore, 1)) ∧ (decode cX12_saying_ 213 = .ok (.aload_n 0, 1)) ∧ (decode cX12_saying_ 214 = .ok (.getfield 9, 3)) ∧ (decode cX12_saying_ 217 = .ok (.bipush 8, 2)) ∧ (decode cX12_saying_ 219 = .ok (.dup2, 1)) ∧ (decode cX12_saying_ 220 = .ok (.iaload, 1)) ∧ (decode cX12_saying_ 221 = .ok (.iconst 1, 1)) ∧ (decode cX12_saying_ 222 = .ok (.iadd, 1)) := by decide +kernel
theorem gX12_saying__13 : (decode cX12_saying_ 223 = .ok (.iastore, 1)) ∧ (decode cX12_saying_ 224 = .ok (.iload 8, 2)) ∧ (decode cX12_saying_ 226 = .ok (.ireturn, 1)) := by decide +kernel
theorem gX12_finding_0 : (decode cX12_finding 0 = .ok (.aload_n 0, 1)) ∧ (decode cX12_finding 1 = .ok (.iload_n 1, 1)) ∧ (decode cX12_finding 2 = .ok (.iconst 4, 1)) ∧ (decode cX12_finding 3 = .ok (.invokevirtual 120, 3)) ∧ (decode cX12_finding 6 = .ok (.ifCond .eq 34, 3)) ∧ (decode cX12_finding 9 = .ok (.iload_n 2, 1)) ∧ (decode cX12_finding 10 = .ok (.iconst 0, 1)) ∧ (decode cX12_finding 11 = .ok (.bipush 7, 2)) ∧ (decode cX12_finding 13 = .ok (.invokestatic 84, 3)) ∧ (decode cX12_finding 16 = .ok (.ifCond .eq 24, 3)) := by decide +kernel
theorem gX12_finding_1 : (decode cX12_finding 19 = .ok (.iload_n 3, 1)) ∧ (decode cX12_finding 20 = .ok (.iconst 0, 1)) ∧ (decode cX12_finding 21 = .ok (.sipush 999, 3)) ∧ (decode cX12_finding 24 = .ok (.invokestatic 84, 3)) ∧ (decode cX12_finding 27 = .ok (.ifCond .eq 13, 3)) ∧ (decode cX12_finding 30 = .ok (.iload 4, 2)) ∧ (decode cX12_finding 32 = .ok (.iconst 0, 1)) ∧ (decode cX12_finding 33 = .ok (.iconst 2, 1)) ∧ (decode cX12_finding 34 = .ok (.invokestatic 84, 3)) ∧ (decode cX12_finding 37 = .ok (.ifCond .ne 5, 3)) := by decide +kernel
theorem gX12_finding_2 : (decode cX12_finding 40 = .ok (.iconst (-1), 1)) ∧ (decode cX12_finding 41 = .ok (.ireturn, 1)) ∧ (decode cX12_finding 42 = .ok (.aload_n 0, 1)) ∧ (decode cX12_finding 43 = .ok (.getfield 9, 3)) ∧ (decode cX12_finding 46 = .ok (.bipush 9, 2)) ∧ (decode cX12_finding 48 = .ok (.iaload, 1)) ∧ (decode cX12_finding 49 = .ok (.istore 5, 2)) ∧ (decode cX12_finding 51 = .ok (.iload 5, 2)) ∧ (decode cX12_finding 53 = .ok (.bipush 12, 2)) ∧ (decode cX12_finding 55 = .ok (.if_icmp .ne 6, 3)) := by decide +kernel
theorem gX12_finding_3 : (decode cX12_finding 58 = .ok (.bipush (-2), 2)) ∧ (decode cX12_finding 60 = .ok (.ireturn, 1)) ∧ (decode cX12_finding 61 = .ok (.sipush 1552, 3)) ∧ (decode cX12_finding 64 = .ok (.iconst 4, 1)) ∧ (decode cX12_finding 65 = .ok (.iload 5, 2)) ∧ (decode cX12_finding 67 = .ok (.imul, 1)) ∧ (decode cX12_finding 68 = .ok (.iadd, 1)) ∧ (decode cX12_finding 69 = .ok (.istore 6, 2)) ∧ (decode cX12_finding 71 = .ok (.aload_n 0, 1)) ∧ (decode cX12_finding 72 = .ok (.getfield 9, 3)) := by decide +kernel
theorem gX12_finding_4 : (decode cX12_finding 75 = .ok (.iload 6, 2)) ∧ (decode cX12_finding 77 = .ok (.iconst 0, 1)) ∧ (decode cX12_finding 78 = .ok (.iadd, 1)) ∧ (decode cX12_finding 79 = .ok (.iload_n 1, 1)) ∧ (decode cX12_finding 80 = .ok (.iastore, 1)) ∧ (decode cX12_finding 81 = .ok (.aload_n 0, 1)) ∧ (decode cX12_finding 82 = .ok (.getfield 9, 3)) ∧ (decode cX12_finding 85 = .ok (.iload 6, 2)) ∧ (decode cX12_finding 87 = .ok (.iconst 1, 1)) ∧ (decode cX12_finding 88 = .ok (.iadd, 1)) := by decide +kernel
theorem gX12_finding_5 : (decode cX12_finding 89 = .ok (.iload_n 2, 1)) ∧ (decode cX12_finding 90 = .ok (.iastore, 1)) ∧ (decode cX12_finding 91 = .ok (.aload_n 0, 1)) ∧ (decode cX12_finding 92 = .ok (.getfield 9, 3)) ∧ (decode cX12_finding 95 = .ok (.iload 6, 2)) ∧ (decode cX12_finding 97 = .ok (.iconst 2, 1)) ∧ (decode cX12_finding 98 = .ok (.iadd, 1)) ∧ (decode cX12_finding 99 = .ok (.iload_n 3, 1)) ∧ (decode cX12_finding 100 = .ok (.iastore, 1)) ∧ (decode cX12_finding 101 = .ok (.aload_n 0, 1)) := by decide +kernel
theorem gX12_finding_6 : (decode cX12_finding 102 = .ok (.getfield 9, 3)) ∧ (decode cX12_finding 105 = .ok (.iload 6, 2)) ∧ (decode cX12_finding 107 = .ok (.iconst 3, 1)) ∧ (decode cX12_finding 108 = .ok (.iadd, 1)) ∧ (decode cX12_finding 109 = .ok (.iload 4, 2)) ∧ (decode cX12_finding 111 = .ok (.iastore, 1)) ∧ (decode cX12_finding 112 = .ok (.aload_n 0, 1)) ∧ (decode cX12_finding 113 = .ok (.getfield 9, 3)) ∧ (decode cX12_finding 116 = .ok (.bipush 9, 2)) ∧ (decode cX12_finding 118 = .ok (.dup2, 1)) := by decide +kernel
theorem gX12_finding_7 : (decode cX12_finding 119 = .ok (.iaload, 1)) ∧ (decode cX12_finding 120 = .ok (.iconst 1, 1)) ∧ (decode cX12_finding 121 = .ok (.iadd, 1)) ∧ (decode cX12_finding 122 = .ok (.iastore, 1)) ∧ (decode cX12_finding 123 = .ok (.iload 5, 2)) ∧ (decode cX12_finding 125 = .ok (.ireturn, 1)) := by decide +kernel
theorem gX12_warn_0 : (decode cX12_warn 0 = .ok (.aload_n 0, 1)) ∧ (decode cX12_warn 1 = .ok (.iload_n 1, 1)) ∧ (decode cX12_warn 2 = .ok (.iconst 4, 1)) ∧ (decode cX12_warn 3 = .ok (.invokevirtual 120, 3)) ∧ (decode cX12_warn 6 = .ok (.ifCond .eq 12, 3)) ∧ (decode cX12_warn 9 = .ok (.aload_n 0, 1)) ∧ (decode cX12_warn 10 = .ok (.iload_n 2, 1)) ∧ (decode cX12_warn 11 = .ok (.iconst 5, 1)) ∧ (decode cX12_warn 12 = .ok (.invokevirtual 120, 3)) ∧ (decode cX12_warn 15 = .ok (.ifCond .ne 5, 3)) := by decide +kernel
theorem gX12_warn_1 : (decode cX12_warn 18 = .ok (.iconst (-1), 1)) ∧ (decode cX12_warn 19 = .ok (.ireturn, 1)) ∧ (decode cX12_warn 20 = .ok (.aload_n 0, 1)) ∧ (decode cX12_warn 21 = .ok (.getfield 9, 3)) ∧ (decode cX12_warn 24 = .ok (.bipush 10, 2)) ∧ (decode cX12_warn 26 = .ok (.iaload, 1)) ∧ (decode cX12_warn 27 = .ok (.istore_n 3, 1)) ∧ (decode cX12_warn 28 = .ok (.iload_n 3, 1)) ∧ (decode cX12_warn 29 = .ok (.bipush 16, 2)) ∧ (decode cX12_warn 31 = .ok (.if_icmp .ne 6, 3)) := by decide +kernel
theorem gX12_warn_2 : (decode cX12_warn 34 = .ok (.bipush (-2), 2)) ∧ (decode cX12_warn 36 = .ok (.ireturn, 1)) ∧ (decode cX12_warn 37 = .ok (.aload_n 0, 1)) ∧ (decode cX12_warn 38 = .ok (.getfield 9, 3)) ∧ (decode cX12_warn 41 = .ok (.sipush 1600, 3)) ∧ (decode cX12_warn 44 = .ok (.iconst 3, 1)) ∧ (decode cX12_warn 45 = .ok (.iload_n 3, 1)) ∧ (decode cX12_warn 46 = .ok (.imul, 1)) ∧ (decode cX12_warn 47 = .ok (.iadd, 1)) ∧ (decode cX12_warn 48 = .ok (.iload_n 1, 1)) := by decide +kernel
theorem gX12_warn_3 : (decode cX12_warn 49 = .ok (.iastore, 1)) ∧ (decode cX12_warn 50 = .ok (.aload_n 0, 1)) ∧ (decode cX12_warn 51 = .ok (.getfield 9, 3)) ∧ (decode cX12_warn 54 = .ok (.sipush 1600, 3)) ∧ (decode cX12_warn 57 = .ok (.iconst 3, 1)) ∧ (decode cX12_warn 58 = .ok (.iload_n 3, 1)) ∧ (decode cX12_warn 59 = .ok (.imul, 1)) ∧ (decode cX12_warn 60 = .ok (.iadd, 1)) ∧ (decode cX12_warn 61 = .ok (.iconst 1, 1)) ∧ (decode cX12_warn 62 = .ok (.iadd, 1)) := by decide +kernel
theorem gX12_warn_4 : (decode cX12_warn 63 = .ok (.iload_n 2, 1)) ∧ (decode cX12_warn 64 = .ok (.iastore, 1)) ∧ (decode cX12_warn 65 = .ok (.aload_n 0, 1)) ∧ (decode cX12_warn 66 = .ok (.getfield 9, 3)) ∧ (decode cX12_warn 69 = .ok (.sipush 1600, 3)) ∧ (decode cX12_warn 72 = .ok (.iconst 3, 1)) ∧ (decode cX12_warn 73 = .ok (.iload_n 3, 1)) ∧ (decode cX12_warn 74 = .ok (.imul, 1)) ∧ (decode cX12_warn 75 = .ok (.iadd, 1)) ∧ (decode cX12_warn 76 = .ok (.iconst 2, 1)) := by decide +kernel
theorem gX12_warn_5 : (decode cX12_warn 77 = .ok (.iadd, 1)) ∧ (decode cX12_warn 78 = .ok (.aload_n 0, 1)) ∧ (decode cX12_warn 79 = .ok (.getfield 9, 3)) ∧ (decode cX12_warn 82 = .ok (.iconst 0, 1)) ∧ (decode cX12_warn 83 = .ok (.iaload, 1)) ∧ (decode cX12_warn 84 = .ok (.iastore, 1)) ∧ (decode cX12_warn 85 = .ok (.aload_n 0, 1)) ∧ (decode cX12_warn 86 = .ok (.getfield 9, 3)) ∧ (decode cX12_warn 89 = .ok (.bipush 10, 2)) ∧ (decode cX12_warn 91 = .ok (.dup2, 1)) := by decide +kernel
theorem gX12_warn_6 : (decode cX12_warn 92 = .ok (.iaload, 1)) ∧ (decode cX12_warn 93 = .ok (.iconst 1, 1)) ∧ (decode cX12_warn 94 = .ok (.iadd, 1)) ∧ (decode cX12_warn 95 = .ok (.iastore, 1)) ∧ (decode cX12_warn 96 = .ok (.iload_n 3, 1)) ∧ (decode cX12_warn 97 = .ok (.ireturn, 1)) := by decide +kernel
theorem gX12_question_0 : (decode cX12_question 0 = .ok (.iload_n 1, 1)) ∧ (decode cX12_question 1 = .ok (.iconst 1, 1)) ∧ (decode cX12_question 2 = .ok (.bipush 9, 2)) ∧ (decode cX12_question 4 = .ok (.invokestatic 84, 3)) ∧ (decode cX12_question 7 = .ok (.ifCond .eq 14, 3)) ∧ (decode cX12_question 10 = .ok (.iload_n 2, 1)) ∧ (decode cX12_question 11 = .ok (.iconst 0, 1)) ∧ (decode cX12_question 12 = .ok (.sipush 255, 3)) ∧ (decode cX12_question 15 = .ok (.invokestatic 84, 3)) ∧ (decode cX12_question 18 = .ok (.ifCond .ne 5, 3)) := by decide +kernel
theorem gX12_question_1 : (decode cX12_question 21 = .ok (.iconst (-1), 1)) ∧ (decode cX12_question 22 = .ok (.ireturn, 1)) ∧ (decode cX12_question 23 = .ok (.aload_n 0, 1)) ∧ (decode cX12_question 24 = .ok (.getfield 9, 3)) ∧ (decode cX12_question 27 = .ok (.bipush 11, 2)) ∧ (decode cX12_question 29 = .ok (.iaload, 1)) ∧ (decode cX12_question 30 = .ok (.istore_n 3, 1)) ∧ (decode cX12_question 31 = .ok (.iload_n 3, 1)) ∧ (decode cX12_question 32 = .ok (.bipush 7, 2)) ∧ (decode cX12_question 34 = .ok (.if_icmp .ne 6, 3)) := by decide +kernel
theorem gX12_question_2 : (decode cX12_question 37 = .ok (.bipush (-2), 2)) ∧ (decode cX12_question 39 = .ok (.ireturn, 1)) ∧ (decode cX12_question 40 = .ok (.aload_n 0, 1)) ∧ (decode cX12_question 41 = .ok (.getfield 9, 3)) ∧ (decode cX12_question 44 = .ok (.sipush 1648, 3)) ∧ (decode cX12_question 47 = .ok (.iconst 2, 1)) ∧ (decode cX12_question 48 = .ok (.iload_n 3, 1)) ∧ (decode cX12_question 49 = .ok (.imul, 1)) ∧ (decode cX12_question 50 = .ok (.iadd, 1)) ∧ (decode cX12_question 51 = .ok (.iload_n 1, 1)) := by decide +kernel
theorem gX12_question_3 : (decode cX12_question 52 = .ok (.iastore, 1)) ∧ (decode cX12_question 53 = .ok (.aload_n 0, 1)) ∧ (decode cX12_question 54 = .ok (.getfield 9, 3)) ∧ (decode cX12_question 57 = .ok (.sipush 1648, 3)) ∧ (decode cX12_question 60 = .ok (.iconst 2, 1)) ∧ (decode cX12_question 61 = .ok (.iload_n 3, 1)) ∧ (decode cX12_question 62 = .ok (.imul, 1)) ∧ (decode cX12_question 63 = .ok (.iadd, 1)) ∧ (decode cX12_question 64 = .ok (.iconst 1, 1)) ∧ (decode cX12_question 65 = .ok (.iadd, 1)) := by decide +kernel
theorem gX12_question_4 : (decode cX12_question 66 = .ok (.iload_n 2, 1)) ∧ (decode cX12_question 67 = .ok (.iastore, 1)) ∧ (decode cX12_question 68 = .ok (.aload_n 0, 1)) ∧ (decode cX12_question 69 = .ok (.getfield 9, 3)) ∧ (decode cX12_question 72 = .ok (.bipush 11, 2)) ∧ (decode cX12_question 74 = .ok (.dup2, 1)) ∧ (decode cX12_question 75 = .ok (.iaload, 1)) ∧ (decode cX12_question 76 = .ok (.iconst 1, 1)) ∧ (decode cX12_question 77 = .ok (.iadd, 1)) ∧ (decode cX12_question 78 = .ok (.iastore, 1)) := by decide +kernel
theorem gX12_question_5 : (decode cX12_question 79 = .ok (.iload_n 3, 1)) ∧ (decode cX12_question 80 = .ok (.ireturn, 1)) := by decide +kernel
end WR
theorem CSQ.cg {f g fp gp : Nat → Int32} {td vd vl : Int32} {s kp : Nat} (hs : ∀ i, i < 128 → g i = f i) (hp : ∀ i, i < 72 → gp i = fp i) (hx : Hs (f (s * 8 + 2)) kp) (hkp : kp ≤ 12) (h16 : s < 16) : CSQ g gp td vd vl s ↔ CSQ f fp td vd vl s := by
  unfold CSQ
  rw [hs (s * 8 + 7) (by omega), hs (s * 8 + 6) (by omega), hs (s * 8 + 2) (by omega)]
  obtain ⟨j, hj, e⟩ := Hs_nat (by omega) hx
  rw [e, nI_clamp (n := j) (by omega), SEE.cg hp (p := j) (by omega)]
theorem PEF.cg {x1 x2 td vd vl : Int32} {kn kp ks : Nat} {fn gn fp gp fs gs : Nat → Int32} (hn : ∀ i, i < 20 → gn i = fn i) (hp : ∀ i, i < 72 → gp i = fp i) (hs : ∀ i, i < 128 → gs i = fs i) (hkn : kn ≤ 10) (hkp : kp ≤ 12) (hks : ks ≤ 16) (hsp : SPI fs ks kp) : ifc (Hs x1 kn) (ifc (x2 = 0) (fn (x1.toNatClampNeg * 2 + 0)) (ifc (x2 = 1) (fn (x1.toNatClampNeg * 2 + 1)) (ifc (x2 = 2) (CNT (fun p9 => SEE fp td vd vl p9 ∧ HB (fp (p9 * 6 + 1)) x1) kp) (ifc (x2 = 3) (CNT (fun p9 => SEE fp td vd vl p9 ∧ fp (p9 * 6 + 0) = x1) kp) (ifc (x2 = 4) (CNT (fun s9 => fs (s9 * 8 + 0) = x1 ∧ CSQ fs fp td vd vl s9) ks) ((-1))))))) (-1) = ifc (Hs x1 kn) (ifc (x2 = 0) (gn (x1.toNatClampNeg * 2 + 0)) (ifc (x2 = 1) (gn (x1.toNatClampNeg * 2 + 1)) (ifc (x2 = 2) (CNT (fun p9 => SEE gp td vd vl p9 ∧ HB (gp (p9 * 6 + 1)) x1) kp) (ifc (x2 = 3) (CNT (fun p9 => SEE gp td vd vl p9 ∧ gp (p9 * 6 + 0) = x1) kp) (ifc (x2 = 4) (CNT (fun s9 => gs (s9 * 8 + 0) = x1 ∧ CSQ gs gp td vd vl s9) ks) ((-1))))))) (-1) := by
  have e2 : CNT (fun p9 => SEE gp td vd vl p9 ∧ HB (gp (p9 * 6 + 1)) x1) kp = CNT (fun p9 => SEE fp td vd vl p9 ∧ HB (fp (p9 * 6 + 1)) x1) kp := CNT.cg kp (fun k hk => by rw [SEE.cg hp (p := k) (by omega), hp (k * 6 + 1) (by omega)])
  have e3 : CNT (fun p9 => SEE gp td vd vl p9 ∧ gp (p9 * 6 + 0) = x1) kp = CNT (fun p9 => SEE fp td vd vl p9 ∧ fp (p9 * 6 + 0) = x1) kp := CNT.cg kp (fun k hk => by rw [SEE.cg hp (p := k) (by omega), hp (k * 6 + 0) (by omega)])
  have e4 : CNT (fun s9 => gs (s9 * 8 + 0) = x1 ∧ CSQ gs gp td vd vl s9) ks = CNT (fun s9 => fs (s9 * 8 + 0) = x1 ∧ CSQ fs fp td vd vl s9) ks := CNT.cg ks (fun k hk => by rw [hs (k * 8 + 0) (by omega), CSQ.cg hs hp (hsp k hk) hkp (by omega)])
  rw [e2, e3, e4]
  refine ifc_cg (fun h1 => ?_)
  obtain ⟨j, hj, rfl⟩ := Hs_nat (by omega) h1
  rw [nI_clamp (n := j) (by omega), hn (j * 2 + 0) (by omega), hn (j * 2 + 1) (by omega)]
theorem POF.cg {x1 x2 td vd vl : Int32} {kp kst : Nat} {fp gp fst gst : Nat → Int32} (hp : ∀ i, i < 72 → gp i = fp i) (ht : ∀ i, i < 72 → gst i = fst i) (hkp : kp ≤ 12) (hkt : kst ≤ 24) : ifc (Hs x1 kp) (ifc (x2 = 0) (fp (x1.toNatClampNeg * 6 + 0)) (ifc (x2 = 1) (fp (x1.toNatClampNeg * 6 + 1)) (ifc (x2 = 2) (fp (x1.toNatClampNeg * 6 + 2)) (ifc (x2 = 3) (fp (x1.toNatClampNeg * 6 + 3)) (ifc (x2 = 4) (fp (x1.toNatClampNeg * 6 + 4)) (ifc (x2 = 5) (CNT (fun s9 => fst (s9 * 3 + 0) = x1) kst) (ifc (x2 = 6) (ifc (SEE fp td vd vl x1.toNatClampNeg) 1 0) ((-1))))))))) (-1) = ifc (Hs x1 kp) (ifc (x2 = 0) (gp (x1.toNatClampNeg * 6 + 0)) (ifc (x2 = 1) (gp (x1.toNatClampNeg * 6 + 1)) (ifc (x2 = 2) (gp (x1.toNatClampNeg * 6 + 2)) (ifc (x2 = 3) (gp (x1.toNatClampNeg * 6 + 3)) (ifc (x2 = 4) (gp (x1.toNatClampNeg * 6 + 4)) (ifc (x2 = 5) (CNT (fun s9 => gst (s9 * 3 + 0) = x1) kst) (ifc (x2 = 6) (ifc (SEE gp td vd vl x1.toNatClampNeg) 1 0) ((-1))))))))) (-1) := by
  have e5 : CNT (fun s9 => gst (s9 * 3 + 0) = x1) kst = CNT (fun s9 => fst (s9 * 3 + 0) = x1) kst := CNT.cg kst (fun k hk => by rw [ht (k * 3 + 0) (by omega)])
  rw [e5]
  refine ifc_cg (fun h1 => ?_)
  obtain ⟨j, hj, rfl⟩ := Hs_nat (by omega) h1
  rw [nI_clamp (n := j) (by omega), hp (j * 6 + 0) (by omega), hp (j * 6 + 1) (by omega), hp (j * 6 + 2) (by omega), hp (j * 6 + 3) (by omega), hp (j * 6 + 4) (by omega), SEE.cg hp (p := j) (by omega)]
section WR
variable {p : Program} {l : Launch} {e : Env} {R : Room} {s : State} {m : MethodId} {args : Array Value} {below : List Frame} {meth : Method} {c : Code} {H : Heap} {locs : List Loc} {cells slots : Nat} {Q : State → Prop}
variable {pc : Nat} {ls : Array Slot} {rest : List Value} {G : GG} {ws : va_W} {A : Nat → Prop} {y0 : MethodName} {b0 : ByteArray} {mL0 : Nat} {rt0 : Option FieldType} {a : Nat} {H0 : Heap}
theorem gX12_personOf_0 : (decode cX12_personOf 0 = .ok (.aload_n 0, 1)) ∧ (decode cX12_personOf 1 = .ok (.iload_n 1, 1)) ∧ (decode cX12_personOf 2 = .ok (.iconst 4, 1)) ∧ (decode cX12_personOf 3 = .ok (.invokevirtual 120, 3)) ∧ (decode cX12_personOf 6 = .ok (.ifCond .eq 12, 3)) ∧ (decode cX12_personOf 9 = .ok (.iload_n 2, 1)) ∧ (decode cX12_personOf 10 = .ok (.iconst 0, 1)) ∧ (decode cX12_personOf 11 = .ok (.iconst 4, 1)) ∧ (decode cX12_personOf 12 = .ok (.invokestatic 84, 3)) ∧ (decode cX12_personOf 15 = .ok (.ifCond .ne 5, 3)) := by decide +kernel
theorem gX12_personOf_1 : (decode cX12_personOf 18 = .ok (.iconst (-1), 1)) ∧ (decode cX12_personOf 19 = .ok (.ireturn, 1)) ∧ (decode cX12_personOf 20 = .ok (.iload_n 2, 1)) ∧ (decode cX12_personOf 21 = .ok (.iconst 2, 1)) ∧ (decode cX12_personOf 22 = .ok (.if_icmp .ge 19, 3)) ∧ (decode cX12_personOf 25 = .ok (.aload_n 0, 1)) ∧ (decode cX12_personOf 26 = .ok (.getfield 9, 3)) ∧ (decode cX12_personOf 29 = .ok (.bipush 12, 2)) ∧ (decode cX12_personOf 31 = .ok (.iconst 2, 1)) ∧ (decode cX12_personOf 32 = .ok (.iload_n 1, 1)) := by decide +kernel
theorem gX12_personOf_2 : (decode cX12_personOf 33 = .ok (.imul, 1)) ∧ (decode cX12_personOf 34 = .ok (.iadd, 1)) ∧ (decode cX12_personOf 35 = .ok (.iload_n 2, 1)) ∧ (decode cX12_personOf 36 = .ok (.iadd, 1)) ∧ (decode cX12_personOf 37 = .ok (.iaload, 1)) ∧ (decode cX12_personOf 38 = .ok (.goto 31, 3)) ∧ (decode cX12_personOf 41 = .ok (.iload_n 2, 1)) ∧ (decode cX12_personOf 42 = .ok (.iconst 4, 1)) ∧ (decode cX12_personOf 43 = .ok (.if_icmp .ge 21, 3)) ∧ (decode cX12_personOf 46 = .ok (.aload_n 0, 1)) := by decide +kernel
theorem gX12_personOf_4 : (decode cX12_personOf 65 = .ok (.iload_n 1, 1)) ∧ (decode cX12_personOf 66 = .ok (.invokevirtual 127, 3)) ∧ (decode cX12_personOf 69 = .ok (.ireturn, 1)) := by decide +kernel
theorem gX12_personOf_3 : (decode cX12_personOf 47 = .ok (.iload_n 1, 1)) ∧ (decode cX12_personOf 48 = .ok (.iload_n 2, 1)) ∧ (decode cX12_personOf 49 = .ok (.iconst 3, 1)) ∧ (decode cX12_personOf 50 = .ok (.if_icmp .ne 7, 3)) ∧ (decode cX12_personOf 53 = .ok (.iconst 1, 1)) ∧ (decode cX12_personOf 54 = .ok (.goto 4, 3)) ∧ (decode cX12_personOf 57 = .ok (.iconst 0, 1)) ∧ (decode cX12_personOf 58 = .ok (.invokevirtual 123, 3)) ∧ (decode cX12_personOf 61 = .ok (.goto 8, 3)) ∧ (decode cX12_personOf 64 = .ok (.aload_n 0, 1)) := by decide +kernel
theorem gX12_paperOf_0 : (decode cX12_paperOf 0 = .ok (.aload_n 0, 1)) ∧ (decode cX12_paperOf 1 = .ok (.iload_n 1, 1)) ∧ (decode cX12_paperOf 2 = .ok (.iconst 5, 1)) ∧ (decode cX12_paperOf 3 = .ok (.invokevirtual 120, 3)) ∧ (decode cX12_paperOf 6 = .ok (.ifCond .eq 13, 3)) ∧ (decode cX12_paperOf 9 = .ok (.iload_n 2, 1)) ∧ (decode cX12_paperOf 10 = .ok (.iconst 0, 1)) ∧ (decode cX12_paperOf 11 = .ok (.bipush 6, 2)) ∧ (decode cX12_paperOf 13 = .ok (.invokestatic 84, 3)) ∧ (decode cX12_paperOf 16 = .ok (.ifCond .ne 5, 3)) := by decide +kernel
theorem gX12_paperOf_1 : (decode cX12_paperOf 19 = .ok (.iconst (-1), 1)) ∧ (decode cX12_paperOf 20 = .ok (.ireturn, 1)) ∧ (decode cX12_paperOf 21 = .ok (.iload_n 2, 1)) ∧ (decode cX12_paperOf 22 = .ok (.iconst 5, 1)) ∧ (decode cX12_paperOf 23 = .ok (.if_icmp .ge 12, 3)) ∧ (decode cX12_paperOf 26 = .ok (.aload_n 0, 1)) ∧ (decode cX12_paperOf 27 = .ok (.iload_n 1, 1)) ∧ (decode cX12_paperOf 28 = .ok (.iload_n 2, 1)) ∧ (decode cX12_paperOf 29 = .ok (.invokevirtual 88, 3)) ∧ (decode cX12_paperOf 32 = .ok (.goto 29, 3)) := by decide +kernel
theorem gX12_paperOf_3 : (decode cX12_paperOf 53 = .ok (.ifCond .eq 7, 3)) ∧ (decode cX12_paperOf 56 = .ok (.iconst 1, 1)) ∧ (decode cX12_paperOf 57 = .ok (.goto 4, 3)) ∧ (decode cX12_paperOf 60 = .ok (.iconst 0, 1)) ∧ (decode cX12_paperOf 61 = .ok (.ireturn, 1)) := by decide +kernel
theorem gX12_paperOf_2 : (decode cX12_paperOf 35 = .ok (.iload_n 2, 1)) ∧ (decode cX12_paperOf 36 = .ok (.iconst 5, 1)) ∧ (decode cX12_paperOf 37 = .ok (.if_icmp .ne 11, 3)) ∧ (decode cX12_paperOf 40 = .ok (.aload_n 0, 1)) ∧ (decode cX12_paperOf 41 = .ok (.iload_n 1, 1)) ∧ (decode cX12_paperOf 42 = .ok (.invokevirtual 130, 3)) ∧ (decode cX12_paperOf 45 = .ok (.goto 16, 3)) ∧ (decode cX12_paperOf 48 = .ok (.aload_n 0, 1)) ∧ (decode cX12_paperOf 49 = .ok (.iload_n 1, 1)) ∧ (decode cX12_paperOf 50 = .ok (.invokevirtual 103, 3)) := by decide +kernel
theorem gX12_line_0 : (decode cX12_line 0 = .ok (.aload_n 0, 1)) ∧ (decode cX12_line 1 = .ok (.iload_n 1, 1)) ∧ (decode cX12_line 2 = .ok (.bipush 7, 2)) ∧ (decode cX12_line 4 = .ok (.invokevirtual 120, 3)) ∧ (decode cX12_line 7 = .ok (.ifCond .eq 27, 3)) ∧ (decode cX12_line 10 = .ok (.iload_n 2, 1)) ∧ (decode cX12_line 11 = .ok (.iconst 0, 1)) ∧ (decode cX12_line 12 = .ok (.aload_n 0, 1)) ∧ (decode cX12_line 13 = .ok (.iload_n 1, 1)) ∧ (decode cX12_line 14 = .ok (.invokevirtual 183, 3)) := by decide +kernel
theorem gX12_line_1 : (decode cX12_line 17 = .ok (.iconst 1, 1)) ∧ (decode cX12_line 18 = .ok (.isub, 1)) ∧ (decode cX12_line 19 = .ok (.invokestatic 84, 3)) ∧ (decode cX12_line 22 = .ok (.ifCond .eq 12, 3)) ∧ (decode cX12_line 25 = .ok (.iload_n 3, 1)) ∧ (decode cX12_line 26 = .ok (.iconst 0, 1)) ∧ (decode cX12_line 27 = .ok (.iconst 4, 1)) ∧ (decode cX12_line 28 = .ok (.invokestatic 84, 3)) ∧ (decode cX12_line 31 = .ok (.ifCond .ne 6, 3)) ∧ (decode cX12_line 34 = .ok (.bipush (-9), 2)) := by decide +kernel
theorem gX12_line_2 : (decode cX12_line 36 = .ok (.ireturn, 1)) ∧ (decode cX12_line 37 = .ok (.iload_n 3, 1)) ∧ (decode cX12_line 38 = .ok (.iconst 4, 1)) ∧ (decode cX12_line 39 = .ok (.if_icmp .ge 13, 3)) ∧ (decode cX12_line 42 = .ok (.aload_n 0, 1)) ∧ (decode cX12_line 43 = .ok (.iload_n 1, 1)) ∧ (decode cX12_line 44 = .ok (.iload_n 2, 1)) ∧ (decode cX12_line 45 = .ok (.iload_n 3, 1)) ∧ (decode cX12_line 46 = .ok (.invokevirtual 193, 3)) ∧ (decode cX12_line 49 = .ok (.goto 25, 3)) := by decide +kernel
theorem gX12_line_3 : (decode cX12_line 52 = .ok (.aload_n 0, 1)) ∧ (decode cX12_line 53 = .ok (.iload_n 1, 1)) ∧ (decode cX12_line 54 = .ok (.iload_n 2, 1)) ∧ (decode cX12_line 55 = .ok (.iconst 5, 1)) ∧ (decode cX12_line 56 = .ok (.invokevirtual 193, 3)) ∧ (decode cX12_line 59 = .ok (.aload_n 0, 1)) ∧ (decode cX12_line 60 = .ok (.iload_n 1, 1)) ∧ (decode cX12_line 61 = .ok (.iload_n 2, 1)) ∧ (decode cX12_line 62 = .ok (.iconst 4, 1)) ∧ (decode cX12_line 63 = .ok (.invokevirtual 193, 3)) := by decide +kernel
theorem gX12_line_4 : (decode cX12_line 66 = .ok (.if_icmp .le 7, 3)) ∧ (decode cX12_line 69 = .ok (.iconst 1, 1)) ∧ (decode cX12_line 70 = .ok (.goto 4, 3)) ∧ (decode cX12_line 73 = .ok (.iconst 0, 1)) ∧ (decode cX12_line 74 = .ok (.ireturn, 1)) := by decide +kernel
theorem gX12_isAgainst_0 : (decode cX12_isAgainst 0 = .ok (.aload_n 0, 1)) ∧ (decode cX12_isAgainst 1 = .ok (.iload_n 2, 1)) ∧ (decode cX12_isAgainst 2 = .ok (.iconst 5, 1)) ∧ (decode cX12_isAgainst 3 = .ok (.invokevirtual 114, 3)) ∧ (decode cX12_isAgainst 6 = .ok (.iconst 1, 1)) ∧ (decode cX12_isAgainst 7 = .ok (.if_icmp .ne 21, 3)) ∧ (decode cX12_isAgainst 10 = .ok (.aload_n 0, 1)) ∧ (decode cX12_isAgainst 11 = .ok (.iload_n 2, 1)) ∧ (decode cX12_isAgainst 12 = .ok (.iconst 3, 1)) ∧ (decode cX12_isAgainst 13 = .ok (.invokevirtual 114, 3)) := by decide +kernel
theorem gX12_isAgainst_1 : (decode cX12_isAgainst 16 = .ok (.iload_n 1, 1)) ∧ (decode cX12_isAgainst 17 = .ok (.if_icmp .ge 7, 3)) ∧ (decode cX12_isAgainst 20 = .ok (.iconst 1, 1)) ∧ (decode cX12_isAgainst 21 = .ok (.goto 22, 3)) ∧ (decode cX12_isAgainst 24 = .ok (.iconst 0, 1)) ∧ (decode cX12_isAgainst 25 = .ok (.goto 18, 3)) ∧ (decode cX12_isAgainst 28 = .ok (.aload_n 0, 1)) ∧ (decode cX12_isAgainst 29 = .ok (.iload_n 2, 1)) ∧ (decode cX12_isAgainst 30 = .ok (.iconst 3, 1)) ∧ (decode cX12_isAgainst 31 = .ok (.invokevirtual 114, 3)) := by decide +kernel
theorem gX12_isAgainst_2 : (decode cX12_isAgainst 34 = .ok (.iload_n 1, 1)) ∧ (decode cX12_isAgainst 35 = .ok (.if_icmp .lt 7, 3)) ∧ (decode cX12_isAgainst 38 = .ok (.iconst 1, 1)) ∧ (decode cX12_isAgainst 39 = .ok (.goto 4, 3)) ∧ (decode cX12_isAgainst 42 = .ok (.iconst 0, 1)) ∧ (decode cX12_isAgainst 43 = .ok (.ireturn, 1)) := by decide +kernel
theorem gX12_findHours_0 : (decode cX12_findHours 0 = .ok (.aload_n 0, 1)) ∧ (decode cX12_findHours 1 = .ok (.iload_n 1, 1)) ∧ (decode cX12_findHours 2 = .ok (.iload_n 2, 1)) ∧ (decode cX12_findHours 3 = .ok (.iload_n 3, 1)) ∧ (decode cX12_findHours 4 = .ok (.invokevirtual 171, 3)) ∧ (decode cX12_findHours 7 = .ok (.ifCond .ne 15, 3)) ∧ (decode cX12_findHours 10 = .ok (.aload_n 0, 1)) ∧ (decode cX12_findHours 11 = .ok (.iconst 0, 1)) ∧ (decode cX12_findHours 12 = .ok (.putfield 161, 3)) ∧ (decode cX12_findHours 15 = .ok (.aload_n 0, 1)) := by decide +kernel
theorem gX12_findHours_1 : (decode cX12_findHours 16 = .ok (.sipush 1000, 3)) ∧ (decode cX12_findHours 19 = .ok (.putfield 164, 3)) ∧ (decode cX12_findHours 22 = .ok (.return_, 1)) := by decide +kernel
theorem gX12_quarrel_0 : (decode cX12_quarrel 0 = .ok (.aload_n 0, 1)) ∧ (decode cX12_quarrel 1 = .ok (.iload_n 1, 1)) ∧ (decode cX12_quarrel 2 = .ok (.iconst 4, 1)) ∧ (decode cX12_quarrel 3 = .ok (.invokevirtual 120, 3)) ∧ (decode cX12_quarrel 6 = .ok (.ifCond .eq 21, 3)) ∧ (decode cX12_quarrel 9 = .ok (.aload_n 0, 1)) ∧ (decode cX12_quarrel 10 = .ok (.iload_n 2, 1)) ∧ (decode cX12_quarrel 11 = .ok (.iconst 5, 1)) ∧ (decode cX12_quarrel 12 = .ok (.invokevirtual 120, 3)) ∧ (decode cX12_quarrel 15 = .ok (.ifCond .eq 12, 3)) := by decide +kernel
theorem gX12_quarrel_1 : (decode cX12_quarrel 18 = .ok (.iload_n 3, 1)) ∧ (decode cX12_quarrel 19 = .ok (.iconst 0, 1)) ∧ (decode cX12_quarrel 20 = .ok (.iconst 1, 1)) ∧ (decode cX12_quarrel 21 = .ok (.invokestatic 84, 3)) ∧ (decode cX12_quarrel 24 = .ok (.ifCond .ne 5, 3)) ∧ (decode cX12_quarrel 27 = .ok (.iconst (-1), 1)) ∧ (decode cX12_quarrel 28 = .ok (.ireturn, 1)) ∧ (decode cX12_quarrel 29 = .ok (.aload_n 0, 1)) ∧ (decode cX12_quarrel 30 = .ok (.iload_n 2, 1)) ∧ (decode cX12_quarrel 31 = .ok (.invokevirtual 103, 3)) := by decide +kernel
theorem gX12_quarrel_2 : (decode cX12_quarrel 34 = .ok (.ifCond .ne 6, 3)) ∧ (decode cX12_quarrel 37 = .ok (.bipush (-3), 2)) ∧ (decode cX12_quarrel 39 = .ok (.ireturn, 1)) ∧ (decode cX12_quarrel 40 = .ok (.aload_n 0, 1)) ∧ (decode cX12_quarrel 41 = .ok (.iload_n 2, 1)) ∧ (decode cX12_quarrel 42 = .ok (.iload_n 1, 1)) ∧ (decode cX12_quarrel 43 = .ok (.aload_n 0, 1)) ∧ (decode cX12_quarrel 44 = .ok (.invokevirtual 148, 3)) ∧ (decode cX12_quarrel 47 = .ok (.invokevirtual 298, 3)) ∧ (decode cX12_quarrel 50 = .ok (.aload_n 0, 1)) := by decide +kernel
theorem m_1291 : Cond.code yX12_findHours cX12_findHours 4 none ∈ BW := iB_BW68 _ (List.mem_of_getElem? (i := 19) rfl)
theorem pd_31 : (parseMethodDescriptor "(IIZ)V").map (fun d => d.parameters.length) = some 3 := by decide +kernel
theorem m_1289 : Cond.methodLink RX12 298 yX12_findHours ∈ BW := iB_BW68 _ (List.mem_of_getElem? (i := 17) rfl)
theorem m_1290 : Cond.instanceMethod yX12_findHours ∈ BW := iB_BW68 _ (List.mem_of_getElem? (i := 18) rfl)
theorem m_88 : Cond.selects RX12 yX12_findHours yX12_findHours ∈ BW := iB_BW4 _ (List.mem_of_getElem? (i := 8) rfl)
theorem si_X12_298 : SV RX12 RX12 298 yX12_findHours cX12_findHours 4 none 3 := ⟨⟨m_1289, m_1290, m_88, m_115, m_1291⟩, rfl, nK_RX12.1, nK_RX12.2, pd_31⟩
theorem gX12_quarrel_3 : (decode cX12_quarrel 51 = .ok (.getfield 161, 3)) ∧ (decode cX12_quarrel 54 = .ok (.istore 4, 2)) ∧ (decode cX12_quarrel 56 = .ok (.iconst (-1), 1)) ∧ (decode cX12_quarrel 57 = .ok (.istore 5, 2)) ∧ (decode cX12_quarrel 59 = .ok (.aload_n 0, 1)) ∧ (decode cX12_quarrel 60 = .ok (.getfield 161, 3)) ∧ (decode cX12_quarrel 63 = .ok (.istore 6, 2)) ∧ (decode cX12_quarrel 65 = .ok (.iload 6, 2)) ∧ (decode cX12_quarrel 67 = .ok (.aload_n 0, 1)) ∧ (decode cX12_quarrel 68 = .ok (.getfield 164, 3)) := by decide +kernel
theorem gX12_quarrel_4 : (decode cX12_quarrel 71 = .ok (.if_icmp .gt 123, 3)) ∧ (decode cX12_quarrel 74 = .ok (.iconst 0, 1)) ∧ (decode cX12_quarrel 75 = .ok (.istore 7, 2)) ∧ (decode cX12_quarrel 77 = .ok (.iconst 0, 1)) ∧ (decode cX12_quarrel 78 = .ok (.istore 8, 2)) ∧ (decode cX12_quarrel 80 = .ok (.iload 8, 2)) ∧ (decode cX12_quarrel 82 = .ok (.aload_n 0, 1)) ∧ (decode cX12_quarrel 83 = .ok (.getfield 9, 3)) ∧ (decode cX12_quarrel 86 = .ok (.bipush 8, 2)) ∧ (decode cX12_quarrel 88 = .ok (.iaload, 1)) := by decide +kernel
theorem gX12_quarrel_10 : (decode cX12_quarrel 194 = .ok (.iload_n 3, 1)) ∧ (decode cX12_quarrel 195 = .ok (.ifCond .ne 8, 3)) ∧ (decode cX12_quarrel 198 = .ok (.iload 5, 2)) ∧ (decode cX12_quarrel 200 = .ok (.goto 9, 3)) ∧ (decode cX12_quarrel 203 = .ok (.sipush 1000, 3)) ∧ (decode cX12_quarrel 206 = .ok (.iload 4, 2)) ∧ (decode cX12_quarrel 208 = .ok (.iadd, 1)) ∧ (decode cX12_quarrel 209 = .ok (.ireturn, 1)) := by decide +kernel
theorem gX12_quarrel_5 : (decode cX12_quarrel 89 = .ok (.if_icmp .ge 79, 3)) ∧ (decode cX12_quarrel 92 = .ok (.aload_n 0, 1)) ∧ (decode cX12_quarrel 93 = .ok (.iload 8, 2)) ∧ (decode cX12_quarrel 95 = .ok (.invokevirtual 117, 3)) ∧ (decode cX12_quarrel 98 = .ok (.ifCond .eq 29, 3)) ∧ (decode cX12_quarrel 101 = .ok (.aload_n 0, 1)) ∧ (decode cX12_quarrel 102 = .ok (.iload 8, 2)) ∧ (decode cX12_quarrel 104 = .ok (.iconst 1, 1)) ∧ (decode cX12_quarrel 105 = .ok (.invokevirtual 114, 3)) ∧ (decode cX12_quarrel 108 = .ok (.iload_n 1, 1)) := by decide +kernel
theorem gX12_quarrel_8 : (decode cX12_quarrel 149 = .ok (.iload 8, 2)) ∧ (decode cX12_quarrel 151 = .ok (.iconst 4, 1)) ∧ (decode cX12_quarrel 152 = .ok (.invokevirtual 114, 3)) ∧ (decode cX12_quarrel 155 = .ok (.goto 4, 3)) ∧ (decode cX12_quarrel 158 = .ok (.iconst 0, 1)) ∧ (decode cX12_quarrel 159 = .ok (.iadd, 1)) ∧ (decode cX12_quarrel 160 = .ok (.istore 7, 2)) ∧ (decode cX12_quarrel 162 = .ok (.iinc 8 1, 3)) ∧ (decode cX12_quarrel 165 = .ok (.goto (-85), 3)) ∧ (decode cX12_quarrel 168 = .ok (.iload 5, 2)) := by decide +kernel
theorem gX12_quarrel_9 : (decode cX12_quarrel 170 = .ok (.ifCond .lt 10, 3)) ∧ (decode cX12_quarrel 173 = .ok (.iload 7, 2)) ∧ (decode cX12_quarrel 175 = .ok (.iload 5, 2)) ∧ (decode cX12_quarrel 177 = .ok (.if_icmp .ge 11, 3)) ∧ (decode cX12_quarrel 180 = .ok (.iload 7, 2)) ∧ (decode cX12_quarrel 182 = .ok (.istore 5, 2)) ∧ (decode cX12_quarrel 184 = .ok (.iload 6, 2)) ∧ (decode cX12_quarrel 186 = .ok (.istore 4, 2)) ∧ (decode cX12_quarrel 188 = .ok (.iinc 6 1, 3)) ∧ (decode cX12_quarrel 191 = .ok (.goto (-126), 3)) := by decide +kernel
theorem gX12_quarrel_6 : (decode cX12_quarrel 109 = .ok (.if_icmp .ne 18, 3)) ∧ (decode cX12_quarrel 112 = .ok (.aload_n 0, 1)) ∧ (decode cX12_quarrel 113 = .ok (.iload 8, 2)) ∧ (decode cX12_quarrel 115 = .ok (.iconst 2, 1)) ∧ (decode cX12_quarrel 116 = .ok (.invokevirtual 114, 3)) ∧ (decode cX12_quarrel 119 = .ok (.iload_n 2, 1)) ∧ (decode cX12_quarrel 120 = .ok (.if_icmp .ne 7, 3)) ∧ (decode cX12_quarrel 123 = .ok (.iconst 1, 1)) ∧ (decode cX12_quarrel 124 = .ok (.goto 4, 3)) ∧ (decode cX12_quarrel 127 = .ok (.iconst 0, 1)) := by decide +kernel
theorem gX12_quarrel_7 : (decode cX12_quarrel 128 = .ok (.istore 9, 2)) ∧ (decode cX12_quarrel 130 = .ok (.iload 7, 2)) ∧ (decode cX12_quarrel 132 = .ok (.iload 9, 2)) ∧ (decode cX12_quarrel 134 = .ok (.ifCond .eq 24, 3)) ∧ (decode cX12_quarrel 137 = .ok (.aload_n 0, 1)) ∧ (decode cX12_quarrel 138 = .ok (.iload 6, 2)) ∧ (decode cX12_quarrel 140 = .ok (.iload 8, 2)) ∧ (decode cX12_quarrel 142 = .ok (.invokevirtual 302, 3)) ∧ (decode cX12_quarrel 145 = .ok (.ifCond .eq 13, 3)) ∧ (decode cX12_quarrel 148 = .ok (.aload_n 0, 1)) := by decide +kernel
theorem m_1294 : Cond.code yX12_isAgainst cX12_isAgainst 3 (some .boolean) ∈ BW := iB_BW69 _ (List.mem_of_getElem? (i := 2) rfl)
theorem m_1292 : Cond.methodLink RX12 302 yX12_isAgainst ∈ BW := iB_BW69 _ (List.mem_of_getElem? (i := 0) rfl)
theorem m_1293 : Cond.instanceMethod yX12_isAgainst ∈ BW := iB_BW69 _ (List.mem_of_getElem? (i := 1) rfl)
theorem m_89 : Cond.selects RX12 yX12_isAgainst yX12_isAgainst ∈ BW := iB_BW4 _ (List.mem_of_getElem? (i := 9) rfl)
theorem si_X12_302 : SV RX12 RX12 302 yX12_isAgainst cX12_isAgainst 3 (some .boolean) 2 := ⟨⟨m_1292, m_1293, m_89, m_115, m_1294⟩, rfl, nK_RX12.1, nK_RX12.2, pd_3⟩
theorem gX12_impossible_0 : (decode cX12_impossible 0 = .ok (.aload_n 0, 1)) ∧ (decode cX12_impossible 1 = .ok (.invokevirtual 148, 3)) ∧ (decode cX12_impossible 4 = .ok (.istore_n 1, 1)) ∧ (decode cX12_impossible 5 = .ok (.iconst 0, 1)) ∧ (decode cX12_impossible 6 = .ok (.istore_n 2, 1)) ∧ (decode cX12_impossible 7 = .ok (.iconst 0, 1)) ∧ (decode cX12_impossible 8 = .ok (.istore_n 3, 1)) ∧ (decode cX12_impossible 9 = .ok (.iload_n 3, 1)) ∧ (decode cX12_impossible 10 = .ok (.aload_n 0, 1)) ∧ (decode cX12_impossible 11 = .ok (.getfield 9, 3)) := by decide +kernel
theorem gX12_impossible_1 : (decode cX12_impossible 14 = .ok (.bipush 8, 2)) ∧ (decode cX12_impossible 16 = .ok (.iaload, 1)) ∧ (decode cX12_impossible 17 = .ok (.if_icmp .ge 87, 3)) ∧ (decode cX12_impossible 20 = .ok (.aload_n 0, 1)) ∧ (decode cX12_impossible 21 = .ok (.iload_n 3, 1)) ∧ (decode cX12_impossible 22 = .ok (.invokevirtual 117, 3)) ∧ (decode cX12_impossible 25 = .ok (.ifCond .eq 73, 3)) ∧ (decode cX12_impossible 28 = .ok (.aload_n 0, 1)) ∧ (decode cX12_impossible 29 = .ok (.aload_n 0, 1)) ∧ (decode cX12_impossible 30 = .ok (.iload_n 3, 1)) := by decide +kernel
theorem gX12_impossible_5 : (decode cX12_impossible 90 = .ok (.iload_n 3, 1)) ∧ (decode cX12_impossible 91 = .ok (.ishl, 1)) ∧ (decode cX12_impossible 92 = .ok (.goto 4, 3)) ∧ (decode cX12_impossible 95 = .ok (.iconst 0, 1)) ∧ (decode cX12_impossible 96 = .ok (.ior, 1)) ∧ (decode cX12_impossible 97 = .ok (.istore_n 2, 1)) ∧ (decode cX12_impossible 98 = .ok (.iinc 3 1, 3)) ∧ (decode cX12_impossible 101 = .ok (.goto (-92), 3)) ∧ (decode cX12_impossible 104 = .ok (.iload_n 2, 1)) ∧ (decode cX12_impossible 105 = .ok (.ireturn, 1)) := by decide +kernel
theorem gX12_impossible_2 : (decode cX12_impossible 31 = .ok (.iconst 2, 1)) ∧ (decode cX12_impossible 32 = .ok (.invokevirtual 114, 3)) ∧ (decode cX12_impossible 35 = .ok (.aload_n 0, 1)) ∧ (decode cX12_impossible 36 = .ok (.iload_n 3, 1)) ∧ (decode cX12_impossible 37 = .ok (.iconst 1, 1)) ∧ (decode cX12_impossible 38 = .ok (.invokevirtual 114, 3)) ∧ (decode cX12_impossible 41 = .ok (.iload_n 1, 1)) ∧ (decode cX12_impossible 42 = .ok (.invokevirtual 298, 3)) ∧ (decode cX12_impossible 45 = .ok (.iconst 1, 1)) ∧ (decode cX12_impossible 46 = .ok (.istore 4, 2)) := by decide +kernel
theorem gX12_impossible_3 : (decode cX12_impossible 48 = .ok (.aload_n 0, 1)) ∧ (decode cX12_impossible 49 = .ok (.getfield 161, 3)) ∧ (decode cX12_impossible 52 = .ok (.istore 5, 2)) ∧ (decode cX12_impossible 54 = .ok (.iload 5, 2)) ∧ (decode cX12_impossible 56 = .ok (.aload_n 0, 1)) ∧ (decode cX12_impossible 57 = .ok (.getfield 164, 3)) ∧ (decode cX12_impossible 60 = .ok (.if_icmp .gt 23, 3)) ∧ (decode cX12_impossible 63 = .ok (.iload 4, 2)) ∧ (decode cX12_impossible 65 = .ok (.ifCond .eq 18, 3)) ∧ (decode cX12_impossible 68 = .ok (.aload_n 0, 1)) := by decide +kernel
theorem gX12_impossible_4 : (decode cX12_impossible 69 = .ok (.iload 5, 2)) ∧ (decode cX12_impossible 71 = .ok (.iload_n 3, 1)) ∧ (decode cX12_impossible 72 = .ok (.invokevirtual 302, 3)) ∧ (decode cX12_impossible 75 = .ok (.istore 4, 2)) ∧ (decode cX12_impossible 77 = .ok (.iinc 5 1, 3)) ∧ (decode cX12_impossible 80 = .ok (.goto (-26), 3)) ∧ (decode cX12_impossible 83 = .ok (.iload_n 2, 1)) ∧ (decode cX12_impossible 84 = .ok (.iload 4, 2)) ∧ (decode cX12_impossible 86 = .ok (.ifCond .eq 9, 3)) ∧ (decode cX12_impossible 89 = .ok (.iconst 1, 1)) := by decide +kernel
end WR
theorem rm_4_1_5 {mc ms : Nat} : 1 + 1 ≤ (RM 4 mc ms).frames ∧ 8 + (5 + 11) + 40 * 1 ≤ (RM 4 mc ms).locals := ⟨by show 1 + 1 ≤ 4; decide, by show 8 + (5 + 11) + 40 * 1 ≤ 40 * 4; decide⟩
def K_w_days (l : Launch) (G : GG) (h0 : Nat) (x1 : Int32) (nw : Nat) (nk : Nat) (mhasKept : Int32) (nt : Nat) (mtaped : Int32) (nr : Nat) (mrowMany : Int32) (mroundOf : Int32) (mroundFrom : Int32) (mouts : Int32) (nm : Nat) (mfromHour : Int32) (mtoHour : Int32) (ns : Nat) (mfrom : Int32) (mto : Int32) (msort : Int32) (misFault : Int32) (mdeep : Int32) (mcoded : Int32) (mlines : Int32) (nl : Nat) (nc : Nat) (nF : Nat) (np : Nat) (ntr : Nat) (nb : Nat) (mbestCost : Int32) (nso : Nat) (nsi : Nat) (nit : Nat) (nsh : Nat) (nsf : Nat) (nss : Nat) (nrc : Nat) (mtraced : Int32) (mdealer : Int32) (mnumber : Int32) (mwhose : Int32) (msize : Int32) (misParted : Int32) (fnw : Nat → Int32) : Prop := MI l G yX12_days cX12_days 2 (some .int) 2 0 0 [.ref h0, .int x1] [(h0, oX12 nw nk mhasKept nt mtaped nr mrowMany mroundOf mroundFrom mouts nm mfromHour mtoHour ns mfrom mto msort misFault mdeep mcoded mlines nl nc nF np ntr nb mbestCost nso nsi nit nsh nsf nss nrc mtraced mdealer mnumber mwhose msize misParted), (nw, iA G 1662 fnw)] (fun (r : Int32) (u : (Nat → Int32)) => (r = ifc (Wi x1 1 99) (ifc (fnw 0 + x1 ≤ 499) (fnw 0 + x1) (-4)) (-1)) ∧ (NI u ∧ VI u ∧ u 0 = ifc (Wi x1 1 99) (ifc (fnw 0 + x1 ≤ 499) (fnw 0 + x1) (fnw 0)) (fnw 0) ∧ u 1 = fnw 1 ∧ u 2 = fnw 2 ∧ u 3 = fnw 3 ∧ u 4 = fnw 4 ∧ u 5 = fnw 5 ∧ u 6 = fnw 6 ∧ u 8 = fnw 8 ∧ u 9 = fnw 9 ∧ u 10 = fnw 10 ∧ u 11 = fnw 11 ∧ FRO u fnw 0 0)) (fun u : (Nat → Int32) => [(h0, oX12 nw nk mhasKept nt mtaped nr mrowMany mroundOf mroundFrom mouts nm mfromHour mtoHour ns mfrom mto msort misFault mdeep mcoded mlines nl nc nF np ntr nb mbestCost nso nsi nit nsh nsf nss nrc mtraced mdealer mnumber mwhose msize misParted), (nw, iA G 1662 u)])
set_option maxHeartbeats 4000000 in
set_option maxRecDepth 100000 in
theorem w_days (l : Launch) (G : GG) (h0 : Nat) (x1 : Int32) (nw : Nat) (nk : Nat) (mhasKept : Int32) (nt : Nat) (mtaped : Int32) (nr : Nat) (mrowMany : Int32) (mroundOf : Int32) (mroundFrom : Int32) (mouts : Int32) (nm : Nat) (mfromHour : Int32) (mtoHour : Int32) (ns : Nat) (mfrom : Int32) (mto : Int32) (msort : Int32) (misFault : Int32) (mdeep : Int32) (mcoded : Int32) (mlines : Int32) (nl : Nat) (nc : Nat) (nF : Nat) (np : Nat) (ntr : Nat) (nb : Nat) (mbestCost : Int32) (nso : Nat) (nsi : Nat) (nit : Nat) (nsh : Nat) (nsf : Nat) (nss : Nat) (nrc : Nat) (mtraced : Int32) (mdealer : Int32) (mnumber : Int32) (mwhose : Int32) (msize : Int32) (misParted : Int32) (fnw : Nat → Int32) (hN : NI fnw) (hV : VI fnw) : K_w_days l G h0 x1 nw nk mhasKept nt mtaped nr mrowMany mroundOf mroundFrom mouts nm mfromHour mtoHour ns mfrom mto msort misFault mdeep mcoded mlines nl nc nF np ntr nb mbestCost nso nsi nit nsh nsf nss nrc mtraced mdealer mnumber mwhose msize misParted fnw := by
  refine MI.start (by decide +kernel) (Nat.le_of_ble_eq_true rfl) ?_
  intro p e s m below meth c A ls hC hK hP hD hS hA hl
  refine absQ (fun Q0 hQ0 => ?_)
  have hl : lv_has ls 2 [(0, .ref h0), (1, .int x1)] := hl
  refine Kan8 hC (fun hx hb hr hml hB hown hlocks hnm => ?_)
  refine lv_iload_n hx hb gX12_days_0.1 rfl (lv_at1 hl) ?_
  refine lv_iconst (v := 1) hx hb gX12_days_0.2.1 (by decide) ?_
  refine lv_bipush (v := 99) hx hb gX12_days_0.2.2.1 (by decide) ?_
  refine pS hC hK hl (m_within l G x1 1 99) si_X12_84 rfl rfl (Nat.le_of_ble_eq_true rfl) rm_2_1_3 ⟨by first | exact Nat.le_of_ble_eq_true rfl | exact Nat.zero_le _, by first | exact Nat.le_of_ble_eq_true rfl | exact Nat.zero_le _⟩ gX12_days_0.2.2.2.1 (Kors (Keqa fun a5806 => ?_) (Keqa fun a5806 => ?_))
  · refine lv_if_ne (tgt := 12) hx hb gX12_days_0.2.2.2.2.1 (by decide) (fun _ => ?_) (fun c9 => absurd c9 (by decide))
    refine lv_aload_n hx hb gX12_days_0.2.2.2.2.2.2.2.1 rfl (lv_at0 hl) ?_
    refine gf_X12_9 hC rfl hK hP 0 rfl rfl gX12_days_0.2.2.2.2.2.2.2.2.1 ?_
    refine lv_iconst (v := 0) hx hb gX12_days_0.2.2.2.2.2.2.2.2.2 (by decide) ?_
    refine ald hC hK hP 1 rfl (vin (by decide +kernel)) (k := 0) (by decide +kernel) (v := fnw 0) (rfl) gX12_days_1.1 ?_
    refine lv_iload_n hx hb gX12_days_1.2.1 rfl (lv_at1 hl) ?_
    refine lv_iadd hx hb gX12_days_1.2.2.1 ?_
    refine lv_sipush (v := 499) hx hb gX12_days_1.2.2.2.1 (by decide) ?_
    refine lv_icmp_le (tgt := 29) hx hb gX12_days_1.2.2.2.2.1 (by decide) (fun c_23_5807 => ?_) (fun c_23_5807 => ?_)
    · refine lv_aload_n hx hb gX12_days_1.2.2.2.2.2.2.2.1 rfl (lv_at0 hl) ?_
      refine gf_X12_9 hC rfl hK hP 0 rfl rfl gX12_days_1.2.2.2.2.2.2.2.2.1 ?_
      refine lv_iconst (v := 0) hx hb gX12_days_1.2.2.2.2.2.2.2.2.2 (by decide) ?_
      refine lv_dup2_11 hx hb gX12_days_2.1 rfl rfl ?_
      refine ald hC hK hP 1 rfl (vin (by decide +kernel)) (k := 0) (by decide +kernel) (v := fnw 0) (rfl) gX12_days_2.2.1 ?_
      refine lv_iload_n hx hb gX12_days_2.2.2.1 rfl (lv_at1 hl) ?_
      refine lv_iadd hx hb gX12_days_2.2.2.2.1 ?_
      refine ast hC hK hP hD hS 1 (ws' := [(h0, oX12 nw nk mhasKept nt mtaped nr mrowMany mroundOf mroundFrom mouts nm mfromHour mtoHour ns mfrom mto msort misFault mdeep mcoded mlines nl nc nF np ntr nb mbestCost nso nsi nit nsh nsf nss nrc mtraced mdealer mnumber mwhose msize misParted), (nw, iA G 1662 (upd fnw 0 ((fnw 0) + x1)))]) rfl (vin (by decide +kernel)) (k := 0) (by decide +kernel) (rfl) gX12_days_2.2.2.2.2.1 (fun H locs hP hD hS => ?_)
      refine lv_aload_n hx hb gX12_days_2.2.2.2.2.2.1 rfl (lv_at0 hl) ?_
      refine gf_X12_9 hC rfl hK hP 0 rfl rfl gX12_days_2.2.2.2.2.2.2.1 ?_
      refine lv_iconst (v := 0) hx hb gX12_days_2.2.2.2.2.2.2.2.1 (by decide) ?_
      refine ald hC hK hP 1 rfl (vin (by decide +kernel)) (k := 0) (by decide +kernel) (v := (fnw 0) + x1) (rfl) gX12_days_2.2.2.2.2.2.2.2.2.1 ?_
      refine toQ hQ0 ?_
      exact RI (v := (fnw 0) + x1) hC hP hD hS [0, 1] (upd fnw 0 ((fnw 0) + x1)) rfl rfl (by decide) (⟨(by first | rfl | (simp only [ifc_t hN, ifc_t hV, ifc_t a5806, ifc_t c_23_5807]; done) | (simp only [ifc_t hN, ifc_t hV, ifc_t a5806, ifc_t c_23_5807]; rfl)), ⟨(hN).setA (bnd_low (by omega)), (hV).set (by omega), (show _ = ((fnw 0) + x1) from upd_eq rfl).trans (by first | rfl | (simp only [ifc_t hN, ifc_t hV, ifc_t a5806, ifc_t c_23_5807]; done) | (simp only [ifc_t hN, ifc_t hV, ifc_t a5806, ifc_t c_23_5807]; rfl)), upd_ne (by omega), upd_ne (by omega), upd_ne (by omega), upd_ne (by omega), upd_ne (by omega), upd_ne (by omega), upd_ne (by omega), upd_ne (by omega), upd_ne (by omega), upd_ne (by omega), (FRO.rf).set (by omega)⟩⟩) rfl gX12_days_2.2.2.2.2.2.2.2.2.2
    · refine lv_bipush (v := (-4)) hx hb gX12_days_1.2.2.2.2.2.1 (by decide) ?_
      refine toQ hQ0 ?_
      exact RI (v := (-4)) hC hP hD hS [0, 1] fnw rfl rfl (by decide) (⟨(by first | rfl | (simp only [ifc_t hN, ifc_t hV, ifc_t a5806, ifc_f c_23_5807]; done) | (simp only [ifc_t hN, ifc_t hV, ifc_t a5806, ifc_f c_23_5807]; rfl)), ⟨hN, hV, (rfl).trans ((by first | rfl | (simp only [ifc_t hN, ifc_t hV, ifc_t a5806, ifc_f c_23_5807]; done) | (simp only [ifc_t hN, ifc_t hV, ifc_t a5806, ifc_f c_23_5807]; rfl))), rfl, rfl, rfl, rfl, rfl, rfl, rfl, rfl, rfl, rfl, FRO.rf⟩⟩) rfl gX12_days_1.2.2.2.2.2.2.1
  · refine lv_if_ne (tgt := 12) hx hb gX12_days_0.2.2.2.2.1 (by decide) (fun c9 => absurd (by decide) c9) (fun _ => ?_)
    refine lv_iconst (v := (-1)) hx hb gX12_days_0.2.2.2.2.2.1 (by decide) ?_
    refine toQ hQ0 ?_
    exact RI (v := (-1)) hC hP hD hS [0, 1] fnw rfl rfl (by decide) (⟨(by first | rfl | (simp only [ifc_t hN, ifc_t hV, ifc_f a5806]; done) | (simp only [ifc_t hN, ifc_t hV, ifc_f a5806]; rfl)), ⟨hN, hV, (rfl).trans ((by first | rfl | (simp only [ifc_t hN, ifc_t hV, ifc_f a5806]; done) | (simp only [ifc_t hN, ifc_t hV, ifc_f a5806]; rfl))), rfl, rfl, rfl, rfl, rfl, rfl, rfl, rfl, rfl, rfl, FRO.rf⟩⟩) rfl gX12_days_0.2.2.2.2.2.2.1
def K_w_gap (l : Launch) (G : GG) (h0 : Nat) (x1 : Int32) (nw : Nat) (nk : Nat) (mhasKept : Int32) (nt : Nat) (mtaped : Int32) (nr : Nat) (mrowMany : Int32) (mroundOf : Int32) (mroundFrom : Int32) (mouts : Int32) (nm : Nat) (mfromHour : Int32) (mtoHour : Int32) (ns : Nat) (mfrom : Int32) (mto : Int32) (msort : Int32) (misFault : Int32) (mdeep : Int32) (mcoded : Int32) (mlines : Int32) (nl : Nat) (nc : Nat) (nF : Nat) (np : Nat) (ntr : Nat) (nb : Nat) (mbestCost : Int32) (nso : Nat) (nsi : Nat) (nit : Nat) (nsh : Nat) (nsf : Nat) (nss : Nat) (nrc : Nat) (mtraced : Int32) (mdealer : Int32) (mnumber : Int32) (mwhose : Int32) (msize : Int32) (misParted : Int32) (fnw : Nat → Int32) : Prop := MI l G yX12_gap cX12_gap 3 (some .int) 2 0 0 [.ref h0, .int x1] [(h0, oX12 nw nk mhasKept nt mtaped nr mrowMany mroundOf mroundFrom mouts nm mfromHour mtoHour ns mfrom mto msort misFault mdeep mcoded mlines nl nc nF np ntr nb mbestCost nso nsi nit nsh nsf nss nrc mtraced mdealer mnumber mwhose msize misParted), (nw, iA G 1662 fnw)] (fun (r : Int32) (u : (Nat → Int32)) => (r = ifc (Wi x1 0 99) (fnw 3) (-1)) ∧ (NI u ∧ VI u ∧ u 0 = fnw 0 ∧ u 1 = fnw 1 ∧ u 2 = fnw 2 ∧ u 3 = ifc (Wi x1 0 99) x1 (fnw 3) ∧ u 4 = fnw 4 ∧ u 5 = fnw 5 ∧ u 6 = fnw 6 ∧ u 8 = fnw 8 ∧ u 9 = fnw 9 ∧ u 10 = fnw 10 ∧ u 11 = fnw 11 ∧ FRO u fnw 0 0)) (fun u : (Nat → Int32) => [(h0, oX12 nw nk mhasKept nt mtaped nr mrowMany mroundOf mroundFrom mouts nm mfromHour mtoHour ns mfrom mto msort misFault mdeep mcoded mlines nl nc nF np ntr nb mbestCost nso nsi nit nsh nsf nss nrc mtraced mdealer mnumber mwhose msize misParted), (nw, iA G 1662 u)])
set_option maxHeartbeats 4000000 in
set_option maxRecDepth 100000 in
theorem w_gap (l : Launch) (G : GG) (h0 : Nat) (x1 : Int32) (nw : Nat) (nk : Nat) (mhasKept : Int32) (nt : Nat) (mtaped : Int32) (nr : Nat) (mrowMany : Int32) (mroundOf : Int32) (mroundFrom : Int32) (mouts : Int32) (nm : Nat) (mfromHour : Int32) (mtoHour : Int32) (ns : Nat) (mfrom : Int32) (mto : Int32) (msort : Int32) (misFault : Int32) (mdeep : Int32) (mcoded : Int32) (mlines : Int32) (nl : Nat) (nc : Nat) (nF : Nat) (np : Nat) (ntr : Nat) (nb : Nat) (mbestCost : Int32) (nso : Nat) (nsi : Nat) (nit : Nat) (nsh : Nat) (nsf : Nat) (nss : Nat) (nrc : Nat) (mtraced : Int32) (mdealer : Int32) (mnumber : Int32) (mwhose : Int32) (msize : Int32) (misParted : Int32) (fnw : Nat → Int32) (hN : NI fnw) (hV : VI fnw) : K_w_gap l G h0 x1 nw nk mhasKept nt mtaped nr mrowMany mroundOf mroundFrom mouts nm mfromHour mtoHour ns mfrom mto msort misFault mdeep mcoded mlines nl nc nF np ntr nb mbestCost nso nsi nit nsh nsf nss nrc mtraced mdealer mnumber mwhose msize misParted fnw := by
  refine MI.start (by decide +kernel) (Nat.le_of_ble_eq_true rfl) ?_
  intro p e s m below meth c A ls hC hK hP hD hS hA hl
  refine absQ (fun Q0 hQ0 => ?_)
  have hl : lv_has ls 3 [(0, .ref h0), (1, .int x1)] := hl
  refine Kan8 hC (fun hx hb hr hml hB hown hlocks hnm => ?_)
  refine lv_iload_n hx hb gX12_gap_0.1 rfl (lv_at1 hl) ?_
  refine lv_iconst (v := 0) hx hb gX12_gap_0.2.1 (by decide) ?_
  refine lv_bipush (v := 99) hx hb gX12_gap_0.2.2.1 (by decide) ?_
  refine pS hC hK hl (m_within l G x1 0 99) si_X12_84 rfl rfl (Nat.le_of_ble_eq_true rfl) rm_2_1_3 ⟨by first | exact Nat.le_of_ble_eq_true rfl | exact Nat.zero_le _, by first | exact Nat.le_of_ble_eq_true rfl | exact Nat.zero_le _⟩ gX12_gap_0.2.2.2.1 (Kors (Keqa fun a5809 => ?_) (Keqa fun a5809 => ?_))
  · refine lv_if_ne (tgt := 12) hx hb gX12_gap_0.2.2.2.2.1 (by decide) (fun _ => ?_) (fun c9 => absurd c9 (by decide))
    refine lv_aload_n hx hb gX12_gap_0.2.2.2.2.2.2.2.1 rfl (lv_at0 hl) ?_
    refine gf_X12_9 hC rfl hK hP 0 rfl rfl gX12_gap_0.2.2.2.2.2.2.2.2.1 ?_
    refine lv_iconst (v := 3) hx hb gX12_gap_0.2.2.2.2.2.2.2.2.2 (by decide) ?_
    refine ald hC hK hP 1 rfl (vin (by decide +kernel)) (k := 3) (by decide +kernel) (v := fnw 3) (rfl) gX12_gap_1.1 ?_
    refine lv_istore_n (lv' := [(2, .int (fnw 3)), (0, .ref h0), (1, .int x1)]) hx hb gX12_gap_1.2.1 rfl hl (by decide) rfl (fun ls hl => ?_)
    refine lv_aload_n hx hb gX12_gap_1.2.2.1 rfl (lv_at1 hl) ?_
    refine gf_X12_9 hC rfl hK hP 0 rfl rfl gX12_gap_1.2.2.2.1 ?_
    refine lv_iconst (v := 3) hx hb gX12_gap_1.2.2.2.2.1 (by decide) ?_
    refine lv_iload_n hx hb gX12_gap_1.2.2.2.2.2.1 rfl (lv_at2 hl) ?_
    refine ast hC hK hP hD hS 1 (ws' := [(h0, oX12 nw nk mhasKept nt mtaped nr mrowMany mroundOf mroundFrom mouts nm mfromHour mtoHour ns mfrom mto msort misFault mdeep mcoded mlines nl nc nF np ntr nb mbestCost nso nsi nit nsh nsf nss nrc mtraced mdealer mnumber mwhose msize misParted), (nw, iA G 1662 (upd fnw 3 x1))]) rfl (vin (by decide +kernel)) (k := 3) (by decide +kernel) (rfl) gX12_gap_1.2.2.2.2.2.2.1 (fun H locs hP hD hS => ?_)
    refine lv_iload_n hx hb gX12_gap_1.2.2.2.2.2.2.2.1 rfl (lv_at0 hl) ?_
    refine toQ hQ0 ?_
    exact RI (v := fnw 3) hC hP hD hS [0, 1] (upd fnw 3 x1) rfl rfl (by decide) (⟨(by first | rfl | (simp only [ifc_t hN, ifc_t hV, ifc_t a5809]; done) | (simp only [ifc_t hN, ifc_t hV, ifc_t a5809]; rfl)), ⟨(hN).setA (bnd_low (by omega)), (hV).set (by omega), upd_ne (by omega), upd_ne (by omega), upd_ne (by omega), (show _ = x1 from upd_eq rfl).trans (by first | rfl | (simp only [ifc_t hN, ifc_t hV, ifc_t a5809]; done) | (simp only [ifc_t hN, ifc_t hV, ifc_t a5809]; rfl)), upd_ne (by omega), upd_ne (by omega), upd_ne (by omega), upd_ne (by omega), upd_ne (by omega), upd_ne (by omega), upd_ne (by omega), (FRO.rf).set (by omega)⟩⟩) rfl gX12_gap_1.2.2.2.2.2.2.2.2
  · refine lv_if_ne (tgt := 12) hx hb gX12_gap_0.2.2.2.2.1 (by decide) (fun c9 => absurd (by decide) c9) (fun _ => ?_)
    refine lv_iconst (v := (-1)) hx hb gX12_gap_0.2.2.2.2.2.1 (by decide) ?_
    refine toQ hQ0 ?_
    exact RI (v := (-1)) hC hP hD hS [0, 1] fnw rfl rfl (by decide) (⟨(by first | rfl | (simp only [ifc_t hN, ifc_t hV, ifc_f a5809]; done) | (simp only [ifc_t hN, ifc_t hV, ifc_f a5809]; rfl)), ⟨hN, hV, rfl, rfl, rfl, (rfl).trans ((by first | rfl | (simp only [ifc_t hN, ifc_t hV, ifc_f a5809]; done) | (simp only [ifc_t hN, ifc_t hV, ifc_f a5809]; rfl))), rfl, rfl, rfl, rfl, rfl, rfl, rfl, FRO.rf⟩⟩) rfl gX12_gap_0.2.2.2.2.2.2.1
def K_m_has0 (l : Launch) (G : GG) (jk : Nat) : Prop := MP l G yX12_has cX12_has 2 (some .boolean) 1 [.int 0, .int (nI jk)] [] (fun r : Int32 => r = 0)
set_option maxHeartbeats 4000000 in
set_option maxRecDepth 100000 in
theorem m_has0 (l : Launch) (G : GG) (jk : Nat) (hjk : jk < 16) : K_m_has0 l G jk := by
  refine MP.start (by decide +kernel) (Nat.le_of_ble_eq_true rfl) ?_
  intro p e s m below meth c ls hC hK hP hD hl
  refine absQ (fun Q0 hQ0 => ?_)
  have hl : lv_has ls 2 [(0, .int 0), (1, .int (nI jk))] := hl
  refine Kan8 hC (fun hx hb hr hml hB hown hlocks hnm => ?_)
  refine lv_iload_n hx hb gX12_has_0.1 rfl (lv_at0 hl) ?_
  refine lv_iload_n hx hb gX12_has_0.2.1 rfl (lv_at1 hl) ?_
  refine lv_ishr hx hb gX12_has_0.2.2.1 ?_
  refine lv_iconst (v := 1) hx hb gX12_has_0.2.2.2.1 (by decide) ?_
  refine lv_iand hx hb gX12_has_0.2.2.2.2.1 ?_
  refine lv_iconst (v := 1) hx hb gX12_has_0.2.2.2.2.2.1 (by decide) ?_
  refine lv_icmp_ne (tgt := 13) hx hb gX12_has_0.2.2.2.2.2.2.1 (by decide) (fun _ => ?_) (fun c9 => absurd c9 (has0 ⟨jk, hjk⟩))
  refine lv_iconst (v := 0) hx hb gX12_has_0.2.2.2.2.2.2.2.2.2 (by decide) ?_
  refine toQ hQ0 ?_
  exact RP (v := 0) hC (rfl) (by decide +kernel) gX12_has_1
def K_m_dayX (l : Launch) (G : GG) (h0 : Nat) (nw : Nat) (nk : Nat) (mhasKept : Int32) (nt : Nat) (mtaped : Int32) (nr : Nat) (mrowMany : Int32) (mroundOf : Int32) (mroundFrom : Int32) (mouts : Int32) (nm : Nat) (mfromHour : Int32) (mtoHour : Int32) (ns : Nat) (mfrom : Int32) (mto : Int32) (msort : Int32) (misFault : Int32) (mdeep : Int32) (mcoded : Int32) (mlines : Int32) (nl : Nat) (nc : Nat) (nF : Nat) (np : Nat) (ntr : Nat) (nb : Nat) (mbestCost : Int32) (nso : Nat) (nsi : Nat) (nit : Nat) (nsh : Nat) (nsf : Nat) (nss : Nat) (nrc : Nat) (mtraced : Int32) (mdealer : Int32) (mnumber : Int32) (mwhose : Int32) (msize : Int32) (misParted : Int32) (fnw : Nat → Int32) : Prop := MP l G yX12_day cX12_day 1 (some .int) 1 [.ref h0] [(h0, oX12 nw nk mhasKept nt mtaped nr mrowMany mroundOf mroundFrom mouts nm mfromHour mtoHour ns mfrom mto msort misFault mdeep mcoded mlines nl nc nF np ntr nb mbestCost nso nsi nit nsh nsf nss nrc mtraced mdealer mnumber mwhose msize misParted), (nw, iA G 1662 fnw)] (fun r : Int32 => r = (DAYV (fnw 0) (fnw 1)))
set_option maxHeartbeats 4000000 in
set_option maxRecDepth 100000 in
theorem m_dayX (l : Launch) (G : GG) (h0 : Nat) (nw : Nat) (nk : Nat) (mhasKept : Int32) (nt : Nat) (mtaped : Int32) (nr : Nat) (mrowMany : Int32) (mroundOf : Int32) (mroundFrom : Int32) (mouts : Int32) (nm : Nat) (mfromHour : Int32) (mtoHour : Int32) (ns : Nat) (mfrom : Int32) (mto : Int32) (msort : Int32) (misFault : Int32) (mdeep : Int32) (mcoded : Int32) (mlines : Int32) (nl : Nat) (nc : Nat) (nF : Nat) (np : Nat) (ntr : Nat) (nb : Nat) (mbestCost : Int32) (nso : Nat) (nsi : Nat) (nit : Nat) (nsh : Nat) (nsf : Nat) (nss : Nat) (nrc : Nat) (mtraced : Int32) (mdealer : Int32) (mnumber : Int32) (mwhose : Int32) (msize : Int32) (misParted : Int32) (fnw : Nat → Int32) : K_m_dayX l G h0 nw nk mhasKept nt mtaped nr mrowMany mroundOf mroundFrom mouts nm mfromHour mtoHour ns mfrom mto msort misFault mdeep mcoded mlines nl nc nF np ntr nb mbestCost nso nsi nit nsh nsf nss nrc mtraced mdealer mnumber mwhose msize misParted fnw := by
  refine MP.start (by decide +kernel) (Nat.le_of_ble_eq_true rfl) ?_
  intro p e s m below meth c ls hC hK hP hD hl
  refine absQ (fun Q0 hQ0 => ?_)
  have hl : lv_has ls 1 [(0, .ref h0)] := hl
  refine Kan8 hC (fun hx hb hr hml hB hown hlocks hnm => ?_)
  refine lv_aload_n hx hb gX12_day_0.1 rfl (lv_at0 hl) ?_
  refine gf_X12_9 hC rfl hK hP 0 rfl rfl gX12_day_0.2.1 ?_
  refine lv_iconst (v := 1) hx hb gX12_day_0.2.2.1 (by decide) ?_
  refine ald hC hK hP 1 rfl (vin (by decide +kernel)) (k := 1) (by decide +kernel) (v := fnw 1) (rfl) gX12_day_0.2.2.2.1 ?_
  refine lv_if_ge (tgt := 18) hx hb gX12_day_0.2.2.2.2.1 (by decide) (fun c_6_5810 => ?_) (fun c_6_5810 => ?_)
  · refine lv_aload_n hx hb gX12_day_1.1 rfl (lv_at0 hl) ?_
    refine gf_X12_9 hC rfl hK hP 0 rfl rfl gX12_day_1.2.1 ?_
    refine lv_iconst (v := 1) hx hb gX12_day_1.2.2.1 (by decide) ?_
    refine ald hC hK hP 1 rfl (vin (by decide +kernel)) (k := 1) (by decide +kernel) (v := fnw 1) (rfl) gX12_day_1.2.2.2.1 ?_
    refine toQ hQ0 ?_
    exact RP (v := fnw 1) hC ((ifc_f (Int32.not_lt.mpr c_6_5810)).symm) rfl gX12_day_1.2.2.2.2
  · refine lv_aload_n hx hb gX12_day_0.2.2.2.2.2.1 rfl (lv_at0 hl) ?_
    refine gf_X12_9 hC rfl hK hP 0 rfl rfl gX12_day_0.2.2.2.2.2.2.1 ?_
    refine lv_iconst (v := 0) hx hb gX12_day_0.2.2.2.2.2.2.2.1 (by decide) ?_
    refine ald hC hK hP 1 rfl (vin (by decide +kernel)) (k := 0) (by decide +kernel) (v := fnw 0) (rfl) gX12_day_0.2.2.2.2.2.2.2.2.1 ?_
    refine lv_goto (tgt := 24) hx hb gX12_day_0.2.2.2.2.2.2.2.2.2 (by decide) ?_
    refine toQ hQ0 ?_
    exact RP (v := fnw 0) hC ((ifc_t (Int32.not_le.mp c_6_5810)).symm) rfl gX12_day_1.2.2.2.2
def K_m_isInX (l : Launch) (G : GG) (h0 : Nat) (jp : Nat) (nw : Nat) (nk : Nat) (mhasKept : Int32) (nt : Nat) (mtaped : Int32) (nr : Nat) (mrowMany : Int32) (mroundOf : Int32) (mroundFrom : Int32) (nm : Nat) (mfromHour : Int32) (mtoHour : Int32) (ns : Nat) (mfrom : Int32) (mto : Int32) (msort : Int32) (misFault : Int32) (mdeep : Int32) (mcoded : Int32) (mlines : Int32) (nl : Nat) (nc : Nat) (nF : Nat) (np : Nat) (ntr : Nat) (nb : Nat) (mbestCost : Int32) (nso : Nat) (nsi : Nat) (nit : Nat) (nsh : Nat) (nsf : Nat) (nss : Nat) (nrc : Nat) (mtraced : Int32) (mdealer : Int32) (mnumber : Int32) (mwhose : Int32) (msize : Int32) (misParted : Int32) (fnw : Nat → Int32) : Prop := MP l G yX12_isIn cX12_isIn 3 (some .boolean) 2 [.ref h0, .int (nI jp)] [(h0, oX12 nw nk mhasKept nt mtaped nr mrowMany mroundOf mroundFrom 0 nm mfromHour mtoHour ns mfrom mto msort misFault mdeep mcoded mlines nl nc nF np ntr nb mbestCost nso nsi nit nsh nsf nss nrc mtraced mdealer mnumber mwhose msize misParted), (nw, iA G 1662 fnw)] (fun r : Int32 => (r = 1 ∧ SEE (shf fnw 32) (fnw 0) (fnw 1) (fnw 2) jp) ∨ (r = 0 ∧ ¬ SEE (shf fnw 32) (fnw 0) (fnw 1) (fnw 2) jp))
set_option maxHeartbeats 4000000 in
set_option maxRecDepth 100000 in
theorem m_isInX (l : Launch) (G : GG) (h0 : Nat) (jp : Nat) (nw : Nat) (nk : Nat) (mhasKept : Int32) (nt : Nat) (mtaped : Int32) (nr : Nat) (mrowMany : Int32) (mroundOf : Int32) (mroundFrom : Int32) (nm : Nat) (mfromHour : Int32) (mtoHour : Int32) (ns : Nat) (mfrom : Int32) (mto : Int32) (msort : Int32) (misFault : Int32) (mdeep : Int32) (mcoded : Int32) (mlines : Int32) (nl : Nat) (nc : Nat) (nF : Nat) (np : Nat) (ntr : Nat) (nb : Nat) (mbestCost : Int32) (nso : Nat) (nsi : Nat) (nit : Nat) (nsh : Nat) (nsf : Nat) (nss : Nat) (nrc : Nat) (mtraced : Int32) (mdealer : Int32) (mnumber : Int32) (mwhose : Int32) (msize : Int32) (misParted : Int32) (fnw : Nat → Int32) (hjp : jp < 12) : K_m_isInX l G h0 jp nw nk mhasKept nt mtaped nr mrowMany mroundOf mroundFrom nm mfromHour mtoHour ns mfrom mto msort misFault mdeep mcoded mlines nl nc nF np ntr nb mbestCost nso nsi nit nsh nsf nss nrc mtraced mdealer mnumber mwhose msize misParted fnw := by
  refine MP.start (by decide +kernel) (Nat.le_of_ble_eq_true rfl) ?_
  intro p e s m below meth c ls hC hK hP hD hl
  refine absQ (fun Q0 hQ0 => ?_)
  have hl : lv_has ls 3 [(0, .ref h0), (1, .int (nI jp))] := hl
  refine Kan8 hC (fun hx hb hr hml hB hown hlocks hnm => ?_)
  have hq3 : fnw (32 + 6 * jp + 3) = shf fnw 32 (jp * 6 + 3) := congrArg fnw (by omega)
  have hq4 : fnw (32 + 6 * jp + 4) = shf fnw 32 (jp * 6 + 4) := congrArg fnw (by omega)
  have hq5 : fnw (32 + 6 * jp + 5) = shf fnw 32 (jp * 6 + 5) := congrArg fnw (by omega)
  refine lv_aload_n hx hb gX12_isIn_0.1 rfl (lv_at0 hl) ?_
  refine lv_iload_n hx hb gX12_isIn_0.2.1 rfl (lv_at1 hl) ?_
  refine lv_iconst (v := 5) hx hb gX12_isIn_0.2.2.1 (by decide) ?_
  refine pV hC hK hl hP hD (m_paper l G h0 jp 5 nw nk mhasKept nt mtaped nr mrowMany mroundOf mroundFrom 0 nm mfromHour mtoHour ns mfrom mto msort misFault mdeep mcoded mlines nl nc nF np ntr nb mbestCost nso nsi nit nsh nsf nss nrc mtraced mdealer mnumber mwhose msize misParted fnw (hjp) (by omega)) si_X12_88 [0, 1] sm_0_1 fm_0_1 nd_0_1 rfl rfl rfl rfl rfl (Nat.le_of_ble_eq_true rfl) rm_2_1_3 ⟨by first | exact Nat.le_of_ble_eq_true rfl | exact Nat.zero_le _, by first | exact Nat.le_of_ble_eq_true rfl | exact Nat.zero_le _⟩ gX12_isIn_0.2.2.2.1 (Keqr ?_)
  refine lv_if_lt (tgt := 26) hx hb gX12_isIn_0.2.2.2.2.1 (by decide) (fun c_6_5813 => ?_) (fun c_6_5813 => ?_)
  · refine lv_iconst (v := 0) hx hb gX12_isIn_1.2.2.2.2.1 (by decide) ?_
    refine lv_istore_n (lv' := [(2, .int 0), (0, .ref h0), (1, .int (nI jp))]) hx hb gX12_isIn_1.2.2.2.2.2.1 rfl hl (by decide) rfl (fun ls hl => ?_)
    refine lv_aload_n hx hb gX12_isIn_1.2.2.2.2.2.2.1 rfl (lv_at1 hl) ?_
    refine lv_iload_n hx hb gX12_isIn_1.2.2.2.2.2.2.2.1 rfl (lv_at2 hl) ?_
    refine lv_iconst (v := 4) hx hb gX12_isIn_1.2.2.2.2.2.2.2.2.1 (by decide) ?_
    refine pV hC hK hl hP hD (m_paper l G h0 jp 4 nw nk mhasKept nt mtaped nr mrowMany mroundOf mroundFrom 0 nm mfromHour mtoHour ns mfrom mto msort misFault mdeep mcoded mlines nl nc nF np ntr nb mbestCost nso nsi nit nsh nsf nss nrc mtraced mdealer mnumber mwhose msize misParted fnw (hjp) (by omega)) si_X12_88 [0, 1] sm_0_1 fm_0_1 nd_0_1 rfl rfl rfl rfl rfl (Nat.le_of_ble_eq_true rfl) rm_2_1_3 ⟨by first | exact Nat.le_of_ble_eq_true rfl | exact Nat.zero_le _, by first | exact Nat.le_of_ble_eq_true rfl | exact Nat.zero_le _⟩ gX12_isIn_1.2.2.2.2.2.2.2.2.2 (Keqr ?_)
    refine lv_aload_n hx hb gX12_isIn_2.1 rfl (lv_at1 hl) ?_
    refine pV hC hK hl hP hD (m_dayX l G h0 nw nk mhasKept nt mtaped nr mrowMany mroundOf mroundFrom 0 nm mfromHour mtoHour ns mfrom mto msort misFault mdeep mcoded mlines nl nc nF np ntr nb mbestCost nso nsi nit nsh nsf nss nrc mtraced mdealer mnumber mwhose msize misParted fnw) si_X12_92 [0, 1] sm_0_1 fm_0_1 nd_0_1 rfl rfl rfl rfl rfl (Nat.le_of_ble_eq_true rfl) rm_2_1_1 ⟨by first | exact Nat.le_of_ble_eq_true rfl | exact Nat.zero_le _, by first | exact Nat.le_of_ble_eq_true rfl | exact Nat.zero_le _⟩ gX12_isIn_2.2.1 (Keqr ?_)
    refine lv_icmp_gt (tgt := 75) hx hb gX12_isIn_2.2.2.1 (by decide) (fun c_38_5818 => ?_) (fun c_38_5818 => ?_)
    · refine lv_iconst (v := 0) hx hb gX12_isIn_4.2.1 (by decide) ?_
      refine toQ hQ0 ?_
      exact RP (v := 0) hC (Or.inr ⟨rfl, (fun h9 => Int32.not_le.mpr (hq4 ▸ c_38_5818) h9.1)⟩) (by decide +kernel) gX12_isIn_4.2.2
    · refine lv_aload_n hx hb gX12_isIn_2.2.2.2.1 rfl (lv_at1 hl) ?_
      refine lv_iload_n hx hb gX12_isIn_2.2.2.2.2.1 rfl (lv_at2 hl) ?_
      refine lv_iconst (v := 3) hx hb gX12_isIn_2.2.2.2.2.2.1 (by decide) ?_
      refine pV hC hK hl hP hD (m_paper l G h0 jp 3 nw nk mhasKept nt mtaped nr mrowMany mroundOf mroundFrom 0 nm mfromHour mtoHour ns mfrom mto msort misFault mdeep mcoded mlines nl nc nF np ntr nb mbestCost nso nsi nit nsh nsf nss nrc mtraced mdealer mnumber mwhose msize misParted fnw (hjp) (by omega)) si_X12_88 [0, 1] sm_0_1 fm_0_1 nd_0_1 rfl rfl rfl rfl rfl (Nat.le_of_ble_eq_true rfl) rm_2_1_3 ⟨by first | exact Nat.le_of_ble_eq_true rfl | exact Nat.zero_le _, by first | exact Nat.le_of_ble_eq_true rfl | exact Nat.zero_le _⟩ gX12_isIn_2.2.2.2.2.2.2.1 (Keqr ?_)
      refine lv_aload_n hx hb gX12_isIn_2.2.2.2.2.2.2.2.1 rfl (lv_at1 hl) ?_
      refine gf_X12_9 hC rfl hK hP 0 rfl rfl gX12_isIn_2.2.2.2.2.2.2.2.2.1 ?_
      refine lv_iconst (v := 2) hx hb gX12_isIn_2.2.2.2.2.2.2.2.2.2 (by decide) ?_
      refine ald hC hK hP 1 rfl (vin (by decide +kernel)) (k := 2) (by decide +kernel) (v := fnw 2) (rfl) gX12_isIn_3.1 ?_
      refine lv_icmp_gt (tgt := 75) hx hb gX12_isIn_3.2.1 (by decide) (fun c_53_5821 => ?_) (fun c_53_5821 => ?_)
      · refine lv_iconst (v := 0) hx hb gX12_isIn_4.2.1 (by decide) ?_
        refine toQ hQ0 ?_
        exact RP (v := 0) hC (Or.inr ⟨rfl, (fun h9 => Int32.not_le.mpr (hq3 ▸ c_53_5821) h9.2.1)⟩) (by decide +kernel) gX12_isIn_4.2.2
      · refine lv_iload_n hx hb gX12_isIn_3.2.2.1 rfl (lv_at0 hl) ?_
        refine lv_if_ne (tgt := 75) hx hb gX12_isIn_3.2.2.2.1 (by decide) (fun c9 => absurd (by decide) c9) (fun _ => ?_)
        refine lv_aload_n hx hb gX12_isIn_3.2.2.2.2.1 rfl (lv_at1 hl) ?_
        refine gf_X12_96 hC rfl hK hP 0 rfl rfl gX12_isIn_3.2.2.2.2.2.1 ?_
        refine lv_iload_n hx hb gX12_isIn_3.2.2.2.2.2.2.1 rfl (lv_at2 hl) ?_
        refine pS hC hK hl (m_has0 l G jp (by omega)) si_X12_99 rfl rfl (Nat.le_of_ble_eq_true rfl) rm_2_1_2 ⟨by first | exact Nat.le_of_ble_eq_true rfl | exact Nat.zero_le _, by first | exact Nat.le_of_ble_eq_true rfl | exact Nat.zero_le _⟩ gX12_isIn_3.2.2.2.2.2.2.2.1 (Keqr ?_)
        refine lv_if_ne (tgt := 75) hx hb gX12_isIn_3.2.2.2.2.2.2.2.2.1 (by decide) (fun c9 => absurd (by decide) c9) (fun _ => ?_)
        refine lv_iconst (v := 1) hx hb gX12_isIn_3.2.2.2.2.2.2.2.2.2 (by decide) ?_
        refine lv_goto (tgt := 76) hx hb gX12_isIn_4.1 (by decide) ?_
        refine toQ hQ0 ?_
        exact RP (v := 1) hC (Or.inl ⟨rfl, ⟨Int32.not_lt.mp (hq4 ▸ c_38_5818), Int32.not_lt.mp (hq3 ▸ c_53_5821), (fun h9 => Int32.not_le.mpr (hq5 ▸ c_6_5813) h9.1)⟩⟩) (by decide +kernel) gX12_isIn_4.2.2
  · refine lv_aload_n hx hb gX12_isIn_0.2.2.2.2.2.1 rfl (lv_at0 hl) ?_
    refine lv_iload_n hx hb gX12_isIn_0.2.2.2.2.2.2.1 rfl (lv_at1 hl) ?_
    refine lv_iconst (v := 5) hx hb gX12_isIn_0.2.2.2.2.2.2.2.1 (by decide) ?_
    refine pV hC hK hl hP hD (m_paper l G h0 jp 5 nw nk mhasKept nt mtaped nr mrowMany mroundOf mroundFrom 0 nm mfromHour mtoHour ns mfrom mto msort misFault mdeep mcoded mlines nl nc nF np ntr nb mbestCost nso nsi nit nsh nsf nss nrc mtraced mdealer mnumber mwhose msize misParted fnw (hjp) (by omega)) si_X12_88 [0, 1] sm_0_1 fm_0_1 nd_0_1 rfl rfl rfl rfl rfl (Nat.le_of_ble_eq_true rfl) rm_2_1_3 ⟨by first | exact Nat.le_of_ble_eq_true rfl | exact Nat.zero_le _, by first | exact Nat.le_of_ble_eq_true rfl | exact Nat.zero_le _⟩ gX12_isIn_0.2.2.2.2.2.2.2.2.1 (Keqr ?_)
    refine lv_aload_n hx hb gX12_isIn_0.2.2.2.2.2.2.2.2.2 rfl (lv_at0 hl) ?_
    refine pV hC hK hl hP hD (m_dayX l G h0 nw nk mhasKept nt mtaped nr mrowMany mroundOf mroundFrom 0 nm mfromHour mtoHour ns mfrom mto msort misFault mdeep mcoded mlines nl nc nF np ntr nb mbestCost nso nsi nit nsh nsf nss nrc mtraced mdealer mnumber mwhose msize misParted fnw) si_X12_92 [0, 1] sm_0_1 fm_0_1 nd_0_1 rfl rfl rfl rfl rfl (Nat.le_of_ble_eq_true rfl) rm_2_1_1 ⟨by first | exact Nat.le_of_ble_eq_true rfl | exact Nat.zero_le _, by first | exact Nat.le_of_ble_eq_true rfl | exact Nat.zero_le _⟩ gX12_isIn_1.1 (Keqr ?_)
    refine lv_icmp_gt (tgt := 26) hx hb gX12_isIn_1.2.1 (by decide) (fun c_19_5828 => ?_) (fun c_19_5828 => ?_)
    · refine lv_iconst (v := 0) hx hb gX12_isIn_1.2.2.2.2.1 (by decide) ?_
      refine lv_istore_n (lv' := [(2, .int 0), (0, .ref h0), (1, .int (nI jp))]) hx hb gX12_isIn_1.2.2.2.2.2.1 rfl hl (by decide) rfl (fun ls hl => ?_)
      refine lv_aload_n hx hb gX12_isIn_1.2.2.2.2.2.2.1 rfl (lv_at1 hl) ?_
      refine lv_iload_n hx hb gX12_isIn_1.2.2.2.2.2.2.2.1 rfl (lv_at2 hl) ?_
      refine lv_iconst (v := 4) hx hb gX12_isIn_1.2.2.2.2.2.2.2.2.1 (by decide) ?_
      refine pV hC hK hl hP hD (m_paper l G h0 jp 4 nw nk mhasKept nt mtaped nr mrowMany mroundOf mroundFrom 0 nm mfromHour mtoHour ns mfrom mto msort misFault mdeep mcoded mlines nl nc nF np ntr nb mbestCost nso nsi nit nsh nsf nss nrc mtraced mdealer mnumber mwhose msize misParted fnw (hjp) (by omega)) si_X12_88 [0, 1] sm_0_1 fm_0_1 nd_0_1 rfl rfl rfl rfl rfl (Nat.le_of_ble_eq_true rfl) rm_2_1_3 ⟨by first | exact Nat.le_of_ble_eq_true rfl | exact Nat.zero_le _, by first | exact Nat.le_of_ble_eq_true rfl | exact Nat.zero_le _⟩ gX12_isIn_1.2.2.2.2.2.2.2.2.2 (Keqr ?_)
      refine lv_aload_n hx hb gX12_isIn_2.1 rfl (lv_at1 hl) ?_
      refine pV hC hK hl hP hD (m_dayX l G h0 nw nk mhasKept nt mtaped nr mrowMany mroundOf mroundFrom 0 nm mfromHour mtoHour ns mfrom mto msort misFault mdeep mcoded mlines nl nc nF np ntr nb mbestCost nso nsi nit nsh nsf nss nrc mtraced mdealer mnumber mwhose msize misParted fnw) si_X12_92 [0, 1] sm_0_1 fm_0_1 nd_0_1 rfl rfl rfl rfl rfl (Nat.le_of_ble_eq_true rfl) rm_2_1_1 ⟨by first | exact Nat.le_of_ble_eq_true rfl | exact Nat.zero_le _, by first | exact Nat.le_of_ble_eq_true rfl | exact Nat.zero_le _⟩ gX12_isIn_2.2.1 (Keqr ?_)
      refine lv_icmp_gt (tgt := 75) hx hb gX12_isIn_2.2.2.1 (by decide) (fun c_38_5833 => ?_) (fun c_38_5833 => ?_)
      · refine lv_iconst (v := 0) hx hb gX12_isIn_4.2.1 (by decide) ?_
        refine toQ hQ0 ?_
        exact RP (v := 0) hC (Or.inr ⟨rfl, (fun h9 => Int32.not_le.mpr (hq4 ▸ c_38_5833) h9.1)⟩) (by decide +kernel) gX12_isIn_4.2.2
      · refine lv_aload_n hx hb gX12_isIn_2.2.2.2.1 rfl (lv_at1 hl) ?_
        refine lv_iload_n hx hb gX12_isIn_2.2.2.2.2.1 rfl (lv_at2 hl) ?_
        refine lv_iconst (v := 3) hx hb gX12_isIn_2.2.2.2.2.2.1 (by decide) ?_
        refine pV hC hK hl hP hD (m_paper l G h0 jp 3 nw nk mhasKept nt mtaped nr mrowMany mroundOf mroundFrom 0 nm mfromHour mtoHour ns mfrom mto msort misFault mdeep mcoded mlines nl nc nF np ntr nb mbestCost nso nsi nit nsh nsf nss nrc mtraced mdealer mnumber mwhose msize misParted fnw (hjp) (by omega)) si_X12_88 [0, 1] sm_0_1 fm_0_1 nd_0_1 rfl rfl rfl rfl rfl (Nat.le_of_ble_eq_true rfl) rm_2_1_3 ⟨by first | exact Nat.le_of_ble_eq_true rfl | exact Nat.zero_le _, by first | exact Nat.le_of_ble_eq_true rfl | exact Nat.zero_le _⟩ gX12_isIn_2.2.2.2.2.2.2.1 (Keqr ?_)
        refine lv_aload_n hx hb gX12_isIn_2.2.2.2.2.2.2.2.1 rfl (lv_at1 hl) ?_
        refine gf_X12_9 hC rfl hK hP 0 rfl rfl gX12_isIn_2.2.2.2.2.2.2.2.2.1 ?_
        refine lv_iconst (v := 2) hx hb gX12_isIn_2.2.2.2.2.2.2.2.2.2 (by decide) ?_
        refine ald hC hK hP 1 rfl (vin (by decide +kernel)) (k := 2) (by decide +kernel) (v := fnw 2) (rfl) gX12_isIn_3.1 ?_
        refine lv_icmp_gt (tgt := 75) hx hb gX12_isIn_3.2.1 (by decide) (fun c_53_5836 => ?_) (fun c_53_5836 => ?_)
        · refine lv_iconst (v := 0) hx hb gX12_isIn_4.2.1 (by decide) ?_
          refine toQ hQ0 ?_
          exact RP (v := 0) hC (Or.inr ⟨rfl, (fun h9 => Int32.not_le.mpr (hq3 ▸ c_53_5836) h9.2.1)⟩) (by decide +kernel) gX12_isIn_4.2.2
        · refine lv_iload_n hx hb gX12_isIn_3.2.2.1 rfl (lv_at0 hl) ?_
          refine lv_if_ne (tgt := 75) hx hb gX12_isIn_3.2.2.2.1 (by decide) (fun c9 => absurd (by decide) c9) (fun _ => ?_)
          refine lv_aload_n hx hb gX12_isIn_3.2.2.2.2.1 rfl (lv_at1 hl) ?_
          refine gf_X12_96 hC rfl hK hP 0 rfl rfl gX12_isIn_3.2.2.2.2.2.1 ?_
          refine lv_iload_n hx hb gX12_isIn_3.2.2.2.2.2.2.1 rfl (lv_at2 hl) ?_
          refine pS hC hK hl (m_has0 l G jp (by omega)) si_X12_99 rfl rfl (Nat.le_of_ble_eq_true rfl) rm_2_1_2 ⟨by first | exact Nat.le_of_ble_eq_true rfl | exact Nat.zero_le _, by first | exact Nat.le_of_ble_eq_true rfl | exact Nat.zero_le _⟩ gX12_isIn_3.2.2.2.2.2.2.2.1 (Keqr ?_)
          refine lv_if_ne (tgt := 75) hx hb gX12_isIn_3.2.2.2.2.2.2.2.2.1 (by decide) (fun c9 => absurd (by decide) c9) (fun _ => ?_)
          refine lv_iconst (v := 1) hx hb gX12_isIn_3.2.2.2.2.2.2.2.2.2 (by decide) ?_
          refine lv_goto (tgt := 76) hx hb gX12_isIn_4.1 (by decide) ?_
          refine toQ hQ0 ?_
          exact RP (v := 1) hC (Or.inl ⟨rfl, ⟨Int32.not_lt.mp (hq4 ▸ c_38_5833), Int32.not_lt.mp (hq3 ▸ c_53_5836), (fun h9 => Int32.not_le.mpr (hq5 ▸ c_19_5828) h9.2)⟩⟩) (by decide +kernel) gX12_isIn_4.2.2
    · refine lv_iconst (v := 1) hx hb gX12_isIn_1.2.2.1 (by decide) ?_
      refine lv_goto (tgt := 27) hx hb gX12_isIn_1.2.2.2.1 (by decide) ?_
      refine lv_istore_n (lv' := [(2, .int 1), (0, .ref h0), (1, .int (nI jp))]) hx hb gX12_isIn_1.2.2.2.2.2.1 rfl hl (by decide) rfl (fun ls hl => ?_)
      refine lv_aload_n hx hb gX12_isIn_1.2.2.2.2.2.2.1 rfl (lv_at1 hl) ?_
      refine lv_iload_n hx hb gX12_isIn_1.2.2.2.2.2.2.2.1 rfl (lv_at2 hl) ?_
      refine lv_iconst (v := 4) hx hb gX12_isIn_1.2.2.2.2.2.2.2.2.1 (by decide) ?_
      refine pV hC hK hl hP hD (m_paper l G h0 jp 4 nw nk mhasKept nt mtaped nr mrowMany mroundOf mroundFrom 0 nm mfromHour mtoHour ns mfrom mto msort misFault mdeep mcoded mlines nl nc nF np ntr nb mbestCost nso nsi nit nsh nsf nss nrc mtraced mdealer mnumber mwhose msize misParted fnw (hjp) (by omega)) si_X12_88 [0, 1] sm_0_1 fm_0_1 nd_0_1 rfl rfl rfl rfl rfl (Nat.le_of_ble_eq_true rfl) rm_2_1_3 ⟨by first | exact Nat.le_of_ble_eq_true rfl | exact Nat.zero_le _, by first | exact Nat.le_of_ble_eq_true rfl | exact Nat.zero_le _⟩ gX12_isIn_1.2.2.2.2.2.2.2.2.2 (Keqr ?_)
      refine lv_aload_n hx hb gX12_isIn_2.1 rfl (lv_at1 hl) ?_
      refine pV hC hK hl hP hD (m_dayX l G h0 nw nk mhasKept nt mtaped nr mrowMany mroundOf mroundFrom 0 nm mfromHour mtoHour ns mfrom mto msort misFault mdeep mcoded mlines nl nc nF np ntr nb mbestCost nso nsi nit nsh nsf nss nrc mtraced mdealer mnumber mwhose msize misParted fnw) si_X12_92 [0, 1] sm_0_1 fm_0_1 nd_0_1 rfl rfl rfl rfl rfl (Nat.le_of_ble_eq_true rfl) rm_2_1_1 ⟨by first | exact Nat.le_of_ble_eq_true rfl | exact Nat.zero_le _, by first | exact Nat.le_of_ble_eq_true rfl | exact Nat.zero_le _⟩ gX12_isIn_2.2.1 (Keqr ?_)
      refine lv_icmp_gt (tgt := 75) hx hb gX12_isIn_2.2.2.1 (by decide) (fun c_38_5843 => ?_) (fun c_38_5843 => ?_)
      · refine lv_iconst (v := 0) hx hb gX12_isIn_4.2.1 (by decide) ?_
        refine toQ hQ0 ?_
        exact RP (v := 0) hC (Or.inr ⟨rfl, (fun h9 => Int32.not_le.mpr (hq4 ▸ c_38_5843) h9.1)⟩) (by decide +kernel) gX12_isIn_4.2.2
      · refine lv_aload_n hx hb gX12_isIn_2.2.2.2.1 rfl (lv_at1 hl) ?_
        refine lv_iload_n hx hb gX12_isIn_2.2.2.2.2.1 rfl (lv_at2 hl) ?_
        refine lv_iconst (v := 3) hx hb gX12_isIn_2.2.2.2.2.2.1 (by decide) ?_
        refine pV hC hK hl hP hD (m_paper l G h0 jp 3 nw nk mhasKept nt mtaped nr mrowMany mroundOf mroundFrom 0 nm mfromHour mtoHour ns mfrom mto msort misFault mdeep mcoded mlines nl nc nF np ntr nb mbestCost nso nsi nit nsh nsf nss nrc mtraced mdealer mnumber mwhose msize misParted fnw (hjp) (by omega)) si_X12_88 [0, 1] sm_0_1 fm_0_1 nd_0_1 rfl rfl rfl rfl rfl (Nat.le_of_ble_eq_true rfl) rm_2_1_3 ⟨by first | exact Nat.le_of_ble_eq_true rfl | exact Nat.zero_le _, by first | exact Nat.le_of_ble_eq_true rfl | exact Nat.zero_le _⟩ gX12_isIn_2.2.2.2.2.2.2.1 (Keqr ?_)
        refine lv_aload_n hx hb gX12_isIn_2.2.2.2.2.2.2.2.1 rfl (lv_at1 hl) ?_
        refine gf_X12_9 hC rfl hK hP 0 rfl rfl gX12_isIn_2.2.2.2.2.2.2.2.2.1 ?_
        refine lv_iconst (v := 2) hx hb gX12_isIn_2.2.2.2.2.2.2.2.2.2 (by decide) ?_
        refine ald hC hK hP 1 rfl (vin (by decide +kernel)) (k := 2) (by decide +kernel) (v := fnw 2) (rfl) gX12_isIn_3.1 ?_
        refine lv_icmp_gt (tgt := 75) hx hb gX12_isIn_3.2.1 (by decide) (fun c_53_5846 => ?_) (fun c_53_5846 => ?_)
        · refine lv_iconst (v := 0) hx hb gX12_isIn_4.2.1 (by decide) ?_
          refine toQ hQ0 ?_
          exact RP (v := 0) hC (Or.inr ⟨rfl, (fun h9 => Int32.not_le.mpr (hq3 ▸ c_53_5846) h9.2.1)⟩) (by decide +kernel) gX12_isIn_4.2.2
        · refine lv_iload_n hx hb gX12_isIn_3.2.2.1 rfl (lv_at0 hl) ?_
          refine lv_if_ne (tgt := 75) hx hb gX12_isIn_3.2.2.2.1 (by decide) (fun _ => ?_) (fun c9 => absurd c9 (by decide))
          refine lv_iconst (v := 0) hx hb gX12_isIn_4.2.1 (by decide) ?_
          refine toQ hQ0 ?_
          exact RP (v := 0) hC (Or.inr ⟨rfl, (fun h9 => h9.2.2 ⟨Int32.not_lt.mp (hq5 ▸ c_6_5813), Int32.not_lt.mp (hq5 ▸ c_19_5828)⟩)⟩) (by decide +kernel) gX12_isIn_4.2.2
def K_m_bitsX (l : Launch) (G : GG) (se : Int32) : Prop := MP l G yX12_bits cX12_bits 3 (some .int) 1 [.int se] [] (fun r : Int32 => r = (BSUM se 16))
set_option maxHeartbeats 4000000 in
set_option maxRecDepth 100000 in
theorem m_bitsX (l : Launch) (G : GG) (se : Int32) : K_m_bitsX l G se := by
  refine MP.start (by decide +kernel) (Nat.le_of_ble_eq_true rfl) ?_
  intro p e s m below meth c ls hC hK hP hD hl
  refine absQ (fun Q0 hQ0 => ?_)
  have hl : lv_has ls 3 [(0, .int se)] := hl
  refine Kan8 hC (fun hx hb hr hml hB hown hlocks hnm => ?_)
  refine lv_iconst (v := 0) hx hb gX12_bits_0.1 (by decide) ?_
  refine lv_istore_n (lv' := [(1, .int 0), (0, .int se)]) hx hb gX12_bits_0.2.1 rfl hl (by decide) rfl (fun ls hl => ?_)
  refine lv_iconst (v := 0) hx hb gX12_bits_0.2.2.1 (by decide) ?_
  refine lv_istore_n (lv' := [(2, .int 0), (1, .int 0), (0, .int se)]) hx hb gX12_bits_0.2.2.2.1 rfl hl (by decide) rfl (fun ls hl => ?_)
  have keyP : ∀ (nP kP : Nat) (nn : Int32) (ls : Array Slot), kP + nP = 16 → (nn = BSUM se kP) → lv_has ls 3 [(2, .int (nI kP)), (1, .int nn), (0, .int se)] → W p l e (RM 1 0 0) s m ([.int se] : List Value).toArray below meth c s.heap [] 0 0 Q0 (F0 m 4 ls []) := by
    intro nP
    induction nP with
    | zero =>
      intro kP nn ls hkP hnn hl
      obtain rfl : 16 = kP := by omega
      have hl : lv_has ls 3 [(2, .int 16), (1, .int nn), (0, .int se)] := hl
      refine lv_iload_n hx hb gX12_bits_0.2.2.2.2.1 rfl (lv_at0 hl) ?_
      refine lv_bipush (v := 16) hx hb gX12_bits_0.2.2.2.2.2.1 (by decide) ?_
      refine lv_icmp_ge (tgt := 24) hx hb gX12_bits_0.2.2.2.2.2.2.1 (by decide) (fun _ => ?_) (fun c9 => absurd (by decide) c9)
      refine lv_iload_n hx hb gX12_bits_1.2.2.2.2.2.2.2.1 rfl (lv_at1 hl) ?_
      refine toQ hQ0 ?_
      exact RP (v := nn) hC (hnn) rfl gX12_bits_1.2.2.2.2.2.2.2.2
    | succ nP ihP =>
      intro kP nn ls hkP hnn hl
      refine lv_iload_n hx hb gX12_bits_0.2.2.2.2.1 rfl (lv_at0 hl) ?_
      refine lv_bipush (v := 16) hx hb gX12_bits_0.2.2.2.2.2.1 (by decide) ?_
      refine lv_icmp_ge (tgt := 24) hx hb gX12_bits_0.2.2.2.2.2.2.1 (by decide) (fun c9 => absurd c9 (nI_ge (a := kP) (b := 16) (by omega) (by omega))) (fun _ => ?_)
      refine lv_iload_n hx hb gX12_bits_0.2.2.2.2.2.2.2.1 rfl (lv_at1 hl) ?_
      refine lv_iload_n hx hb gX12_bits_0.2.2.2.2.2.2.2.2.1 rfl (lv_at2 hl) ?_
      refine lv_iload_n hx hb gX12_bits_0.2.2.2.2.2.2.2.2.2 rfl (lv_at0 hl) ?_
      refine lv_ishr hx hb gX12_bits_1.1 ?_
      refine lv_iconst (v := 1) hx hb gX12_bits_1.2.1 (by decide) ?_
      refine lv_iand hx hb gX12_bits_1.2.2.1 ?_
      refine lv_iadd hx hb gX12_bits_1.2.2.2.1 ?_
      refine lv_istore_n (lv' := [(1, .int (nn + ((se >>> ((nI kP) &&& 31)) &&& 1))), (2, .int (nI kP)), (0, .int se)]) hx hb gX12_bits_1.2.2.2.2.1 rfl hl (by decide) rfl (fun ls hl => ?_)
      refine lv_iinc (v := nI (kP + 1)) (lv' := [(2, .int (nI (kP + 1))), (1, .int (nn + ((se >>> ((nI kP) &&& 31)) &&& 1))), (0, .int se)]) hx hb gX12_bits_1.2.2.2.2.2.1 hl (k := 1) rfl (nI_1 _) (by decide) rfl (fun ls hl => ?_)
      refine lv_goto (tgt := 4) hx hb gX12_bits_1.2.2.2.2.2.2.1 (by decide) ?_
      exact ihP (kP + 1) (nn + ((se >>> ((nI kP) &&& 31)) &&& 1)) _ (by omega) (by first | assumption | exact Or.inl rfl | exact Or.inr rfl | exact rfl | exact hnn ▸ rfl) (lv_sub hl [0, 1, 2] rfl)
  exact keyP 16 0 0 _ (by omega) (by first | assumption | exact Or.inl rfl | exact Or.inr rfl | exact rfl | exact hnn ▸ rfl) (lv_sub hl [0, 1, 2] rfl)
def K_m_inViewX (l : Launch) (G : GG) (kq : Nat) (h0 : Nat) (nw : Nat) (nk : Nat) (mhasKept : Int32) (nt : Nat) (mtaped : Int32) (nr : Nat) (mrowMany : Int32) (mroundOf : Int32) (mroundFrom : Int32) (nm : Nat) (mfromHour : Int32) (mtoHour : Int32) (ns : Nat) (mfrom : Int32) (mto : Int32) (msort : Int32) (misFault : Int32) (mdeep : Int32) (mcoded : Int32) (mlines : Int32) (nl : Nat) (nc : Nat) (nF : Nat) (np : Nat) (ntr : Nat) (nb : Nat) (mbestCost : Int32) (nso : Nat) (nsi : Nat) (nit : Nat) (nsh : Nat) (nsf : Nat) (nss : Nat) (nrc : Nat) (mtraced : Int32) (mdealer : Int32) (mnumber : Int32) (mwhose : Int32) (msize : Int32) (misParted : Int32) (fnw : Nat → Int32) : Prop := MP l G yX12_inView cX12_inView 3 (some .int) 3 [.ref h0] [(h0, oX12 nw nk mhasKept nt mtaped nr mrowMany mroundOf mroundFrom 0 nm mfromHour mtoHour ns mfrom mto msort misFault mdeep mcoded mlines nl nc nF np ntr nb mbestCost nso nsi nit nsh nsf nss nrc mtraced mdealer mnumber mwhose msize misParted), (nw, iA G 1662 fnw)] (fun r : Int32 => r = (IVW (shf fnw 32) (fnw 0) (fnw 1) (fnw 2) kq))
set_option maxHeartbeats 4000000 in
set_option maxRecDepth 100000 in
theorem m_inViewX (l : Launch) (G : GG) (kq : Nat) (h0 : Nat) (nw : Nat) (nk : Nat) (mhasKept : Int32) (nt : Nat) (mtaped : Int32) (nr : Nat) (mrowMany : Int32) (mroundOf : Int32) (mroundFrom : Int32) (nm : Nat) (mfromHour : Int32) (mtoHour : Int32) (ns : Nat) (mfrom : Int32) (mto : Int32) (msort : Int32) (misFault : Int32) (mdeep : Int32) (mcoded : Int32) (mlines : Int32) (nl : Nat) (nc : Nat) (nF : Nat) (np : Nat) (ntr : Nat) (nb : Nat) (mbestCost : Int32) (nso : Nat) (nsi : Nat) (nit : Nat) (nsh : Nat) (nsf : Nat) (nss : Nat) (nrc : Nat) (mtraced : Int32) (mdealer : Int32) (mnumber : Int32) (mwhose : Int32) (msize : Int32) (misParted : Int32) (fnw : Nat → Int32) (ekq : fnw 5 = nI kq) (hkq : kq ≤ 12) : K_m_inViewX l G kq h0 nw nk mhasKept nt mtaped nr mrowMany mroundOf mroundFrom nm mfromHour mtoHour ns mfrom mto msort misFault mdeep mcoded mlines nl nc nF np ntr nb mbestCost nso nsi nit nsh nsf nss nrc mtraced mdealer mnumber mwhose msize misParted fnw := by
  refine MP.start (by decide +kernel) (Nat.le_of_ble_eq_true rfl) ?_
  intro p e s m below meth c ls hC hK hP hD hl
  refine absQ (fun Q0 hQ0 => ?_)
  have hl : lv_has ls 3 [(0, .ref h0)] := hl
  refine Kan8 hC (fun hx hb hr hml hB hown hlocks hnm => ?_)
  refine lv_iconst (v := 0) hx hb gX12_inView_0.1 (by decide) ?_
  refine lv_istore_n (lv' := [(1, .int 0), (0, .ref h0)]) hx hb gX12_inView_0.2.1 rfl hl (by decide) rfl (fun ls hl => ?_)
  refine lv_iconst (v := 0) hx hb gX12_inView_0.2.2.1 (by decide) ?_
  refine lv_istore_n (lv' := [(2, .int 0), (1, .int 0), (0, .ref h0)]) hx hb gX12_inView_0.2.2.2.1 rfl hl (by decide) rfl (fun ls hl => ?_)
  have keyP : ∀ (nP kP : Nat) (se : Int32) (ls : Array Slot), kP + nP = kq → (se = IVW (shf fnw 32) (fnw 0) (fnw 1) (fnw 2) kP) → lv_has ls 3 [(2, .int (nI kP)), (1, .int se), (0, .ref h0)] → W p l e (RM 3 0 0) s m ([.ref h0] : List Value).toArray below meth c s.heap [] 0 0 Q0 (F0 m 4 ls []) := by
    intro nP
    induction nP with
    | zero =>
      intro kP se ls hkP hse hl
      obtain rfl : kq = kP := by omega
      have hl : lv_has ls 3 [(2, .int (nI kq)), (1, .int se), (0, .ref h0)] := hl
      refine lv_iload_n hx hb gX12_inView_0.2.2.2.2.1 rfl (lv_at0 hl) ?_
      refine lv_aload_n hx hb gX12_inView_0.2.2.2.2.2.1 rfl (lv_at2 hl) ?_
      refine gf_X12_9 hC rfl hK hP 0 rfl rfl gX12_inView_0.2.2.2.2.2.2.1 ?_
      refine lv_iconst (v := 5) hx hb gX12_inView_0.2.2.2.2.2.2.2.1 (by decide) ?_
      refine ald hC hK hP 1 rfl (vin (by decide +kernel)) (k := 5) (by decide +kernel) (v := nI kq) (ekq) gX12_inView_0.2.2.2.2.2.2.2.2.1 ?_
      refine lv_icmp_ge (tgt := 38) hx hb gX12_inView_0.2.2.2.2.2.2.2.2.2 (by decide) (fun _ => ?_) (fun c9 => absurd (Int32.le_refl _) c9)
      refine lv_iload_n hx hb gX12_inView_2.2.2.2.2.1 rfl (lv_at1 hl) ?_
      refine toQ hQ0 ?_
      exact RP (v := se) hC (hse) rfl gX12_inView_2.2.2.2.2.2
    | succ nP ihP =>
      intro kP se ls hkP hse hl
      refine lv_iload_n hx hb gX12_inView_0.2.2.2.2.1 rfl (lv_at0 hl) ?_
      refine lv_aload_n hx hb gX12_inView_0.2.2.2.2.2.1 rfl (lv_at2 hl) ?_
      refine gf_X12_9 hC rfl hK hP 0 rfl rfl gX12_inView_0.2.2.2.2.2.2.1 ?_
      refine lv_iconst (v := 5) hx hb gX12_inView_0.2.2.2.2.2.2.2.1 (by decide) ?_
      refine ald hC hK hP 1 rfl (vin (by decide +kernel)) (k := 5) (by decide +kernel) (v := nI kq) (ekq) gX12_inView_0.2.2.2.2.2.2.2.2.1 ?_
      refine lv_icmp_ge (tgt := 38) hx hb gX12_inView_0.2.2.2.2.2.2.2.2.2 (by decide) (fun c9 => absurd c9 (nI_ge (a := kP) (b := kq) (by omega) (by omega))) (fun _ => ?_)
      refine lv_iload_n hx hb gX12_inView_1.1 rfl (lv_at1 hl) ?_
      refine lv_aload_n hx hb gX12_inView_1.2.1 rfl (lv_at2 hl) ?_
      refine lv_iload_n hx hb gX12_inView_1.2.2.1 rfl (lv_at0 hl) ?_
      refine pV hC hK hl hP hD (m_isInX l G h0 kP nw nk mhasKept nt mtaped nr mrowMany mroundOf mroundFrom nm mfromHour mtoHour ns mfrom mto msort misFault mdeep mcoded mlines nl nc nF np ntr nb mbestCost nso nsi nit nsh nsf nss nrc mtraced mdealer mnumber mwhose msize misParted fnw (by omega)) si_X12_103 [0, 1] sm_0_1 fm_0_1 nd_0_1 rfl rfl rfl rfl rfl (Nat.le_of_ble_eq_true rfl) rm_3_2_3 ⟨by first | exact Nat.le_of_ble_eq_true rfl | exact Nat.zero_le _, by first | exact Nat.le_of_ble_eq_true rfl | exact Nat.zero_le _⟩ gX12_inView_1.2.2.2.1 (Kors (Keqa fun a5848 => ?_) (Keqa fun a5848 => ?_))
      · refine lv_if_eq (tgt := 29) hx hb gX12_inView_1.2.2.2.2.1 (by decide) (fun c9 => absurd c9 (by decide)) (fun _ => ?_)
        refine lv_iconst (v := 1) hx hb gX12_inView_1.2.2.2.2.2.1 (by decide) ?_
        refine lv_iload_n hx hb gX12_inView_1.2.2.2.2.2.2.1 rfl (lv_at0 hl) ?_
        refine lv_ishl hx hb gX12_inView_1.2.2.2.2.2.2.2.1 ?_
        refine lv_goto (tgt := 30) hx hb gX12_inView_1.2.2.2.2.2.2.2.2.1 (by decide) ?_
        refine lv_ior hx hb gX12_inView_2.1 ?_
        refine lv_istore_n (lv' := [(1, .int (se ||| (1 <<< ((nI kP) &&& 31)))), (2, .int (nI kP)), (0, .ref h0)]) hx hb gX12_inView_2.2.1 rfl hl (by decide) rfl (fun ls hl => ?_)
        refine lv_iinc (v := nI (kP + 1)) (lv' := [(2, .int (nI (kP + 1))), (1, .int (se ||| (1 <<< ((nI kP) &&& 31)))), (0, .ref h0)]) hx hb gX12_inView_2.2.2.1 hl (k := 1) rfl (nI_1 _) (by decide) rfl (fun ls hl => ?_)
        refine lv_goto (tgt := 4) hx hb gX12_inView_2.2.2.2.1 (by decide) ?_
        have hst9 : se ||| (1 <<< ((nI kP) &&& 31)) = IVW (shf fnw 32) (fnw 0) (fnw 1) (fnw 2) (kP + 1) := (congrArg (fun z9 => z9 ||| 1 <<< (nI kP &&& 31)) hse).trans (ifc_t a5848).symm
        exact ihP (kP + 1) (se ||| (1 <<< ((nI kP) &&& 31))) _ (by omega) (by first | assumption | exact Or.inl rfl | exact Or.inr rfl | exact rfl) (lv_sub hl [0, 1, 2] rfl)
      · refine lv_if_eq (tgt := 29) hx hb gX12_inView_1.2.2.2.2.1 (by decide) (fun _ => ?_) (fun c9 => absurd (by decide) c9)
        refine lv_iconst (v := 0) hx hb gX12_inView_1.2.2.2.2.2.2.2.2.2 (by decide) ?_
        refine lv_ior hx hb gX12_inView_2.1 ?_
        refine lv_istore_n (lv' := [(1, .int (se ||| 0)), (2, .int (nI kP)), (0, .ref h0)]) hx hb gX12_inView_2.2.1 rfl hl (by decide) rfl (fun ls hl => ?_)
        refine lv_iinc (v := nI (kP + 1)) (lv' := [(2, .int (nI (kP + 1))), (1, .int (se ||| 0)), (0, .ref h0)]) hx hb gX12_inView_2.2.2.1 hl (k := 1) rfl (nI_1 _) (by decide) rfl (fun ls hl => ?_)
        refine lv_goto (tgt := 4) hx hb gX12_inView_2.2.2.2.1 (by decide) ?_
        have hst9 : se ||| 0 = IVW (shf fnw 32) (fnw 0) (fnw 1) (fnw 2) (kP + 1) := (Int32.or_zero).trans (hse.trans (ifc_f a5848).symm)
        exact ihP (kP + 1) (se ||| 0) _ (by omega) (by first | assumption | exact Or.inl rfl | exact Or.inr rfl | exact rfl) (lv_sub hl [0, 1, 2] rfl)
  exact keyP kq 0 0 _ (by omega) (by first | assumption | exact Or.inl rfl | exact Or.inr rfl | exact rfl) (lv_sub hl [0, 1, 2] rfl)
def K_w_view (l : Launch) (G : GG) (kq : Nat) (h0 : Nat) (x1 : Int32) (x2 : Int32) (nw : Nat) (nk : Nat) (mhasKept : Int32) (nt : Nat) (mtaped : Int32) (nr : Nat) (mrowMany : Int32) (mroundOf : Int32) (mroundFrom : Int32) (nm : Nat) (mfromHour : Int32) (mtoHour : Int32) (ns : Nat) (mfrom : Int32) (mto : Int32) (msort : Int32) (misFault : Int32) (mdeep : Int32) (mcoded : Int32) (mlines : Int32) (nl : Nat) (nc : Nat) (nF : Nat) (np : Nat) (ntr : Nat) (nb : Nat) (mbestCost : Int32) (nso : Nat) (nsi : Nat) (nit : Nat) (nsh : Nat) (nsf : Nat) (nss : Nat) (nrc : Nat) (mtraced : Int32) (mdealer : Int32) (mnumber : Int32) (mwhose : Int32) (msize : Int32) (misParted : Int32) (fnw : Nat → Int32) : Prop := MI l G yX12_view cX12_view 3 (some .int) 5 0 0 [.ref h0, .int x1, .int x2] [(h0, oX12 nw nk mhasKept nt mtaped nr mrowMany mroundOf mroundFrom 0 nm mfromHour mtoHour ns mfrom mto msort misFault mdeep mcoded mlines nl nc nF np ntr nb mbestCost nso nsi nit nsh nsf nss nrc mtraced mdealer mnumber mwhose msize misParted), (nw, iA G 1662 fnw)] (fun (r : Int32) (u : (Nat → Int32)) => (r = ifc (Wi x1 (-1) 499) (ifc (Wi x2 0 3) (BSUM (IVW (shf fnw 32) (fnw 0) x1 x2 kq) 16) (-1)) (-1)) ∧ (NI u ∧ VI u ∧ u 0 = fnw 0 ∧ u 1 = ifc (Wi x1 (-1) 499) (ifc (Wi x2 0 3) x1 (fnw 1)) (fnw 1) ∧ u 2 = ifc (Wi x1 (-1) 499) (ifc (Wi x2 0 3) x2 (fnw 2)) (fnw 2) ∧ u 3 = fnw 3 ∧ u 4 = fnw 4 ∧ u 5 = fnw 5 ∧ u 6 = fnw 6 ∧ u 8 = fnw 8 ∧ u 9 = fnw 9 ∧ u 10 = fnw 10 ∧ u 11 = fnw 11 ∧ FRO u fnw 0 0)) (fun u : (Nat → Int32) => [(h0, oX12 nw nk mhasKept nt mtaped nr mrowMany mroundOf mroundFrom 0 nm mfromHour mtoHour ns mfrom mto msort misFault mdeep mcoded mlines nl nc nF np ntr nb mbestCost nso nsi nit nsh nsf nss nrc mtraced mdealer mnumber mwhose msize misParted), (nw, iA G 1662 u)])
set_option maxHeartbeats 4000000 in
set_option maxRecDepth 100000 in
theorem w_view (l : Launch) (G : GG) (kq : Nat) (h0 : Nat) (x1 : Int32) (x2 : Int32) (nw : Nat) (nk : Nat) (mhasKept : Int32) (nt : Nat) (mtaped : Int32) (nr : Nat) (mrowMany : Int32) (mroundOf : Int32) (mroundFrom : Int32) (nm : Nat) (mfromHour : Int32) (mtoHour : Int32) (ns : Nat) (mfrom : Int32) (mto : Int32) (msort : Int32) (misFault : Int32) (mdeep : Int32) (mcoded : Int32) (mlines : Int32) (nl : Nat) (nc : Nat) (nF : Nat) (np : Nat) (ntr : Nat) (nb : Nat) (mbestCost : Int32) (nso : Nat) (nsi : Nat) (nit : Nat) (nsh : Nat) (nsf : Nat) (nss : Nat) (nrc : Nat) (mtraced : Int32) (mdealer : Int32) (mnumber : Int32) (mwhose : Int32) (msize : Int32) (misParted : Int32) (fnw : Nat → Int32) (ekq : fnw 5 = nI kq) (hkq : kq ≤ 12) (hN : NI fnw) (hV : VI fnw) : K_w_view l G kq h0 x1 x2 nw nk mhasKept nt mtaped nr mrowMany mroundOf mroundFrom nm mfromHour mtoHour ns mfrom mto msort misFault mdeep mcoded mlines nl nc nF np ntr nb mbestCost nso nsi nit nsh nsf nss nrc mtraced mdealer mnumber mwhose msize misParted fnw := by
  refine MI.start (by decide +kernel) (Nat.le_of_ble_eq_true rfl) ?_
  intro p e s m below meth c A ls hC hK hP hD hS hA hl
  refine absQ (fun Q0 hQ0 => ?_)
  have hl : lv_has ls 3 [(0, .ref h0), (1, .int x1), (2, .int x2)] := hl
  refine Kan8 hC (fun hx hb hr hml hB hown hlocks hnm => ?_)
  refine lv_iload_n hx hb gX12_view_0.1 rfl (lv_at1 hl) ?_
  refine lv_iconst (v := (-1)) hx hb gX12_view_0.2.1 (by decide) ?_
  refine lv_sipush (v := 499) hx hb gX12_view_0.2.2.1 (by decide) ?_
  refine pS hC hK hl (m_within l G x1 (-1) 499) si_X12_84 rfl rfl (Nat.le_of_ble_eq_true rfl) rm_5_1_3 ⟨by first | exact Nat.le_of_ble_eq_true rfl | exact Nat.zero_le _, by first | exact Nat.le_of_ble_eq_true rfl | exact Nat.zero_le _⟩ gX12_view_0.2.2.2.1 (Kors (Keqa fun a5850 => ?_) (Keqa fun a5850 => ?_))
  · refine lv_if_eq (tgt := 20) hx hb gX12_view_0.2.2.2.2.1 (by decide) (fun c9 => absurd c9 (by decide)) (fun _ => ?_)
    refine lv_iload_n hx hb gX12_view_0.2.2.2.2.2.1 rfl (lv_at2 hl) ?_
    refine lv_iconst (v := 0) hx hb gX12_view_0.2.2.2.2.2.2.1 (by decide) ?_
    refine lv_iconst (v := 3) hx hb gX12_view_0.2.2.2.2.2.2.2.1 (by decide) ?_
    refine pS hC hK hl (m_within l G x2 0 3) si_X12_84 rfl rfl (Nat.le_of_ble_eq_true rfl) rm_5_1_3 ⟨by first | exact Nat.le_of_ble_eq_true rfl | exact Nat.zero_le _, by first | exact Nat.le_of_ble_eq_true rfl | exact Nat.zero_le _⟩ gX12_view_0.2.2.2.2.2.2.2.2.1 (Kors (Keqa fun a5852 => ?_) (Keqa fun a5852 => ?_))
    · refine lv_if_ne (tgt := 22) hx hb gX12_view_0.2.2.2.2.2.2.2.2.2 (by decide) (fun _ => ?_) (fun c9 => absurd c9 (by decide))
      refine lv_aload_n hx hb gX12_view_1.2.2.1 rfl (lv_at0 hl) ?_
      refine gf_X12_9 hC rfl hK hP 0 rfl rfl gX12_view_1.2.2.2.1 ?_
      refine lv_iconst (v := 1) hx hb gX12_view_1.2.2.2.2.1 (by decide) ?_
      refine lv_iload_n hx hb gX12_view_1.2.2.2.2.2.1 rfl (lv_at1 hl) ?_
      refine ast hC hK hP hD hS 1 (ws' := [(h0, oX12 nw nk mhasKept nt mtaped nr mrowMany mroundOf mroundFrom 0 nm mfromHour mtoHour ns mfrom mto msort misFault mdeep mcoded mlines nl nc nF np ntr nb mbestCost nso nsi nit nsh nsf nss nrc mtraced mdealer mnumber mwhose msize misParted), (nw, iA G 1662 (upd fnw 1 x1))]) rfl (vin (by decide +kernel)) (k := 1) (by decide +kernel) (rfl) gX12_view_1.2.2.2.2.2.2.1 (fun H locs hP hD hS => ?_)
      refine lv_aload_n hx hb gX12_view_1.2.2.2.2.2.2.2.1 rfl (lv_at0 hl) ?_
      refine gf_X12_9 hC rfl hK hP 0 rfl rfl gX12_view_1.2.2.2.2.2.2.2.2.1 ?_
      refine lv_iconst (v := 2) hx hb gX12_view_1.2.2.2.2.2.2.2.2.2 (by decide) ?_
      refine lv_iload_n hx hb gX12_view_2.1 rfl (lv_at2 hl) ?_
      refine ast hC hK hP hD hS 1 (ws' := [(h0, oX12 nw nk mhasKept nt mtaped nr mrowMany mroundOf mroundFrom 0 nm mfromHour mtoHour ns mfrom mto msort misFault mdeep mcoded mlines nl nc nF np ntr nb mbestCost nso nsi nit nsh nsf nss nrc mtraced mdealer mnumber mwhose msize misParted), (nw, iA G 1662 (upd (upd fnw 1 x1) 2 x2))]) rfl (vin (by decide +kernel)) (k := 2) (by decide +kernel) (rfl) gX12_view_2.2.1 (fun H locs hP hD hS => ?_)
      have hN2 : NI (upd (upd fnw 1 x1) 2 x2) := ((hN).setA (bnd_low (by omega))).setA (bnd_low (by omega))
      have ekq2 : (upd (upd fnw 1 x1) 2 x2) 5 = nI kq := (upd_ne (by omega)).trans ((upd_ne (by omega)).trans ekq)
      refine lv_aload_n hx hb gX12_view_2.2.2.1 rfl (lv_at0 hl) ?_
      refine pV hC hK hl hP hD (m_inViewX l G kq h0 nw nk mhasKept nt mtaped nr mrowMany mroundOf mroundFrom nm mfromHour mtoHour ns mfrom mto msort misFault mdeep mcoded mlines nl nc nF np ntr nb mbestCost nso nsi nit nsh nsf nss nrc mtraced mdealer mnumber mwhose msize misParted (upd (upd fnw 1 x1) 2 x2) (ekq2) (hkq)) si_X12_107 [0, 1] sm_0_1 fm_0_1 nd_0_1 rfl rfl rfl rfl rfl (Nat.le_of_ble_eq_true rfl) rm_5_3_3 ⟨by first | exact Nat.le_of_ble_eq_true rfl | exact Nat.zero_le _, by first | exact Nat.le_of_ble_eq_true rfl | exact Nat.zero_le _⟩ gX12_view_2.2.2.2.1 (Keqr ?_)
      refine pS hC hK hl (m_bitsX l G (IVW (shf (upd (upd fnw 1 x1) 2 x2) 32) ((upd (upd fnw 1 x1) 2 x2) 0) ((upd (upd fnw 1 x1) 2 x2) 1) ((upd (upd fnw 1 x1) 2 x2) 2) kq)) si_X12_110 rfl rfl (Nat.le_of_ble_eq_true rfl) rm_5_1_3 ⟨by first | exact Nat.le_of_ble_eq_true rfl | exact Nat.zero_le _, by first | exact Nat.le_of_ble_eq_true rfl | exact Nat.zero_le _⟩ gX12_view_2.2.2.2.2.1 (Keqr ?_)
      refine toQ hQ0 ?_
      exact RI (v := (BSUM (IVW (shf (upd (upd fnw 1 x1) 2 x2) 32) ((upd (upd fnw 1 x1) 2 x2) 0) ((upd (upd fnw 1 x1) 2 x2) 1) ((upd (upd fnw 1 x1) 2 x2) 2) kq) 16)) hC hP hD hS [0, 1] (upd (upd fnw 1 x1) 2 x2) rfl rfl (by decide) (⟨(by first | rfl | (simp only [ifc_t ekq, ifc_t hkq, ifc_t hN, ifc_t hV, ifc_t a5850, ifc_t a5852, ifc_t hN2, ifc_t ekq2]; done) | (simp only [ifc_t ekq, ifc_t hkq, ifc_t hN, ifc_t hV, ifc_t a5850, ifc_t a5852, ifc_t hN2, ifc_t ekq2]; exact congrArg (fun z9 => BSUM (IVW z9 (fnw 0) x1 x2 kq) 16) ((sho (by omega)).trans (sho (by omega))))), ⟨((hN).setA (bnd_low (by omega))).setA (bnd_low (by omega)), ((hV).set (by omega)).set (by omega), (upd_ne (by omega)).trans (upd_ne (by omega)), (show _ = x1 from (upd_ne (by omega)).trans (upd_eq rfl)).trans (by first | rfl | (simp only [ifc_t ekq, ifc_t hkq, ifc_t hN, ifc_t hV, ifc_t a5850, ifc_t a5852, ifc_t hN2, ifc_t ekq2]; done) | (simp only [ifc_t ekq, ifc_t hkq, ifc_t hN, ifc_t hV, ifc_t a5850, ifc_t a5852, ifc_t hN2, ifc_t ekq2]; rfl)), (show _ = x2 from upd_eq rfl).trans (by first | rfl | (simp only [ifc_t ekq, ifc_t hkq, ifc_t hN, ifc_t hV, ifc_t a5850, ifc_t a5852, ifc_t hN2, ifc_t ekq2]; done) | (simp only [ifc_t ekq, ifc_t hkq, ifc_t hN, ifc_t hV, ifc_t a5850, ifc_t a5852, ifc_t hN2, ifc_t ekq2]; rfl)), (upd_ne (by omega)).trans (upd_ne (by omega)), (upd_ne (by omega)).trans (upd_ne (by omega)), (upd_ne (by omega)).trans (upd_ne (by omega)), (upd_ne (by omega)).trans (upd_ne (by omega)), (upd_ne (by omega)).trans (upd_ne (by omega)), (upd_ne (by omega)).trans (upd_ne (by omega)), (upd_ne (by omega)).trans (upd_ne (by omega)), (upd_ne (by omega)).trans (upd_ne (by omega)), ((FRO.rf).set (by omega)).set (by omega)⟩⟩) rfl gX12_view_2.2.2.2.2.2
    · refine lv_if_ne (tgt := 22) hx hb gX12_view_0.2.2.2.2.2.2.2.2.2 (by decide) (fun c9 => absurd (by decide) c9) (fun _ => ?_)
      refine lv_iconst (v := (-1)) hx hb gX12_view_1.1 (by decide) ?_
      refine toQ hQ0 ?_
      exact RI (v := (-1)) hC hP hD hS [0, 1] fnw rfl rfl (by decide) (⟨(by first | rfl | (simp only [ifc_t ekq, ifc_t hkq, ifc_t hN, ifc_t hV, ifc_t a5850, ifc_f a5852]; done) | (simp only [ifc_t ekq, ifc_t hkq, ifc_t hN, ifc_t hV, ifc_t a5850, ifc_f a5852]; exact congrArg (fun z9 => BSUM (IVW z9 (fnw 0) x1 x2 kq) 16) ((sho (by omega)).trans (sho (by omega))))), ⟨hN, hV, rfl, (rfl).trans ((by first | rfl | (simp only [ifc_t ekq, ifc_t hkq, ifc_t hN, ifc_t hV, ifc_t a5850, ifc_f a5852]; done) | (simp only [ifc_t ekq, ifc_t hkq, ifc_t hN, ifc_t hV, ifc_t a5850, ifc_f a5852]; rfl))), (rfl).trans ((by first | rfl | (simp only [ifc_t ekq, ifc_t hkq, ifc_t hN, ifc_t hV, ifc_t a5850, ifc_f a5852]; done) | (simp only [ifc_t ekq, ifc_t hkq, ifc_t hN, ifc_t hV, ifc_t a5850, ifc_f a5852]; rfl))), rfl, rfl, rfl, rfl, rfl, rfl, rfl, rfl, FRO.rf⟩⟩) rfl gX12_view_1.2.1
  · refine lv_if_eq (tgt := 20) hx hb gX12_view_0.2.2.2.2.1 (by decide) (fun _ => ?_) (fun c9 => absurd (by decide) c9)
    refine lv_iconst (v := (-1)) hx hb gX12_view_1.1 (by decide) ?_
    refine toQ hQ0 ?_
    exact RI (v := (-1)) hC hP hD hS [0, 1] fnw rfl rfl (by decide) (⟨(by first | rfl | (simp only [ifc_t ekq, ifc_t hkq, ifc_t hN, ifc_t hV, ifc_f a5850]; done) | (simp only [ifc_t ekq, ifc_t hkq, ifc_t hN, ifc_t hV, ifc_f a5850]; exact congrArg (fun z9 => BSUM (IVW z9 (fnw 0) x1 x2 kq) 16) ((sho (by omega)).trans (sho (by omega))))), ⟨hN, hV, rfl, (rfl).trans ((by first | rfl | (simp only [ifc_t ekq, ifc_t hkq, ifc_t hN, ifc_t hV, ifc_f a5850]; done) | (simp only [ifc_t ekq, ifc_t hkq, ifc_t hN, ifc_t hV, ifc_f a5850]; rfl))), (rfl).trans ((by first | rfl | (simp only [ifc_t ekq, ifc_t hkq, ifc_t hN, ifc_t hV, ifc_f a5850]; done) | (simp only [ifc_t ekq, ifc_t hkq, ifc_t hN, ifc_t hV, ifc_f a5850]; rfl))), rfl, rfl, rfl, rfl, rfl, rfl, rfl, rfl, FRO.rf⟩⟩) rfl gX12_view_1.2.1
def K_w_person (l : Launch) (G : GG) (kp : Nat) (h0 : Nat) (x1 : Int32) (x2 : Int32) (nw : Nat) (nk : Nat) (mhasKept : Int32) (nt : Nat) (mtaped : Int32) (nr : Nat) (mrowMany : Int32) (mroundOf : Int32) (mroundFrom : Int32) (mouts : Int32) (nm : Nat) (mfromHour : Int32) (mtoHour : Int32) (ns : Nat) (mfrom : Int32) (mto : Int32) (msort : Int32) (misFault : Int32) (mdeep : Int32) (mcoded : Int32) (mlines : Int32) (nl : Nat) (nc : Nat) (nF : Nat) (np : Nat) (ntr : Nat) (nb : Nat) (mbestCost : Int32) (nso : Nat) (nsi : Nat) (nit : Nat) (nsh : Nat) (nsf : Nat) (nss : Nat) (nrc : Nat) (mtraced : Int32) (mdealer : Int32) (mnumber : Int32) (mwhose : Int32) (msize : Int32) (misParted : Int32) (fnw : Nat → Int32) : Prop := MI l G yX12_person cX12_person 4 (some .int) 2 0 0 [.ref h0, .int x1, .int x2] [(h0, oX12 nw nk mhasKept nt mtaped nr mrowMany mroundOf mroundFrom mouts nm mfromHour mtoHour ns mfrom mto msort misFault mdeep mcoded mlines nl nc nF np ntr nb mbestCost nso nsi nit nsh nsf nss nrc mtraced mdealer mnumber mwhose msize misParted), (nw, iA G 1662 fnw)] (fun (r : Int32) (u : (Nat → Int32)) => (r = ifc (Wi x1 0 9) (ifc (Wi x2 0 48) (ifc (nI kp = 10) (-2) (nI kp)) (-1)) (-1)) ∧ (NI u ∧ VI u ∧ u 0 = fnw 0 ∧ u 1 = fnw 1 ∧ u 2 = fnw 2 ∧ u 3 = fnw 3 ∧ u 4 = ifc (Wi x1 0 9) (ifc (Wi x2 0 48) (ifc (nI kp = 10) (nI kp) (nI (kp + 1))) (nI kp)) (nI kp) ∧ u 5 = fnw 5 ∧ u 6 = fnw 6 ∧ u 8 = fnw 8 ∧ u 9 = fnw 9 ∧ u 10 = fnw 10 ∧ u 11 = fnw 11 ∧ FRO u fnw 12 32 ∧ ∀ i : Nat, i < 20 → u (12 + i) = ifc (Wi x1 0 9) (ifc (Wi x2 0 48) (ifc (nI kp = 10) (fnw (12 + i)) (rowu (shf fnw 12) (kp * 2) [x1, x2] i)) (fnw (12 + i))) (fnw (12 + i)))) (fun u : (Nat → Int32) => [(h0, oX12 nw nk mhasKept nt mtaped nr mrowMany mroundOf mroundFrom mouts nm mfromHour mtoHour ns mfrom mto msort misFault mdeep mcoded mlines nl nc nF np ntr nb mbestCost nso nsi nit nsh nsf nss nrc mtraced mdealer mnumber mwhose msize misParted), (nw, iA G 1662 u)])
set_option maxHeartbeats 4000000 in
set_option maxRecDepth 100000 in
theorem w_person (l : Launch) (G : GG) (kp : Nat) (h0 : Nat) (x1 : Int32) (x2 : Int32) (nw : Nat) (nk : Nat) (mhasKept : Int32) (nt : Nat) (mtaped : Int32) (nr : Nat) (mrowMany : Int32) (mroundOf : Int32) (mroundFrom : Int32) (mouts : Int32) (nm : Nat) (mfromHour : Int32) (mtoHour : Int32) (ns : Nat) (mfrom : Int32) (mto : Int32) (msort : Int32) (misFault : Int32) (mdeep : Int32) (mcoded : Int32) (mlines : Int32) (nl : Nat) (nc : Nat) (nF : Nat) (np : Nat) (ntr : Nat) (nb : Nat) (mbestCost : Int32) (nso : Nat) (nsi : Nat) (nit : Nat) (nsh : Nat) (nsf : Nat) (nss : Nat) (nrc : Nat) (mtraced : Int32) (mdealer : Int32) (mnumber : Int32) (mwhose : Int32) (msize : Int32) (misParted : Int32) (fnw : Nat → Int32) (ekp : fnw 4 = nI kp) (hkp : kp ≤ 10) (hN : NI fnw) (hV : VI fnw) : K_w_person l G kp h0 x1 x2 nw nk mhasKept nt mtaped nr mrowMany mroundOf mroundFrom mouts nm mfromHour mtoHour ns mfrom mto msort misFault mdeep mcoded mlines nl nc nF np ntr nb mbestCost nso nsi nit nsh nsf nss nrc mtraced mdealer mnumber mwhose msize misParted fnw := by
  refine MI.start (by decide +kernel) (Nat.le_of_ble_eq_true rfl) ?_
  intro p e s m below meth c A ls hC hK hP hD hS hA hl
  refine absQ (fun Q0 hQ0 => ?_)
  have hl : lv_has ls 4 [(0, .ref h0), (1, .int x1), (2, .int x2)] := hl
  refine Kan8 hC (fun hx hb hr hml hB hown hlocks hnm => ?_)
  refine lv_iload_n hx hb gX12_person_0.1 rfl (lv_at1 hl) ?_
  refine lv_iconst (v := 0) hx hb gX12_person_0.2.1 (by decide) ?_
  refine lv_bipush (v := 9) hx hb gX12_person_0.2.2.1 (by decide) ?_
  refine pS hC hK hl (m_within l G x1 0 9) si_X12_84 rfl rfl (Nat.le_of_ble_eq_true rfl) rm_2_1_3 ⟨by first | exact Nat.le_of_ble_eq_true rfl | exact Nat.zero_le _, by first | exact Nat.le_of_ble_eq_true rfl | exact Nat.zero_le _⟩ gX12_person_0.2.2.2.1 (Kors (Keqa fun a5858 => ?_) (Keqa fun a5858 => ?_))
  · refine lv_if_eq (tgt := 20) hx hb gX12_person_0.2.2.2.2.1 (by decide) (fun c9 => absurd c9 (by decide)) (fun _ => ?_)
    refine lv_iload_n hx hb gX12_person_0.2.2.2.2.2.1 rfl (lv_at2 hl) ?_
    refine lv_iconst (v := 0) hx hb gX12_person_0.2.2.2.2.2.2.1 (by decide) ?_
    refine lv_bipush (v := 48) hx hb gX12_person_0.2.2.2.2.2.2.2.1 (by decide) ?_
    refine pS hC hK hl (m_within l G x2 0 48) si_X12_84 rfl rfl (Nat.le_of_ble_eq_true rfl) rm_2_1_3 ⟨by first | exact Nat.le_of_ble_eq_true rfl | exact Nat.zero_le _, by first | exact Nat.le_of_ble_eq_true rfl | exact Nat.zero_le _⟩ gX12_person_0.2.2.2.2.2.2.2.2.1 (Kors (Keqa fun a5860 => ?_) (Keqa fun a5860 => ?_))
    · refine lv_if_ne (tgt := 22) hx hb gX12_person_0.2.2.2.2.2.2.2.2.2 (by decide) (fun _ => ?_) (fun c9 => absurd c9 (by decide))
      refine lv_aload_n hx hb gX12_person_1.2.2.1 rfl (lv_at0 hl) ?_
      refine gf_X12_9 hC rfl hK hP 0 rfl rfl gX12_person_1.2.2.2.1 ?_
      refine lv_iconst (v := 4) hx hb gX12_person_1.2.2.2.2.1 (by decide) ?_
      refine ald hC hK hP 1 rfl (vin (by decide +kernel)) (k := 4) (by decide +kernel) (v := nI kp) (ekp) gX12_person_1.2.2.2.2.2.1 ?_
      refine lv_istore_n (lv' := [(3, .int (nI kp)), (0, .ref h0), (1, .int x1), (2, .int x2)]) hx hb gX12_person_1.2.2.2.2.2.2.1 rfl hl (by decide) rfl (fun ls hl => ?_)
      refine lv_iload_n hx hb gX12_person_1.2.2.2.2.2.2.2.1 rfl (lv_at0 hl) ?_
      refine lv_bipush (v := 10) hx hb gX12_person_1.2.2.2.2.2.2.2.2.1 (by decide) ?_
      refine lv_icmp_ne (tgt := 38) hx hb gX12_person_1.2.2.2.2.2.2.2.2.2 (by decide) (fun c_32_5861 => ?_) (fun c_32_5861 => ?_)
      · have hfull9 := nI_neq (a := kp) (b := 10) (by omega) (by decide) c_32_5861
        obtain ⟨ja, hja, rfl⟩ := Wi_nat (N := 9) (by decide) a5858
        obtain ⟨jb, hjb, rfl⟩ := Wi_nat (N := 48) (by decide) a5860
        refine lv_aload_n hx hb gX12_person_2.2.2.1 rfl (lv_at1 hl) ?_
        refine gf_X12_9 hC rfl hK hP 0 rfl rfl gX12_person_2.2.2.2.1 ?_
        refine lv_bipush (v := 12) hx hb gX12_person_2.2.2.2.2.1 (by decide) ?_
        refine lv_iconst (v := 2) hx hb gX12_person_2.2.2.2.2.2.1 (by decide) ?_
        refine lv_iload_n hx hb gX12_person_2.2.2.2.2.2.2.1 rfl (lv_at0 hl) ?_
        refine lv_imul hx hb gX12_person_2.2.2.2.2.2.2.2.1 ?_
        refine eqi (x1 := nI (2 * kp)) (nI_mul 2 kp) ?_
        refine lv_iadd hx hb gX12_person_2.2.2.2.2.2.2.2.2.1 ?_
        refine eqi (x1 := nI (12 + 2 * kp)) (nI_add 12 (2 * kp)) ?_
        refine lv_iload_n hx hb gX12_person_2.2.2.2.2.2.2.2.2.2 rfl (lv_at2 hl) ?_
        refine astN hC hK hP hD hS 1 (ws' := [(h0, oX12 nw nk mhasKept nt mtaped nr mrowMany mroundOf mroundFrom mouts nm mfromHour mtoHour ns mfrom mto msort misFault mdeep mcoded mlines nl nc nF np ntr nb mbestCost nso nsi nit nsh nsf nss nrc mtraced mdealer mnumber mwhose msize misParted), (nw, iA G 1662 (upd fnw (12 + 2 * kp) (nI ja)))]) rfl (k := (12 + 2 * kp)) (by omega) (Nat.le_of_ble_eq_true rfl) (rfl) gX12_person_3.1 (fun H locs hP hD hS => ?_)
        refine lv_aload_n hx hb gX12_person_3.2.1 rfl (lv_at1 hl) ?_
        refine gf_X12_9 hC rfl hK hP 0 rfl rfl gX12_person_3.2.2.1 ?_
        refine lv_bipush (v := 12) hx hb gX12_person_3.2.2.2.1 (by decide) ?_
        refine lv_iconst (v := 2) hx hb gX12_person_3.2.2.2.2.1 (by decide) ?_
        refine lv_iload_n hx hb gX12_person_3.2.2.2.2.2.1 rfl (lv_at0 hl) ?_
        refine lv_imul hx hb gX12_person_3.2.2.2.2.2.2.1 ?_
        refine eqi (x1 := nI (2 * kp)) (nI_mul 2 kp) ?_
        refine lv_iadd hx hb gX12_person_3.2.2.2.2.2.2.2.1 ?_
        refine eqi (x1 := nI (12 + 2 * kp)) (nI_add 12 (2 * kp)) ?_
        refine lv_iconst (v := 1) hx hb gX12_person_3.2.2.2.2.2.2.2.2.1 (by decide) ?_
        refine lv_iadd hx hb gX12_person_3.2.2.2.2.2.2.2.2.2 ?_
        refine eqi (x1 := nI (12 + 2 * kp + 1)) (nI_add (12 + 2 * kp) 1) ?_
        refine lv_iload_n hx hb gX12_person_4.1 rfl (lv_at3 hl) ?_
        refine astN hC hK hP hD hS 1 (ws' := [(h0, oX12 nw nk mhasKept nt mtaped nr mrowMany mroundOf mroundFrom mouts nm mfromHour mtoHour ns mfrom mto msort misFault mdeep mcoded mlines nl nc nF np ntr nb mbestCost nso nsi nit nsh nsf nss nrc mtraced mdealer mnumber mwhose msize misParted), (nw, iA G 1662 (upd (upd fnw (12 + 2 * kp) (nI ja)) (12 + 2 * kp + 1) (nI jb)))]) rfl (k := (12 + 2 * kp + 1)) (by omega) (Nat.le_of_ble_eq_true rfl) (rfl) gX12_person_4.2.1 (fun H locs hP hD hS => ?_)
        refine lv_aload_n hx hb gX12_person_4.2.2.1 rfl (lv_at1 hl) ?_
        refine gf_X12_9 hC rfl hK hP 0 rfl rfl gX12_person_4.2.2.2.1 ?_
        refine lv_iconst (v := 4) hx hb gX12_person_4.2.2.2.2.1 (by decide) ?_
        refine lv_dup2_11 hx hb gX12_person_4.2.2.2.2.2.1 rfl rfl ?_
        refine ald hC hK hP 1 rfl (vin (by decide +kernel)) (k := 4) (by decide +kernel) (v := nI kp) ((upd_ne (by omega)).trans ((upd_ne (by omega)).trans (ekp))) gX12_person_4.2.2.2.2.2.2.1 ?_
        refine lv_iconst (v := 1) hx hb gX12_person_4.2.2.2.2.2.2.2.1 (by decide) ?_
        refine lv_iadd hx hb gX12_person_4.2.2.2.2.2.2.2.2.1 ?_
        refine eqi (x1 := nI (kp + 1)) (nI_add kp 1) ?_
        refine ast hC hK hP hD hS 1 (ws' := [(h0, oX12 nw nk mhasKept nt mtaped nr mrowMany mroundOf mroundFrom mouts nm mfromHour mtoHour ns mfrom mto msort misFault mdeep mcoded mlines nl nc nF np ntr nb mbestCost nso nsi nit nsh nsf nss nrc mtraced mdealer mnumber mwhose msize misParted), (nw, iA G 1662 (upd (upd (upd fnw (12 + 2 * kp) (nI ja)) (12 + 2 * kp + 1) (nI jb)) 4 (nI (kp + 1))))]) rfl (vin (by decide +kernel)) (k := 4) (by decide +kernel) (rfl) gX12_person_4.2.2.2.2.2.2.2.2.2 (fun H locs hP hD hS => ?_)
        refine lv_iload_n hx hb gX12_person_5.1 rfl (lv_at0 hl) ?_
        have tu5862 : shf (upd (upd (upd fnw (12 + 2 * kp) (nI ja)) (12 + 2 * kp + 1) (nI jb)) 4 (nI (kp + 1))) 12 = rowu (shf fnw 12) (kp * 2) [(nI ja), (nI jb)] := by rw [sho (by omega), shu (j := kp * 2 + 1) (by omega), shu (j := kp * 2 + 0) (by omega)]; rfl
        refine toQ hQ0 ?_
        exact RI (v := nI kp) hC hP hD hS [0, 1] (upd (upd (upd fnw (12 + 2 * kp) (nI ja)) (12 + 2 * kp + 1) (nI jb)) 4 (nI (kp + 1))) rfl rfl (by decide) (⟨(by first | rfl | (simp only [ifc_t ekp, ifc_t hkp, ifc_t hN, ifc_t hV, ifc_t a5858, ifc_t a5860, ifc_f c_32_5861]; done) | (simp only [ifc_t ekp, ifc_t hkp, ifc_t hN, ifc_t hV, ifc_t a5858, ifc_t a5860, ifc_f c_32_5861]; rfl)), ⟨(((hN).setN (B := 48) (bnd_per (by omega) (by omega)) (by omega) (by decide)).setN (B := 48) (bnd_per (by omega) (by omega)) (by omega) (by decide)).setN (B := 10) (show bnd 4 = (0, ((10 : Nat) : Int)) from by decide +kernel) (by omega) (by decide), (((hV).set (by omega)).set (by omega)).set (by omega), (upd_ne (by omega)).trans ((upd_ne (by omega)).trans (upd_ne (by omega))), (upd_ne (by omega)).trans ((upd_ne (by omega)).trans (upd_ne (by omega))), (upd_ne (by omega)).trans ((upd_ne (by omega)).trans (upd_ne (by omega))), (upd_ne (by omega)).trans ((upd_ne (by omega)).trans (upd_ne (by omega))), (show _ = (nI (kp + 1)) from upd_eq rfl).trans (by first | rfl | (simp only [ifc_t ekp, ifc_t hkp, ifc_t hN, ifc_t hV, ifc_t a5858, ifc_t a5860, ifc_f c_32_5861]; done) | (simp only [ifc_t ekp, ifc_t hkp, ifc_t hN, ifc_t hV, ifc_t a5858, ifc_t a5860, ifc_f c_32_5861]; rfl)), (upd_ne (by omega)).trans ((upd_ne (by omega)).trans (upd_ne (by omega))), (upd_ne (by omega)).trans ((upd_ne (by omega)).trans (upd_ne (by omega))), (upd_ne (by omega)).trans ((upd_ne (by omega)).trans (upd_ne (by omega))), (upd_ne (by omega)).trans ((upd_ne (by omega)).trans (upd_ne (by omega))), (upd_ne (by omega)).trans ((upd_ne (by omega)).trans (upd_ne (by omega))), (upd_ne (by omega)).trans ((upd_ne (by omega)).trans (upd_ne (by omega))), (((FRO.rf).set (by omega)).set (by omega)).set (by omega), (fun i hi9 => by simp only [ifc_t ekp, ifc_t hkp, ifc_t hN, ifc_t hV, ifc_t a5858, ifc_t a5860, ifc_f c_32_5861]; exact (congrFun tu5862 i).trans (by first | rfl | (simp only [SCX]; done)))⟩⟩) rfl gX12_person_5.2
      · refine lv_bipush (v := (-2)) hx hb gX12_person_2.1 (by decide) ?_
        refine toQ hQ0 ?_
        exact RI (v := (-2)) hC hP hD hS [0, 1] fnw rfl rfl (by decide) (⟨(by first | rfl | (simp only [ifc_t ekp, ifc_t hkp, ifc_t hN, ifc_t hV, ifc_t a5858, ifc_t a5860, ifc_t c_32_5861]; done) | (simp only [ifc_t ekp, ifc_t hkp, ifc_t hN, ifc_t hV, ifc_t a5858, ifc_t a5860, ifc_t c_32_5861]; rfl)), ⟨hN, hV, rfl, rfl, rfl, rfl, (rfl).trans ((ekp).trans (by first | rfl | (simp only [ifc_t ekp, ifc_t hkp, ifc_t hN, ifc_t hV, ifc_t a5858, ifc_t a5860, ifc_t c_32_5861]; done) | (simp only [ifc_t ekp, ifc_t hkp, ifc_t hN, ifc_t hV, ifc_t a5858, ifc_t a5860, ifc_t c_32_5861]; rfl))), rfl, rfl, rfl, rfl, rfl, rfl, FRO.rf, (fun i hi9 => by first | rfl | (simp only [ifc_t ekp, ifc_t hkp, ifc_t hN, ifc_t hV, ifc_t a5858, ifc_t a5860, ifc_t c_32_5861]; done))⟩⟩) rfl gX12_person_2.2.1
    · refine lv_if_ne (tgt := 22) hx hb gX12_person_0.2.2.2.2.2.2.2.2.2 (by decide) (fun c9 => absurd (by decide) c9) (fun _ => ?_)
      refine lv_iconst (v := (-1)) hx hb gX12_person_1.1 (by decide) ?_
      refine toQ hQ0 ?_
      exact RI (v := (-1)) hC hP hD hS [0, 1] fnw rfl rfl (by decide) (⟨(by first | rfl | (simp only [ifc_t ekp, ifc_t hkp, ifc_t hN, ifc_t hV, ifc_t a5858, ifc_f a5860]; done) | (simp only [ifc_t ekp, ifc_t hkp, ifc_t hN, ifc_t hV, ifc_t a5858, ifc_f a5860]; rfl)), ⟨hN, hV, rfl, rfl, rfl, rfl, (rfl).trans ((ekp).trans (by first | rfl | (simp only [ifc_t ekp, ifc_t hkp, ifc_t hN, ifc_t hV, ifc_t a5858, ifc_f a5860]; done) | (simp only [ifc_t ekp, ifc_t hkp, ifc_t hN, ifc_t hV, ifc_t a5858, ifc_f a5860]; rfl))), rfl, rfl, rfl, rfl, rfl, rfl, FRO.rf, (fun i hi9 => by first | rfl | (simp only [ifc_t ekp, ifc_t hkp, ifc_t hN, ifc_t hV, ifc_t a5858, ifc_f a5860]; done))⟩⟩) rfl gX12_person_1.2.1
  · refine lv_if_eq (tgt := 20) hx hb gX12_person_0.2.2.2.2.1 (by decide) (fun _ => ?_) (fun c9 => absurd (by decide) c9)
    refine lv_iconst (v := (-1)) hx hb gX12_person_1.1 (by decide) ?_
    refine toQ hQ0 ?_
    exact RI (v := (-1)) hC hP hD hS [0, 1] fnw rfl rfl (by decide) (⟨(by first | rfl | (simp only [ifc_t ekp, ifc_t hkp, ifc_t hN, ifc_t hV, ifc_f a5858]; done) | (simp only [ifc_t ekp, ifc_t hkp, ifc_t hN, ifc_t hV, ifc_f a5858]; rfl)), ⟨hN, hV, rfl, rfl, rfl, rfl, (rfl).trans ((ekp).trans (by first | rfl | (simp only [ifc_t ekp, ifc_t hkp, ifc_t hN, ifc_t hV, ifc_f a5858]; done) | (simp only [ifc_t ekp, ifc_t hkp, ifc_t hN, ifc_t hV, ifc_f a5858]; rfl))), rfl, rfl, rfl, rfl, rfl, rfl, FRO.rf, (fun i hi9 => by first | rfl | (simp only [ifc_t ekp, ifc_t hkp, ifc_t hN, ifc_t hV, ifc_f a5858]; done))⟩⟩) rfl gX12_person_1.2.1
def K_w_paper (l : Launch) (G : GG) (kp : Nat) (kq : Nat) (h0 : Nat) (x1 : Int32) (x2 : Int32) (x3 : Int32) (x4 : Int32) (nw : Nat) (nk : Nat) (mhasKept : Int32) (nt : Nat) (mtaped : Int32) (nr : Nat) (mrowMany : Int32) (mroundOf : Int32) (mroundFrom : Int32) (mouts : Int32) (nm : Nat) (mfromHour : Int32) (mtoHour : Int32) (ns : Nat) (mfrom : Int32) (mto : Int32) (msort : Int32) (misFault : Int32) (mdeep : Int32) (mcoded : Int32) (mlines : Int32) (nl : Nat) (nc : Nat) (nF : Nat) (np : Nat) (ntr : Nat) (nb : Nat) (mbestCost : Int32) (nso : Nat) (nsi : Nat) (nit : Nat) (nsh : Nat) (nsf : Nat) (nss : Nat) (nrc : Nat) (mtraced : Int32) (mdealer : Int32) (mnumber : Int32) (mwhose : Int32) (msize : Int32) (misParted : Int32) (fnw : Nat → Int32) : Prop := MI l G yX12_paper_ cX12_paper_ 7 (some .int) 3 0 0 [.ref h0, .int x1, .int x2, .int x3, .int x4] [(h0, oX12 nw nk mhasKept nt mtaped nr mrowMany mroundOf mroundFrom mouts nm mfromHour mtoHour ns mfrom mto msort misFault mdeep mcoded mlines nl nc nF np ntr nb mbestCost nso nsi nit nsh nsf nss nrc mtraced mdealer mnumber mwhose msize misParted), (nw, iA G 1662 fnw)] (fun (r : Int32) (u : (Nat → Int32)) => (r = ifc (Hs x1 kp) (ifc (HA kp x2) (ifc (Wi x3 0 255) (ifc (Wi x4 0 3) (ifc (nI kq = 12) (-2) (nI kq)) (-1)) (-1)) (-1)) (-1)) ∧ (NI u ∧ VI u ∧ u 0 = fnw 0 ∧ u 1 = fnw 1 ∧ u 2 = fnw 2 ∧ u 3 = fnw 3 ∧ u 4 = fnw 4 ∧ u 5 = ifc (Hs x1 kp) (ifc (HA kp x2) (ifc (Wi x3 0 255) (ifc (Wi x4 0 3) (ifc (nI kq = 12) (nI kq) (nI (kq + 1))) (nI kq)) (nI kq)) (nI kq)) (nI kq) ∧ u 6 = fnw 6 ∧ u 8 = fnw 8 ∧ u 9 = fnw 9 ∧ u 10 = fnw 10 ∧ u 11 = fnw 11 ∧ FRO u fnw 32 104 ∧ ∀ i : Nat, i < 72 → u (32 + i) = ifc (Hs x1 kp) (ifc (HA kp x2) (ifc (Wi x3 0 255) (ifc (Wi x4 0 3) (ifc (nI kq = 12) (fnw (32 + i)) (rowu (shf fnw 32) (kq * 6) [x1, x2, x3, x4, fnw 0, (-1)] i)) (fnw (32 + i))) (fnw (32 + i))) (fnw (32 + i))) (fnw (32 + i)))) (fun u : (Nat → Int32) => [(h0, oX12 nw nk mhasKept nt mtaped nr mrowMany mroundOf mroundFrom mouts nm mfromHour mtoHour ns mfrom mto msort misFault mdeep mcoded mlines nl nc nF np ntr nb mbestCost nso nsi nit nsh nsf nss nrc mtraced mdealer mnumber mwhose msize misParted), (nw, iA G 1662 u)])
set_option maxHeartbeats 4000000 in
set_option maxRecDepth 100000 in
theorem w_paper (l : Launch) (G : GG) (kp : Nat) (kq : Nat) (h0 : Nat) (x1 : Int32) (x2 : Int32) (x3 : Int32) (x4 : Int32) (nw : Nat) (nk : Nat) (mhasKept : Int32) (nt : Nat) (mtaped : Int32) (nr : Nat) (mrowMany : Int32) (mroundOf : Int32) (mroundFrom : Int32) (mouts : Int32) (nm : Nat) (mfromHour : Int32) (mtoHour : Int32) (ns : Nat) (mfrom : Int32) (mto : Int32) (msort : Int32) (misFault : Int32) (mdeep : Int32) (mcoded : Int32) (mlines : Int32) (nl : Nat) (nc : Nat) (nF : Nat) (np : Nat) (ntr : Nat) (nb : Nat) (mbestCost : Int32) (nso : Nat) (nsi : Nat) (nit : Nat) (nsh : Nat) (nsf : Nat) (nss : Nat) (nrc : Nat) (mtraced : Int32) (mdealer : Int32) (mnumber : Int32) (mwhose : Int32) (msize : Int32) (misParted : Int32) (fnw : Nat → Int32) (ekp : fnw 4 = nI kp) (hkp : kp ≤ 10) (ekq : fnw 5 = nI kq) (hkq : kq ≤ 12) (hN : NI fnw) (hV : VI fnw) : K_w_paper l G kp kq h0 x1 x2 x3 x4 nw nk mhasKept nt mtaped nr mrowMany mroundOf mroundFrom mouts nm mfromHour mtoHour ns mfrom mto msort misFault mdeep mcoded mlines nl nc nF np ntr nb mbestCost nso nsi nit nsh nsf nss nrc mtraced mdealer mnumber mwhose msize misParted fnw := by
  refine MI.start (by decide +kernel) (Nat.le_of_ble_eq_true rfl) ?_
  intro p e s m below meth c A ls hC hK hP hD hS hA hl
  refine absQ (fun Q0 hQ0 => ?_)
  have hl : lv_has ls 7 [(0, .ref h0), (1, .int x1), (2, .int x2), (3, .int x3), (4, .int x4)] := hl
  refine Kan8 hC (fun hx hb hr hml hB hown hlocks hnm => ?_)
  refine lv_aload_n hx hb gX12_paper__0.1 rfl (lv_at0 hl) ?_
  refine lv_iload_n hx hb gX12_paper__0.2.1 rfl (lv_at1 hl) ?_
  refine lv_iconst (v := 4) hx hb gX12_paper__0.2.2.1 (by decide) ?_
  refine pV hC hK hl hP hD (m_is l G kp h0 x1 4 nw nk mhasKept nt mtaped nr mrowMany mroundOf mroundFrom mouts nm mfromHour mtoHour ns mfrom mto msort misFault mdeep mcoded mlines nl nc nF np ntr nb mbestCost nso nsi nit nsh nsf nss nrc mtraced mdealer mnumber mwhose msize misParted fnw (by omega) (ekp) (by omega)) si_X12_120 [0, 1] sm_0_1 fm_0_1 nd_0_1 rfl rfl rfl rfl rfl (Nat.le_of_ble_eq_true rfl) rm_3_2_3 ⟨by first | exact Nat.le_of_ble_eq_true rfl | exact Nat.zero_le _, by first | exact Nat.le_of_ble_eq_true rfl | exact Nat.zero_le _⟩ gX12_paper__0.2.2.2.1 (Kors (Keqa fun a5864 => ?_) (Keqa fun a5864 => ?_))
  · refine lv_if_eq (tgt := 46) hx hb gX12_paper__0.2.2.2.2.1 (by decide) (fun c9 => absurd c9 (by decide)) (fun _ => ?_)
    refine lv_iload_n hx hb gX12_paper__0.2.2.2.2.2.1 rfl (lv_at2 hl) ?_
    refine lv_if_lt (tgt := 46) hx hb gX12_paper__0.2.2.2.2.2.2.1 (by decide) (fun c_10_5865 => ?_) (fun c_10_5865 => ?_)
    · refine lv_iconst (v := (-1)) hx hb gX12_paper__2.2.2.2.2.2.1 (by decide) ?_
      refine toQ hQ0 ?_
      exact RI (v := (-1)) hC hP hD hS [0, 1] fnw rfl rfl (by decide) (⟨(by first | rfl | (simp only [ifc_t ekp, ifc_t hkp, ifc_t ekq, ifc_t hkq, ifc_t hN, ifc_t hV, ifc_t a5864, ifc_t c_10_5865, ifc_f (q := HA kp x2) (fun h9 => h9.1 c_10_5865)]; done) | (simp only [ifc_t ekp, ifc_t hkp, ifc_t ekq, ifc_t hkq, ifc_t hN, ifc_t hV, ifc_t a5864, ifc_t c_10_5865, ifc_f (q := HA kp x2) (fun h9 => h9.1 c_10_5865)]; rfl)), ⟨hN, hV, rfl, rfl, rfl, rfl, rfl, (rfl).trans ((ekq).trans (by first | rfl | (simp only [ifc_t ekp, ifc_t hkp, ifc_t ekq, ifc_t hkq, ifc_t hN, ifc_t hV, ifc_t a5864, ifc_t c_10_5865, ifc_f (q := HA kp x2) (fun h9 => h9.1 c_10_5865)]; done) | (simp only [ifc_t ekp, ifc_t hkp, ifc_t ekq, ifc_t hkq, ifc_t hN, ifc_t hV, ifc_t a5864, ifc_t c_10_5865, ifc_f (q := HA kp x2) (fun h9 => h9.1 c_10_5865)]; rfl))), rfl, rfl, rfl, rfl, rfl, FRO.rf, (fun i hi9 => by first | rfl | (simp only [ifc_t ekp, ifc_t hkp, ifc_t ekq, ifc_t hkq, ifc_t hN, ifc_t hV, ifc_t a5864, ifc_t c_10_5865, ifc_f (q := HA kp x2) (fun h9 => h9.1 c_10_5865)]; done))⟩⟩) rfl gX12_paper__2.2.2.2.2.2.2.1
    · refine lv_iload_n hx hb gX12_paper__0.2.2.2.2.2.2.2.1 rfl (lv_at2 hl) ?_
      refine lv_iconst (v := 1) hx hb gX12_paper__0.2.2.2.2.2.2.2.2.1 (by decide) ?_
      refine lv_aload_n hx hb gX12_paper__0.2.2.2.2.2.2.2.2.2 rfl (lv_at0 hl) ?_
      refine gf_X12_9 hC rfl hK hP 0 rfl rfl gX12_paper__1.1 ?_
      refine lv_iconst (v := 4) hx hb gX12_paper__1.2.1 (by decide) ?_
      refine ald hC hK hP 1 rfl (vin (by decide +kernel)) (k := 4) (by decide +kernel) (v := nI kp) (ekp) gX12_paper__1.2.2.1 ?_
      refine lv_ishl hx hb gX12_paper__1.2.2.2.1 ?_
      refine lv_icmp_ge (tgt := 46) hx hb gX12_paper__1.2.2.2.2.1 (by decide) (fun c_22_5866 => ?_) (fun c_22_5866 => ?_)
      · refine lv_iconst (v := (-1)) hx hb gX12_paper__2.2.2.2.2.2.1 (by decide) ?_
        refine toQ hQ0 ?_
        exact RI (v := (-1)) hC hP hD hS [0, 1] fnw rfl rfl (by decide) (⟨(by first | rfl | (simp only [ifc_t ekp, ifc_t hkp, ifc_t ekq, ifc_t hkq, ifc_t hN, ifc_t hV, ifc_t a5864, ifc_f c_10_5865, ifc_t c_22_5866, ifc_f (q := HA kp x2) (fun h9 => Int32.not_le.mpr h9.2 c_22_5866)]; done) | (simp only [ifc_t ekp, ifc_t hkp, ifc_t ekq, ifc_t hkq, ifc_t hN, ifc_t hV, ifc_t a5864, ifc_f c_10_5865, ifc_t c_22_5866, ifc_f (q := HA kp x2) (fun h9 => Int32.not_le.mpr h9.2 c_22_5866)]; rfl)), ⟨hN, hV, rfl, rfl, rfl, rfl, rfl, (rfl).trans ((ekq).trans (by first | rfl | (simp only [ifc_t ekp, ifc_t hkp, ifc_t ekq, ifc_t hkq, ifc_t hN, ifc_t hV, ifc_t a5864, ifc_f c_10_5865, ifc_t c_22_5866, ifc_f (q := HA kp x2) (fun h9 => Int32.not_le.mpr h9.2 c_22_5866)]; done) | (simp only [ifc_t ekp, ifc_t hkp, ifc_t ekq, ifc_t hkq, ifc_t hN, ifc_t hV, ifc_t a5864, ifc_f c_10_5865, ifc_t c_22_5866, ifc_f (q := HA kp x2) (fun h9 => Int32.not_le.mpr h9.2 c_22_5866)]; rfl))), rfl, rfl, rfl, rfl, rfl, FRO.rf, (fun i hi9 => by first | rfl | (simp only [ifc_t ekp, ifc_t hkp, ifc_t ekq, ifc_t hkq, ifc_t hN, ifc_t hV, ifc_t a5864, ifc_f c_10_5865, ifc_t c_22_5866, ifc_f (q := HA kp x2) (fun h9 => Int32.not_le.mpr h9.2 c_22_5866)]; done))⟩⟩) rfl gX12_paper__2.2.2.2.2.2.2.1
      · refine lv_iload_n hx hb gX12_paper__1.2.2.2.2.2.1 rfl (lv_at3 hl) ?_
        refine lv_iconst (v := 0) hx hb gX12_paper__1.2.2.2.2.2.2.1 (by decide) ?_
        refine lv_sipush (v := 255) hx hb gX12_paper__1.2.2.2.2.2.2.2.1 (by decide) ?_
        refine pS hC hK hl (m_within l G x3 0 255) si_X12_84 rfl rfl (Nat.le_of_ble_eq_true rfl) rm_3_1_3 ⟨by first | exact Nat.le_of_ble_eq_true rfl | exact Nat.zero_le _, by first | exact Nat.le_of_ble_eq_true rfl | exact Nat.zero_le _⟩ gX12_paper__1.2.2.2.2.2.2.2.2.1 (Kors (Keqa fun a5868 => ?_) (Keqa fun a5868 => ?_))
        · refine lv_if_eq (tgt := 46) hx hb gX12_paper__1.2.2.2.2.2.2.2.2.2 (by decide) (fun c9 => absurd c9 (by decide)) (fun _ => ?_)
          refine lv_iload hx hb gX12_paper__2.1 (lv_at4 hl) ?_
          refine lv_iconst (v := 0) hx hb gX12_paper__2.2.1 (by decide) ?_
          refine lv_iconst (v := 3) hx hb gX12_paper__2.2.2.1 (by decide) ?_
          refine pS hC hK hl (m_within l G x4 0 3) si_X12_84 rfl rfl (Nat.le_of_ble_eq_true rfl) rm_3_1_3 ⟨by first | exact Nat.le_of_ble_eq_true rfl | exact Nat.zero_le _, by first | exact Nat.le_of_ble_eq_true rfl | exact Nat.zero_le _⟩ gX12_paper__2.2.2.2.1 (Kors (Keqa fun a5870 => ?_) (Keqa fun a5870 => ?_))
          · refine lv_if_ne (tgt := 48) hx hb gX12_paper__2.2.2.2.2.1 (by decide) (fun _ => ?_) (fun c9 => absurd c9 (by decide))
            refine lv_aload_n hx hb gX12_paper__2.2.2.2.2.2.2.2.1 rfl (lv_at0 hl) ?_
            refine gf_X12_9 hC rfl hK hP 0 rfl rfl gX12_paper__2.2.2.2.2.2.2.2.2.1 ?_
            refine lv_iconst (v := 5) hx hb gX12_paper__2.2.2.2.2.2.2.2.2.2 (by decide) ?_
            refine ald hC hK hP 1 rfl (vin (by decide +kernel)) (k := 5) (by decide +kernel) (v := nI kq) (ekq) gX12_paper__3.1 ?_
            refine lv_istore (lv' := [(5, .int (nI kq)), (0, .ref h0), (1, .int x1), (2, .int x2), (3, .int x3), (4, .int x4)]) hx hb gX12_paper__3.2.1 hl (by decide) rfl (fun ls hl => ?_)
            refine lv_iload hx hb gX12_paper__3.2.2.1 (lv_at0 hl) ?_
            refine lv_bipush (v := 12) hx hb gX12_paper__3.2.2.2.1 (by decide) ?_
            refine lv_icmp_ne (tgt := 66) hx hb gX12_paper__3.2.2.2.2.1 (by decide) (fun c_60_5871 => ?_) (fun c_60_5871 => ?_)
            · have hfull9 := nI_neq (a := kq) (b := 12) (by omega) (by decide) c_60_5871
              refine lv_bipush (v := 32) hx hb gX12_paper__3.2.2.2.2.2.2.2.1 (by decide) ?_
              refine lv_bipush (v := 6) hx hb gX12_paper__3.2.2.2.2.2.2.2.2.1 (by decide) ?_
              refine lv_iload hx hb gX12_paper__3.2.2.2.2.2.2.2.2.2 (lv_at0 hl) ?_
              refine lv_imul hx hb gX12_paper__4.1 ?_
              refine eqi (x1 := nI (6 * kq)) (nI_mul 6 kq) ?_
              refine lv_iadd hx hb gX12_paper__4.2.1 ?_
              refine eqi (x1 := nI (32 + 6 * kq)) (nI_add 32 (6 * kq)) ?_
              refine lv_istore (lv' := [(6, .int (nI (32 + 6 * kq))), (5, .int (nI kq)), (0, .ref h0), (1, .int x1), (2, .int x2), (3, .int x3), (4, .int x4)]) hx hb gX12_paper__4.2.2.1 hl (by decide) rfl (fun ls hl => ?_)
              refine lv_aload_n hx hb gX12_paper__4.2.2.2.1 rfl (lv_at2 hl) ?_
              refine gf_X12_9 hC rfl hK hP 0 rfl rfl gX12_paper__4.2.2.2.2.1 ?_
              refine lv_iload hx hb gX12_paper__4.2.2.2.2.2.1 (lv_at0 hl) ?_
              refine lv_iconst (v := 0) hx hb gX12_paper__4.2.2.2.2.2.2.1 (by decide) ?_
              refine lv_iadd hx hb gX12_paper__4.2.2.2.2.2.2.2.1 ?_
              refine eqi (x1 := nI (32 + 6 * kq + 0)) (nI_add (32 + 6 * kq) 0) ?_
              refine lv_iload_n hx hb gX12_paper__4.2.2.2.2.2.2.2.2.1 rfl (lv_at3 hl) ?_
              refine astN hC hK hP hD hS 1 (ws' := [(h0, oX12 nw nk mhasKept nt mtaped nr mrowMany mroundOf mroundFrom mouts nm mfromHour mtoHour ns mfrom mto msort misFault mdeep mcoded mlines nl nc nF np ntr nb mbestCost nso nsi nit nsh nsf nss nrc mtraced mdealer mnumber mwhose msize misParted), (nw, iA G 1662 (upd fnw (32 + 6 * kq + 0) x1))]) rfl (k := (32 + 6 * kq + 0)) (by omega) (Nat.le_of_ble_eq_true rfl) (rfl) gX12_paper__4.2.2.2.2.2.2.2.2.2 (fun H locs hP hD hS => ?_)
              refine lv_aload_n hx hb gX12_paper__5.1 rfl (lv_at2 hl) ?_
              refine gf_X12_9 hC rfl hK hP 0 rfl rfl gX12_paper__5.2.1 ?_
              refine lv_iload hx hb gX12_paper__5.2.2.1 (lv_at0 hl) ?_
              refine lv_iconst (v := 1) hx hb gX12_paper__5.2.2.2.1 (by decide) ?_
              refine lv_iadd hx hb gX12_paper__5.2.2.2.2.1 ?_
              refine eqi (x1 := nI (32 + 6 * kq + 1)) (nI_add (32 + 6 * kq) 1) ?_
              refine lv_iload_n hx hb gX12_paper__5.2.2.2.2.2.1 rfl (lv_at4 hl) ?_
              refine astN hC hK hP hD hS 1 (ws' := [(h0, oX12 nw nk mhasKept nt mtaped nr mrowMany mroundOf mroundFrom mouts nm mfromHour mtoHour ns mfrom mto msort misFault mdeep mcoded mlines nl nc nF np ntr nb mbestCost nso nsi nit nsh nsf nss nrc mtraced mdealer mnumber mwhose msize misParted), (nw, iA G 1662 (upd (upd fnw (32 + 6 * kq + 0) x1) (32 + 6 * kq + 1) x2))]) rfl (k := (32 + 6 * kq + 1)) (by omega) (Nat.le_of_ble_eq_true rfl) (rfl) gX12_paper__5.2.2.2.2.2.2.1 (fun H locs hP hD hS => ?_)
              refine lv_aload_n hx hb gX12_paper__5.2.2.2.2.2.2.2.1 rfl (lv_at2 hl) ?_
              refine gf_X12_9 hC rfl hK hP 0 rfl rfl gX12_paper__5.2.2.2.2.2.2.2.2.1 ?_
              refine lv_iload hx hb gX12_paper__5.2.2.2.2.2.2.2.2.2 (lv_at0 hl) ?_
              refine lv_iconst (v := 2) hx hb gX12_paper__6.1 (by decide) ?_
              refine lv_iadd hx hb gX12_paper__6.2.1 ?_
              refine eqi (x1 := nI (32 + 6 * kq + 2)) (nI_add (32 + 6 * kq) 2) ?_
              refine lv_iload_n hx hb gX12_paper__6.2.2.1 rfl (lv_at5 hl) ?_
              refine astN hC hK hP hD hS 1 (ws' := [(h0, oX12 nw nk mhasKept nt mtaped nr mrowMany mroundOf mroundFrom mouts nm mfromHour mtoHour ns mfrom mto msort misFault mdeep mcoded mlines nl nc nF np ntr nb mbestCost nso nsi nit nsh nsf nss nrc mtraced mdealer mnumber mwhose msize misParted), (nw, iA G 1662 (upd (upd (upd fnw (32 + 6 * kq + 0) x1) (32 + 6 * kq + 1) x2) (32 + 6 * kq + 2) x3))]) rfl (k := (32 + 6 * kq + 2)) (by omega) (Nat.le_of_ble_eq_true rfl) (rfl) gX12_paper__6.2.2.2.1 (fun H locs hP hD hS => ?_)
              refine lv_aload_n hx hb gX12_paper__6.2.2.2.2.1 rfl (lv_at2 hl) ?_
              refine gf_X12_9 hC rfl hK hP 0 rfl rfl gX12_paper__6.2.2.2.2.2.1 ?_
              refine lv_iload hx hb gX12_paper__6.2.2.2.2.2.2.1 (lv_at0 hl) ?_
              refine lv_iconst (v := 3) hx hb gX12_paper__6.2.2.2.2.2.2.2.1 (by decide) ?_
              refine lv_iadd hx hb gX12_paper__6.2.2.2.2.2.2.2.2.1 ?_
              refine eqi (x1 := nI (32 + 6 * kq + 3)) (nI_add (32 + 6 * kq) 3) ?_
              refine lv_iload hx hb gX12_paper__6.2.2.2.2.2.2.2.2.2 (lv_at6 hl) ?_
              refine astN hC hK hP hD hS 1 (ws' := [(h0, oX12 nw nk mhasKept nt mtaped nr mrowMany mroundOf mroundFrom mouts nm mfromHour mtoHour ns mfrom mto msort misFault mdeep mcoded mlines nl nc nF np ntr nb mbestCost nso nsi nit nsh nsf nss nrc mtraced mdealer mnumber mwhose msize misParted), (nw, iA G 1662 (upd (upd (upd (upd fnw (32 + 6 * kq + 0) x1) (32 + 6 * kq + 1) x2) (32 + 6 * kq + 2) x3) (32 + 6 * kq + 3) x4))]) rfl (k := (32 + 6 * kq + 3)) (by omega) (Nat.le_of_ble_eq_true rfl) (rfl) gX12_paper__7.1 (fun H locs hP hD hS => ?_)
              refine lv_aload_n hx hb gX12_paper__7.2.1 rfl (lv_at2 hl) ?_
              refine gf_X12_9 hC rfl hK hP 0 rfl rfl gX12_paper__7.2.2.1 ?_
              refine lv_iload hx hb gX12_paper__7.2.2.2.1 (lv_at0 hl) ?_
              refine lv_iconst (v := 4) hx hb gX12_paper__7.2.2.2.2.1 (by decide) ?_
              refine lv_iadd hx hb gX12_paper__7.2.2.2.2.2.1 ?_
              refine eqi (x1 := nI (32 + 6 * kq + 4)) (nI_add (32 + 6 * kq) 4) ?_
              refine lv_aload_n hx hb gX12_paper__7.2.2.2.2.2.2.1 rfl (lv_at2 hl) ?_
              refine gf_X12_9 hC rfl hK hP 0 rfl rfl gX12_paper__7.2.2.2.2.2.2.2.1 ?_
              refine lv_iconst (v := 0) hx hb gX12_paper__7.2.2.2.2.2.2.2.2.1 (by decide) ?_
              refine ald hC hK hP 1 rfl (vin (by decide +kernel)) (k := 0) (by decide +kernel) (v := fnw 0) ((upd_ne (by omega)).trans ((upd_ne (by omega)).trans ((upd_ne (by omega)).trans ((upd_ne (by omega)).trans (rfl))))) gX12_paper__7.2.2.2.2.2.2.2.2.2 ?_
              refine astN hC hK hP hD hS 1 (ws' := [(h0, oX12 nw nk mhasKept nt mtaped nr mrowMany mroundOf mroundFrom mouts nm mfromHour mtoHour ns mfrom mto msort misFault mdeep mcoded mlines nl nc nF np ntr nb mbestCost nso nsi nit nsh nsf nss nrc mtraced mdealer mnumber mwhose msize misParted), (nw, iA G 1662 (upd (upd (upd (upd (upd fnw (32 + 6 * kq + 0) x1) (32 + 6 * kq + 1) x2) (32 + 6 * kq + 2) x3) (32 + 6 * kq + 3) x4) (32 + 6 * kq + 4) (fnw 0)))]) rfl (k := (32 + 6 * kq + 4)) (by omega) (Nat.le_of_ble_eq_true rfl) (rfl) gX12_paper__8.1 (fun H locs hP hD hS => ?_)
              refine lv_aload_n hx hb gX12_paper__8.2.1 rfl (lv_at2 hl) ?_
              refine gf_X12_9 hC rfl hK hP 0 rfl rfl gX12_paper__8.2.2.1 ?_
              refine lv_iload hx hb gX12_paper__8.2.2.2.1 (lv_at0 hl) ?_
              refine lv_iconst (v := 5) hx hb gX12_paper__8.2.2.2.2.1 (by decide) ?_
              refine lv_iadd hx hb gX12_paper__8.2.2.2.2.2.1 ?_
              refine eqi (x1 := nI (32 + 6 * kq + 5)) (nI_add (32 + 6 * kq) 5) ?_
              refine lv_iconst (v := (-1)) hx hb gX12_paper__8.2.2.2.2.2.2.1 (by decide) ?_
              refine astN hC hK hP hD hS 1 (ws' := [(h0, oX12 nw nk mhasKept nt mtaped nr mrowMany mroundOf mroundFrom mouts nm mfromHour mtoHour ns mfrom mto msort misFault mdeep mcoded mlines nl nc nF np ntr nb mbestCost nso nsi nit nsh nsf nss nrc mtraced mdealer mnumber mwhose msize misParted), (nw, iA G 1662 (upd (upd (upd (upd (upd (upd fnw (32 + 6 * kq + 0) x1) (32 + 6 * kq + 1) x2) (32 + 6 * kq + 2) x3) (32 + 6 * kq + 3) x4) (32 + 6 * kq + 4) (fnw 0)) (32 + 6 * kq + 5) (-1)))]) rfl (k := (32 + 6 * kq + 5)) (by omega) (Nat.le_of_ble_eq_true rfl) (rfl) gX12_paper__8.2.2.2.2.2.2.2.1 (fun H locs hP hD hS => ?_)
              refine lv_aload_n hx hb gX12_paper__8.2.2.2.2.2.2.2.2.1 rfl (lv_at2 hl) ?_
              refine gf_X12_9 hC rfl hK hP 0 rfl rfl gX12_paper__8.2.2.2.2.2.2.2.2.2 ?_
              refine lv_iconst (v := 5) hx hb gX12_paper__9.1 (by decide) ?_
              refine lv_dup2_11 hx hb gX12_paper__9.2.1 rfl rfl ?_
              refine ald hC hK hP 1 rfl (vin (by decide +kernel)) (k := 5) (by decide +kernel) (v := nI kq) ((upd_ne (by omega)).trans ((upd_ne (by omega)).trans ((upd_ne (by omega)).trans ((upd_ne (by omega)).trans ((upd_ne (by omega)).trans ((upd_ne (by omega)).trans (ekq))))))) gX12_paper__9.2.2.1 ?_
              refine lv_iconst (v := 1) hx hb gX12_paper__9.2.2.2.1 (by decide) ?_
              refine lv_iadd hx hb gX12_paper__9.2.2.2.2.1 ?_
              refine eqi (x1 := nI (kq + 1)) (nI_add kq 1) ?_
              refine ast hC hK hP hD hS 1 (ws' := [(h0, oX12 nw nk mhasKept nt mtaped nr mrowMany mroundOf mroundFrom mouts nm mfromHour mtoHour ns mfrom mto msort misFault mdeep mcoded mlines nl nc nF np ntr nb mbestCost nso nsi nit nsh nsf nss nrc mtraced mdealer mnumber mwhose msize misParted), (nw, iA G 1662 (upd (upd (upd (upd (upd (upd (upd fnw (32 + 6 * kq + 0) x1) (32 + 6 * kq + 1) x2) (32 + 6 * kq + 2) x3) (32 + 6 * kq + 3) x4) (32 + 6 * kq + 4) (fnw 0)) (32 + 6 * kq + 5) (-1)) 5 (nI (kq + 1))))]) rfl (vin (by decide +kernel)) (k := 5) (by decide +kernel) (rfl) gX12_paper__9.2.2.2.2.2.1 (fun H locs hP hD hS => ?_)
              refine lv_iload hx hb gX12_paper__9.2.2.2.2.2.2.1 (lv_at1 hl) ?_
              have tu5872 : shf (upd (upd (upd (upd (upd (upd (upd fnw (32 + 6 * kq + 0) x1) (32 + 6 * kq + 1) x2) (32 + 6 * kq + 2) x3) (32 + 6 * kq + 3) x4) (32 + 6 * kq + 4) (fnw 0)) (32 + 6 * kq + 5) (-1)) 5 (nI (kq + 1))) 32 = rowu (shf fnw 32) (kq * 6) [x1, x2, x3, x4, (fnw 0), (-1)] := by rw [sho (by omega), shu (j := kq * 6 + 5) (by omega), shu (j := kq * 6 + 4) (by omega), shu (j := kq * 6 + 3) (by omega), shu (j := kq * 6 + 2) (by omega), shu (j := kq * 6 + 1) (by omega), shu (j := kq * 6 + 0) (by omega)]; rfl
              refine toQ hQ0 ?_
              exact RI (v := nI kq) hC hP hD hS [0, 1] (upd (upd (upd (upd (upd (upd (upd fnw (32 + 6 * kq + 0) x1) (32 + 6 * kq + 1) x2) (32 + 6 * kq + 2) x3) (32 + 6 * kq + 3) x4) (32 + 6 * kq + 4) (fnw 0)) (32 + 6 * kq + 5) (-1)) 5 (nI (kq + 1))) rfl rfl (by decide) (⟨(by first | rfl | (simp only [ifc_t ekp, ifc_t hkp, ifc_t ekq, ifc_t hkq, ifc_t hN, ifc_t hV, ifc_t a5864, ifc_f c_10_5865, ifc_f c_22_5866, ifc_t a5868, ifc_t a5870, ifc_f c_60_5871, ifc_t (q := HA kp x2) ⟨c_10_5865, Int32.not_le.mp c_22_5866⟩]; done) | (simp only [ifc_t ekp, ifc_t hkp, ifc_t ekq, ifc_t hkq, ifc_t hN, ifc_t hV, ifc_t a5864, ifc_f c_10_5865, ifc_f c_22_5866, ifc_t a5868, ifc_t a5870, ifc_f c_60_5871, ifc_t (q := HA kp x2) ⟨c_10_5865, Int32.not_le.mp c_22_5866⟩]; rfl)), ⟨(((((((hN).setA (bnd_pap (by omega) (by omega))).setA (bnd_pap (by omega) (by omega))).setA (bnd_pap (by omega) (by omega))).setA (bnd_pap (by omega) (by omega))).setA (bnd_pap (by omega) (by omega))).setA (bnd_pap (by omega) (by omega))).setN (B := 12) (show bnd 5 = (0, ((12 : Nat) : Int)) from by decide +kernel) (by omega) (by decide), (((((((hV).set (by omega)).set (by omega)).set (by omega)).set (by omega)).set (by omega)).set (by omega)).set (by omega), (upd_ne (by omega)).trans ((upd_ne (by omega)).trans ((upd_ne (by omega)).trans ((upd_ne (by omega)).trans ((upd_ne (by omega)).trans ((upd_ne (by omega)).trans (upd_ne (by omega))))))), (upd_ne (by omega)).trans ((upd_ne (by omega)).trans ((upd_ne (by omega)).trans ((upd_ne (by omega)).trans ((upd_ne (by omega)).trans ((upd_ne (by omega)).trans (upd_ne (by omega))))))), (upd_ne (by omega)).trans ((upd_ne (by omega)).trans ((upd_ne (by omega)).trans ((upd_ne (by omega)).trans ((upd_ne (by omega)).trans ((upd_ne (by omega)).trans (upd_ne (by omega))))))), (upd_ne (by omega)).trans ((upd_ne (by omega)).trans ((upd_ne (by omega)).trans ((upd_ne (by omega)).trans ((upd_ne (by omega)).trans ((upd_ne (by omega)).trans (upd_ne (by omega))))))), (upd_ne (by omega)).trans ((upd_ne (by omega)).trans ((upd_ne (by omega)).trans ((upd_ne (by omega)).trans ((upd_ne (by omega)).trans ((upd_ne (by omega)).trans (upd_ne (by omega))))))), (show _ = (nI (kq + 1)) from upd_eq rfl).trans (by first | rfl | (simp only [ifc_t ekp, ifc_t hkp, ifc_t ekq, ifc_t hkq, ifc_t hN, ifc_t hV, ifc_t a5864, ifc_f c_10_5865, ifc_f c_22_5866, ifc_t a5868, ifc_t a5870, ifc_f c_60_5871, ifc_t (q := HA kp x2) ⟨c_10_5865, Int32.not_le.mp c_22_5866⟩]; done) | (simp only [ifc_t ekp, ifc_t hkp, ifc_t ekq, ifc_t hkq, ifc_t hN, ifc_t hV, ifc_t a5864, ifc_f c_10_5865, ifc_f c_22_5866, ifc_t a5868, ifc_t a5870, ifc_f c_60_5871, ifc_t (q := HA kp x2) ⟨c_10_5865, Int32.not_le.mp c_22_5866⟩]; rfl)), (upd_ne (by omega)).trans ((upd_ne (by omega)).trans ((upd_ne (by omega)).trans ((upd_ne (by omega)).trans ((upd_ne (by omega)).trans ((upd_ne (by omega)).trans (upd_ne (by omega))))))), (upd_ne (by omega)).trans ((upd_ne (by omega)).trans ((upd_ne (by omega)).trans ((upd_ne (by omega)).trans ((upd_ne (by omega)).trans ((upd_ne (by omega)).trans (upd_ne (by omega))))))), (upd_ne (by omega)).trans ((upd_ne (by omega)).trans ((upd_ne (by omega)).trans ((upd_ne (by omega)).trans ((upd_ne (by omega)).trans ((upd_ne (by omega)).trans (upd_ne (by omega))))))), (upd_ne (by omega)).trans ((upd_ne (by omega)).trans ((upd_ne (by omega)).trans ((upd_ne (by omega)).trans ((upd_ne (by omega)).trans ((upd_ne (by omega)).trans (upd_ne (by omega))))))), (upd_ne (by omega)).trans ((upd_ne (by omega)).trans ((upd_ne (by omega)).trans ((upd_ne (by omega)).trans ((upd_ne (by omega)).trans ((upd_ne (by omega)).trans (upd_ne (by omega))))))), (((((((FRO.rf).set (by omega)).set (by omega)).set (by omega)).set (by omega)).set (by omega)).set (by omega)).set (by omega), (fun i hi9 => by simp only [ifc_t ekp, ifc_t hkp, ifc_t ekq, ifc_t hkq, ifc_t hN, ifc_t hV, ifc_t a5864, ifc_f c_10_5865, ifc_f c_22_5866, ifc_t a5868, ifc_t a5870, ifc_f c_60_5871, ifc_t (q := HA kp x2) ⟨c_10_5865, Int32.not_le.mp c_22_5866⟩]; exact (congrFun tu5872 i).trans (by first | rfl | (simp only [SCX]; done)))⟩⟩) rfl gX12_paper__9.2.2.2.2.2.2.2
            · refine lv_bipush (v := (-2)) hx hb gX12_paper__3.2.2.2.2.2.1 (by decide) ?_
              refine toQ hQ0 ?_
              exact RI (v := (-2)) hC hP hD hS [0, 1] fnw rfl rfl (by decide) (⟨(by first | rfl | (simp only [ifc_t ekp, ifc_t hkp, ifc_t ekq, ifc_t hkq, ifc_t hN, ifc_t hV, ifc_t a5864, ifc_f c_10_5865, ifc_f c_22_5866, ifc_t a5868, ifc_t a5870, ifc_t c_60_5871, ifc_t (q := HA kp x2) ⟨c_10_5865, Int32.not_le.mp c_22_5866⟩]; done) | (simp only [ifc_t ekp, ifc_t hkp, ifc_t ekq, ifc_t hkq, ifc_t hN, ifc_t hV, ifc_t a5864, ifc_f c_10_5865, ifc_f c_22_5866, ifc_t a5868, ifc_t a5870, ifc_t c_60_5871, ifc_t (q := HA kp x2) ⟨c_10_5865, Int32.not_le.mp c_22_5866⟩]; rfl)), ⟨hN, hV, rfl, rfl, rfl, rfl, rfl, (rfl).trans ((ekq).trans (by first | rfl | (simp only [ifc_t ekp, ifc_t hkp, ifc_t ekq, ifc_t hkq, ifc_t hN, ifc_t hV, ifc_t a5864, ifc_f c_10_5865, ifc_f c_22_5866, ifc_t a5868, ifc_t a5870, ifc_t c_60_5871, ifc_t (q := HA kp x2) ⟨c_10_5865, Int32.not_le.mp c_22_5866⟩]; done) | (simp only [ifc_t ekp, ifc_t hkp, ifc_t ekq, ifc_t hkq, ifc_t hN, ifc_t hV, ifc_t a5864, ifc_f c_10_5865, ifc_f c_22_5866, ifc_t a5868, ifc_t a5870, ifc_t c_60_5871, ifc_t (q := HA kp x2) ⟨c_10_5865, Int32.not_le.mp c_22_5866⟩]; rfl))), rfl, rfl, rfl, rfl, rfl, FRO.rf, (fun i hi9 => by first | rfl | (simp only [ifc_t ekp, ifc_t hkp, ifc_t ekq, ifc_t hkq, ifc_t hN, ifc_t hV, ifc_t a5864, ifc_f c_10_5865, ifc_f c_22_5866, ifc_t a5868, ifc_t a5870, ifc_t c_60_5871, ifc_t (q := HA kp x2) ⟨c_10_5865, Int32.not_le.mp c_22_5866⟩]; done))⟩⟩) rfl gX12_paper__3.2.2.2.2.2.2.1
          · refine lv_if_ne (tgt := 48) hx hb gX12_paper__2.2.2.2.2.1 (by decide) (fun c9 => absurd (by decide) c9) (fun _ => ?_)
            refine lv_iconst (v := (-1)) hx hb gX12_paper__2.2.2.2.2.2.1 (by decide) ?_
            refine toQ hQ0 ?_
            exact RI (v := (-1)) hC hP hD hS [0, 1] fnw rfl rfl (by decide) (⟨(by first | rfl | (simp only [ifc_t ekp, ifc_t hkp, ifc_t ekq, ifc_t hkq, ifc_t hN, ifc_t hV, ifc_t a5864, ifc_f c_10_5865, ifc_f c_22_5866, ifc_t a5868, ifc_f a5870, ifc_t (q := HA kp x2) ⟨c_10_5865, Int32.not_le.mp c_22_5866⟩]; done) | (simp only [ifc_t ekp, ifc_t hkp, ifc_t ekq, ifc_t hkq, ifc_t hN, ifc_t hV, ifc_t a5864, ifc_f c_10_5865, ifc_f c_22_5866, ifc_t a5868, ifc_f a5870, ifc_t (q := HA kp x2) ⟨c_10_5865, Int32.not_le.mp c_22_5866⟩]; rfl)), ⟨hN, hV, rfl, rfl, rfl, rfl, rfl, (rfl).trans ((ekq).trans (by first | rfl | (simp only [ifc_t ekp, ifc_t hkp, ifc_t ekq, ifc_t hkq, ifc_t hN, ifc_t hV, ifc_t a5864, ifc_f c_10_5865, ifc_f c_22_5866, ifc_t a5868, ifc_f a5870, ifc_t (q := HA kp x2) ⟨c_10_5865, Int32.not_le.mp c_22_5866⟩]; done) | (simp only [ifc_t ekp, ifc_t hkp, ifc_t ekq, ifc_t hkq, ifc_t hN, ifc_t hV, ifc_t a5864, ifc_f c_10_5865, ifc_f c_22_5866, ifc_t a5868, ifc_f a5870, ifc_t (q := HA kp x2) ⟨c_10_5865, Int32.not_le.mp c_22_5866⟩]; rfl))), rfl, rfl, rfl, rfl, rfl, FRO.rf, (fun i hi9 => by first | rfl | (simp only [ifc_t ekp, ifc_t hkp, ifc_t ekq, ifc_t hkq, ifc_t hN, ifc_t hV, ifc_t a5864, ifc_f c_10_5865, ifc_f c_22_5866, ifc_t a5868, ifc_f a5870, ifc_t (q := HA kp x2) ⟨c_10_5865, Int32.not_le.mp c_22_5866⟩]; done))⟩⟩) rfl gX12_paper__2.2.2.2.2.2.2.1
        · refine lv_if_eq (tgt := 46) hx hb gX12_paper__1.2.2.2.2.2.2.2.2.2 (by decide) (fun _ => ?_) (fun c9 => absurd (by decide) c9)
          refine lv_iconst (v := (-1)) hx hb gX12_paper__2.2.2.2.2.2.1 (by decide) ?_
          refine toQ hQ0 ?_
          exact RI (v := (-1)) hC hP hD hS [0, 1] fnw rfl rfl (by decide) (⟨(by first | rfl | (simp only [ifc_t ekp, ifc_t hkp, ifc_t ekq, ifc_t hkq, ifc_t hN, ifc_t hV, ifc_t a5864, ifc_f c_10_5865, ifc_f c_22_5866, ifc_f a5868, ifc_t (q := HA kp x2) ⟨c_10_5865, Int32.not_le.mp c_22_5866⟩]; done) | (simp only [ifc_t ekp, ifc_t hkp, ifc_t ekq, ifc_t hkq, ifc_t hN, ifc_t hV, ifc_t a5864, ifc_f c_10_5865, ifc_f c_22_5866, ifc_f a5868, ifc_t (q := HA kp x2) ⟨c_10_5865, Int32.not_le.mp c_22_5866⟩]; rfl)), ⟨hN, hV, rfl, rfl, rfl, rfl, rfl, (rfl).trans ((ekq).trans (by first | rfl | (simp only [ifc_t ekp, ifc_t hkp, ifc_t ekq, ifc_t hkq, ifc_t hN, ifc_t hV, ifc_t a5864, ifc_f c_10_5865, ifc_f c_22_5866, ifc_f a5868, ifc_t (q := HA kp x2) ⟨c_10_5865, Int32.not_le.mp c_22_5866⟩]; done) | (simp only [ifc_t ekp, ifc_t hkp, ifc_t ekq, ifc_t hkq, ifc_t hN, ifc_t hV, ifc_t a5864, ifc_f c_10_5865, ifc_f c_22_5866, ifc_f a5868, ifc_t (q := HA kp x2) ⟨c_10_5865, Int32.not_le.mp c_22_5866⟩]; rfl))), rfl, rfl, rfl, rfl, rfl, FRO.rf, (fun i hi9 => by first | rfl | (simp only [ifc_t ekp, ifc_t hkp, ifc_t ekq, ifc_t hkq, ifc_t hN, ifc_t hV, ifc_t a5864, ifc_f c_10_5865, ifc_f c_22_5866, ifc_f a5868, ifc_t (q := HA kp x2) ⟨c_10_5865, Int32.not_le.mp c_22_5866⟩]; done))⟩⟩) rfl gX12_paper__2.2.2.2.2.2.2.1
  · refine lv_if_eq (tgt := 46) hx hb gX12_paper__0.2.2.2.2.1 (by decide) (fun _ => ?_) (fun c9 => absurd (by decide) c9)
    refine lv_iconst (v := (-1)) hx hb gX12_paper__2.2.2.2.2.2.1 (by decide) ?_
    refine toQ hQ0 ?_
    exact RI (v := (-1)) hC hP hD hS [0, 1] fnw rfl rfl (by decide) (⟨(by first | rfl | (simp only [ifc_t ekp, ifc_t hkp, ifc_t ekq, ifc_t hkq, ifc_t hN, ifc_t hV, ifc_f a5864]; done) | (simp only [ifc_t ekp, ifc_t hkp, ifc_t ekq, ifc_t hkq, ifc_t hN, ifc_t hV, ifc_f a5864]; rfl)), ⟨hN, hV, rfl, rfl, rfl, rfl, rfl, (rfl).trans ((ekq).trans (by first | rfl | (simp only [ifc_t ekp, ifc_t hkp, ifc_t ekq, ifc_t hkq, ifc_t hN, ifc_t hV, ifc_f a5864]; done) | (simp only [ifc_t ekp, ifc_t hkp, ifc_t ekq, ifc_t hkq, ifc_t hN, ifc_t hV, ifc_f a5864]; rfl))), rfl, rfl, rfl, rfl, rfl, FRO.rf, (fun i hi9 => by first | rfl | (simp only [ifc_t ekp, ifc_t hkp, ifc_t ekq, ifc_t hkq, ifc_t hN, ifc_t hV, ifc_f a5864]; done))⟩⟩) rfl gX12_paper__2.2.2.2.2.2.2.1
def K_w_lose (l : Launch) (G : GG) (kq : Nat) (h0 : Nat) (x1 : Int32) (nw : Nat) (nk : Nat) (mhasKept : Int32) (nt : Nat) (mtaped : Int32) (nr : Nat) (mrowMany : Int32) (mroundOf : Int32) (mroundFrom : Int32) (mouts : Int32) (nm : Nat) (mfromHour : Int32) (mtoHour : Int32) (ns : Nat) (mfrom : Int32) (mto : Int32) (msort : Int32) (misFault : Int32) (mdeep : Int32) (mcoded : Int32) (mlines : Int32) (nl : Nat) (nc : Nat) (nF : Nat) (np : Nat) (ntr : Nat) (nb : Nat) (mbestCost : Int32) (nso : Nat) (nsi : Nat) (nit : Nat) (nsh : Nat) (nsf : Nat) (nss : Nat) (nrc : Nat) (mtraced : Int32) (mdealer : Int32) (mnumber : Int32) (mwhose : Int32) (msize : Int32) (misParted : Int32) (fnw : Nat → Int32) : Prop := MI l G yX12_lose cX12_lose 2 (some .int) 3 0 0 [.ref h0, .int x1] [(h0, oX12 nw nk mhasKept nt mtaped nr mrowMany mroundOf mroundFrom mouts nm mfromHour mtoHour ns mfrom mto msort misFault mdeep mcoded mlines nl nc nF np ntr nb mbestCost nso nsi nit nsh nsf nss nrc mtraced mdealer mnumber mwhose msize misParted), (nw, iA G 1662 fnw)] (fun (r : Int32) (u : (Nat → Int32)) => (r = ifc (Hs x1 kq) (ifc (0 ≤ shf fnw 32 (x1.toNatClampNeg * 6 + 5)) (-4) 1) (-1)) ∧ (NI u ∧ VI u ∧ SCX u (fnw 0) (fnw 1) (fnw 2) (fnw 3) (fnw 4) (fnw 5) (fnw 6) (fnw 8) (fnw 9) (fnw 10) (fnw 11) ∧ FRO u fnw 32 104 ∧ ∀ i : Nat, i < 72 → u (32 + i) = ifc (Hs x1 kq) (ifc (0 ≤ shf fnw 32 (x1.toNatClampNeg * 6 + 5)) (fnw (32 + i)) (upd (shf fnw 32) (x1.toNatClampNeg * 6 + 5) (fnw 0) i)) (fnw (32 + i)))) (fun u : (Nat → Int32) => [(h0, oX12 nw nk mhasKept nt mtaped nr mrowMany mroundOf mroundFrom mouts nm mfromHour mtoHour ns mfrom mto msort misFault mdeep mcoded mlines nl nc nF np ntr nb mbestCost nso nsi nit nsh nsf nss nrc mtraced mdealer mnumber mwhose msize misParted), (nw, iA G 1662 u)])
set_option maxHeartbeats 4000000 in
set_option maxRecDepth 100000 in
theorem w_lose (l : Launch) (G : GG) (kq : Nat) (h0 : Nat) (x1 : Int32) (nw : Nat) (nk : Nat) (mhasKept : Int32) (nt : Nat) (mtaped : Int32) (nr : Nat) (mrowMany : Int32) (mroundOf : Int32) (mroundFrom : Int32) (mouts : Int32) (nm : Nat) (mfromHour : Int32) (mtoHour : Int32) (ns : Nat) (mfrom : Int32) (mto : Int32) (msort : Int32) (misFault : Int32) (mdeep : Int32) (mcoded : Int32) (mlines : Int32) (nl : Nat) (nc : Nat) (nF : Nat) (np : Nat) (ntr : Nat) (nb : Nat) (mbestCost : Int32) (nso : Nat) (nsi : Nat) (nit : Nat) (nsh : Nat) (nsf : Nat) (nss : Nat) (nrc : Nat) (mtraced : Int32) (mdealer : Int32) (mnumber : Int32) (mwhose : Int32) (msize : Int32) (misParted : Int32) (fnw : Nat → Int32) (ekq : fnw 5 = nI kq) (hkq : kq ≤ 12) (hN : NI fnw) (hV : VI fnw) : K_w_lose l G kq h0 x1 nw nk mhasKept nt mtaped nr mrowMany mroundOf mroundFrom mouts nm mfromHour mtoHour ns mfrom mto msort misFault mdeep mcoded mlines nl nc nF np ntr nb mbestCost nso nsi nit nsh nsf nss nrc mtraced mdealer mnumber mwhose msize misParted fnw := by
  refine MI.start (by decide +kernel) (Nat.le_of_ble_eq_true rfl) ?_
  intro p e s m below meth c A ls hC hK hP hD hS hA hl
  refine absQ (fun Q0 hQ0 => ?_)
  have hl : lv_has ls 2 [(0, .ref h0), (1, .int x1)] := hl
  refine Kan8 hC (fun hx hb hr hml hB hown hlocks hnm => ?_)
  refine lv_aload_n hx hb gX12_lose_0.1 rfl (lv_at0 hl) ?_
  refine lv_iload_n hx hb gX12_lose_0.2.1 rfl (lv_at1 hl) ?_
  refine lv_iconst (v := 5) hx hb gX12_lose_0.2.2.1 (by decide) ?_
  refine pV hC hK hl hP hD (m_is l G kq h0 x1 5 nw nk mhasKept nt mtaped nr mrowMany mroundOf mroundFrom mouts nm mfromHour mtoHour ns mfrom mto msort misFault mdeep mcoded mlines nl nc nF np ntr nb mbestCost nso nsi nit nsh nsf nss nrc mtraced mdealer mnumber mwhose msize misParted fnw (by omega) (ekq) (by omega)) si_X12_120 [0, 1] sm_0_1 fm_0_1 nd_0_1 rfl rfl rfl rfl rfl (Nat.le_of_ble_eq_true rfl) rm_3_2_3 ⟨by first | exact Nat.le_of_ble_eq_true rfl | exact Nat.zero_le _, by first | exact Nat.le_of_ble_eq_true rfl | exact Nat.zero_le _⟩ gX12_lose_0.2.2.2.1 (Kors (Keqa fun a5874 => ?_) (Keqa fun a5874 => ?_))
  · refine lv_if_ne (tgt := 11) hx hb gX12_lose_0.2.2.2.2.1 (by decide) (fun _ => ?_) (fun c9 => absurd c9 (by decide))
    obtain ⟨jp, hjp, rfl⟩ := Hs_nat (by omega) a5874
    have hsl9 : fnw (32 + 6 * jp + 5) = shf fnw 32 (jp * 6 + 5) := congrArg fnw (by omega)
    refine lv_aload_n hx hb gX12_lose_0.2.2.2.2.2.2.2.1 rfl (lv_at0 hl) ?_
    refine lv_iload_n hx hb gX12_lose_0.2.2.2.2.2.2.2.2.1 rfl (lv_at1 hl) ?_
    refine lv_iconst (v := 5) hx hb gX12_lose_0.2.2.2.2.2.2.2.2.2 (by decide) ?_
    refine pV hC hK hl hP hD (m_paper l G h0 jp 5 nw nk mhasKept nt mtaped nr mrowMany mroundOf mroundFrom mouts nm mfromHour mtoHour ns mfrom mto msort misFault mdeep mcoded mlines nl nc nF np ntr nb mbestCost nso nsi nit nsh nsf nss nrc mtraced mdealer mnumber mwhose msize misParted fnw (by omega) (by omega)) si_X12_88 [0, 1] sm_0_1 fm_0_1 nd_0_1 rfl rfl rfl rfl rfl (Nat.le_of_ble_eq_true rfl) rm_3_1_3 ⟨by first | exact Nat.le_of_ble_eq_true rfl | exact Nat.zero_le _, by first | exact Nat.le_of_ble_eq_true rfl | exact Nat.zero_le _⟩ gX12_lose_1.1 (Keqr ?_)
    refine lv_if_lt (tgt := 23) hx hb gX12_lose_1.2.1 (by decide) (fun c_17_5877 => ?_) (fun c_17_5877 => ?_)
    · refine lv_aload_n hx hb gX12_lose_1.2.2.2.2.1 rfl (lv_at0 hl) ?_
      refine gf_X12_9 hC rfl hK hP 0 rfl rfl gX12_lose_1.2.2.2.2.2.1 ?_
      refine lv_bipush (v := 32) hx hb gX12_lose_1.2.2.2.2.2.2.1 (by decide) ?_
      refine lv_bipush (v := 6) hx hb gX12_lose_1.2.2.2.2.2.2.2.1 (by decide) ?_
      refine lv_iload_n hx hb gX12_lose_1.2.2.2.2.2.2.2.2.1 rfl (lv_at1 hl) ?_
      refine lv_imul hx hb gX12_lose_1.2.2.2.2.2.2.2.2.2 ?_
      refine eqi (x1 := nI (6 * jp)) (nI_mul 6 jp) ?_
      refine lv_iadd hx hb gX12_lose_2.1 ?_
      refine eqi (x1 := nI (32 + 6 * jp)) (nI_add 32 (6 * jp)) ?_
      refine lv_iconst (v := 5) hx hb gX12_lose_2.2.1 (by decide) ?_
      refine lv_iadd hx hb gX12_lose_2.2.2.1 ?_
      refine eqi (x1 := nI (32 + 6 * jp + 5)) (nI_add (32 + 6 * jp) 5) ?_
      refine lv_aload_n hx hb gX12_lose_2.2.2.2.1 rfl (lv_at0 hl) ?_
      refine gf_X12_9 hC rfl hK hP 0 rfl rfl gX12_lose_2.2.2.2.2.1 ?_
      refine lv_iconst (v := 0) hx hb gX12_lose_2.2.2.2.2.2.1 (by decide) ?_
      refine ald hC hK hP 1 rfl (vin (by decide +kernel)) (k := 0) (by decide +kernel) (v := fnw 0) (rfl) gX12_lose_2.2.2.2.2.2.2.1 ?_
      refine astN hC hK hP hD hS 1 (ws' := [(h0, oX12 nw nk mhasKept nt mtaped nr mrowMany mroundOf mroundFrom mouts nm mfromHour mtoHour ns mfrom mto msort misFault mdeep mcoded mlines nl nc nF np ntr nb mbestCost nso nsi nit nsh nsf nss nrc mtraced mdealer mnumber mwhose msize misParted), (nw, iA G 1662 (upd fnw (32 + 6 * jp + 5) (fnw 0)))]) rfl (k := (32 + 6 * jp + 5)) (by omega) (Nat.le_of_ble_eq_true rfl) (rfl) gX12_lose_2.2.2.2.2.2.2.2.1 (fun H locs hP hD hS => ?_)
      refine lv_iconst (v := 1) hx hb gX12_lose_2.2.2.2.2.2.2.2.2.1 (by decide) ?_
      refine toQ hQ0 ?_
      exact RI (v := 1) hC hP hD hS [0, 1] (upd fnw (32 + 6 * jp + 5) (fnw 0)) rfl rfl (by decide) (⟨(by first | rfl | (simp only [nI_clamp (n := jp) (by omega), ifc_t ekq, ifc_t hkq, ifc_t hN, ifc_t hV, ifc_t a5874, ifc_f (q := 0 ≤ shf fnw 32 (jp * 6 + 5)) (Int32.not_le.mpr (hsl9 ▸ c_17_5877))]; done) | (simp only [nI_clamp (n := jp) (by omega), ifc_t ekq, ifc_t hkq, ifc_t hN, ifc_t hV, ifc_t a5874, ifc_f (q := 0 ≤ shf fnw 32 (jp * 6 + 5)) (Int32.not_le.mpr (hsl9 ▸ c_17_5877))]; rfl)), ⟨(hN).setA (bnd_pap (by omega) (by omega)), (hV).set (by omega), (SCX.rf).set (by omega), (FRO.rf).set (by omega), (fun i hi9 => by simp only [nI_clamp (n := jp) (by omega), ifc_t ekq, ifc_t hkq, ifc_t hN, ifc_t hV, ifc_t a5874, ifc_f (q := 0 ≤ shf fnw 32 (jp * 6 + 5)) (Int32.not_le.mpr (hsl9 ▸ c_17_5877))]; exact congrFun (shu (g := fnw) (base := 32) (j := jp * 6 + 5) (by omega)) i)⟩⟩) rfl gX12_lose_2.2.2.2.2.2.2.2.2.2
    · refine lv_bipush (v := (-4)) hx hb gX12_lose_1.2.2.1 (by decide) ?_
      refine toQ hQ0 ?_
      exact RI (v := (-4)) hC hP hD hS [0, 1] fnw rfl rfl (by decide) (⟨(by first | rfl | (simp only [nI_clamp (n := jp) (by omega), ifc_t ekq, ifc_t hkq, ifc_t hN, ifc_t hV, ifc_t a5874, ifc_t (q := 0 ≤ shf fnw 32 (jp * 6 + 5)) (Int32.not_lt.mp (fun h9 => c_17_5877 (hsl9.symm ▸ h9)))]; done) | (simp only [nI_clamp (n := jp) (by omega), ifc_t ekq, ifc_t hkq, ifc_t hN, ifc_t hV, ifc_t a5874, ifc_t (q := 0 ≤ shf fnw 32 (jp * 6 + 5)) (Int32.not_lt.mp (fun h9 => c_17_5877 (hsl9.symm ▸ h9)))]; rfl)), ⟨hN, hV, SCX.rf, FRO.rf, (fun i hi9 => by first | rfl | (simp only [nI_clamp (n := jp) (by omega), ifc_t ekq, ifc_t hkq, ifc_t hN, ifc_t hV, ifc_t a5874, ifc_t (q := 0 ≤ shf fnw 32 (jp * 6 + 5)) (Int32.not_lt.mp (fun h9 => c_17_5877 (hsl9.symm ▸ h9)))]; done))⟩⟩) rfl gX12_lose_1.2.2.2.1
  · refine lv_if_ne (tgt := 11) hx hb gX12_lose_0.2.2.2.2.1 (by decide) (fun c9 => absurd (by decide) c9) (fun _ => ?_)
    refine lv_iconst (v := (-1)) hx hb gX12_lose_0.2.2.2.2.2.1 (by decide) ?_
    refine toQ hQ0 ?_
    exact RI (v := (-1)) hC hP hD hS [0, 1] fnw rfl rfl (by decide) (⟨(by first | rfl | (simp only [ifc_t ekq, ifc_t hkq, ifc_t hN, ifc_t hV, ifc_f a5874]; done) | (simp only [ifc_t ekq, ifc_t hkq, ifc_t hN, ifc_t hV, ifc_f a5874]; rfl)), ⟨hN, hV, SCX.rf, FRO.rf, (fun i hi9 => by first | rfl | (simp only [ifc_t ekq, ifc_t hkq, ifc_t hN, ifc_t hV, ifc_f a5874]; done))⟩⟩) rfl gX12_lose_0.2.2.2.2.2.2.1
def K_m_stamped (l : Launch) (G : GG) (k6 : Nat) (h0 : Nat) (jp : Nat) (jc : Nat) (jh : Nat) (nw : Nat) (nk : Nat) (mhasKept : Int32) (nt : Nat) (mtaped : Int32) (nr : Nat) (mrowMany : Int32) (mroundOf : Int32) (mroundFrom : Int32) (mouts : Int32) (nm : Nat) (mfromHour : Int32) (mtoHour : Int32) (ns : Nat) (mfrom : Int32) (mto : Int32) (msort : Int32) (misFault : Int32) (mdeep : Int32) (mcoded : Int32) (mlines : Int32) (nl : Nat) (nc : Nat) (nF : Nat) (np : Nat) (ntr : Nat) (nb : Nat) (mbestCost : Int32) (nso : Nat) (nsi : Nat) (nit : Nat) (nsh : Nat) (nsf : Nat) (nss : Nat) (nrc : Nat) (mtraced : Int32) (mdealer : Int32) (mnumber : Int32) (mwhose : Int32) (msize : Int32) (misParted : Int32) (fnw : Nat → Int32) : Prop := MV l G yX12_stamped cX12_stamped 5 1 0 0 [.ref h0, .int (nI jp), .int (nI jc), .int (nI jh)] [(h0, oX12 nw nk mhasKept nt mtaped nr mrowMany mroundOf mroundFrom mouts nm mfromHour mtoHour ns mfrom mto msort misFault mdeep mcoded mlines nl nc nF np ntr nb mbestCost nso nsi nit nsh nsf nss nrc mtraced mdealer mnumber mwhose msize misParted), (nw, iA G 1662 fnw)] (fun u : (Nat → Int32) => (NI u ∧ VI u ∧ SCX u (fnw 0) (fnw 1) (fnw 2) (fnw 3) (fnw 4) (fnw 5) (nI (k6 + 1)) (fnw 8) (fnw 9) (fnw 10) (fnw 11) ∧ FRO u fnw 104 176) ∧ u 6 = nI (k6 + 1) ∧ ∀ i : Nat, i < 72 → u (104 + i) = rowu (shf fnw 104) (k6 * 3) [nI jp, nI jc, nI jh] i) (fun u : (Nat → Int32) => [(h0, oX12 nw nk mhasKept nt mtaped nr mrowMany mroundOf mroundFrom mouts nm mfromHour mtoHour ns mfrom mto msort misFault mdeep mcoded mlines nl nc nF np ntr nb mbestCost nso nsi nit nsh nsf nss nrc mtraced mdealer mnumber mwhose msize misParted), (nw, iA G 1662 u)])
set_option maxHeartbeats 4000000 in
set_option maxRecDepth 100000 in
theorem m_stamped (l : Launch) (G : GG) (k6 : Nat) (h0 : Nat) (jp : Nat) (jc : Nat) (jh : Nat) (nw : Nat) (nk : Nat) (mhasKept : Int32) (nt : Nat) (mtaped : Int32) (nr : Nat) (mrowMany : Int32) (mroundOf : Int32) (mroundFrom : Int32) (mouts : Int32) (nm : Nat) (mfromHour : Int32) (mtoHour : Int32) (ns : Nat) (mfrom : Int32) (mto : Int32) (msort : Int32) (misFault : Int32) (mdeep : Int32) (mcoded : Int32) (mlines : Int32) (nl : Nat) (nc : Nat) (nF : Nat) (np : Nat) (ntr : Nat) (nb : Nat) (mbestCost : Int32) (nso : Nat) (nsi : Nat) (nit : Nat) (nsh : Nat) (nsf : Nat) (nss : Nat) (nrc : Nat) (mtraced : Int32) (mdealer : Int32) (mnumber : Int32) (mwhose : Int32) (msize : Int32) (misParted : Int32) (fnw : Nat → Int32) (e6 : fnw 6 = nI k6) (hk6 : k6 < 24) (hjp : jp < 12) (hjc : jc < 6) (hjh : jh < 1000) (hN : NI fnw) (hV : VI fnw) : K_m_stamped l G k6 h0 jp jc jh nw nk mhasKept nt mtaped nr mrowMany mroundOf mroundFrom mouts nm mfromHour mtoHour ns mfrom mto msort misFault mdeep mcoded mlines nl nc nF np ntr nb mbestCost nso nsi nit nsh nsf nss nrc mtraced mdealer mnumber mwhose msize misParted fnw := by
  refine MV.start (by decide +kernel) (Nat.le_of_ble_eq_true rfl) ?_
  intro p e s m below meth c A ls hC hK hP hD hS hA hl
  refine absQ (fun Q0 hQ0 => ?_)
  have hl : lv_has ls 5 [(0, .ref h0), (1, .int (nI jp)), (2, .int (nI jc)), (3, .int (nI jh))] := hl
  refine Kan8 hC (fun hx hb hr hml hB hown hlocks hnm => ?_)
  refine lv_bipush (v := 104) hx hb gX12_stamped_0.1 (by decide) ?_
  refine lv_iconst (v := 3) hx hb gX12_stamped_0.2.1 (by decide) ?_
  refine lv_aload_n hx hb gX12_stamped_0.2.2.1 rfl (lv_at0 hl) ?_
  refine gf_X12_9 hC rfl hK hP 0 rfl rfl gX12_stamped_0.2.2.2.1 ?_
  refine lv_bipush (v := 6) hx hb gX12_stamped_0.2.2.2.2.1 (by decide) ?_
  refine ald hC hK hP 1 rfl (vin (by decide +kernel)) (k := 6) (by decide +kernel) (v := nI k6) (e6) gX12_stamped_0.2.2.2.2.2.1 ?_
  refine lv_imul hx hb gX12_stamped_0.2.2.2.2.2.2.1 ?_
  refine eqi (x1 := nI (3 * k6)) (nI_mul 3 k6) ?_
  refine lv_iadd hx hb gX12_stamped_0.2.2.2.2.2.2.2.1 ?_
  refine eqi (x1 := nI (104 + 3 * k6)) (nI_add 104 (3 * k6)) ?_
  refine lv_istore (lv' := [(4, .int (nI (104 + 3 * k6))), (0, .ref h0), (1, .int (nI jp)), (2, .int (nI jc)), (3, .int (nI jh))]) hx hb gX12_stamped_0.2.2.2.2.2.2.2.2.1 hl (by decide) rfl (fun ls hl => ?_)
  refine lv_aload_n hx hb gX12_stamped_0.2.2.2.2.2.2.2.2.2 rfl (lv_at1 hl) ?_
  refine gf_X12_9 hC rfl hK hP 0 rfl rfl gX12_stamped_1.1 ?_
  refine lv_iload hx hb gX12_stamped_1.2.1 (lv_at0 hl) ?_
  refine lv_iload_n hx hb gX12_stamped_1.2.2.1 rfl (lv_at2 hl) ?_
  refine astN hC hK hP hD hS 1 (ws' := [(h0, oX12 nw nk mhasKept nt mtaped nr mrowMany mroundOf mroundFrom mouts nm mfromHour mtoHour ns mfrom mto msort misFault mdeep mcoded mlines nl nc nF np ntr nb mbestCost nso nsi nit nsh nsf nss nrc mtraced mdealer mnumber mwhose msize misParted), (nw, iA G 1662 (upd fnw (104 + 3 * k6) (nI jp)))]) rfl (k := (104 + 3 * k6)) (by omega) (Nat.le_of_ble_eq_true rfl) (rfl) gX12_stamped_1.2.2.2.1 (fun H locs hP hD hS => ?_)
  refine lv_aload_n hx hb gX12_stamped_1.2.2.2.2.1 rfl (lv_at1 hl) ?_
  refine gf_X12_9 hC rfl hK hP 0 rfl rfl gX12_stamped_1.2.2.2.2.2.1 ?_
  refine lv_iload hx hb gX12_stamped_1.2.2.2.2.2.2.1 (lv_at0 hl) ?_
  refine lv_iconst (v := 1) hx hb gX12_stamped_1.2.2.2.2.2.2.2.1 (by decide) ?_
  refine lv_iadd hx hb gX12_stamped_1.2.2.2.2.2.2.2.2.1 ?_
  refine eqi (x1 := nI (104 + 3 * k6 + 1)) (nI_add (104 + 3 * k6) 1) ?_
  refine lv_iload_n hx hb gX12_stamped_1.2.2.2.2.2.2.2.2.2 rfl (lv_at3 hl) ?_
  refine astN hC hK hP hD hS 1 (ws' := [(h0, oX12 nw nk mhasKept nt mtaped nr mrowMany mroundOf mroundFrom mouts nm mfromHour mtoHour ns mfrom mto msort misFault mdeep mcoded mlines nl nc nF np ntr nb mbestCost nso nsi nit nsh nsf nss nrc mtraced mdealer mnumber mwhose msize misParted), (nw, iA G 1662 (upd (upd fnw (104 + 3 * k6) (nI jp)) (104 + 3 * k6 + 1) (nI jc)))]) rfl (k := (104 + 3 * k6 + 1)) (by omega) (Nat.le_of_ble_eq_true rfl) (rfl) gX12_stamped_2.1 (fun H locs hP hD hS => ?_)
  refine lv_aload_n hx hb gX12_stamped_2.2.1 rfl (lv_at1 hl) ?_
  refine gf_X12_9 hC rfl hK hP 0 rfl rfl gX12_stamped_2.2.2.1 ?_
  refine lv_iload hx hb gX12_stamped_2.2.2.2.1 (lv_at0 hl) ?_
  refine lv_iconst (v := 2) hx hb gX12_stamped_2.2.2.2.2.1 (by decide) ?_
  refine lv_iadd hx hb gX12_stamped_2.2.2.2.2.2.1 ?_
  refine eqi (x1 := nI (104 + 3 * k6 + 2)) (nI_add (104 + 3 * k6) 2) ?_
  refine lv_iload_n hx hb gX12_stamped_2.2.2.2.2.2.2.1 rfl (lv_at4 hl) ?_
  refine astN hC hK hP hD hS 1 (ws' := [(h0, oX12 nw nk mhasKept nt mtaped nr mrowMany mroundOf mroundFrom mouts nm mfromHour mtoHour ns mfrom mto msort misFault mdeep mcoded mlines nl nc nF np ntr nb mbestCost nso nsi nit nsh nsf nss nrc mtraced mdealer mnumber mwhose msize misParted), (nw, iA G 1662 (upd (upd (upd fnw (104 + 3 * k6) (nI jp)) (104 + 3 * k6 + 1) (nI jc)) (104 + 3 * k6 + 2) (nI jh)))]) rfl (k := (104 + 3 * k6 + 2)) (by omega) (Nat.le_of_ble_eq_true rfl) (rfl) gX12_stamped_2.2.2.2.2.2.2.2.1 (fun H locs hP hD hS => ?_)
  refine lv_aload_n hx hb gX12_stamped_2.2.2.2.2.2.2.2.2.1 rfl (lv_at1 hl) ?_
  refine gf_X12_9 hC rfl hK hP 0 rfl rfl gX12_stamped_2.2.2.2.2.2.2.2.2.2 ?_
  refine lv_bipush (v := 6) hx hb gX12_stamped_3.1 (by decide) ?_
  refine lv_dup2_11 hx hb gX12_stamped_3.2.1 rfl rfl ?_
  refine ald hC hK hP 1 rfl (vin (by decide +kernel)) (k := 6) (by decide +kernel) (v := nI k6) ((upd_ne (by omega)).trans ((upd_ne (by omega)).trans ((upd_ne (by omega)).trans (e6)))) gX12_stamped_3.2.2.1 ?_
  refine lv_iconst (v := 1) hx hb gX12_stamped_3.2.2.2.1 (by decide) ?_
  refine lv_iadd hx hb gX12_stamped_3.2.2.2.2.1 ?_
  refine eqi (x1 := nI (k6 + 1)) (nI_add k6 1) ?_
  refine ast hC hK hP hD hS 1 (ws' := [(h0, oX12 nw nk mhasKept nt mtaped nr mrowMany mroundOf mroundFrom mouts nm mfromHour mtoHour ns mfrom mto msort misFault mdeep mcoded mlines nl nc nF np ntr nb mbestCost nso nsi nit nsh nsf nss nrc mtraced mdealer mnumber mwhose msize misParted), (nw, iA G 1662 (upd (upd (upd (upd fnw (104 + 3 * k6) (nI jp)) (104 + 3 * k6 + 1) (nI jc)) (104 + 3 * k6 + 2) (nI jh)) 6 (nI (k6 + 1))))]) rfl (vin (by decide +kernel)) (k := 6) (by decide +kernel) (rfl) gX12_stamped_3.2.2.2.2.2.1 (fun H locs hP hD hS => ?_)
  have tu5878 : shf (upd (upd (upd (upd fnw (104 + 3 * k6) (nI jp)) (104 + 3 * k6 + 1) (nI jc)) (104 + 3 * k6 + 2) (nI jh)) 6 (nI (k6 + 1))) 104 = rowu (shf fnw 104) (k6 * 3) [nI jp, nI jc, nI jh] := by rw [sho (by omega), shu (j := k6 * 3 + 2) (by omega), shu (j := k6 * 3 + 1) (by omega), shu (j := k6 * 3 + 0) (by omega)]; rfl
  refine toQ hQ0 ?_
  exact RV hC hP hD hS [0, 1] (upd (upd (upd (upd fnw (104 + 3 * k6) (nI jp)) (104 + 3 * k6 + 1) (nI jc)) (104 + 3 * k6 + 2) (nI jh)) 6 (nI (k6 + 1))) rfl rfl (by decide) (⟨⟨((((hN).setN (B := 11) (bnd_st0 rfl (by omega)) (by omega) (by decide)).setN (B := 5) (bnd_st1 rfl (by omega)) (by omega) (by decide)).setN (B := 999) (bnd_st2 rfl (by omega)) (by omega) (by decide)).setN (B := 24) (show bnd 6 = (0, ((24 : Nat) : Int)) from by decide +kernel) (by omega) (by decide), ((((hV).set (by omega)).set (by omega)).set (by omega)).set (by omega), (((SCX.rf.set (by omega)).set (by omega)).set (by omega)).st, ((((FRO.rf).set (by omega)).set (by omega)).set (by omega)).set (by omega)⟩, upd_eq rfl, fun i _ => congrFun tu5878 i⟩) gX12_stamped_3.2.2.2.2.2.2
def K_w_stamp (l : Launch) (G : GG) (kq : Nat) (k6 : Nat) (h0 : Nat) (x1 : Int32) (x2 : Int32) (x3 : Int32) (nw : Nat) (nk : Nat) (mhasKept : Int32) (nt : Nat) (mtaped : Int32) (nr : Nat) (mrowMany : Int32) (mroundOf : Int32) (mroundFrom : Int32) (mouts : Int32) (nm : Nat) (mfromHour : Int32) (mtoHour : Int32) (ns : Nat) (mfrom : Int32) (mto : Int32) (msort : Int32) (misFault : Int32) (mdeep : Int32) (mcoded : Int32) (mlines : Int32) (nl : Nat) (nc : Nat) (nF : Nat) (np : Nat) (ntr : Nat) (nb : Nat) (mbestCost : Int32) (nso : Nat) (nsi : Nat) (nit : Nat) (nsh : Nat) (nsf : Nat) (nss : Nat) (nrc : Nat) (mtraced : Int32) (mdealer : Int32) (mnumber : Int32) (mwhose : Int32) (msize : Int32) (misParted : Int32) (fnw : Nat → Int32) : Prop := MI l G yX12_stamp cX12_stamp 4 (some .int) 4 0 0 [.ref h0, .int x1, .int x2, .int x3] [(h0, oX12 nw nk mhasKept nt mtaped nr mrowMany mroundOf mroundFrom mouts nm mfromHour mtoHour ns mfrom mto msort misFault mdeep mcoded mlines nl nc nF np ntr nb mbestCost nso nsi nit nsh nsf nss nrc mtraced mdealer mnumber mwhose msize misParted), (nw, iA G 1662 fnw)] (fun (r : Int32) (u : (Nat → Int32)) => (r = ifc (Hs x1 kq) (ifc (Wi x2 0 5) (ifc (Wi x3 0 999) (ifc (nI k6 = 24) (-2) (nI k6)) (-1)) (-1)) (-1)) ∧ (NI u ∧ VI u ∧ u 0 = fnw 0 ∧ u 1 = fnw 1 ∧ u 2 = fnw 2 ∧ u 3 = fnw 3 ∧ u 4 = fnw 4 ∧ u 5 = fnw 5 ∧ u 6 = ifc (Hs x1 kq) (ifc (Wi x2 0 5) (ifc (Wi x3 0 999) (ifc (nI k6 = 24) (nI k6) (nI (k6 + 1))) (nI k6)) (nI k6)) (nI k6) ∧ u 8 = fnw 8 ∧ u 9 = fnw 9 ∧ u 10 = fnw 10 ∧ u 11 = fnw 11 ∧ FRO u fnw 104 176 ∧ ∀ i : Nat, i < 72 → u (104 + i) = ifc (Hs x1 kq) (ifc (Wi x2 0 5) (ifc (Wi x3 0 999) (ifc (nI k6 = 24) (fnw (104 + i)) (rowu (shf fnw 104) (k6 * 3) [x1, x2, x3] i)) (fnw (104 + i))) (fnw (104 + i))) (fnw (104 + i)))) (fun u : (Nat → Int32) => [(h0, oX12 nw nk mhasKept nt mtaped nr mrowMany mroundOf mroundFrom mouts nm mfromHour mtoHour ns mfrom mto msort misFault mdeep mcoded mlines nl nc nF np ntr nb mbestCost nso nsi nit nsh nsf nss nrc mtraced mdealer mnumber mwhose msize misParted), (nw, iA G 1662 u)])
set_option maxHeartbeats 4000000 in
set_option maxRecDepth 100000 in
theorem w_stamp (l : Launch) (G : GG) (kq : Nat) (k6 : Nat) (h0 : Nat) (x1 : Int32) (x2 : Int32) (x3 : Int32) (nw : Nat) (nk : Nat) (mhasKept : Int32) (nt : Nat) (mtaped : Int32) (nr : Nat) (mrowMany : Int32) (mroundOf : Int32) (mroundFrom : Int32) (mouts : Int32) (nm : Nat) (mfromHour : Int32) (mtoHour : Int32) (ns : Nat) (mfrom : Int32) (mto : Int32) (msort : Int32) (misFault : Int32) (mdeep : Int32) (mcoded : Int32) (mlines : Int32) (nl : Nat) (nc : Nat) (nF : Nat) (np : Nat) (ntr : Nat) (nb : Nat) (mbestCost : Int32) (nso : Nat) (nsi : Nat) (nit : Nat) (nsh : Nat) (nsf : Nat) (nss : Nat) (nrc : Nat) (mtraced : Int32) (mdealer : Int32) (mnumber : Int32) (mwhose : Int32) (msize : Int32) (misParted : Int32) (fnw : Nat → Int32) (ekq : fnw 5 = nI kq) (hkq : kq ≤ 12) (ek6 : fnw 6 = nI k6) (hk6 : k6 ≤ 24) (hN : NI fnw) (hV : VI fnw) : K_w_stamp l G kq k6 h0 x1 x2 x3 nw nk mhasKept nt mtaped nr mrowMany mroundOf mroundFrom mouts nm mfromHour mtoHour ns mfrom mto msort misFault mdeep mcoded mlines nl nc nF np ntr nb mbestCost nso nsi nit nsh nsf nss nrc mtraced mdealer mnumber mwhose msize misParted fnw := by
  refine MI.start (by decide +kernel) (Nat.le_of_ble_eq_true rfl) ?_
  intro p e s m below meth c A ls hC hK hP hD hS hA hl
  refine absQ (fun Q0 hQ0 => ?_)
  have hl : lv_has ls 4 [(0, .ref h0), (1, .int x1), (2, .int x2), (3, .int x3)] := hl
  refine Kan8 hC (fun hx hb hr hml hB hown hlocks hnm => ?_)
  refine lv_aload_n hx hb gX12_stamp_0.1 rfl (lv_at0 hl) ?_
  refine lv_iload_n hx hb gX12_stamp_0.2.1 rfl (lv_at1 hl) ?_
  refine lv_iconst (v := 5) hx hb gX12_stamp_0.2.2.1 (by decide) ?_
  refine pV hC hK hl hP hD (m_is l G kq h0 x1 5 nw nk mhasKept nt mtaped nr mrowMany mroundOf mroundFrom mouts nm mfromHour mtoHour ns mfrom mto msort misFault mdeep mcoded mlines nl nc nF np ntr nb mbestCost nso nsi nit nsh nsf nss nrc mtraced mdealer mnumber mwhose msize misParted fnw (by omega) (ekq) (by omega)) si_X12_120 [0, 1] sm_0_1 fm_0_1 nd_0_1 rfl rfl rfl rfl rfl (Nat.le_of_ble_eq_true rfl) rm_4_2_3 ⟨by first | exact Nat.le_of_ble_eq_true rfl | exact Nat.zero_le _, by first | exact Nat.le_of_ble_eq_true rfl | exact Nat.zero_le _⟩ gX12_stamp_0.2.2.2.1 (Kors (Keqa fun a5880 => ?_) (Keqa fun a5880 => ?_))
  · refine lv_if_eq (tgt := 29) hx hb gX12_stamp_0.2.2.2.2.1 (by decide) (fun c9 => absurd c9 (by decide)) (fun _ => ?_)
    refine lv_iload_n hx hb gX12_stamp_0.2.2.2.2.2.1 rfl (lv_at2 hl) ?_
    refine lv_iconst (v := 0) hx hb gX12_stamp_0.2.2.2.2.2.2.1 (by decide) ?_
    refine lv_iconst (v := 5) hx hb gX12_stamp_0.2.2.2.2.2.2.2.1 (by decide) ?_
    refine pS hC hK hl (m_within l G x2 0 5) si_X12_84 rfl rfl (Nat.le_of_ble_eq_true rfl) rm_4_1_3 ⟨by first | exact Nat.le_of_ble_eq_true rfl | exact Nat.zero_le _, by first | exact Nat.le_of_ble_eq_true rfl | exact Nat.zero_le _⟩ gX12_stamp_0.2.2.2.2.2.2.2.2.1 (Kors (Keqa fun a5882 => ?_) (Keqa fun a5882 => ?_))
    · refine lv_if_eq (tgt := 29) hx hb gX12_stamp_0.2.2.2.2.2.2.2.2.2 (by decide) (fun c9 => absurd c9 (by decide)) (fun _ => ?_)
      refine lv_iload_n hx hb gX12_stamp_1.1 rfl (lv_at3 hl) ?_
      refine lv_iconst (v := 0) hx hb gX12_stamp_1.2.1 (by decide) ?_
      refine lv_sipush (v := 999) hx hb gX12_stamp_1.2.2.1 (by decide) ?_
      refine pS hC hK hl (m_within l G x3 0 999) si_X12_84 rfl rfl (Nat.le_of_ble_eq_true rfl) rm_4_1_3 ⟨by first | exact Nat.le_of_ble_eq_true rfl | exact Nat.zero_le _, by first | exact Nat.le_of_ble_eq_true rfl | exact Nat.zero_le _⟩ gX12_stamp_1.2.2.2.1 (Kors (Keqa fun a5884 => ?_) (Keqa fun a5884 => ?_))
      · refine lv_if_ne (tgt := 31) hx hb gX12_stamp_1.2.2.2.2.1 (by decide) (fun _ => ?_) (fun c9 => absurd c9 (by decide))
        refine lv_aload_n hx hb gX12_stamp_1.2.2.2.2.2.2.2.1 rfl (lv_at0 hl) ?_
        refine gf_X12_9 hC rfl hK hP 0 rfl rfl gX12_stamp_1.2.2.2.2.2.2.2.2.1 ?_
        refine lv_bipush (v := 6) hx hb gX12_stamp_1.2.2.2.2.2.2.2.2.2 (by decide) ?_
        refine ald hC hK hP 1 rfl (vin (by decide +kernel)) (k := 6) (by decide +kernel) (v := nI k6) (ek6) gX12_stamp_2.1 ?_
        refine lv_bipush (v := 24) hx hb gX12_stamp_2.2.1 (by decide) ?_
        refine lv_icmp_ne (tgt := 46) hx hb gX12_stamp_2.2.2.1 (by decide) (fun c_40_5885 => ?_) (fun c_40_5885 => ?_)
        · have hfull9 := nI_neq (a := k6) (b := 24) (by omega) (by decide) c_40_5885
          obtain ⟨jp, hjp, rfl⟩ := Hs_nat (by omega) a5880
          obtain ⟨jc, hjc, rfl⟩ := Wi_nat (N := 5) (by decide) a5882
          obtain ⟨jh, hjh, rfl⟩ := Wi_nat (N := 999) (by decide) a5884
          refine lv_aload_n hx hb gX12_stamp_2.2.2.2.2.2.1 rfl (lv_at0 hl) ?_
          refine lv_iload_n hx hb gX12_stamp_2.2.2.2.2.2.2.1 rfl (lv_at1 hl) ?_
          refine lv_iload_n hx hb gX12_stamp_2.2.2.2.2.2.2.2.1 rfl (lv_at2 hl) ?_
          refine lv_iload_n hx hb gX12_stamp_2.2.2.2.2.2.2.2.2.1 rfl (lv_at3 hl) ?_
          refine vV (wr := []) hC hK hl hP hD hS hA (m_stamped l G k6 h0 jp jc jh nw nk mhasKept nt mtaped nr mrowMany mroundOf mroundFrom mouts nm mfromHour mtoHour ns mfrom mto msort misFault mdeep mcoded mlines nl nc nF np ntr nb mbestCost nso nsi nit nsh nsf nss nrc mtraced mdealer mnumber mwhose msize misParted fnw (ek6) (by omega) (by omega) (by omega) (by omega) (hN) (hV)) si_X12_133 [0, 1] [] sm_0_1 fm_0_1 nd_0_1 rfl rfl (by decide) rfl rfl rfl rfl rfl (Nat.le_of_ble_eq_true rfl) rm_4_1_5 ⟨Nat.le_of_ble_eq_true rfl, Nat.le_of_ble_eq_true rfl⟩ gX12_stamp_2.2.2.2.2.2.2.2.2.2 (fun gnw5888 H locs hr5886 hP hD hS => ?_)
          try dsimp only at hr5886
          refine Kpdr (ws := [(h0, oX12 nw nk mhasKept nt mtaped nr mrowMany mroundOf mroundFrom mouts nm mfromHour mtoHour ns mfrom mto msort misFault mdeep mcoded mlines nl nc nF np ntr nb mbestCost nso nsi nit nsh nsf nss nrc mtraced mdealer mnumber mwhose msize misParted), (nw, iA G 1662 gnw5888)]) hP hD (fun hP hD => ?_)
          have w5889 := hr5886
          have hNV9 := w5889.1
          refine lv_aload_n hx hb gX12_stamp_3.1 rfl (lv_at0 hl) ?_
          refine gf_X12_9 hC rfl hK hP 0 rfl rfl gX12_stamp_3.2.1 ?_
          refine lv_bipush (v := 6) hx hb gX12_stamp_3.2.2.1 (by decide) ?_
          refine ald hC hK hP 1 rfl (vin (by decide +kernel)) (k := 6) (by decide +kernel) (v := nI (k6 + 1)) (w5889.2.1) gX12_stamp_3.2.2.2.1 ?_
          refine lv_iconst (v := 1) hx hb gX12_stamp_3.2.2.2.2.1 (by decide) ?_
          refine lv_isub hx hb gX12_stamp_3.2.2.2.2.2.1 ?_
          refine eqi (x1 := nI k6) (nI_sub1 _) ?_
          refine toQ hQ0 ?_
          exact RI (v := nI k6) hC hP hD hS [0, 1] gnw5888 rfl rfl (by decide) (⟨(by first | rfl | (simp only [ifc_t ekq, ifc_t hkq, ifc_t ek6, ifc_t hk6, ifc_t hN, ifc_t hV, ifc_t a5880, ifc_t a5882, ifc_t a5884, ifc_f c_40_5885]; done) | (simp only [ifc_t ekq, ifc_t hkq, ifc_t ek6, ifc_t hk6, ifc_t hN, ifc_t hV, ifc_t a5880, ifc_t a5882, ifc_t a5884, ifc_f c_40_5885]; rfl)), ⟨w5889.1.1, w5889.1.2.1, w5889.1.2.2.1.1, w5889.1.2.2.1.2.1, w5889.1.2.2.1.2.2.1, w5889.1.2.2.1.2.2.2.1, w5889.1.2.2.1.2.2.2.2.1, w5889.1.2.2.1.2.2.2.2.2.1, (w5889.1.2.2.1.2.2.2.2.2.2.1).trans (by first | rfl | (simp only [ifc_t ekq, ifc_t hkq, ifc_t ek6, ifc_t hk6, ifc_t hN, ifc_t hV, ifc_t a5880, ifc_t a5882, ifc_t a5884, ifc_f c_40_5885]; done)), w5889.1.2.2.1.2.2.2.2.2.2.2.1, w5889.1.2.2.1.2.2.2.2.2.2.2.2.1, w5889.1.2.2.1.2.2.2.2.2.2.2.2.2.1, w5889.1.2.2.1.2.2.2.2.2.2.2.2.2.2, w5889.1.2.2.2, fun i hi9 => (w5889.2.2 i hi9).trans (by first | rfl | (simp only [ifc_t ekq, ifc_t hkq, ifc_t ek6, ifc_t hk6, ifc_t hN, ifc_t hV, ifc_t a5880, ifc_t a5882, ifc_t a5884, ifc_f c_40_5885]; done))⟩⟩) rfl gX12_stamp_3.2.2.2.2.2.2
        · refine lv_bipush (v := (-2)) hx hb gX12_stamp_2.2.2.2.1 (by decide) ?_
          refine toQ hQ0 ?_
          exact RI (v := (-2)) hC hP hD hS [0, 1] fnw rfl rfl (by decide) (⟨(by first | rfl | (simp only [ifc_t ekq, ifc_t hkq, ifc_t ek6, ifc_t hk6, ifc_t hN, ifc_t hV, ifc_t a5880, ifc_t a5882, ifc_t a5884, ifc_t c_40_5885]; done) | (simp only [ifc_t ekq, ifc_t hkq, ifc_t ek6, ifc_t hk6, ifc_t hN, ifc_t hV, ifc_t a5880, ifc_t a5882, ifc_t a5884, ifc_t c_40_5885]; rfl)), ⟨hN, hV, rfl, rfl, rfl, rfl, rfl, rfl, ek6.trans (by first | rfl | (simp only [ifc_t ekq, ifc_t hkq, ifc_t ek6, ifc_t hk6, ifc_t hN, ifc_t hV, ifc_t a5880, ifc_t a5882, ifc_t a5884, ifc_t c_40_5885]; done)), rfl, rfl, rfl, rfl, FRO.rf, fun i hi9 => (by first | rfl | (simp only [ifc_t ekq, ifc_t hkq, ifc_t ek6, ifc_t hk6, ifc_t hN, ifc_t hV, ifc_t a5880, ifc_t a5882, ifc_t a5884, ifc_t c_40_5885]; done))⟩⟩) rfl gX12_stamp_2.2.2.2.2.1
      · refine lv_if_ne (tgt := 31) hx hb gX12_stamp_1.2.2.2.2.1 (by decide) (fun c9 => absurd (by decide) c9) (fun _ => ?_)
        refine lv_iconst (v := (-1)) hx hb gX12_stamp_1.2.2.2.2.2.1 (by decide) ?_
        refine toQ hQ0 ?_
        exact RI (v := (-1)) hC hP hD hS [0, 1] fnw rfl rfl (by decide) (⟨(by first | rfl | (simp only [ifc_t ekq, ifc_t hkq, ifc_t ek6, ifc_t hk6, ifc_t hN, ifc_t hV, ifc_t a5880, ifc_t a5882, ifc_f a5884]; done) | (simp only [ifc_t ekq, ifc_t hkq, ifc_t ek6, ifc_t hk6, ifc_t hN, ifc_t hV, ifc_t a5880, ifc_t a5882, ifc_f a5884]; rfl)), ⟨hN, hV, rfl, rfl, rfl, rfl, rfl, rfl, ek6.trans (by first | rfl | (simp only [ifc_t ekq, ifc_t hkq, ifc_t ek6, ifc_t hk6, ifc_t hN, ifc_t hV, ifc_t a5880, ifc_t a5882, ifc_f a5884]; done)), rfl, rfl, rfl, rfl, FRO.rf, fun i hi9 => (by first | rfl | (simp only [ifc_t ekq, ifc_t hkq, ifc_t ek6, ifc_t hk6, ifc_t hN, ifc_t hV, ifc_t a5880, ifc_t a5882, ifc_f a5884]; done))⟩⟩) rfl gX12_stamp_1.2.2.2.2.2.2.1
    · refine lv_if_eq (tgt := 29) hx hb gX12_stamp_0.2.2.2.2.2.2.2.2.2 (by decide) (fun _ => ?_) (fun c9 => absurd (by decide) c9)
      refine lv_iconst (v := (-1)) hx hb gX12_stamp_1.2.2.2.2.2.1 (by decide) ?_
      refine toQ hQ0 ?_
      exact RI (v := (-1)) hC hP hD hS [0, 1] fnw rfl rfl (by decide) (⟨(by first | rfl | (simp only [ifc_t ekq, ifc_t hkq, ifc_t ek6, ifc_t hk6, ifc_t hN, ifc_t hV, ifc_t a5880, ifc_f a5882]; done) | (simp only [ifc_t ekq, ifc_t hkq, ifc_t ek6, ifc_t hk6, ifc_t hN, ifc_t hV, ifc_t a5880, ifc_f a5882]; rfl)), ⟨hN, hV, rfl, rfl, rfl, rfl, rfl, rfl, ek6.trans (by first | rfl | (simp only [ifc_t ekq, ifc_t hkq, ifc_t ek6, ifc_t hk6, ifc_t hN, ifc_t hV, ifc_t a5880, ifc_f a5882]; done)), rfl, rfl, rfl, rfl, FRO.rf, fun i hi9 => (by first | rfl | (simp only [ifc_t ekq, ifc_t hkq, ifc_t ek6, ifc_t hk6, ifc_t hN, ifc_t hV, ifc_t a5880, ifc_f a5882]; done))⟩⟩) rfl gX12_stamp_1.2.2.2.2.2.2.1
  · refine lv_if_eq (tgt := 29) hx hb gX12_stamp_0.2.2.2.2.1 (by decide) (fun _ => ?_) (fun c9 => absurd (by decide) c9)
    refine lv_iconst (v := (-1)) hx hb gX12_stamp_1.2.2.2.2.2.1 (by decide) ?_
    refine toQ hQ0 ?_
    exact RI (v := (-1)) hC hP hD hS [0, 1] fnw rfl rfl (by decide) (⟨(by first | rfl | (simp only [ifc_t ekq, ifc_t hkq, ifc_t ek6, ifc_t hk6, ifc_t hN, ifc_t hV, ifc_f a5880]; done) | (simp only [ifc_t ekq, ifc_t hkq, ifc_t ek6, ifc_t hk6, ifc_t hN, ifc_t hV, ifc_f a5880]; rfl)), ⟨hN, hV, rfl, rfl, rfl, rfl, rfl, rfl, ek6.trans (by first | rfl | (simp only [ifc_t ekq, ifc_t hkq, ifc_t ek6, ifc_t hk6, ifc_t hN, ifc_t hV, ifc_f a5880]; done)), rfl, rfl, rfl, rfl, FRO.rf, fun i hi9 => (by first | rfl | (simp only [ifc_t ekq, ifc_t hkq, ifc_t ek6, ifc_t hk6, ifc_t hN, ifc_t hV, ifc_f a5880]; done))⟩⟩) rfl gX12_stamp_1.2.2.2.2.2.2.1
def K_w_saying (l : Launch) (G : GG) (kp : Nat) (kq : Nat) (k8 : Nat) (h0 : Nat) (x1 : Int32) (x2 : Int32) (x3 : Int32) (x4 : Int32) (x5 : Int32) (x6 : Int32) (nw : Nat) (nk : Nat) (mhasKept : Int32) (nt : Nat) (mtaped : Int32) (nr : Nat) (mrowMany : Int32) (mroundOf : Int32) (mroundFrom : Int32) (mouts : Int32) (nm : Nat) (mfromHour : Int32) (mtoHour : Int32) (ns : Nat) (mfrom : Int32) (mto : Int32) (msort : Int32) (misFault : Int32) (mdeep : Int32) (mcoded : Int32) (mlines : Int32) (nl : Nat) (nc : Nat) (nF : Nat) (np : Nat) (ntr : Nat) (nb : Nat) (mbestCost : Int32) (nso : Nat) (nsi : Nat) (nit : Nat) (nsh : Nat) (nsf : Nat) (nss : Nat) (nrc : Nat) (mtraced : Int32) (mdealer : Int32) (mnumber : Int32) (mwhose : Int32) (msize : Int32) (misParted : Int32) (fnw : Nat → Int32) : Prop := MI l G yX12_saying_ cX12_saying_ 10 (some .int) 3 0 0 [.ref h0, .int x1, .int x2, .int x3, .int x4, .int x5, .int x6] [(h0, oX12 nw nk mhasKept nt mtaped nr mrowMany mroundOf mroundFrom mouts nm mfromHour mtoHour ns mfrom mto msort misFault mdeep mcoded mlines nl nc nF np ntr nb mbestCost nso nsi nit nsh nsf nss nrc mtraced mdealer mnumber mwhose msize misParted), (nw, iA G 1662 fnw)] (fun (r : Int32) (u : (Nat → Int32)) => (r = ifc (Hs x1 kp) (ifc (Hs x2 kp) (ifc (Hs x3 kq) (ifc (HOW x4) (ifc (TLK x6 k8) (ifc (nI k8 = 16) (-2) (nI k8)) (-1)) (-1)) (-1)) (-1)) (-1)) ∧ (NI u ∧ VI u ∧ u 0 = fnw 0 ∧ u 1 = fnw 1 ∧ u 2 = fnw 2 ∧ u 3 = fnw 3 ∧ u 4 = fnw 4 ∧ u 5 = fnw 5 ∧ u 6 = fnw 6 ∧ u 8 = ifc (Hs x1 kp) (ifc (Hs x2 kp) (ifc (Hs x3 kq) (ifc (HOW x4) (ifc (TLK x6 k8) (ifc (nI k8 = 16) (nI k8) (nI (k8 + 1))) (nI k8)) (nI k8)) (nI k8)) (nI k8)) (nI k8) ∧ u 9 = fnw 9 ∧ u 10 = fnw 10 ∧ u 11 = fnw 11 ∧ FRO u fnw 1424 1552 ∧ ∀ i : Nat, i < 128 → u (1424 + i) = ifc (Hs x1 kp) (ifc (Hs x2 kp) (ifc (Hs x3 kq) (ifc (HOW x4) (ifc (TLK x6 k8) (ifc (nI k8 = 16) (fnw (1424 + i)) (rowu (shf fnw 1424) (k8 * 8) [x1, x2, x3, x4 / 10, x4 - x4 / 10 * 10, ifc (x5 = 0) 0 1, x6, fnw 0] i)) (fnw (1424 + i))) (fnw (1424 + i))) (fnw (1424 + i))) (fnw (1424 + i))) (fnw (1424 + i)))) (fun u : (Nat → Int32) => [(h0, oX12 nw nk mhasKept nt mtaped nr mrowMany mroundOf mroundFrom mouts nm mfromHour mtoHour ns mfrom mto msort misFault mdeep mcoded mlines nl nc nF np ntr nb mbestCost nso nsi nit nsh nsf nss nrc mtraced mdealer mnumber mwhose msize misParted), (nw, iA G 1662 u)])
set_option maxHeartbeats 4000000 in
set_option maxRecDepth 100000 in
theorem w_saying (l : Launch) (G : GG) (kp : Nat) (kq : Nat) (k8 : Nat) (h0 : Nat) (x1 : Int32) (x2 : Int32) (x3 : Int32) (x4 : Int32) (x5 : Int32) (x6 : Int32) (nw : Nat) (nk : Nat) (mhasKept : Int32) (nt : Nat) (mtaped : Int32) (nr : Nat) (mrowMany : Int32) (mroundOf : Int32) (mroundFrom : Int32) (mouts : Int32) (nm : Nat) (mfromHour : Int32) (mtoHour : Int32) (ns : Nat) (mfrom : Int32) (mto : Int32) (msort : Int32) (misFault : Int32) (mdeep : Int32) (mcoded : Int32) (mlines : Int32) (nl : Nat) (nc : Nat) (nF : Nat) (np : Nat) (ntr : Nat) (nb : Nat) (mbestCost : Int32) (nso : Nat) (nsi : Nat) (nit : Nat) (nsh : Nat) (nsf : Nat) (nss : Nat) (nrc : Nat) (mtraced : Int32) (mdealer : Int32) (mnumber : Int32) (mwhose : Int32) (msize : Int32) (misParted : Int32) (fnw : Nat → Int32) (ekp : fnw 4 = nI kp) (hkp : kp ≤ 10) (ekq : fnw 5 = nI kq) (hkq : kq ≤ 12) (ek8 : fnw 8 = nI k8) (hk8 : k8 ≤ 16) (hN : NI fnw) (hV : VI fnw) : K_w_saying l G kp kq k8 h0 x1 x2 x3 x4 x5 x6 nw nk mhasKept nt mtaped nr mrowMany mroundOf mroundFrom mouts nm mfromHour mtoHour ns mfrom mto msort misFault mdeep mcoded mlines nl nc nF np ntr nb mbestCost nso nsi nit nsh nsf nss nrc mtraced mdealer mnumber mwhose msize misParted fnw := by
  refine MI.start (by decide +kernel) (Nat.le_of_ble_eq_true rfl) ?_
  intro p e s m below meth c A ls hC hK hP hD hS hA hl
  refine absQ (fun Q0 hQ0 => ?_)
  have hl : lv_has ls 10 [(0, .ref h0), (1, .int x1), (2, .int x2), (3, .int x3), (4, .int x4), (5, .int x5), (6, .int x6)] := hl
  refine Kan8 hC (fun hx hb hr hml hB hown hlocks hnm => ?_)
  refine lv_aload_n hx hb gX12_saying__0.1 rfl (lv_at0 hl) ?_
  refine lv_iload_n hx hb gX12_saying__0.2.1 rfl (lv_at1 hl) ?_
  refine lv_iconst (v := 4) hx hb gX12_saying__0.2.2.1 (by decide) ?_
  refine pV hC hK hl hP hD (m_is l G kp h0 x1 4 nw nk mhasKept nt mtaped nr mrowMany mroundOf mroundFrom mouts nm mfromHour mtoHour ns mfrom mto msort misFault mdeep mcoded mlines nl nc nF np ntr nb mbestCost nso nsi nit nsh nsf nss nrc mtraced mdealer mnumber mwhose msize misParted fnw (by omega) (ekp) (by omega)) si_X12_120 [0, 1] sm_0_1 fm_0_1 nd_0_1 rfl rfl rfl rfl rfl (Nat.le_of_ble_eq_true rfl) rm_3_2_3 ⟨by first | exact Nat.le_of_ble_eq_true rfl | exact Nat.zero_le _, by first | exact Nat.le_of_ble_eq_true rfl | exact Nat.zero_le _⟩ gX12_saying__0.2.2.2.1 (Kors (Keqa fun a5891 => ?_) (Keqa fun a5891 => ?_))
  · refine lv_if_eq (tgt := 51) hx hb gX12_saying__0.2.2.2.2.1 (by decide) (fun c9 => absurd c9 (by decide)) (fun _ => ?_)
    refine lv_aload_n hx hb gX12_saying__0.2.2.2.2.2.1 rfl (lv_at0 hl) ?_
    refine lv_iload_n hx hb gX12_saying__0.2.2.2.2.2.2.1 rfl (lv_at2 hl) ?_
    refine lv_iconst (v := 4) hx hb gX12_saying__0.2.2.2.2.2.2.2.1 (by decide) ?_
    refine pV hC hK hl hP hD (m_is l G kp h0 x2 4 nw nk mhasKept nt mtaped nr mrowMany mroundOf mroundFrom mouts nm mfromHour mtoHour ns mfrom mto msort misFault mdeep mcoded mlines nl nc nF np ntr nb mbestCost nso nsi nit nsh nsf nss nrc mtraced mdealer mnumber mwhose msize misParted fnw (by omega) (ekp) (by omega)) si_X12_120 [0, 1] sm_0_1 fm_0_1 nd_0_1 rfl rfl rfl rfl rfl (Nat.le_of_ble_eq_true rfl) rm_3_2_3 ⟨by first | exact Nat.le_of_ble_eq_true rfl | exact Nat.zero_le _, by first | exact Nat.le_of_ble_eq_true rfl | exact Nat.zero_le _⟩ gX12_saying__0.2.2.2.2.2.2.2.2.1 (Kors (Keqa fun a5893 => ?_) (Keqa fun a5893 => ?_))
    · refine lv_if_eq (tgt := 51) hx hb gX12_saying__0.2.2.2.2.2.2.2.2.2 (by decide) (fun c9 => absurd c9 (by decide)) (fun _ => ?_)
      refine lv_aload_n hx hb gX12_saying__1.1 rfl (lv_at0 hl) ?_
      refine lv_iload_n hx hb gX12_saying__1.2.1 rfl (lv_at3 hl) ?_
      refine lv_iconst (v := 5) hx hb gX12_saying__1.2.2.1 (by decide) ?_
      refine pV hC hK hl hP hD (m_is l G kq h0 x3 5 nw nk mhasKept nt mtaped nr mrowMany mroundOf mroundFrom mouts nm mfromHour mtoHour ns mfrom mto msort misFault mdeep mcoded mlines nl nc nF np ntr nb mbestCost nso nsi nit nsh nsf nss nrc mtraced mdealer mnumber mwhose msize misParted fnw (by omega) (ekq) (by omega)) si_X12_120 [0, 1] sm_0_1 fm_0_1 nd_0_1 rfl rfl rfl rfl rfl (Nat.le_of_ble_eq_true rfl) rm_3_2_3 ⟨by first | exact Nat.le_of_ble_eq_true rfl | exact Nat.zero_le _, by first | exact Nat.le_of_ble_eq_true rfl | exact Nat.zero_le _⟩ gX12_saying__1.2.2.2.1 (Kors (Keqa fun a5895 => ?_) (Keqa fun a5895 => ?_))
      · refine lv_if_eq (tgt := 51) hx hb gX12_saying__1.2.2.2.2.1 (by decide) (fun c9 => absurd c9 (by decide)) (fun _ => ?_)
        refine lv_iload hx hb gX12_saying__1.2.2.2.2.2.1 (lv_at4 hl) ?_
        refine lv_iconst (v := 1) hx hb gX12_saying__1.2.2.2.2.2.2.1 (by decide) ?_
        refine lv_sipush (v := 9999) hx hb gX12_saying__1.2.2.2.2.2.2.2.1 (by decide) ?_
        refine pS hC hK hl (m_within l G x4 1 9999) si_X12_84 rfl rfl (Nat.le_of_ble_eq_true rfl) rm_3_1_3 ⟨by first | exact Nat.le_of_ble_eq_true rfl | exact Nat.zero_le _, by first | exact Nat.le_of_ble_eq_true rfl | exact Nat.zero_le _⟩ gX12_saying__1.2.2.2.2.2.2.2.2.1 (Kors (Keqa fun a5897 => ?_) (Keqa fun a5897 => ?_))
        · refine lv_if_eq (tgt := 51) hx hb gX12_saying__1.2.2.2.2.2.2.2.2.2 (by decide) (fun c9 => absurd c9 (by decide)) (fun _ => ?_)
          refine lv_iload hx hb gX12_saying__2.1 (lv_at4 hl) ?_
          refine lv_bipush (v := 10) hx hb gX12_saying__2.2.1 (by decide) ?_
          refine lv_irem hx hb gX12_saying__2.2.2.1 (by decide) ?_
          refine lv_topi (fun x5898 ex5898 => ?_)
          refine lv_if_le (tgt := 51) hx hb gX12_saying__2.2.2.2.1 (by decide) (fun c_44_5899 => ?_) (fun c_44_5899 => ?_)
          · refine lv_iconst (v := 0) hx hb gX12_saying__2.2.2.2.2.2.2.1 (by decide) ?_
            refine lv_istore (lv' := [(7, .int 0), (0, .ref h0), (1, .int x1), (2, .int x2), (3, .int x3), (4, .int x4), (5, .int x5), (6, .int x6)]) hx hb gX12_saying__2.2.2.2.2.2.2.2.1 hl (by decide) rfl (fun ls hl => ?_)
            refine lv_iload hx hb gX12_saying__2.2.2.2.2.2.2.2.2.1 (lv_at0 hl) ?_
            refine lv_if_eq (tgt := 76) hx hb gX12_saying__2.2.2.2.2.2.2.2.2.2 (by decide) (fun _ => ?_) (fun c9 => absurd (by decide) c9)
            refine lv_iconst (v := (-1)) hx hb gX12_saying__3.2.2.2.2.2.2.2.2.1 (by decide) ?_
            refine toQ hQ0 ?_
            exact RI (v := (-1)) hC hP hD hS [0, 1] fnw rfl rfl (by decide) (⟨(by first | rfl | (simp only [ifc_t ekp, ifc_t hkp, ifc_t ekq, ifc_t hkq, ifc_t ek8, ifc_t hk8, ifc_t hN, ifc_t hV, ifc_t a5891, ifc_t a5893, ifc_t a5895, ifc_t a5897, ifc_t c_44_5899, ifc_f (fun h9 : HOW x4 => Int32.not_lt.mpr c_44_5899 (ex5898 ▸ h9.2))]; done) | (simp only [ifc_t ekp, ifc_t hkp, ifc_t ekq, ifc_t hkq, ifc_t ek8, ifc_t hk8, ifc_t hN, ifc_t hV, ifc_t a5891, ifc_t a5893, ifc_t a5895, ifc_t a5897, ifc_t c_44_5899, ifc_f (fun h9 : HOW x4 => Int32.not_lt.mpr c_44_5899 (ex5898 ▸ h9.2))]; rfl)), ⟨hN, hV, rfl, rfl, rfl, rfl, rfl, rfl, rfl, (rfl).trans ((ek8).trans (by first | rfl | (simp only [ifc_t ekp, ifc_t hkp, ifc_t ekq, ifc_t hkq, ifc_t ek8, ifc_t hk8, ifc_t hN, ifc_t hV, ifc_t a5891, ifc_t a5893, ifc_t a5895, ifc_t a5897, ifc_t c_44_5899, ifc_f (fun h9 : HOW x4 => Int32.not_lt.mpr c_44_5899 (ex5898 ▸ h9.2))]; done) | (simp only [ifc_t ekp, ifc_t hkp, ifc_t ekq, ifc_t hkq, ifc_t ek8, ifc_t hk8, ifc_t hN, ifc_t hV, ifc_t a5891, ifc_t a5893, ifc_t a5895, ifc_t a5897, ifc_t c_44_5899, ifc_f (fun h9 : HOW x4 => Int32.not_lt.mpr c_44_5899 (ex5898 ▸ h9.2))]; rfl))), rfl, rfl, rfl, FRO.rf, (fun i hi9 => by first | rfl | (simp only [ifc_t ekp, ifc_t hkp, ifc_t ekq, ifc_t hkq, ifc_t ek8, ifc_t hk8, ifc_t hN, ifc_t hV, ifc_t a5891, ifc_t a5893, ifc_t a5895, ifc_t a5897, ifc_t c_44_5899, ifc_f (fun h9 : HOW x4 => Int32.not_lt.mpr c_44_5899 (ex5898 ▸ h9.2))]; done))⟩⟩) rfl gX12_saying__3.2.2.2.2.2.2.2.2.2
          · refine lv_iconst (v := 1) hx hb gX12_saying__2.2.2.2.2.1 (by decide) ?_
            refine lv_goto (tgt := 52) hx hb gX12_saying__2.2.2.2.2.2.1 (by decide) ?_
            refine lv_istore (lv' := [(7, .int 1), (0, .ref h0), (1, .int x1), (2, .int x2), (3, .int x3), (4, .int x4), (5, .int x5), (6, .int x6)]) hx hb gX12_saying__2.2.2.2.2.2.2.2.1 hl (by decide) rfl (fun ls hl => ?_)
            refine lv_iload hx hb gX12_saying__2.2.2.2.2.2.2.2.2.1 (lv_at0 hl) ?_
            refine lv_if_eq (tgt := 76) hx hb gX12_saying__2.2.2.2.2.2.2.2.2.2 (by decide) (fun c9 => absurd c9 (by decide)) (fun _ => ?_)
            refine lv_iload hx hb gX12_saying__3.1 (lv_at7 hl) ?_
            refine lv_iconst (v := (-1)) hx hb gX12_saying__3.2.1 (by decide) ?_
            refine lv_icmp_eq (tgt := 78) hx hb gX12_saying__3.2.2.1 (by decide) (fun c_62_5900 => ?_) (fun c_62_5900 => ?_)
            · refine lv_aload_n hx hb gX12_saying__4.1 rfl (lv_at1 hl) ?_
              refine gf_X12_9 hC rfl hK hP 0 rfl rfl gX12_saying__4.2.1 ?_
              refine lv_bipush (v := 8) hx hb gX12_saying__4.2.2.1 (by decide) ?_
              refine ald hC hK hP 1 rfl (vin (by decide +kernel)) (k := 8) (by decide +kernel) (v := nI k8) (ek8) gX12_saying__4.2.2.2.1 ?_
              refine lv_istore (lv' := [(8, .int (nI k8)), (7, .int 1), (0, .ref h0), (1, .int x1), (2, .int x2), (3, .int x3), (4, .int x4), (5, .int x5), (6, .int x6)]) hx hb gX12_saying__4.2.2.2.2.1 hl (by decide) rfl (fun ls hl => ?_)
              refine lv_iload hx hb gX12_saying__4.2.2.2.2.2.1 (lv_at0 hl) ?_
              refine lv_bipush (v := 16) hx hb gX12_saying__4.2.2.2.2.2.2.1 (by decide) ?_
              refine lv_icmp_ne (tgt := 97) hx hb gX12_saying__4.2.2.2.2.2.2.2.1 (by decide) (fun c_91_5901 => ?_) (fun c_91_5901 => ?_)
              · have hfull9 := nI_neq (a := k8) (b := 16) (by omega) (by decide) c_91_5901
                obtain ⟨jb, hjb, rfl⟩ := Hs_nat (by omega) a5893
                obtain ⟨jp, hjp, rfl⟩ := Hs_nat (by omega) a5895
                refine lv_sipush (v := 1424) hx hb gX12_saying__5.1 (by decide) ?_
                refine lv_bipush (v := 8) hx hb gX12_saying__5.2.1 (by decide) ?_
                refine lv_iload hx hb gX12_saying__5.2.2.1 (lv_at0 hl) ?_
                refine lv_imul hx hb gX12_saying__5.2.2.2.1 ?_
                refine eqi (x1 := nI (8 * k8)) (nI_mul 8 k8) ?_
                refine lv_iadd hx hb gX12_saying__5.2.2.2.2.1 ?_
                refine eqi (x1 := nI (1424 + 8 * k8)) (nI_add 1424 (8 * k8)) ?_
                refine lv_istore (lv' := [(9, .int (nI (1424 + 8 * k8))), (8, .int (nI k8)), (7, .int 1), (0, .ref h0), (1, .int x1), (2, .int (nI jb)), (3, .int (nI jp)), (4, .int x4), (5, .int x5), (6, .int x6)]) hx hb gX12_saying__5.2.2.2.2.2.1 hl (by decide) rfl (fun ls hl => ?_)
                refine lv_aload_n hx hb gX12_saying__5.2.2.2.2.2.2.1 rfl (lv_at3 hl) ?_
                refine gf_X12_9 hC rfl hK hP 0 rfl rfl gX12_saying__5.2.2.2.2.2.2.2.1 ?_
                refine lv_iload hx hb gX12_saying__5.2.2.2.2.2.2.2.2.1 (lv_at0 hl) ?_
                refine lv_iconst (v := 0) hx hb gX12_saying__5.2.2.2.2.2.2.2.2.2 (by decide) ?_
                refine lv_iadd hx hb gX12_saying__6.1 ?_
                refine eqi (x1 := nI (1424 + 8 * k8 + 0)) (nI_add (1424 + 8 * k8) 0) ?_
                refine lv_iload_n hx hb gX12_saying__6.2.1 rfl (lv_at4 hl) ?_
                refine astN hC hK hP hD hS 1 (ws' := [(h0, oX12 nw nk mhasKept nt mtaped nr mrowMany mroundOf mroundFrom mouts nm mfromHour mtoHour ns mfrom mto msort misFault mdeep mcoded mlines nl nc nF np ntr nb mbestCost nso nsi nit nsh nsf nss nrc mtraced mdealer mnumber mwhose msize misParted), (nw, iA G 1662 (upd fnw (1424 + 8 * k8 + 0) x1))]) rfl (k := (1424 + 8 * k8 + 0)) (by omega) (Nat.le_of_ble_eq_true rfl) (rfl) gX12_saying__6.2.2.1 (fun H locs hP hD hS => ?_)
                refine lv_aload_n hx hb gX12_saying__6.2.2.2.1 rfl (lv_at3 hl) ?_
                refine gf_X12_9 hC rfl hK hP 0 rfl rfl gX12_saying__6.2.2.2.2.1 ?_
                refine lv_iload hx hb gX12_saying__6.2.2.2.2.2.1 (lv_at0 hl) ?_
                refine lv_iconst (v := 1) hx hb gX12_saying__6.2.2.2.2.2.2.1 (by decide) ?_
                refine lv_iadd hx hb gX12_saying__6.2.2.2.2.2.2.2.1 ?_
                refine eqi (x1 := nI (1424 + 8 * k8 + 1)) (nI_add (1424 + 8 * k8) 1) ?_
                refine lv_iload_n hx hb gX12_saying__6.2.2.2.2.2.2.2.2.1 rfl (lv_at5 hl) ?_
                refine astN hC hK hP hD hS 1 (ws' := [(h0, oX12 nw nk mhasKept nt mtaped nr mrowMany mroundOf mroundFrom mouts nm mfromHour mtoHour ns mfrom mto msort misFault mdeep mcoded mlines nl nc nF np ntr nb mbestCost nso nsi nit nsh nsf nss nrc mtraced mdealer mnumber mwhose msize misParted), (nw, iA G 1662 (upd (upd fnw (1424 + 8 * k8 + 0) x1) (1424 + 8 * k8 + 1) (nI jb)))]) rfl (k := (1424 + 8 * k8 + 1)) (by omega) (Nat.le_of_ble_eq_true rfl) (rfl) gX12_saying__6.2.2.2.2.2.2.2.2.2 (fun H locs hP hD hS => ?_)
                refine lv_aload_n hx hb gX12_saying__7.1 rfl (lv_at3 hl) ?_
                refine gf_X12_9 hC rfl hK hP 0 rfl rfl gX12_saying__7.2.1 ?_
                refine lv_iload hx hb gX12_saying__7.2.2.1 (lv_at0 hl) ?_
                refine lv_iconst (v := 2) hx hb gX12_saying__7.2.2.2.1 (by decide) ?_
                refine lv_iadd hx hb gX12_saying__7.2.2.2.2.1 ?_
                refine eqi (x1 := nI (1424 + 8 * k8 + 2)) (nI_add (1424 + 8 * k8) 2) ?_
                refine lv_iload_n hx hb gX12_saying__7.2.2.2.2.2.1 rfl (lv_at6 hl) ?_
                refine astN hC hK hP hD hS 1 (ws' := [(h0, oX12 nw nk mhasKept nt mtaped nr mrowMany mroundOf mroundFrom mouts nm mfromHour mtoHour ns mfrom mto msort misFault mdeep mcoded mlines nl nc nF np ntr nb mbestCost nso nsi nit nsh nsf nss nrc mtraced mdealer mnumber mwhose msize misParted), (nw, iA G 1662 (upd (upd (upd fnw (1424 + 8 * k8 + 0) x1) (1424 + 8 * k8 + 1) (nI jb)) (1424 + 8 * k8 + 2) (nI jp)))]) rfl (k := (1424 + 8 * k8 + 2)) (by omega) (Nat.le_of_ble_eq_true rfl) (rfl) gX12_saying__7.2.2.2.2.2.2.1 (fun H locs hP hD hS => ?_)
                refine lv_aload_n hx hb gX12_saying__7.2.2.2.2.2.2.2.1 rfl (lv_at3 hl) ?_
                refine gf_X12_9 hC rfl hK hP 0 rfl rfl gX12_saying__7.2.2.2.2.2.2.2.2.1 ?_
                refine lv_iload hx hb gX12_saying__7.2.2.2.2.2.2.2.2.2 (lv_at0 hl) ?_
                refine lv_iconst (v := 3) hx hb gX12_saying__8.1 (by decide) ?_
                refine lv_iadd hx hb gX12_saying__8.2.1 ?_
                refine eqi (x1 := nI (1424 + 8 * k8 + 3)) (nI_add (1424 + 8 * k8) 3) ?_
                refine lv_iload hx hb gX12_saying__8.2.2.1 (lv_at7 hl) ?_
                refine lv_bipush (v := 10) hx hb gX12_saying__8.2.2.2.1 (by decide) ?_
                refine lv_idiv hx hb gX12_saying__8.2.2.2.2.1 (by decide) ?_
                refine lv_topi (fun x5902 ex5902 => ?_)
                refine astN hC hK hP hD hS 1 (ws' := [(h0, oX12 nw nk mhasKept nt mtaped nr mrowMany mroundOf mroundFrom mouts nm mfromHour mtoHour ns mfrom mto msort misFault mdeep mcoded mlines nl nc nF np ntr nb mbestCost nso nsi nit nsh nsf nss nrc mtraced mdealer mnumber mwhose msize misParted), (nw, iA G 1662 (upd (upd (upd (upd fnw (1424 + 8 * k8 + 0) x1) (1424 + 8 * k8 + 1) (nI jb)) (1424 + 8 * k8 + 2) (nI jp)) (1424 + 8 * k8 + 3) x5902))]) rfl (k := (1424 + 8 * k8 + 3)) (by omega) (Nat.le_of_ble_eq_true rfl) (rfl) gX12_saying__8.2.2.2.2.2.1 (fun H locs hP hD hS => ?_)
                refine lv_aload_n hx hb gX12_saying__8.2.2.2.2.2.2.1 rfl (lv_at3 hl) ?_
                refine gf_X12_9 hC rfl hK hP 0 rfl rfl gX12_saying__8.2.2.2.2.2.2.2.1 ?_
                refine lv_iload hx hb gX12_saying__8.2.2.2.2.2.2.2.2.1 (lv_at0 hl) ?_
                refine lv_iconst (v := 4) hx hb gX12_saying__8.2.2.2.2.2.2.2.2.2 (by decide) ?_
                refine lv_iadd hx hb gX12_saying__9.1 ?_
                refine eqi (x1 := nI (1424 + 8 * k8 + 4)) (nI_add (1424 + 8 * k8) 4) ?_
                refine lv_iload hx hb gX12_saying__9.2.1 (lv_at7 hl) ?_
                refine lv_bipush (v := 10) hx hb gX12_saying__9.2.2.1 (by decide) ?_
                refine lv_irem hx hb gX12_saying__9.2.2.2.1 (by decide) ?_
                refine lv_topi (fun x5903 ex5903 => ?_)
                refine astN hC hK hP hD hS 1 (ws' := [(h0, oX12 nw nk mhasKept nt mtaped nr mrowMany mroundOf mroundFrom mouts nm mfromHour mtoHour ns mfrom mto msort misFault mdeep mcoded mlines nl nc nF np ntr nb mbestCost nso nsi nit nsh nsf nss nrc mtraced mdealer mnumber mwhose msize misParted), (nw, iA G 1662 (upd (upd (upd (upd (upd fnw (1424 + 8 * k8 + 0) x1) (1424 + 8 * k8 + 1) (nI jb)) (1424 + 8 * k8 + 2) (nI jp)) (1424 + 8 * k8 + 3) x5902) (1424 + 8 * k8 + 4) x5903))]) rfl (k := (1424 + 8 * k8 + 4)) (by omega) (Nat.le_of_ble_eq_true rfl) (rfl) gX12_saying__9.2.2.2.2.1 (fun H locs hP hD hS => ?_)
                refine lv_aload_n hx hb gX12_saying__9.2.2.2.2.2.1 rfl (lv_at3 hl) ?_
                refine gf_X12_9 hC rfl hK hP 0 rfl rfl gX12_saying__9.2.2.2.2.2.2.1 ?_
                refine lv_iload hx hb gX12_saying__9.2.2.2.2.2.2.2.1 (lv_at0 hl) ?_
                refine lv_iconst (v := 5) hx hb gX12_saying__9.2.2.2.2.2.2.2.2.1 (by decide) ?_
                refine lv_iadd hx hb gX12_saying__9.2.2.2.2.2.2.2.2.2 ?_
                refine eqi (x1 := nI (1424 + 8 * k8 + 5)) (nI_add (1424 + 8 * k8) 5) ?_
                refine lv_iload hx hb gX12_saying__10.1 (lv_at8 hl) ?_
                refine lv_if_eq (tgt := 183) hx hb gX12_saying__10.2.1 (by decide) (fun c_176_5904 => ?_) (fun c_176_5904 => ?_)
                · refine lv_iconst (v := 0) hx hb gX12_saying__10.2.2.2.2.1 (by decide) ?_
                  refine astN hC hK hP hD hS 1 (ws' := [(h0, oX12 nw nk mhasKept nt mtaped nr mrowMany mroundOf mroundFrom mouts nm mfromHour mtoHour ns mfrom mto msort misFault mdeep mcoded mlines nl nc nF np ntr nb mbestCost nso nsi nit nsh nsf nss nrc mtraced mdealer mnumber mwhose msize misParted), (nw, iA G 1662 (upd (upd (upd (upd (upd (upd fnw (1424 + 8 * k8 + 0) x1) (1424 + 8 * k8 + 1) (nI jb)) (1424 + 8 * k8 + 2) (nI jp)) (1424 + 8 * k8 + 3) x5902) (1424 + 8 * k8 + 4) x5903) (1424 + 8 * k8 + 5) 0))]) rfl (k := (1424 + 8 * k8 + 5)) (by omega) (Nat.le_of_ble_eq_true rfl) (rfl) gX12_saying__10.2.2.2.2.2.1 (fun H locs hP hD hS => ?_)
                  refine lv_aload_n hx hb gX12_saying__10.2.2.2.2.2.2.1 rfl (lv_at3 hl) ?_
                  refine gf_X12_9 hC rfl hK hP 0 rfl rfl gX12_saying__10.2.2.2.2.2.2.2.1 ?_
                  refine lv_iload hx hb gX12_saying__10.2.2.2.2.2.2.2.2.1 (lv_at0 hl) ?_
                  refine lv_bipush (v := 6) hx hb gX12_saying__10.2.2.2.2.2.2.2.2.2 (by decide) ?_
                  refine lv_iadd hx hb gX12_saying__11.1 ?_
                  refine eqi (x1 := nI (1424 + 8 * k8 + 6)) (nI_add (1424 + 8 * k8) 6) ?_
                  refine lv_iload hx hb gX12_saying__11.2.1 (lv_at9 hl) ?_
                  refine astN hC hK hP hD hS 1 (ws' := [(h0, oX12 nw nk mhasKept nt mtaped nr mrowMany mroundOf mroundFrom mouts nm mfromHour mtoHour ns mfrom mto msort misFault mdeep mcoded mlines nl nc nF np ntr nb mbestCost nso nsi nit nsh nsf nss nrc mtraced mdealer mnumber mwhose msize misParted), (nw, iA G 1662 (upd (upd (upd (upd (upd (upd (upd fnw (1424 + 8 * k8 + 0) x1) (1424 + 8 * k8 + 1) (nI jb)) (1424 + 8 * k8 + 2) (nI jp)) (1424 + 8 * k8 + 3) x5902) (1424 + 8 * k8 + 4) x5903) (1424 + 8 * k8 + 5) 0) (1424 + 8 * k8 + 6) x6))]) rfl (k := (1424 + 8 * k8 + 6)) (by omega) (Nat.le_of_ble_eq_true rfl) (rfl) gX12_saying__11.2.2.1 (fun H locs hP hD hS => ?_)
                  refine lv_aload_n hx hb gX12_saying__11.2.2.2.1 rfl (lv_at3 hl) ?_
                  refine gf_X12_9 hC rfl hK hP 0 rfl rfl gX12_saying__11.2.2.2.2.1 ?_
                  refine lv_iload hx hb gX12_saying__11.2.2.2.2.2.1 (lv_at0 hl) ?_
                  refine lv_bipush (v := 7) hx hb gX12_saying__11.2.2.2.2.2.2.1 (by decide) ?_
                  refine lv_iadd hx hb gX12_saying__11.2.2.2.2.2.2.2.1 ?_
                  refine eqi (x1 := nI (1424 + 8 * k8 + 7)) (nI_add (1424 + 8 * k8) 7) ?_
                  refine lv_aload_n hx hb gX12_saying__11.2.2.2.2.2.2.2.2.1 rfl (lv_at3 hl) ?_
                  refine gf_X12_9 hC rfl hK hP 0 rfl rfl gX12_saying__11.2.2.2.2.2.2.2.2.2 ?_
                  refine lv_iconst (v := 0) hx hb gX12_saying__12.1 (by decide) ?_
                  refine ald hC hK hP 1 rfl (vin (by decide +kernel)) (k := 0) (by decide +kernel) (v := fnw 0) ((upd_ne (by omega)).trans ((upd_ne (by omega)).trans ((upd_ne (by omega)).trans ((upd_ne (by omega)).trans ((upd_ne (by omega)).trans ((upd_ne (by omega)).trans ((upd_ne (by omega)).trans (rfl)))))))) gX12_saying__12.2.1 ?_
                  refine astN hC hK hP hD hS 1 (ws' := [(h0, oX12 nw nk mhasKept nt mtaped nr mrowMany mroundOf mroundFrom mouts nm mfromHour mtoHour ns mfrom mto msort misFault mdeep mcoded mlines nl nc nF np ntr nb mbestCost nso nsi nit nsh nsf nss nrc mtraced mdealer mnumber mwhose msize misParted), (nw, iA G 1662 (upd (upd (upd (upd (upd (upd (upd (upd fnw (1424 + 8 * k8 + 0) x1) (1424 + 8 * k8 + 1) (nI jb)) (1424 + 8 * k8 + 2) (nI jp)) (1424 + 8 * k8 + 3) x5902) (1424 + 8 * k8 + 4) x5903) (1424 + 8 * k8 + 5) 0) (1424 + 8 * k8 + 6) x6) (1424 + 8 * k8 + 7) (fnw 0)))]) rfl (k := (1424 + 8 * k8 + 7)) (by omega) (Nat.le_of_ble_eq_true rfl) (rfl) gX12_saying__12.2.2.1 (fun H locs hP hD hS => ?_)
                  refine lv_aload_n hx hb gX12_saying__12.2.2.2.1 rfl (lv_at3 hl) ?_
                  refine gf_X12_9 hC rfl hK hP 0 rfl rfl gX12_saying__12.2.2.2.2.1 ?_
                  refine lv_bipush (v := 8) hx hb gX12_saying__12.2.2.2.2.2.1 (by decide) ?_
                  refine lv_dup2_11 hx hb gX12_saying__12.2.2.2.2.2.2.1 rfl rfl ?_
                  refine ald hC hK hP 1 rfl (vin (by decide +kernel)) (k := 8) (by decide +kernel) (v := nI k8) ((upd_ne (by omega)).trans ((upd_ne (by omega)).trans ((upd_ne (by omega)).trans ((upd_ne (by omega)).trans ((upd_ne (by omega)).trans ((upd_ne (by omega)).trans ((upd_ne (by omega)).trans ((upd_ne (by omega)).trans (ek8))))))))) gX12_saying__12.2.2.2.2.2.2.2.1 ?_
                  refine lv_iconst (v := 1) hx hb gX12_saying__12.2.2.2.2.2.2.2.2.1 (by decide) ?_
                  refine lv_iadd hx hb gX12_saying__12.2.2.2.2.2.2.2.2.2 ?_
                  refine eqi (x1 := nI (k8 + 1)) (nI_add k8 1) ?_
                  refine ast hC hK hP hD hS 1 (ws' := [(h0, oX12 nw nk mhasKept nt mtaped nr mrowMany mroundOf mroundFrom mouts nm mfromHour mtoHour ns mfrom mto msort misFault mdeep mcoded mlines nl nc nF np ntr nb mbestCost nso nsi nit nsh nsf nss nrc mtraced mdealer mnumber mwhose msize misParted), (nw, iA G 1662 (upd (upd (upd (upd (upd (upd (upd (upd (upd fnw (1424 + 8 * k8 + 0) x1) (1424 + 8 * k8 + 1) (nI jb)) (1424 + 8 * k8 + 2) (nI jp)) (1424 + 8 * k8 + 3) x5902) (1424 + 8 * k8 + 4) x5903) (1424 + 8 * k8 + 5) 0) (1424 + 8 * k8 + 6) x6) (1424 + 8 * k8 + 7) (fnw 0)) 8 (nI (k8 + 1))))]) rfl (vin (by decide +kernel)) (k := 8) (by decide +kernel) (rfl) gX12_saying__13.1 (fun H locs hP hD hS => ?_)
                  refine lv_iload hx hb gX12_saying__13.2.1 (lv_at1 hl) ?_
                  have tu5905 : shf (upd (upd (upd (upd (upd (upd (upd (upd (upd fnw (1424 + 8 * k8 + 0) x1) (1424 + 8 * k8 + 1) (nI jb)) (1424 + 8 * k8 + 2) (nI jp)) (1424 + 8 * k8 + 3) x5902) (1424 + 8 * k8 + 4) x5903) (1424 + 8 * k8 + 5) 0) (1424 + 8 * k8 + 6) x6) (1424 + 8 * k8 + 7) (fnw 0)) 8 (nI (k8 + 1))) 1424 = rowu (shf fnw 1424) (k8 * 8) [x1, (nI jb), (nI jp), x5902, x5903, 0, x6, (fnw 0)] := by rw [sho (by omega), shu (j := k8 * 8 + 7) (by omega), shu (j := k8 * 8 + 6) (by omega), shu (j := k8 * 8 + 5) (by omega), shu (j := k8 * 8 + 4) (by omega), shu (j := k8 * 8 + 3) (by omega), shu (j := k8 * 8 + 2) (by omega), shu (j := k8 * 8 + 1) (by omega), shu (j := k8 * 8 + 0) (by omega)]; rfl
                  refine toQ hQ0 ?_
                  exact RI (v := nI k8) hC hP hD hS [0, 1] (upd (upd (upd (upd (upd (upd (upd (upd (upd fnw (1424 + 8 * k8 + 0) x1) (1424 + 8 * k8 + 1) (nI jb)) (1424 + 8 * k8 + 2) (nI jp)) (1424 + 8 * k8 + 3) x5902) (1424 + 8 * k8 + 4) x5903) (1424 + 8 * k8 + 5) 0) (1424 + 8 * k8 + 6) x6) (1424 + 8 * k8 + 7) (fnw 0)) 8 (nI (k8 + 1))) rfl rfl (by decide) (⟨(by first | rfl | (simp only [ifc_t ekp, ifc_t hkp, ifc_t ekq, ifc_t hkq, ifc_t ek8, ifc_t hk8, ifc_t hN, ifc_t hV, ifc_t a5891, ifc_t a5893, ifc_t a5895, ifc_t a5897, ifc_f c_44_5899, ifc_t c_62_5900, ifc_f c_91_5901, ifc_t c_176_5904, ifc_t (q := HOW x4) ⟨a5897, ex5898 ▸ Int32.not_le.mp c_44_5899⟩, ifc_t (q := TLK x6 k8) (Or.inl c_62_5900)]; done) | (simp only [ifc_t ekp, ifc_t hkp, ifc_t ekq, ifc_t hkq, ifc_t ek8, ifc_t hk8, ifc_t hN, ifc_t hV, ifc_t a5891, ifc_t a5893, ifc_t a5895, ifc_t a5897, ifc_f c_44_5899, ifc_t c_62_5900, ifc_f c_91_5901, ifc_t c_176_5904, ifc_t (q := HOW x4) ⟨a5897, ex5898 ▸ Int32.not_le.mp c_44_5899⟩, ifc_t (q := TLK x6 k8) (Or.inl c_62_5900)]; rfl)), ⟨(((((((((hN).setA (bnd_sayA (s := k8) (r := 0) (by omega) (by omega) (by decide) (by decide) (by decide))).setN (B := 9) (bnd_say1 (s := k8) rfl (by omega)) (by omega) (by decide)).setN (B := 11) (bnd_say2 (s := k8) rfl (by omega)) (by omega) (by decide)).setA (bnd_sayA (s := k8) (r := 3) (by omega) (by omega) (by decide) (by decide) (by decide))).setA (bnd_sayA (s := k8) (r := 4) (by omega) (by omega) (by decide) (by decide) (by decide))).setA (bnd_sayA (s := k8) (r := 5) (by omega) (by omega) (by decide) (by decide) (by decide))).setA (bnd_sayA (s := k8) (r := 6) (by omega) (by omega) (by decide) (by decide) (by decide))).setA (bnd_sayA (s := k8) (r := 7) (by omega) (by omega) (by decide) (by decide) (by decide))).setN (B := 16) (show bnd 8 = (0, ((16 : Nat) : Int)) from by decide +kernel) (by omega) (by decide), (((((((((hV).set (by omega)).set (by omega)).set (by omega)).set (by omega)).set (by omega)).set (by omega)).set (by omega)).set (by omega)).set (by omega), (upd_ne (by omega)).trans ((upd_ne (by omega)).trans ((upd_ne (by omega)).trans ((upd_ne (by omega)).trans ((upd_ne (by omega)).trans ((upd_ne (by omega)).trans ((upd_ne (by omega)).trans ((upd_ne (by omega)).trans (upd_ne (by omega))))))))), (upd_ne (by omega)).trans ((upd_ne (by omega)).trans ((upd_ne (by omega)).trans ((upd_ne (by omega)).trans ((upd_ne (by omega)).trans ((upd_ne (by omega)).trans ((upd_ne (by omega)).trans ((upd_ne (by omega)).trans (upd_ne (by omega))))))))), (upd_ne (by omega)).trans ((upd_ne (by omega)).trans ((upd_ne (by omega)).trans ((upd_ne (by omega)).trans ((upd_ne (by omega)).trans ((upd_ne (by omega)).trans ((upd_ne (by omega)).trans ((upd_ne (by omega)).trans (upd_ne (by omega))))))))), (upd_ne (by omega)).trans ((upd_ne (by omega)).trans ((upd_ne (by omega)).trans ((upd_ne (by omega)).trans ((upd_ne (by omega)).trans ((upd_ne (by omega)).trans ((upd_ne (by omega)).trans ((upd_ne (by omega)).trans (upd_ne (by omega))))))))), (upd_ne (by omega)).trans ((upd_ne (by omega)).trans ((upd_ne (by omega)).trans ((upd_ne (by omega)).trans ((upd_ne (by omega)).trans ((upd_ne (by omega)).trans ((upd_ne (by omega)).trans ((upd_ne (by omega)).trans (upd_ne (by omega))))))))), (upd_ne (by omega)).trans ((upd_ne (by omega)).trans ((upd_ne (by omega)).trans ((upd_ne (by omega)).trans ((upd_ne (by omega)).trans ((upd_ne (by omega)).trans ((upd_ne (by omega)).trans ((upd_ne (by omega)).trans (upd_ne (by omega))))))))), (upd_ne (by omega)).trans ((upd_ne (by omega)).trans ((upd_ne (by omega)).trans ((upd_ne (by omega)).trans ((upd_ne (by omega)).trans ((upd_ne (by omega)).trans ((upd_ne (by omega)).trans ((upd_ne (by omega)).trans (upd_ne (by omega))))))))), (show _ = (nI (k8 + 1)) from upd_eq rfl).trans (by first | rfl | (simp only [ifc_t ekp, ifc_t hkp, ifc_t ekq, ifc_t hkq, ifc_t ek8, ifc_t hk8, ifc_t hN, ifc_t hV, ifc_t a5891, ifc_t a5893, ifc_t a5895, ifc_t a5897, ifc_f c_44_5899, ifc_t c_62_5900, ifc_f c_91_5901, ifc_t c_176_5904, ifc_t (q := HOW x4) ⟨a5897, ex5898 ▸ Int32.not_le.mp c_44_5899⟩, ifc_t (q := TLK x6 k8) (Or.inl c_62_5900)]; done) | (simp only [ifc_t ekp, ifc_t hkp, ifc_t ekq, ifc_t hkq, ifc_t ek8, ifc_t hk8, ifc_t hN, ifc_t hV, ifc_t a5891, ifc_t a5893, ifc_t a5895, ifc_t a5897, ifc_f c_44_5899, ifc_t c_62_5900, ifc_f c_91_5901, ifc_t c_176_5904, ifc_t (q := HOW x4) ⟨a5897, ex5898 ▸ Int32.not_le.mp c_44_5899⟩, ifc_t (q := TLK x6 k8) (Or.inl c_62_5900)]; rfl)), (upd_ne (by omega)).trans ((upd_ne (by omega)).trans ((upd_ne (by omega)).trans ((upd_ne (by omega)).trans ((upd_ne (by omega)).trans ((upd_ne (by omega)).trans ((upd_ne (by omega)).trans ((upd_ne (by omega)).trans (upd_ne (by omega))))))))), (upd_ne (by omega)).trans ((upd_ne (by omega)).trans ((upd_ne (by omega)).trans ((upd_ne (by omega)).trans ((upd_ne (by omega)).trans ((upd_ne (by omega)).trans ((upd_ne (by omega)).trans ((upd_ne (by omega)).trans (upd_ne (by omega))))))))), (upd_ne (by omega)).trans ((upd_ne (by omega)).trans ((upd_ne (by omega)).trans ((upd_ne (by omega)).trans ((upd_ne (by omega)).trans ((upd_ne (by omega)).trans ((upd_ne (by omega)).trans ((upd_ne (by omega)).trans (upd_ne (by omega))))))))), (((((((((FRO.rf).set (by omega)).set (by omega)).set (by omega)).set (by omega)).set (by omega)).set (by omega)).set (by omega)).set (by omega)).set (by omega), (fun i hi9 => by simp only [ifc_t ekp, ifc_t hkp, ifc_t ekq, ifc_t hkq, ifc_t ek8, ifc_t hk8, ifc_t hN, ifc_t hV, ifc_t a5891, ifc_t a5893, ifc_t a5895, ifc_t a5897, ifc_f c_44_5899, ifc_t c_62_5900, ifc_f c_91_5901, ifc_t c_176_5904, ifc_t (q := HOW x4) ⟨a5897, ex5898 ▸ Int32.not_le.mp c_44_5899⟩, ifc_t (q := TLK x6 k8) (Or.inl c_62_5900)]; exact (congrFun tu5905 i).trans (by first | rfl | (simp only [ex5902, ex5903]; done)))⟩⟩) rfl gX12_saying__13.2.2
                · refine lv_iconst (v := 1) hx hb gX12_saying__10.2.2.1 (by decide) ?_
                  refine lv_goto (tgt := 184) hx hb gX12_saying__10.2.2.2.1 (by decide) ?_
                  refine astN hC hK hP hD hS 1 (ws' := [(h0, oX12 nw nk mhasKept nt mtaped nr mrowMany mroundOf mroundFrom mouts nm mfromHour mtoHour ns mfrom mto msort misFault mdeep mcoded mlines nl nc nF np ntr nb mbestCost nso nsi nit nsh nsf nss nrc mtraced mdealer mnumber mwhose msize misParted), (nw, iA G 1662 (upd (upd (upd (upd (upd (upd fnw (1424 + 8 * k8 + 0) x1) (1424 + 8 * k8 + 1) (nI jb)) (1424 + 8 * k8 + 2) (nI jp)) (1424 + 8 * k8 + 3) x5902) (1424 + 8 * k8 + 4) x5903) (1424 + 8 * k8 + 5) 1))]) rfl (k := (1424 + 8 * k8 + 5)) (by omega) (Nat.le_of_ble_eq_true rfl) (rfl) gX12_saying__10.2.2.2.2.2.1 (fun H locs hP hD hS => ?_)
                  refine lv_aload_n hx hb gX12_saying__10.2.2.2.2.2.2.1 rfl (lv_at3 hl) ?_
                  refine gf_X12_9 hC rfl hK hP 0 rfl rfl gX12_saying__10.2.2.2.2.2.2.2.1 ?_
                  refine lv_iload hx hb gX12_saying__10.2.2.2.2.2.2.2.2.1 (lv_at0 hl) ?_
                  refine lv_bipush (v := 6) hx hb gX12_saying__10.2.2.2.2.2.2.2.2.2 (by decide) ?_
                  refine lv_iadd hx hb gX12_saying__11.1 ?_
                  refine eqi (x1 := nI (1424 + 8 * k8 + 6)) (nI_add (1424 + 8 * k8) 6) ?_
                  refine lv_iload hx hb gX12_saying__11.2.1 (lv_at9 hl) ?_
                  refine astN hC hK hP hD hS 1 (ws' := [(h0, oX12 nw nk mhasKept nt mtaped nr mrowMany mroundOf mroundFrom mouts nm mfromHour mtoHour ns mfrom mto msort misFault mdeep mcoded mlines nl nc nF np ntr nb mbestCost nso nsi nit nsh nsf nss nrc mtraced mdealer mnumber mwhose msize misParted), (nw, iA G 1662 (upd (upd (upd (upd (upd (upd (upd fnw (1424 + 8 * k8 + 0) x1) (1424 + 8 * k8 + 1) (nI jb)) (1424 + 8 * k8 + 2) (nI jp)) (1424 + 8 * k8 + 3) x5902) (1424 + 8 * k8 + 4) x5903) (1424 + 8 * k8 + 5) 1) (1424 + 8 * k8 + 6) x6))]) rfl (k := (1424 + 8 * k8 + 6)) (by omega) (Nat.le_of_ble_eq_true rfl) (rfl) gX12_saying__11.2.2.1 (fun H locs hP hD hS => ?_)
                  refine lv_aload_n hx hb gX12_saying__11.2.2.2.1 rfl (lv_at3 hl) ?_
                  refine gf_X12_9 hC rfl hK hP 0 rfl rfl gX12_saying__11.2.2.2.2.1 ?_
                  refine lv_iload hx hb gX12_saying__11.2.2.2.2.2.1 (lv_at0 hl) ?_
                  refine lv_bipush (v := 7) hx hb gX12_saying__11.2.2.2.2.2.2.1 (by decide) ?_
                  refine lv_iadd hx hb gX12_saying__11.2.2.2.2.2.2.2.1 ?_
                  refine eqi (x1 := nI (1424 + 8 * k8 + 7)) (nI_add (1424 + 8 * k8) 7) ?_
                  refine lv_aload_n hx hb gX12_saying__11.2.2.2.2.2.2.2.2.1 rfl (lv_at3 hl) ?_
                  refine gf_X12_9 hC rfl hK hP 0 rfl rfl gX12_saying__11.2.2.2.2.2.2.2.2.2 ?_
                  refine lv_iconst (v := 0) hx hb gX12_saying__12.1 (by decide) ?_
                  refine ald hC hK hP 1 rfl (vin (by decide +kernel)) (k := 0) (by decide +kernel) (v := fnw 0) ((upd_ne (by omega)).trans ((upd_ne (by omega)).trans ((upd_ne (by omega)).trans ((upd_ne (by omega)).trans ((upd_ne (by omega)).trans ((upd_ne (by omega)).trans ((upd_ne (by omega)).trans (rfl)))))))) gX12_saying__12.2.1 ?_
                  refine astN hC hK hP hD hS 1 (ws' := [(h0, oX12 nw nk mhasKept nt mtaped nr mrowMany mroundOf mroundFrom mouts nm mfromHour mtoHour ns mfrom mto msort misFault mdeep mcoded mlines nl nc nF np ntr nb mbestCost nso nsi nit nsh nsf nss nrc mtraced mdealer mnumber mwhose msize misParted), (nw, iA G 1662 (upd (upd (upd (upd (upd (upd (upd (upd fnw (1424 + 8 * k8 + 0) x1) (1424 + 8 * k8 + 1) (nI jb)) (1424 + 8 * k8 + 2) (nI jp)) (1424 + 8 * k8 + 3) x5902) (1424 + 8 * k8 + 4) x5903) (1424 + 8 * k8 + 5) 1) (1424 + 8 * k8 + 6) x6) (1424 + 8 * k8 + 7) (fnw 0)))]) rfl (k := (1424 + 8 * k8 + 7)) (by omega) (Nat.le_of_ble_eq_true rfl) (rfl) gX12_saying__12.2.2.1 (fun H locs hP hD hS => ?_)
                  refine lv_aload_n hx hb gX12_saying__12.2.2.2.1 rfl (lv_at3 hl) ?_
                  refine gf_X12_9 hC rfl hK hP 0 rfl rfl gX12_saying__12.2.2.2.2.1 ?_
                  refine lv_bipush (v := 8) hx hb gX12_saying__12.2.2.2.2.2.1 (by decide) ?_
                  refine lv_dup2_11 hx hb gX12_saying__12.2.2.2.2.2.2.1 rfl rfl ?_
                  refine ald hC hK hP 1 rfl (vin (by decide +kernel)) (k := 8) (by decide +kernel) (v := nI k8) ((upd_ne (by omega)).trans ((upd_ne (by omega)).trans ((upd_ne (by omega)).trans ((upd_ne (by omega)).trans ((upd_ne (by omega)).trans ((upd_ne (by omega)).trans ((upd_ne (by omega)).trans ((upd_ne (by omega)).trans (ek8))))))))) gX12_saying__12.2.2.2.2.2.2.2.1 ?_
                  refine lv_iconst (v := 1) hx hb gX12_saying__12.2.2.2.2.2.2.2.2.1 (by decide) ?_
                  refine lv_iadd hx hb gX12_saying__12.2.2.2.2.2.2.2.2.2 ?_
                  refine eqi (x1 := nI (k8 + 1)) (nI_add k8 1) ?_
                  refine ast hC hK hP hD hS 1 (ws' := [(h0, oX12 nw nk mhasKept nt mtaped nr mrowMany mroundOf mroundFrom mouts nm mfromHour mtoHour ns mfrom mto msort misFault mdeep mcoded mlines nl nc nF np ntr nb mbestCost nso nsi nit nsh nsf nss nrc mtraced mdealer mnumber mwhose msize misParted), (nw, iA G 1662 (upd (upd (upd (upd (upd (upd (upd (upd (upd fnw (1424 + 8 * k8 + 0) x1) (1424 + 8 * k8 + 1) (nI jb)) (1424 + 8 * k8 + 2) (nI jp)) (1424 + 8 * k8 + 3) x5902) (1424 + 8 * k8 + 4) x5903) (1424 + 8 * k8 + 5) 1) (1424 + 8 * k8 + 6) x6) (1424 + 8 * k8 + 7) (fnw 0)) 8 (nI (k8 + 1))))]) rfl (vin (by decide +kernel)) (k := 8) (by decide +kernel) (rfl) gX12_saying__13.1 (fun H locs hP hD hS => ?_)
                  refine lv_iload hx hb gX12_saying__13.2.1 (lv_at1 hl) ?_
                  have tu5906 : shf (upd (upd (upd (upd (upd (upd (upd (upd (upd fnw (1424 + 8 * k8 + 0) x1) (1424 + 8 * k8 + 1) (nI jb)) (1424 + 8 * k8 + 2) (nI jp)) (1424 + 8 * k8 + 3) x5902) (1424 + 8 * k8 + 4) x5903) (1424 + 8 * k8 + 5) 1) (1424 + 8 * k8 + 6) x6) (1424 + 8 * k8 + 7) (fnw 0)) 8 (nI (k8 + 1))) 1424 = rowu (shf fnw 1424) (k8 * 8) [x1, (nI jb), (nI jp), x5902, x5903, 1, x6, (fnw 0)] := by rw [sho (by omega), shu (j := k8 * 8 + 7) (by omega), shu (j := k8 * 8 + 6) (by omega), shu (j := k8 * 8 + 5) (by omega), shu (j := k8 * 8 + 4) (by omega), shu (j := k8 * 8 + 3) (by omega), shu (j := k8 * 8 + 2) (by omega), shu (j := k8 * 8 + 1) (by omega), shu (j := k8 * 8 + 0) (by omega)]; rfl
                  refine toQ hQ0 ?_
                  exact RI (v := nI k8) hC hP hD hS [0, 1] (upd (upd (upd (upd (upd (upd (upd (upd (upd fnw (1424 + 8 * k8 + 0) x1) (1424 + 8 * k8 + 1) (nI jb)) (1424 + 8 * k8 + 2) (nI jp)) (1424 + 8 * k8 + 3) x5902) (1424 + 8 * k8 + 4) x5903) (1424 + 8 * k8 + 5) 1) (1424 + 8 * k8 + 6) x6) (1424 + 8 * k8 + 7) (fnw 0)) 8 (nI (k8 + 1))) rfl rfl (by decide) (⟨(by first | rfl | (simp only [ifc_t ekp, ifc_t hkp, ifc_t ekq, ifc_t hkq, ifc_t ek8, ifc_t hk8, ifc_t hN, ifc_t hV, ifc_t a5891, ifc_t a5893, ifc_t a5895, ifc_t a5897, ifc_f c_44_5899, ifc_t c_62_5900, ifc_f c_91_5901, ifc_f c_176_5904, ifc_t (q := HOW x4) ⟨a5897, ex5898 ▸ Int32.not_le.mp c_44_5899⟩, ifc_t (q := TLK x6 k8) (Or.inl c_62_5900)]; done) | (simp only [ifc_t ekp, ifc_t hkp, ifc_t ekq, ifc_t hkq, ifc_t ek8, ifc_t hk8, ifc_t hN, ifc_t hV, ifc_t a5891, ifc_t a5893, ifc_t a5895, ifc_t a5897, ifc_f c_44_5899, ifc_t c_62_5900, ifc_f c_91_5901, ifc_f c_176_5904, ifc_t (q := HOW x4) ⟨a5897, ex5898 ▸ Int32.not_le.mp c_44_5899⟩, ifc_t (q := TLK x6 k8) (Or.inl c_62_5900)]; rfl)), ⟨(((((((((hN).setA (bnd_sayA (s := k8) (r := 0) (by omega) (by omega) (by decide) (by decide) (by decide))).setN (B := 9) (bnd_say1 (s := k8) rfl (by omega)) (by omega) (by decide)).setN (B := 11) (bnd_say2 (s := k8) rfl (by omega)) (by omega) (by decide)).setA (bnd_sayA (s := k8) (r := 3) (by omega) (by omega) (by decide) (by decide) (by decide))).setA (bnd_sayA (s := k8) (r := 4) (by omega) (by omega) (by decide) (by decide) (by decide))).setA (bnd_sayA (s := k8) (r := 5) (by omega) (by omega) (by decide) (by decide) (by decide))).setA (bnd_sayA (s := k8) (r := 6) (by omega) (by omega) (by decide) (by decide) (by decide))).setA (bnd_sayA (s := k8) (r := 7) (by omega) (by omega) (by decide) (by decide) (by decide))).setN (B := 16) (show bnd 8 = (0, ((16 : Nat) : Int)) from by decide +kernel) (by omega) (by decide), (((((((((hV).set (by omega)).set (by omega)).set (by omega)).set (by omega)).set (by omega)).set (by omega)).set (by omega)).set (by omega)).set (by omega), (upd_ne (by omega)).trans ((upd_ne (by omega)).trans ((upd_ne (by omega)).trans ((upd_ne (by omega)).trans ((upd_ne (by omega)).trans ((upd_ne (by omega)).trans ((upd_ne (by omega)).trans ((upd_ne (by omega)).trans (upd_ne (by omega))))))))), (upd_ne (by omega)).trans ((upd_ne (by omega)).trans ((upd_ne (by omega)).trans ((upd_ne (by omega)).trans ((upd_ne (by omega)).trans ((upd_ne (by omega)).trans ((upd_ne (by omega)).trans ((upd_ne (by omega)).trans (upd_ne (by omega))))))))), (upd_ne (by omega)).trans ((upd_ne (by omega)).trans ((upd_ne (by omega)).trans ((upd_ne (by omega)).trans ((upd_ne (by omega)).trans ((upd_ne (by omega)).trans ((upd_ne (by omega)).trans ((upd_ne (by omega)).trans (upd_ne (by omega))))))))), (upd_ne (by omega)).trans ((upd_ne (by omega)).trans ((upd_ne (by omega)).trans ((upd_ne (by omega)).trans ((upd_ne (by omega)).trans ((upd_ne (by omega)).trans ((upd_ne (by omega)).trans ((upd_ne (by omega)).trans (upd_ne (by omega))))))))), (upd_ne (by omega)).trans ((upd_ne (by omega)).trans ((upd_ne (by omega)).trans ((upd_ne (by omega)).trans ((upd_ne (by omega)).trans ((upd_ne (by omega)).trans ((upd_ne (by omega)).trans ((upd_ne (by omega)).trans (upd_ne (by omega))))))))), (upd_ne (by omega)).trans ((upd_ne (by omega)).trans ((upd_ne (by omega)).trans ((upd_ne (by omega)).trans ((upd_ne (by omega)).trans ((upd_ne (by omega)).trans ((upd_ne (by omega)).trans ((upd_ne (by omega)).trans (upd_ne (by omega))))))))), (upd_ne (by omega)).trans ((upd_ne (by omega)).trans ((upd_ne (by omega)).trans ((upd_ne (by omega)).trans ((upd_ne (by omega)).trans ((upd_ne (by omega)).trans ((upd_ne (by omega)).trans ((upd_ne (by omega)).trans (upd_ne (by omega))))))))), (show _ = (nI (k8 + 1)) from upd_eq rfl).trans (by first | rfl | (simp only [ifc_t ekp, ifc_t hkp, ifc_t ekq, ifc_t hkq, ifc_t ek8, ifc_t hk8, ifc_t hN, ifc_t hV, ifc_t a5891, ifc_t a5893, ifc_t a5895, ifc_t a5897, ifc_f c_44_5899, ifc_t c_62_5900, ifc_f c_91_5901, ifc_f c_176_5904, ifc_t (q := HOW x4) ⟨a5897, ex5898 ▸ Int32.not_le.mp c_44_5899⟩, ifc_t (q := TLK x6 k8) (Or.inl c_62_5900)]; done) | (simp only [ifc_t ekp, ifc_t hkp, ifc_t ekq, ifc_t hkq, ifc_t ek8, ifc_t hk8, ifc_t hN, ifc_t hV, ifc_t a5891, ifc_t a5893, ifc_t a5895, ifc_t a5897, ifc_f c_44_5899, ifc_t c_62_5900, ifc_f c_91_5901, ifc_f c_176_5904, ifc_t (q := HOW x4) ⟨a5897, ex5898 ▸ Int32.not_le.mp c_44_5899⟩, ifc_t (q := TLK x6 k8) (Or.inl c_62_5900)]; rfl)), (upd_ne (by omega)).trans ((upd_ne (by omega)).trans ((upd_ne (by omega)).trans ((upd_ne (by omega)).trans ((upd_ne (by omega)).trans ((upd_ne (by omega)).trans ((upd_ne (by omega)).trans ((upd_ne (by omega)).trans (upd_ne (by omega))))))))), (upd_ne (by omega)).trans ((upd_ne (by omega)).trans ((upd_ne (by omega)).trans ((upd_ne (by omega)).trans ((upd_ne (by omega)).trans ((upd_ne (by omega)).trans ((upd_ne (by omega)).trans ((upd_ne (by omega)).trans (upd_ne (by omega))))))))), (upd_ne (by omega)).trans ((upd_ne (by omega)).trans ((upd_ne (by omega)).trans ((upd_ne (by omega)).trans ((upd_ne (by omega)).trans ((upd_ne (by omega)).trans ((upd_ne (by omega)).trans ((upd_ne (by omega)).trans (upd_ne (by omega))))))))), (((((((((FRO.rf).set (by omega)).set (by omega)).set (by omega)).set (by omega)).set (by omega)).set (by omega)).set (by omega)).set (by omega)).set (by omega), (fun i hi9 => by simp only [ifc_t ekp, ifc_t hkp, ifc_t ekq, ifc_t hkq, ifc_t ek8, ifc_t hk8, ifc_t hN, ifc_t hV, ifc_t a5891, ifc_t a5893, ifc_t a5895, ifc_t a5897, ifc_f c_44_5899, ifc_t c_62_5900, ifc_f c_91_5901, ifc_f c_176_5904, ifc_t (q := HOW x4) ⟨a5897, ex5898 ▸ Int32.not_le.mp c_44_5899⟩, ifc_t (q := TLK x6 k8) (Or.inl c_62_5900)]; exact (congrFun tu5906 i).trans (by first | rfl | (simp only [ex5902, ex5903]; done)))⟩⟩) rfl gX12_saying__13.2.2
              · refine lv_bipush (v := (-2)) hx hb gX12_saying__4.2.2.2.2.2.2.2.2.1 (by decide) ?_
                refine toQ hQ0 ?_
                exact RI (v := (-2)) hC hP hD hS [0, 1] fnw rfl rfl (by decide) (⟨(by first | rfl | (simp only [ifc_t ekp, ifc_t hkp, ifc_t ekq, ifc_t hkq, ifc_t ek8, ifc_t hk8, ifc_t hN, ifc_t hV, ifc_t a5891, ifc_t a5893, ifc_t a5895, ifc_t a5897, ifc_f c_44_5899, ifc_t c_62_5900, ifc_t c_91_5901, ifc_t (q := HOW x4) ⟨a5897, ex5898 ▸ Int32.not_le.mp c_44_5899⟩, ifc_t (q := TLK x6 k8) (Or.inl c_62_5900)]; done) | (simp only [ifc_t ekp, ifc_t hkp, ifc_t ekq, ifc_t hkq, ifc_t ek8, ifc_t hk8, ifc_t hN, ifc_t hV, ifc_t a5891, ifc_t a5893, ifc_t a5895, ifc_t a5897, ifc_f c_44_5899, ifc_t c_62_5900, ifc_t c_91_5901, ifc_t (q := HOW x4) ⟨a5897, ex5898 ▸ Int32.not_le.mp c_44_5899⟩, ifc_t (q := TLK x6 k8) (Or.inl c_62_5900)]; rfl)), ⟨hN, hV, rfl, rfl, rfl, rfl, rfl, rfl, rfl, (rfl).trans ((ek8).trans (by first | rfl | (simp only [ifc_t ekp, ifc_t hkp, ifc_t ekq, ifc_t hkq, ifc_t ek8, ifc_t hk8, ifc_t hN, ifc_t hV, ifc_t a5891, ifc_t a5893, ifc_t a5895, ifc_t a5897, ifc_f c_44_5899, ifc_t c_62_5900, ifc_t c_91_5901, ifc_t (q := HOW x4) ⟨a5897, ex5898 ▸ Int32.not_le.mp c_44_5899⟩, ifc_t (q := TLK x6 k8) (Or.inl c_62_5900)]; done) | (simp only [ifc_t ekp, ifc_t hkp, ifc_t ekq, ifc_t hkq, ifc_t ek8, ifc_t hk8, ifc_t hN, ifc_t hV, ifc_t a5891, ifc_t a5893, ifc_t a5895, ifc_t a5897, ifc_f c_44_5899, ifc_t c_62_5900, ifc_t c_91_5901, ifc_t (q := HOW x4) ⟨a5897, ex5898 ▸ Int32.not_le.mp c_44_5899⟩, ifc_t (q := TLK x6 k8) (Or.inl c_62_5900)]; rfl))), rfl, rfl, rfl, FRO.rf, (fun i hi9 => by first | rfl | (simp only [ifc_t ekp, ifc_t hkp, ifc_t ekq, ifc_t hkq, ifc_t ek8, ifc_t hk8, ifc_t hN, ifc_t hV, ifc_t a5891, ifc_t a5893, ifc_t a5895, ifc_t a5897, ifc_f c_44_5899, ifc_t c_62_5900, ifc_t c_91_5901, ifc_t (q := HOW x4) ⟨a5897, ex5898 ▸ Int32.not_le.mp c_44_5899⟩, ifc_t (q := TLK x6 k8) (Or.inl c_62_5900)]; done))⟩⟩) rfl gX12_saying__4.2.2.2.2.2.2.2.2.2
            · refine lv_aload_n hx hb gX12_saying__3.2.2.2.1 rfl (lv_at1 hl) ?_
              refine lv_iload hx hb gX12_saying__3.2.2.2.2.1 (lv_at7 hl) ?_
              refine lv_bipush (v := 8) hx hb gX12_saying__3.2.2.2.2.2.1 (by decide) ?_
              refine pV hC hK hl hP hD (m_is l G k8 h0 x6 8 nw nk mhasKept nt mtaped nr mrowMany mroundOf mroundFrom mouts nm mfromHour mtoHour ns mfrom mto msort misFault mdeep mcoded mlines nl nc nF np ntr nb mbestCost nso nsi nit nsh nsf nss nrc mtraced mdealer mnumber mwhose msize misParted fnw (by omega) (ek8) (by omega)) si_X12_120 [0, 1] sm_0_1 fm_0_1 nd_0_1 rfl rfl rfl rfl rfl (Nat.le_of_ble_eq_true rfl) rm_3_2_3 ⟨by first | exact Nat.le_of_ble_eq_true rfl | exact Nat.zero_le _, by first | exact Nat.le_of_ble_eq_true rfl | exact Nat.zero_le _⟩ gX12_saying__3.2.2.2.2.2.2.1 (Kors (Keqa fun a5908 => ?_) (Keqa fun a5908 => ?_))
              · refine lv_if_ne (tgt := 78) hx hb gX12_saying__3.2.2.2.2.2.2.2.1 (by decide) (fun _ => ?_) (fun c9 => absurd c9 (by decide))
                refine lv_aload_n hx hb gX12_saying__4.1 rfl (lv_at1 hl) ?_
                refine gf_X12_9 hC rfl hK hP 0 rfl rfl gX12_saying__4.2.1 ?_
                refine lv_bipush (v := 8) hx hb gX12_saying__4.2.2.1 (by decide) ?_
                refine ald hC hK hP 1 rfl (vin (by decide +kernel)) (k := 8) (by decide +kernel) (v := nI k8) (ek8) gX12_saying__4.2.2.2.1 ?_
                refine lv_istore (lv' := [(8, .int (nI k8)), (7, .int 1), (0, .ref h0), (1, .int x1), (2, .int x2), (3, .int x3), (4, .int x4), (5, .int x5), (6, .int x6)]) hx hb gX12_saying__4.2.2.2.2.1 hl (by decide) rfl (fun ls hl => ?_)
                refine lv_iload hx hb gX12_saying__4.2.2.2.2.2.1 (lv_at0 hl) ?_
                refine lv_bipush (v := 16) hx hb gX12_saying__4.2.2.2.2.2.2.1 (by decide) ?_
                refine lv_icmp_ne (tgt := 97) hx hb gX12_saying__4.2.2.2.2.2.2.2.1 (by decide) (fun c_91_5909 => ?_) (fun c_91_5909 => ?_)
                · have hfull9 := nI_neq (a := k8) (b := 16) (by omega) (by decide) c_91_5909
                  obtain ⟨jb, hjb, rfl⟩ := Hs_nat (by omega) a5893
                  obtain ⟨jp, hjp, rfl⟩ := Hs_nat (by omega) a5895
                  refine lv_sipush (v := 1424) hx hb gX12_saying__5.1 (by decide) ?_
                  refine lv_bipush (v := 8) hx hb gX12_saying__5.2.1 (by decide) ?_
                  refine lv_iload hx hb gX12_saying__5.2.2.1 (lv_at0 hl) ?_
                  refine lv_imul hx hb gX12_saying__5.2.2.2.1 ?_
                  refine eqi (x1 := nI (8 * k8)) (nI_mul 8 k8) ?_
                  refine lv_iadd hx hb gX12_saying__5.2.2.2.2.1 ?_
                  refine eqi (x1 := nI (1424 + 8 * k8)) (nI_add 1424 (8 * k8)) ?_
                  refine lv_istore (lv' := [(9, .int (nI (1424 + 8 * k8))), (8, .int (nI k8)), (7, .int 1), (0, .ref h0), (1, .int x1), (2, .int (nI jb)), (3, .int (nI jp)), (4, .int x4), (5, .int x5), (6, .int x6)]) hx hb gX12_saying__5.2.2.2.2.2.1 hl (by decide) rfl (fun ls hl => ?_)
                  refine lv_aload_n hx hb gX12_saying__5.2.2.2.2.2.2.1 rfl (lv_at3 hl) ?_
                  refine gf_X12_9 hC rfl hK hP 0 rfl rfl gX12_saying__5.2.2.2.2.2.2.2.1 ?_
                  refine lv_iload hx hb gX12_saying__5.2.2.2.2.2.2.2.2.1 (lv_at0 hl) ?_
                  refine lv_iconst (v := 0) hx hb gX12_saying__5.2.2.2.2.2.2.2.2.2 (by decide) ?_
                  refine lv_iadd hx hb gX12_saying__6.1 ?_
                  refine eqi (x1 := nI (1424 + 8 * k8 + 0)) (nI_add (1424 + 8 * k8) 0) ?_
                  refine lv_iload_n hx hb gX12_saying__6.2.1 rfl (lv_at4 hl) ?_
                  refine astN hC hK hP hD hS 1 (ws' := [(h0, oX12 nw nk mhasKept nt mtaped nr mrowMany mroundOf mroundFrom mouts nm mfromHour mtoHour ns mfrom mto msort misFault mdeep mcoded mlines nl nc nF np ntr nb mbestCost nso nsi nit nsh nsf nss nrc mtraced mdealer mnumber mwhose msize misParted), (nw, iA G 1662 (upd fnw (1424 + 8 * k8 + 0) x1))]) rfl (k := (1424 + 8 * k8 + 0)) (by omega) (Nat.le_of_ble_eq_true rfl) (rfl) gX12_saying__6.2.2.1 (fun H locs hP hD hS => ?_)
                  refine lv_aload_n hx hb gX12_saying__6.2.2.2.1 rfl (lv_at3 hl) ?_
                  refine gf_X12_9 hC rfl hK hP 0 rfl rfl gX12_saying__6.2.2.2.2.1 ?_
                  refine lv_iload hx hb gX12_saying__6.2.2.2.2.2.1 (lv_at0 hl) ?_
                  refine lv_iconst (v := 1) hx hb gX12_saying__6.2.2.2.2.2.2.1 (by decide) ?_
                  refine lv_iadd hx hb gX12_saying__6.2.2.2.2.2.2.2.1 ?_
                  refine eqi (x1 := nI (1424 + 8 * k8 + 1)) (nI_add (1424 + 8 * k8) 1) ?_
                  refine lv_iload_n hx hb gX12_saying__6.2.2.2.2.2.2.2.2.1 rfl (lv_at5 hl) ?_
                  refine astN hC hK hP hD hS 1 (ws' := [(h0, oX12 nw nk mhasKept nt mtaped nr mrowMany mroundOf mroundFrom mouts nm mfromHour mtoHour ns mfrom mto msort misFault mdeep mcoded mlines nl nc nF np ntr nb mbestCost nso nsi nit nsh nsf nss nrc mtraced mdealer mnumber mwhose msize misParted), (nw, iA G 1662 (upd (upd fnw (1424 + 8 * k8 + 0) x1) (1424 + 8 * k8 + 1) (nI jb)))]) rfl (k := (1424 + 8 * k8 + 1)) (by omega) (Nat.le_of_ble_eq_true rfl) (rfl) gX12_saying__6.2.2.2.2.2.2.2.2.2 (fun H locs hP hD hS => ?_)
                  refine lv_aload_n hx hb gX12_saying__7.1 rfl (lv_at3 hl) ?_
                  refine gf_X12_9 hC rfl hK hP 0 rfl rfl gX12_saying__7.2.1 ?_
                  refine lv_iload hx hb gX12_saying__7.2.2.1 (lv_at0 hl) ?_
                  refine lv_iconst (v := 2) hx hb gX12_saying__7.2.2.2.1 (by decide) ?_
                  refine lv_iadd hx hb gX12_saying__7.2.2.2.2.1 ?_
                  refine eqi (x1 := nI (1424 + 8 * k8 + 2)) (nI_add (1424 + 8 * k8) 2) ?_
                  refine lv_iload_n hx hb gX12_saying__7.2.2.2.2.2.1 rfl (lv_at6 hl) ?_
                  refine astN hC hK hP hD hS 1 (ws' := [(h0, oX12 nw nk mhasKept nt mtaped nr mrowMany mroundOf mroundFrom mouts nm mfromHour mtoHour ns mfrom mto msort misFault mdeep mcoded mlines nl nc nF np ntr nb mbestCost nso nsi nit nsh nsf nss nrc mtraced mdealer mnumber mwhose msize misParted), (nw, iA G 1662 (upd (upd (upd fnw (1424 + 8 * k8 + 0) x1) (1424 + 8 * k8 + 1) (nI jb)) (1424 + 8 * k8 + 2) (nI jp)))]) rfl (k := (1424 + 8 * k8 + 2)) (by omega) (Nat.le_of_ble_eq_true rfl) (rfl) gX12_saying__7.2.2.2.2.2.2.1 (fun H locs hP hD hS => ?_)
                  refine lv_aload_n hx hb gX12_saying__7.2.2.2.2.2.2.2.1 rfl (lv_at3 hl) ?_
                  refine gf_X12_9 hC rfl hK hP 0 rfl rfl gX12_saying__7.2.2.2.2.2.2.2.2.1 ?_
                  refine lv_iload hx hb gX12_saying__7.2.2.2.2.2.2.2.2.2 (lv_at0 hl) ?_
                  refine lv_iconst (v := 3) hx hb gX12_saying__8.1 (by decide) ?_
                  refine lv_iadd hx hb gX12_saying__8.2.1 ?_
                  refine eqi (x1 := nI (1424 + 8 * k8 + 3)) (nI_add (1424 + 8 * k8) 3) ?_
                  refine lv_iload hx hb gX12_saying__8.2.2.1 (lv_at7 hl) ?_
                  refine lv_bipush (v := 10) hx hb gX12_saying__8.2.2.2.1 (by decide) ?_
                  refine lv_idiv hx hb gX12_saying__8.2.2.2.2.1 (by decide) ?_
                  refine lv_topi (fun x5910 ex5910 => ?_)
                  refine astN hC hK hP hD hS 1 (ws' := [(h0, oX12 nw nk mhasKept nt mtaped nr mrowMany mroundOf mroundFrom mouts nm mfromHour mtoHour ns mfrom mto msort misFault mdeep mcoded mlines nl nc nF np ntr nb mbestCost nso nsi nit nsh nsf nss nrc mtraced mdealer mnumber mwhose msize misParted), (nw, iA G 1662 (upd (upd (upd (upd fnw (1424 + 8 * k8 + 0) x1) (1424 + 8 * k8 + 1) (nI jb)) (1424 + 8 * k8 + 2) (nI jp)) (1424 + 8 * k8 + 3) x5910))]) rfl (k := (1424 + 8 * k8 + 3)) (by omega) (Nat.le_of_ble_eq_true rfl) (rfl) gX12_saying__8.2.2.2.2.2.1 (fun H locs hP hD hS => ?_)
                  refine lv_aload_n hx hb gX12_saying__8.2.2.2.2.2.2.1 rfl (lv_at3 hl) ?_
                  refine gf_X12_9 hC rfl hK hP 0 rfl rfl gX12_saying__8.2.2.2.2.2.2.2.1 ?_
                  refine lv_iload hx hb gX12_saying__8.2.2.2.2.2.2.2.2.1 (lv_at0 hl) ?_
                  refine lv_iconst (v := 4) hx hb gX12_saying__8.2.2.2.2.2.2.2.2.2 (by decide) ?_
                  refine lv_iadd hx hb gX12_saying__9.1 ?_
                  refine eqi (x1 := nI (1424 + 8 * k8 + 4)) (nI_add (1424 + 8 * k8) 4) ?_
                  refine lv_iload hx hb gX12_saying__9.2.1 (lv_at7 hl) ?_
                  refine lv_bipush (v := 10) hx hb gX12_saying__9.2.2.1 (by decide) ?_
                  refine lv_irem hx hb gX12_saying__9.2.2.2.1 (by decide) ?_
                  refine lv_topi (fun x5911 ex5911 => ?_)
                  refine astN hC hK hP hD hS 1 (ws' := [(h0, oX12 nw nk mhasKept nt mtaped nr mrowMany mroundOf mroundFrom mouts nm mfromHour mtoHour ns mfrom mto msort misFault mdeep mcoded mlines nl nc nF np ntr nb mbestCost nso nsi nit nsh nsf nss nrc mtraced mdealer mnumber mwhose msize misParted), (nw, iA G 1662 (upd (upd (upd (upd (upd fnw (1424 + 8 * k8 + 0) x1) (1424 + 8 * k8 + 1) (nI jb)) (1424 + 8 * k8 + 2) (nI jp)) (1424 + 8 * k8 + 3) x5910) (1424 + 8 * k8 + 4) x5911))]) rfl (k := (1424 + 8 * k8 + 4)) (by omega) (Nat.le_of_ble_eq_true rfl) (rfl) gX12_saying__9.2.2.2.2.1 (fun H locs hP hD hS => ?_)
                  refine lv_aload_n hx hb gX12_saying__9.2.2.2.2.2.1 rfl (lv_at3 hl) ?_
                  refine gf_X12_9 hC rfl hK hP 0 rfl rfl gX12_saying__9.2.2.2.2.2.2.1 ?_
                  refine lv_iload hx hb gX12_saying__9.2.2.2.2.2.2.2.1 (lv_at0 hl) ?_
                  refine lv_iconst (v := 5) hx hb gX12_saying__9.2.2.2.2.2.2.2.2.1 (by decide) ?_
                  refine lv_iadd hx hb gX12_saying__9.2.2.2.2.2.2.2.2.2 ?_
                  refine eqi (x1 := nI (1424 + 8 * k8 + 5)) (nI_add (1424 + 8 * k8) 5) ?_
                  refine lv_iload hx hb gX12_saying__10.1 (lv_at8 hl) ?_
                  refine lv_if_eq (tgt := 183) hx hb gX12_saying__10.2.1 (by decide) (fun c_176_5912 => ?_) (fun c_176_5912 => ?_)
                  · refine lv_iconst (v := 0) hx hb gX12_saying__10.2.2.2.2.1 (by decide) ?_
                    refine astN hC hK hP hD hS 1 (ws' := [(h0, oX12 nw nk mhasKept nt mtaped nr mrowMany mroundOf mroundFrom mouts nm mfromHour mtoHour ns mfrom mto msort misFault mdeep mcoded mlines nl nc nF np ntr nb mbestCost nso nsi nit nsh nsf nss nrc mtraced mdealer mnumber mwhose msize misParted), (nw, iA G 1662 (upd (upd (upd (upd (upd (upd fnw (1424 + 8 * k8 + 0) x1) (1424 + 8 * k8 + 1) (nI jb)) (1424 + 8 * k8 + 2) (nI jp)) (1424 + 8 * k8 + 3) x5910) (1424 + 8 * k8 + 4) x5911) (1424 + 8 * k8 + 5) 0))]) rfl (k := (1424 + 8 * k8 + 5)) (by omega) (Nat.le_of_ble_eq_true rfl) (rfl) gX12_saying__10.2.2.2.2.2.1 (fun H locs hP hD hS => ?_)
                    refine lv_aload_n hx hb gX12_saying__10.2.2.2.2.2.2.1 rfl (lv_at3 hl) ?_
                    refine gf_X12_9 hC rfl hK hP 0 rfl rfl gX12_saying__10.2.2.2.2.2.2.2.1 ?_
                    refine lv_iload hx hb gX12_saying__10.2.2.2.2.2.2.2.2.1 (lv_at0 hl) ?_
                    refine lv_bipush (v := 6) hx hb gX12_saying__10.2.2.2.2.2.2.2.2.2 (by decide) ?_
                    refine lv_iadd hx hb gX12_saying__11.1 ?_
                    refine eqi (x1 := nI (1424 + 8 * k8 + 6)) (nI_add (1424 + 8 * k8) 6) ?_
                    refine lv_iload hx hb gX12_saying__11.2.1 (lv_at9 hl) ?_
                    refine astN hC hK hP hD hS 1 (ws' := [(h0, oX12 nw nk mhasKept nt mtaped nr mrowMany mroundOf mroundFrom mouts nm mfromHour mtoHour ns mfrom mto msort misFault mdeep mcoded mlines nl nc nF np ntr nb mbestCost nso nsi nit nsh nsf nss nrc mtraced mdealer mnumber mwhose msize misParted), (nw, iA G 1662 (upd (upd (upd (upd (upd (upd (upd fnw (1424 + 8 * k8 + 0) x1) (1424 + 8 * k8 + 1) (nI jb)) (1424 + 8 * k8 + 2) (nI jp)) (1424 + 8 * k8 + 3) x5910) (1424 + 8 * k8 + 4) x5911) (1424 + 8 * k8 + 5) 0) (1424 + 8 * k8 + 6) x6))]) rfl (k := (1424 + 8 * k8 + 6)) (by omega) (Nat.le_of_ble_eq_true rfl) (rfl) gX12_saying__11.2.2.1 (fun H locs hP hD hS => ?_)
                    refine lv_aload_n hx hb gX12_saying__11.2.2.2.1 rfl (lv_at3 hl) ?_
                    refine gf_X12_9 hC rfl hK hP 0 rfl rfl gX12_saying__11.2.2.2.2.1 ?_
                    refine lv_iload hx hb gX12_saying__11.2.2.2.2.2.1 (lv_at0 hl) ?_
                    refine lv_bipush (v := 7) hx hb gX12_saying__11.2.2.2.2.2.2.1 (by decide) ?_
                    refine lv_iadd hx hb gX12_saying__11.2.2.2.2.2.2.2.1 ?_
                    refine eqi (x1 := nI (1424 + 8 * k8 + 7)) (nI_add (1424 + 8 * k8) 7) ?_
                    refine lv_aload_n hx hb gX12_saying__11.2.2.2.2.2.2.2.2.1 rfl (lv_at3 hl) ?_
                    refine gf_X12_9 hC rfl hK hP 0 rfl rfl gX12_saying__11.2.2.2.2.2.2.2.2.2 ?_
                    refine lv_iconst (v := 0) hx hb gX12_saying__12.1 (by decide) ?_
                    refine ald hC hK hP 1 rfl (vin (by decide +kernel)) (k := 0) (by decide +kernel) (v := fnw 0) ((upd_ne (by omega)).trans ((upd_ne (by omega)).trans ((upd_ne (by omega)).trans ((upd_ne (by omega)).trans ((upd_ne (by omega)).trans ((upd_ne (by omega)).trans ((upd_ne (by omega)).trans (rfl)))))))) gX12_saying__12.2.1 ?_
                    refine astN hC hK hP hD hS 1 (ws' := [(h0, oX12 nw nk mhasKept nt mtaped nr mrowMany mroundOf mroundFrom mouts nm mfromHour mtoHour ns mfrom mto msort misFault mdeep mcoded mlines nl nc nF np ntr nb mbestCost nso nsi nit nsh nsf nss nrc mtraced mdealer mnumber mwhose msize misParted), (nw, iA G 1662 (upd (upd (upd (upd (upd (upd (upd (upd fnw (1424 + 8 * k8 + 0) x1) (1424 + 8 * k8 + 1) (nI jb)) (1424 + 8 * k8 + 2) (nI jp)) (1424 + 8 * k8 + 3) x5910) (1424 + 8 * k8 + 4) x5911) (1424 + 8 * k8 + 5) 0) (1424 + 8 * k8 + 6) x6) (1424 + 8 * k8 + 7) (fnw 0)))]) rfl (k := (1424 + 8 * k8 + 7)) (by omega) (Nat.le_of_ble_eq_true rfl) (rfl) gX12_saying__12.2.2.1 (fun H locs hP hD hS => ?_)
                    refine lv_aload_n hx hb gX12_saying__12.2.2.2.1 rfl (lv_at3 hl) ?_
                    refine gf_X12_9 hC rfl hK hP 0 rfl rfl gX12_saying__12.2.2.2.2.1 ?_
                    refine lv_bipush (v := 8) hx hb gX12_saying__12.2.2.2.2.2.1 (by decide) ?_
                    refine lv_dup2_11 hx hb gX12_saying__12.2.2.2.2.2.2.1 rfl rfl ?_
                    refine ald hC hK hP 1 rfl (vin (by decide +kernel)) (k := 8) (by decide +kernel) (v := nI k8) ((upd_ne (by omega)).trans ((upd_ne (by omega)).trans ((upd_ne (by omega)).trans ((upd_ne (by omega)).trans ((upd_ne (by omega)).trans ((upd_ne (by omega)).trans ((upd_ne (by omega)).trans ((upd_ne (by omega)).trans (ek8))))))))) gX12_saying__12.2.2.2.2.2.2.2.1 ?_
                    refine lv_iconst (v := 1) hx hb gX12_saying__12.2.2.2.2.2.2.2.2.1 (by decide) ?_
                    refine lv_iadd hx hb gX12_saying__12.2.2.2.2.2.2.2.2.2 ?_
                    refine eqi (x1 := nI (k8 + 1)) (nI_add k8 1) ?_
                    refine ast hC hK hP hD hS 1 (ws' := [(h0, oX12 nw nk mhasKept nt mtaped nr mrowMany mroundOf mroundFrom mouts nm mfromHour mtoHour ns mfrom mto msort misFault mdeep mcoded mlines nl nc nF np ntr nb mbestCost nso nsi nit nsh nsf nss nrc mtraced mdealer mnumber mwhose msize misParted), (nw, iA G 1662 (upd (upd (upd (upd (upd (upd (upd (upd (upd fnw (1424 + 8 * k8 + 0) x1) (1424 + 8 * k8 + 1) (nI jb)) (1424 + 8 * k8 + 2) (nI jp)) (1424 + 8 * k8 + 3) x5910) (1424 + 8 * k8 + 4) x5911) (1424 + 8 * k8 + 5) 0) (1424 + 8 * k8 + 6) x6) (1424 + 8 * k8 + 7) (fnw 0)) 8 (nI (k8 + 1))))]) rfl (vin (by decide +kernel)) (k := 8) (by decide +kernel) (rfl) gX12_saying__13.1 (fun H locs hP hD hS => ?_)
                    refine lv_iload hx hb gX12_saying__13.2.1 (lv_at1 hl) ?_
                    have tu5913 : shf (upd (upd (upd (upd (upd (upd (upd (upd (upd fnw (1424 + 8 * k8 + 0) x1) (1424 + 8 * k8 + 1) (nI jb)) (1424 + 8 * k8 + 2) (nI jp)) (1424 + 8 * k8 + 3) x5910) (1424 + 8 * k8 + 4) x5911) (1424 + 8 * k8 + 5) 0) (1424 + 8 * k8 + 6) x6) (1424 + 8 * k8 + 7) (fnw 0)) 8 (nI (k8 + 1))) 1424 = rowu (shf fnw 1424) (k8 * 8) [x1, (nI jb), (nI jp), x5910, x5911, 0, x6, (fnw 0)] := by rw [sho (by omega), shu (j := k8 * 8 + 7) (by omega), shu (j := k8 * 8 + 6) (by omega), shu (j := k8 * 8 + 5) (by omega), shu (j := k8 * 8 + 4) (by omega), shu (j := k8 * 8 + 3) (by omega), shu (j := k8 * 8 + 2) (by omega), shu (j := k8 * 8 + 1) (by omega), shu (j := k8 * 8 + 0) (by omega)]; rfl
                    refine toQ hQ0 ?_
                    exact RI (v := nI k8) hC hP hD hS [0, 1] (upd (upd (upd (upd (upd (upd (upd (upd (upd fnw (1424 + 8 * k8 + 0) x1) (1424 + 8 * k8 + 1) (nI jb)) (1424 + 8 * k8 + 2) (nI jp)) (1424 + 8 * k8 + 3) x5910) (1424 + 8 * k8 + 4) x5911) (1424 + 8 * k8 + 5) 0) (1424 + 8 * k8 + 6) x6) (1424 + 8 * k8 + 7) (fnw 0)) 8 (nI (k8 + 1))) rfl rfl (by decide) (⟨(by first | rfl | (simp only [ifc_t ekp, ifc_t hkp, ifc_t ekq, ifc_t hkq, ifc_t ek8, ifc_t hk8, ifc_t hN, ifc_t hV, ifc_t a5891, ifc_t a5893, ifc_t a5895, ifc_t a5897, ifc_f c_44_5899, ifc_f c_62_5900, ifc_t a5908, ifc_f c_91_5909, ifc_t c_176_5912, ifc_t (q := HOW x4) ⟨a5897, ex5898 ▸ Int32.not_le.mp c_44_5899⟩, ifc_t (q := TLK x6 k8) (Or.inr a5908)]; done) | (simp only [ifc_t ekp, ifc_t hkp, ifc_t ekq, ifc_t hkq, ifc_t ek8, ifc_t hk8, ifc_t hN, ifc_t hV, ifc_t a5891, ifc_t a5893, ifc_t a5895, ifc_t a5897, ifc_f c_44_5899, ifc_f c_62_5900, ifc_t a5908, ifc_f c_91_5909, ifc_t c_176_5912, ifc_t (q := HOW x4) ⟨a5897, ex5898 ▸ Int32.not_le.mp c_44_5899⟩, ifc_t (q := TLK x6 k8) (Or.inr a5908)]; rfl)), ⟨(((((((((hN).setA (bnd_sayA (s := k8) (r := 0) (by omega) (by omega) (by decide) (by decide) (by decide))).setN (B := 9) (bnd_say1 (s := k8) rfl (by omega)) (by omega) (by decide)).setN (B := 11) (bnd_say2 (s := k8) rfl (by omega)) (by omega) (by decide)).setA (bnd_sayA (s := k8) (r := 3) (by omega) (by omega) (by decide) (by decide) (by decide))).setA (bnd_sayA (s := k8) (r := 4) (by omega) (by omega) (by decide) (by decide) (by decide))).setA (bnd_sayA (s := k8) (r := 5) (by omega) (by omega) (by decide) (by decide) (by decide))).setA (bnd_sayA (s := k8) (r := 6) (by omega) (by omega) (by decide) (by decide) (by decide))).setA (bnd_sayA (s := k8) (r := 7) (by omega) (by omega) (by decide) (by decide) (by decide))).setN (B := 16) (show bnd 8 = (0, ((16 : Nat) : Int)) from by decide +kernel) (by omega) (by decide), (((((((((hV).set (by omega)).set (by omega)).set (by omega)).set (by omega)).set (by omega)).set (by omega)).set (by omega)).set (by omega)).set (by omega), (upd_ne (by omega)).trans ((upd_ne (by omega)).trans ((upd_ne (by omega)).trans ((upd_ne (by omega)).trans ((upd_ne (by omega)).trans ((upd_ne (by omega)).trans ((upd_ne (by omega)).trans ((upd_ne (by omega)).trans (upd_ne (by omega))))))))), (upd_ne (by omega)).trans ((upd_ne (by omega)).trans ((upd_ne (by omega)).trans ((upd_ne (by omega)).trans ((upd_ne (by omega)).trans ((upd_ne (by omega)).trans ((upd_ne (by omega)).trans ((upd_ne (by omega)).trans (upd_ne (by omega))))))))), (upd_ne (by omega)).trans ((upd_ne (by omega)).trans ((upd_ne (by omega)).trans ((upd_ne (by omega)).trans ((upd_ne (by omega)).trans ((upd_ne (by omega)).trans ((upd_ne (by omega)).trans ((upd_ne (by omega)).trans (upd_ne (by omega))))))))), (upd_ne (by omega)).trans ((upd_ne (by omega)).trans ((upd_ne (by omega)).trans ((upd_ne (by omega)).trans ((upd_ne (by omega)).trans ((upd_ne (by omega)).trans ((upd_ne (by omega)).trans ((upd_ne (by omega)).trans (upd_ne (by omega))))))))), (upd_ne (by omega)).trans ((upd_ne (by omega)).trans ((upd_ne (by omega)).trans ((upd_ne (by omega)).trans ((upd_ne (by omega)).trans ((upd_ne (by omega)).trans ((upd_ne (by omega)).trans ((upd_ne (by omega)).trans (upd_ne (by omega))))))))), (upd_ne (by omega)).trans ((upd_ne (by omega)).trans ((upd_ne (by omega)).trans ((upd_ne (by omega)).trans ((upd_ne (by omega)).trans ((upd_ne (by omega)).trans ((upd_ne (by omega)).trans ((upd_ne (by omega)).trans (upd_ne (by omega))))))))), (upd_ne (by omega)).trans ((upd_ne (by omega)).trans ((upd_ne (by omega)).trans ((upd_ne (by omega)).trans ((upd_ne (by omega)).trans ((upd_ne (by omega)).trans ((upd_ne (by omega)).trans ((upd_ne (by omega)).trans (upd_ne (by omega))))))))), (show _ = (nI (k8 + 1)) from upd_eq rfl).trans (by first | rfl | (simp only [ifc_t ekp, ifc_t hkp, ifc_t ekq, ifc_t hkq, ifc_t ek8, ifc_t hk8, ifc_t hN, ifc_t hV, ifc_t a5891, ifc_t a5893, ifc_t a5895, ifc_t a5897, ifc_f c_44_5899, ifc_f c_62_5900, ifc_t a5908, ifc_f c_91_5909, ifc_t c_176_5912, ifc_t (q := HOW x4) ⟨a5897, ex5898 ▸ Int32.not_le.mp c_44_5899⟩, ifc_t (q := TLK x6 k8) (Or.inr a5908)]; done) | (simp only [ifc_t ekp, ifc_t hkp, ifc_t ekq, ifc_t hkq, ifc_t ek8, ifc_t hk8, ifc_t hN, ifc_t hV, ifc_t a5891, ifc_t a5893, ifc_t a5895, ifc_t a5897, ifc_f c_44_5899, ifc_f c_62_5900, ifc_t a5908, ifc_f c_91_5909, ifc_t c_176_5912, ifc_t (q := HOW x4) ⟨a5897, ex5898 ▸ Int32.not_le.mp c_44_5899⟩, ifc_t (q := TLK x6 k8) (Or.inr a5908)]; rfl)), (upd_ne (by omega)).trans ((upd_ne (by omega)).trans ((upd_ne (by omega)).trans ((upd_ne (by omega)).trans ((upd_ne (by omega)).trans ((upd_ne (by omega)).trans ((upd_ne (by omega)).trans ((upd_ne (by omega)).trans (upd_ne (by omega))))))))), (upd_ne (by omega)).trans ((upd_ne (by omega)).trans ((upd_ne (by omega)).trans ((upd_ne (by omega)).trans ((upd_ne (by omega)).trans ((upd_ne (by omega)).trans ((upd_ne (by omega)).trans ((upd_ne (by omega)).trans (upd_ne (by omega))))))))), (upd_ne (by omega)).trans ((upd_ne (by omega)).trans ((upd_ne (by omega)).trans ((upd_ne (by omega)).trans ((upd_ne (by omega)).trans ((upd_ne (by omega)).trans ((upd_ne (by omega)).trans ((upd_ne (by omega)).trans (upd_ne (by omega))))))))), (((((((((FRO.rf).set (by omega)).set (by omega)).set (by omega)).set (by omega)).set (by omega)).set (by omega)).set (by omega)).set (by omega)).set (by omega), (fun i hi9 => by simp only [ifc_t ekp, ifc_t hkp, ifc_t ekq, ifc_t hkq, ifc_t ek8, ifc_t hk8, ifc_t hN, ifc_t hV, ifc_t a5891, ifc_t a5893, ifc_t a5895, ifc_t a5897, ifc_f c_44_5899, ifc_f c_62_5900, ifc_t a5908, ifc_f c_91_5909, ifc_t c_176_5912, ifc_t (q := HOW x4) ⟨a5897, ex5898 ▸ Int32.not_le.mp c_44_5899⟩, ifc_t (q := TLK x6 k8) (Or.inr a5908)]; exact (congrFun tu5913 i).trans (by first | rfl | (simp only [ex5910, ex5911]; done)))⟩⟩) rfl gX12_saying__13.2.2
                  · refine lv_iconst (v := 1) hx hb gX12_saying__10.2.2.1 (by decide) ?_
                    refine lv_goto (tgt := 184) hx hb gX12_saying__10.2.2.2.1 (by decide) ?_
                    refine astN hC hK hP hD hS 1 (ws' := [(h0, oX12 nw nk mhasKept nt mtaped nr mrowMany mroundOf mroundFrom mouts nm mfromHour mtoHour ns mfrom mto msort misFault mdeep mcoded mlines nl nc nF np ntr nb mbestCost nso nsi nit nsh nsf nss nrc mtraced mdealer mnumber mwhose msize misParted), (nw, iA G 1662 (upd (upd (upd (upd (upd (upd fnw (1424 + 8 * k8 + 0) x1) (1424 + 8 * k8 + 1) (nI jb)) (1424 + 8 * k8 + 2) (nI jp)) (1424 + 8 * k8 + 3) x5910) (1424 + 8 * k8 + 4) x5911) (1424 + 8 * k8 + 5) 1))]) rfl (k := (1424 + 8 * k8 + 5)) (by omega) (Nat.le_of_ble_eq_true rfl) (rfl) gX12_saying__10.2.2.2.2.2.1 (fun H locs hP hD hS => ?_)
                    refine lv_aload_n hx hb gX12_saying__10.2.2.2.2.2.2.1 rfl (lv_at3 hl) ?_
                    refine gf_X12_9 hC rfl hK hP 0 rfl rfl gX12_saying__10.2.2.2.2.2.2.2.1 ?_
                    refine lv_iload hx hb gX12_saying__10.2.2.2.2.2.2.2.2.1 (lv_at0 hl) ?_
                    refine lv_bipush (v := 6) hx hb gX12_saying__10.2.2.2.2.2.2.2.2.2 (by decide) ?_
                    refine lv_iadd hx hb gX12_saying__11.1 ?_
                    refine eqi (x1 := nI (1424 + 8 * k8 + 6)) (nI_add (1424 + 8 * k8) 6) ?_
                    refine lv_iload hx hb gX12_saying__11.2.1 (lv_at9 hl) ?_
                    refine astN hC hK hP hD hS 1 (ws' := [(h0, oX12 nw nk mhasKept nt mtaped nr mrowMany mroundOf mroundFrom mouts nm mfromHour mtoHour ns mfrom mto msort misFault mdeep mcoded mlines nl nc nF np ntr nb mbestCost nso nsi nit nsh nsf nss nrc mtraced mdealer mnumber mwhose msize misParted), (nw, iA G 1662 (upd (upd (upd (upd (upd (upd (upd fnw (1424 + 8 * k8 + 0) x1) (1424 + 8 * k8 + 1) (nI jb)) (1424 + 8 * k8 + 2) (nI jp)) (1424 + 8 * k8 + 3) x5910) (1424 + 8 * k8 + 4) x5911) (1424 + 8 * k8 + 5) 1) (1424 + 8 * k8 + 6) x6))]) rfl (k := (1424 + 8 * k8 + 6)) (by omega) (Nat.le_of_ble_eq_true rfl) (rfl) gX12_saying__11.2.2.1 (fun H locs hP hD hS => ?_)
                    refine lv_aload_n hx hb gX12_saying__11.2.2.2.1 rfl (lv_at3 hl) ?_
                    refine gf_X12_9 hC rfl hK hP 0 rfl rfl gX12_saying__11.2.2.2.2.1 ?_
                    refine lv_iload hx hb gX12_saying__11.2.2.2.2.2.1 (lv_at0 hl) ?_
                    refine lv_bipush (v := 7) hx hb gX12_saying__11.2.2.2.2.2.2.1 (by decide) ?_
                    refine lv_iadd hx hb gX12_saying__11.2.2.2.2.2.2.2.1 ?_
                    refine eqi (x1 := nI (1424 + 8 * k8 + 7)) (nI_add (1424 + 8 * k8) 7) ?_
                    refine lv_aload_n hx hb gX12_saying__11.2.2.2.2.2.2.2.2.1 rfl (lv_at3 hl) ?_
                    refine gf_X12_9 hC rfl hK hP 0 rfl rfl gX12_saying__11.2.2.2.2.2.2.2.2.2 ?_
                    refine lv_iconst (v := 0) hx hb gX12_saying__12.1 (by decide) ?_
                    refine ald hC hK hP 1 rfl (vin (by decide +kernel)) (k := 0) (by decide +kernel) (v := fnw 0) ((upd_ne (by omega)).trans ((upd_ne (by omega)).trans ((upd_ne (by omega)).trans ((upd_ne (by omega)).trans ((upd_ne (by omega)).trans ((upd_ne (by omega)).trans ((upd_ne (by omega)).trans (rfl)))))))) gX12_saying__12.2.1 ?_
                    refine astN hC hK hP hD hS 1 (ws' := [(h0, oX12 nw nk mhasKept nt mtaped nr mrowMany mroundOf mroundFrom mouts nm mfromHour mtoHour ns mfrom mto msort misFault mdeep mcoded mlines nl nc nF np ntr nb mbestCost nso nsi nit nsh nsf nss nrc mtraced mdealer mnumber mwhose msize misParted), (nw, iA G 1662 (upd (upd (upd (upd (upd (upd (upd (upd fnw (1424 + 8 * k8 + 0) x1) (1424 + 8 * k8 + 1) (nI jb)) (1424 + 8 * k8 + 2) (nI jp)) (1424 + 8 * k8 + 3) x5910) (1424 + 8 * k8 + 4) x5911) (1424 + 8 * k8 + 5) 1) (1424 + 8 * k8 + 6) x6) (1424 + 8 * k8 + 7) (fnw 0)))]) rfl (k := (1424 + 8 * k8 + 7)) (by omega) (Nat.le_of_ble_eq_true rfl) (rfl) gX12_saying__12.2.2.1 (fun H locs hP hD hS => ?_)
                    refine lv_aload_n hx hb gX12_saying__12.2.2.2.1 rfl (lv_at3 hl) ?_
                    refine gf_X12_9 hC rfl hK hP 0 rfl rfl gX12_saying__12.2.2.2.2.1 ?_
                    refine lv_bipush (v := 8) hx hb gX12_saying__12.2.2.2.2.2.1 (by decide) ?_
                    refine lv_dup2_11 hx hb gX12_saying__12.2.2.2.2.2.2.1 rfl rfl ?_
                    refine ald hC hK hP 1 rfl (vin (by decide +kernel)) (k := 8) (by decide +kernel) (v := nI k8) ((upd_ne (by omega)).trans ((upd_ne (by omega)).trans ((upd_ne (by omega)).trans ((upd_ne (by omega)).trans ((upd_ne (by omega)).trans ((upd_ne (by omega)).trans ((upd_ne (by omega)).trans ((upd_ne (by omega)).trans (ek8))))))))) gX12_saying__12.2.2.2.2.2.2.2.1 ?_
                    refine lv_iconst (v := 1) hx hb gX12_saying__12.2.2.2.2.2.2.2.2.1 (by decide) ?_
                    refine lv_iadd hx hb gX12_saying__12.2.2.2.2.2.2.2.2.2 ?_
                    refine eqi (x1 := nI (k8 + 1)) (nI_add k8 1) ?_
                    refine ast hC hK hP hD hS 1 (ws' := [(h0, oX12 nw nk mhasKept nt mtaped nr mrowMany mroundOf mroundFrom mouts nm mfromHour mtoHour ns mfrom mto msort misFault mdeep mcoded mlines nl nc nF np ntr nb mbestCost nso nsi nit nsh nsf nss nrc mtraced mdealer mnumber mwhose msize misParted), (nw, iA G 1662 (upd (upd (upd (upd (upd (upd (upd (upd (upd fnw (1424 + 8 * k8 + 0) x1) (1424 + 8 * k8 + 1) (nI jb)) (1424 + 8 * k8 + 2) (nI jp)) (1424 + 8 * k8 + 3) x5910) (1424 + 8 * k8 + 4) x5911) (1424 + 8 * k8 + 5) 1) (1424 + 8 * k8 + 6) x6) (1424 + 8 * k8 + 7) (fnw 0)) 8 (nI (k8 + 1))))]) rfl (vin (by decide +kernel)) (k := 8) (by decide +kernel) (rfl) gX12_saying__13.1 (fun H locs hP hD hS => ?_)
                    refine lv_iload hx hb gX12_saying__13.2.1 (lv_at1 hl) ?_
                    have tu5914 : shf (upd (upd (upd (upd (upd (upd (upd (upd (upd fnw (1424 + 8 * k8 + 0) x1) (1424 + 8 * k8 + 1) (nI jb)) (1424 + 8 * k8 + 2) (nI jp)) (1424 + 8 * k8 + 3) x5910) (1424 + 8 * k8 + 4) x5911) (1424 + 8 * k8 + 5) 1) (1424 + 8 * k8 + 6) x6) (1424 + 8 * k8 + 7) (fnw 0)) 8 (nI (k8 + 1))) 1424 = rowu (shf fnw 1424) (k8 * 8) [x1, (nI jb), (nI jp), x5910, x5911, 1, x6, (fnw 0)] := by rw [sho (by omega), shu (j := k8 * 8 + 7) (by omega), shu (j := k8 * 8 + 6) (by omega), shu (j := k8 * 8 + 5) (by omega), shu (j := k8 * 8 + 4) (by omega), shu (j := k8 * 8 + 3) (by omega), shu (j := k8 * 8 + 2) (by omega), shu (j := k8 * 8 + 1) (by omega), shu (j := k8 * 8 + 0) (by omega)]; rfl
                    refine toQ hQ0 ?_
                    exact RI (v := nI k8) hC hP hD hS [0, 1] (upd (upd (upd (upd (upd (upd (upd (upd (upd fnw (1424 + 8 * k8 + 0) x1) (1424 + 8 * k8 + 1) (nI jb)) (1424 + 8 * k8 + 2) (nI jp)) (1424 + 8 * k8 + 3) x5910) (1424 + 8 * k8 + 4) x5911) (1424 + 8 * k8 + 5) 1) (1424 + 8 * k8 + 6) x6) (1424 + 8 * k8 + 7) (fnw 0)) 8 (nI (k8 + 1))) rfl rfl (by decide) (⟨(by first | rfl | (simp only [ifc_t ekp, ifc_t hkp, ifc_t ekq, ifc_t hkq, ifc_t ek8, ifc_t hk8, ifc_t hN, ifc_t hV, ifc_t a5891, ifc_t a5893, ifc_t a5895, ifc_t a5897, ifc_f c_44_5899, ifc_f c_62_5900, ifc_t a5908, ifc_f c_91_5909, ifc_f c_176_5912, ifc_t (q := HOW x4) ⟨a5897, ex5898 ▸ Int32.not_le.mp c_44_5899⟩, ifc_t (q := TLK x6 k8) (Or.inr a5908)]; done) | (simp only [ifc_t ekp, ifc_t hkp, ifc_t ekq, ifc_t hkq, ifc_t ek8, ifc_t hk8, ifc_t hN, ifc_t hV, ifc_t a5891, ifc_t a5893, ifc_t a5895, ifc_t a5897, ifc_f c_44_5899, ifc_f c_62_5900, ifc_t a5908, ifc_f c_91_5909, ifc_f c_176_5912, ifc_t (q := HOW x4) ⟨a5897, ex5898 ▸ Int32.not_le.mp c_44_5899⟩, ifc_t (q := TLK x6 k8) (Or.inr a5908)]; rfl)), ⟨(((((((((hN).setA (bnd_sayA (s := k8) (r := 0) (by omega) (by omega) (by decide) (by decide) (by decide))).setN (B := 9) (bnd_say1 (s := k8) rfl (by omega)) (by omega) (by decide)).setN (B := 11) (bnd_say2 (s := k8) rfl (by omega)) (by omega) (by decide)).setA (bnd_sayA (s := k8) (r := 3) (by omega) (by omega) (by decide) (by decide) (by decide))).setA (bnd_sayA (s := k8) (r := 4) (by omega) (by omega) (by decide) (by decide) (by decide))).setA (bnd_sayA (s := k8) (r := 5) (by omega) (by omega) (by decide) (by decide) (by decide))).setA (bnd_sayA (s := k8) (r := 6) (by omega) (by omega) (by decide) (by decide) (by decide))).setA (bnd_sayA (s := k8) (r := 7) (by omega) (by omega) (by decide) (by decide) (by decide))).setN (B := 16) (show bnd 8 = (0, ((16 : Nat) : Int)) from by decide +kernel) (by omega) (by decide), (((((((((hV).set (by omega)).set (by omega)).set (by omega)).set (by omega)).set (by omega)).set (by omega)).set (by omega)).set (by omega)).set (by omega), (upd_ne (by omega)).trans ((upd_ne (by omega)).trans ((upd_ne (by omega)).trans ((upd_ne (by omega)).trans ((upd_ne (by omega)).trans ((upd_ne (by omega)).trans ((upd_ne (by omega)).trans ((upd_ne (by omega)).trans (upd_ne (by omega))))))))), (upd_ne (by omega)).trans ((upd_ne (by omega)).trans ((upd_ne (by omega)).trans ((upd_ne (by omega)).trans ((upd_ne (by omega)).trans ((upd_ne (by omega)).trans ((upd_ne (by omega)).trans ((upd_ne (by omega)).trans (upd_ne (by omega))))))))), (upd_ne (by omega)).trans ((upd_ne (by omega)).trans ((upd_ne (by omega)).trans ((upd_ne (by omega)).trans ((upd_ne (by omega)).trans ((upd_ne (by omega)).trans ((upd_ne (by omega)).trans ((upd_ne (by omega)).trans (upd_ne (by omega))))))))), (upd_ne (by omega)).trans ((upd_ne (by omega)).trans ((upd_ne (by omega)).trans ((upd_ne (by omega)).trans ((upd_ne (by omega)).trans ((upd_ne (by omega)).trans ((upd_ne (by omega)).trans ((upd_ne (by omega)).trans (upd_ne (by omega))))))))), (upd_ne (by omega)).trans ((upd_ne (by omega)).trans ((upd_ne (by omega)).trans ((upd_ne (by omega)).trans ((upd_ne (by omega)).trans ((upd_ne (by omega)).trans ((upd_ne (by omega)).trans ((upd_ne (by omega)).trans (upd_ne (by omega))))))))), (upd_ne (by omega)).trans ((upd_ne (by omega)).trans ((upd_ne (by omega)).trans ((upd_ne (by omega)).trans ((upd_ne (by omega)).trans ((upd_ne (by omega)).trans ((upd_ne (by omega)).trans ((upd_ne (by omega)).trans (upd_ne (by omega))))))))), (upd_ne (by omega)).trans ((upd_ne (by omega)).trans ((upd_ne (by omega)).trans ((upd_ne (by omega)).trans ((upd_ne (by omega)).trans ((upd_ne (by omega)).trans ((upd_ne (by omega)).trans ((upd_ne (by omega)).trans (upd_ne (by omega))))))))), (show _ = (nI (k8 + 1)) from upd_eq rfl).trans (by first | rfl | (simp only [ifc_t ekp, ifc_t hkp, ifc_t ekq, ifc_t hkq, ifc_t ek8, ifc_t hk8, ifc_t hN, ifc_t hV, ifc_t a5891, ifc_t a5893, ifc_t a5895, ifc_t a5897, ifc_f c_44_5899, ifc_f c_62_5900, ifc_t a5908, ifc_f c_91_5909, ifc_f c_176_5912, ifc_t (q := HOW x4) ⟨a5897, ex5898 ▸ Int32.not_le.mp c_44_5899⟩, ifc_t (q := TLK x6 k8) (Or.inr a5908)]; done) | (simp only [ifc_t ekp, ifc_t hkp, ifc_t ekq, ifc_t hkq, ifc_t ek8, ifc_t hk8, ifc_t hN, ifc_t hV, ifc_t a5891, ifc_t a5893, ifc_t a5895, ifc_t a5897, ifc_f c_44_5899, ifc_f c_62_5900, ifc_t a5908, ifc_f c_91_5909, ifc_f c_176_5912, ifc_t (q := HOW x4) ⟨a5897, ex5898 ▸ Int32.not_le.mp c_44_5899⟩, ifc_t (q := TLK x6 k8) (Or.inr a5908)]; rfl)), (upd_ne (by omega)).trans ((upd_ne (by omega)).trans ((upd_ne (by omega)).trans ((upd_ne (by omega)).trans ((upd_ne (by omega)).trans ((upd_ne (by omega)).trans ((upd_ne (by omega)).trans ((upd_ne (by omega)).trans (upd_ne (by omega))))))))), (upd_ne (by omega)).trans ((upd_ne (by omega)).trans ((upd_ne (by omega)).trans ((upd_ne (by omega)).trans ((upd_ne (by omega)).trans ((upd_ne (by omega)).trans ((upd_ne (by omega)).trans ((upd_ne (by omega)).trans (upd_ne (by omega))))))))), (upd_ne (by omega)).trans ((upd_ne (by omega)).trans ((upd_ne (by omega)).trans ((upd_ne (by omega)).trans ((upd_ne (by omega)).trans ((upd_ne (by omega)).trans ((upd_ne (by omega)).trans ((upd_ne (by omega)).trans (upd_ne (by omega))))))))), (((((((((FRO.rf).set (by omega)).set (by omega)).set (by omega)).set (by omega)).set (by omega)).set (by omega)).set (by omega)).set (by omega)).set (by omega), (fun i hi9 => by simp only [ifc_t ekp, ifc_t hkp, ifc_t ekq, ifc_t hkq, ifc_t ek8, ifc_t hk8, ifc_t hN, ifc_t hV, ifc_t a5891, ifc_t a5893, ifc_t a5895, ifc_t a5897, ifc_f c_44_5899, ifc_f c_62_5900, ifc_t a5908, ifc_f c_91_5909, ifc_f c_176_5912, ifc_t (q := HOW x4) ⟨a5897, ex5898 ▸ Int32.not_le.mp c_44_5899⟩, ifc_t (q := TLK x6 k8) (Or.inr a5908)]; exact (congrFun tu5914 i).trans (by first | rfl | (simp only [ex5910, ex5911]; done)))⟩⟩) rfl gX12_saying__13.2.2
                · refine lv_bipush (v := (-2)) hx hb gX12_saying__4.2.2.2.2.2.2.2.2.1 (by decide) ?_
                  refine toQ hQ0 ?_
                  exact RI (v := (-2)) hC hP hD hS [0, 1] fnw rfl rfl (by decide) (⟨(by first | rfl | (simp only [ifc_t ekp, ifc_t hkp, ifc_t ekq, ifc_t hkq, ifc_t ek8, ifc_t hk8, ifc_t hN, ifc_t hV, ifc_t a5891, ifc_t a5893, ifc_t a5895, ifc_t a5897, ifc_f c_44_5899, ifc_f c_62_5900, ifc_t a5908, ifc_t c_91_5909, ifc_t (q := HOW x4) ⟨a5897, ex5898 ▸ Int32.not_le.mp c_44_5899⟩, ifc_t (q := TLK x6 k8) (Or.inr a5908)]; done) | (simp only [ifc_t ekp, ifc_t hkp, ifc_t ekq, ifc_t hkq, ifc_t ek8, ifc_t hk8, ifc_t hN, ifc_t hV, ifc_t a5891, ifc_t a5893, ifc_t a5895, ifc_t a5897, ifc_f c_44_5899, ifc_f c_62_5900, ifc_t a5908, ifc_t c_91_5909, ifc_t (q := HOW x4) ⟨a5897, ex5898 ▸ Int32.not_le.mp c_44_5899⟩, ifc_t (q := TLK x6 k8) (Or.inr a5908)]; rfl)), ⟨hN, hV, rfl, rfl, rfl, rfl, rfl, rfl, rfl, (rfl).trans ((ek8).trans (by first | rfl | (simp only [ifc_t ekp, ifc_t hkp, ifc_t ekq, ifc_t hkq, ifc_t ek8, ifc_t hk8, ifc_t hN, ifc_t hV, ifc_t a5891, ifc_t a5893, ifc_t a5895, ifc_t a5897, ifc_f c_44_5899, ifc_f c_62_5900, ifc_t a5908, ifc_t c_91_5909, ifc_t (q := HOW x4) ⟨a5897, ex5898 ▸ Int32.not_le.mp c_44_5899⟩, ifc_t (q := TLK x6 k8) (Or.inr a5908)]; done) | (simp only [ifc_t ekp, ifc_t hkp, ifc_t ekq, ifc_t hkq, ifc_t ek8, ifc_t hk8, ifc_t hN, ifc_t hV, ifc_t a5891, ifc_t a5893, ifc_t a5895, ifc_t a5897, ifc_f c_44_5899, ifc_f c_62_5900, ifc_t a5908, ifc_t c_91_5909, ifc_t (q := HOW x4) ⟨a5897, ex5898 ▸ Int32.not_le.mp c_44_5899⟩, ifc_t (q := TLK x6 k8) (Or.inr a5908)]; rfl))), rfl, rfl, rfl, FRO.rf, (fun i hi9 => by first | rfl | (simp only [ifc_t ekp, ifc_t hkp, ifc_t ekq, ifc_t hkq, ifc_t ek8, ifc_t hk8, ifc_t hN, ifc_t hV, ifc_t a5891, ifc_t a5893, ifc_t a5895, ifc_t a5897, ifc_f c_44_5899, ifc_f c_62_5900, ifc_t a5908, ifc_t c_91_5909, ifc_t (q := HOW x4) ⟨a5897, ex5898 ▸ Int32.not_le.mp c_44_5899⟩, ifc_t (q := TLK x6 k8) (Or.inr a5908)]; done))⟩⟩) rfl gX12_saying__4.2.2.2.2.2.2.2.2.2
              · refine lv_if_ne (tgt := 78) hx hb gX12_saying__3.2.2.2.2.2.2.2.1 (by decide) (fun c9 => absurd (by decide) c9) (fun _ => ?_)
                refine lv_iconst (v := (-1)) hx hb gX12_saying__3.2.2.2.2.2.2.2.2.1 (by decide) ?_
                refine toQ hQ0 ?_
                exact RI (v := (-1)) hC hP hD hS [0, 1] fnw rfl rfl (by decide) (⟨(by first | rfl | (simp only [ifc_t ekp, ifc_t hkp, ifc_t ekq, ifc_t hkq, ifc_t ek8, ifc_t hk8, ifc_t hN, ifc_t hV, ifc_t a5891, ifc_t a5893, ifc_t a5895, ifc_t a5897, ifc_f c_44_5899, ifc_f c_62_5900, ifc_f a5908, ifc_t (q := HOW x4) ⟨a5897, ex5898 ▸ Int32.not_le.mp c_44_5899⟩, ifc_f (q := TLK x6 k8) (fun h9 => h9.elim c_62_5900 a5908)]; done) | (simp only [ifc_t ekp, ifc_t hkp, ifc_t ekq, ifc_t hkq, ifc_t ek8, ifc_t hk8, ifc_t hN, ifc_t hV, ifc_t a5891, ifc_t a5893, ifc_t a5895, ifc_t a5897, ifc_f c_44_5899, ifc_f c_62_5900, ifc_f a5908, ifc_t (q := HOW x4) ⟨a5897, ex5898 ▸ Int32.not_le.mp c_44_5899⟩, ifc_f (q := TLK x6 k8) (fun h9 => h9.elim c_62_5900 a5908)]; rfl)), ⟨hN, hV, rfl, rfl, rfl, rfl, rfl, rfl, rfl, (rfl).trans ((ek8).trans (by first | rfl | (simp only [ifc_t ekp, ifc_t hkp, ifc_t ekq, ifc_t hkq, ifc_t ek8, ifc_t hk8, ifc_t hN, ifc_t hV, ifc_t a5891, ifc_t a5893, ifc_t a5895, ifc_t a5897, ifc_f c_44_5899, ifc_f c_62_5900, ifc_f a5908, ifc_t (q := HOW x4) ⟨a5897, ex5898 ▸ Int32.not_le.mp c_44_5899⟩, ifc_f (q := TLK x6 k8) (fun h9 => h9.elim c_62_5900 a5908)]; done) | (simp only [ifc_t ekp, ifc_t hkp, ifc_t ekq, ifc_t hkq, ifc_t ek8, ifc_t hk8, ifc_t hN, ifc_t hV, ifc_t a5891, ifc_t a5893, ifc_t a5895, ifc_t a5897, ifc_f c_44_5899, ifc_f c_62_5900, ifc_f a5908, ifc_t (q := HOW x4) ⟨a5897, ex5898 ▸ Int32.not_le.mp c_44_5899⟩, ifc_f (q := TLK x6 k8) (fun h9 => h9.elim c_62_5900 a5908)]; rfl))), rfl, rfl, rfl, FRO.rf, (fun i hi9 => by first | rfl | (simp only [ifc_t ekp, ifc_t hkp, ifc_t ekq, ifc_t hkq, ifc_t ek8, ifc_t hk8, ifc_t hN, ifc_t hV, ifc_t a5891, ifc_t a5893, ifc_t a5895, ifc_t a5897, ifc_f c_44_5899, ifc_f c_62_5900, ifc_f a5908, ifc_t (q := HOW x4) ⟨a5897, ex5898 ▸ Int32.not_le.mp c_44_5899⟩, ifc_f (q := TLK x6 k8) (fun h9 => h9.elim c_62_5900 a5908)]; done))⟩⟩) rfl gX12_saying__3.2.2.2.2.2.2.2.2.2
        · refine lv_if_eq (tgt := 51) hx hb gX12_saying__1.2.2.2.2.2.2.2.2.2 (by decide) (fun _ => ?_) (fun c9 => absurd (by decide) c9)
          refine lv_iconst (v := 0) hx hb gX12_saying__2.2.2.2.2.2.2.1 (by decide) ?_
          refine lv_istore (lv' := [(7, .int 0), (0, .ref h0), (1, .int x1), (2, .int x2), (3, .int x3), (4, .int x4), (5, .int x5), (6, .int x6)]) hx hb gX12_saying__2.2.2.2.2.2.2.2.1 hl (by decide) rfl (fun ls hl => ?_)
          refine lv_iload hx hb gX12_saying__2.2.2.2.2.2.2.2.2.1 (lv_at0 hl) ?_
          refine lv_if_eq (tgt := 76) hx hb gX12_saying__2.2.2.2.2.2.2.2.2.2 (by decide) (fun _ => ?_) (fun c9 => absurd (by decide) c9)
          refine lv_iconst (v := (-1)) hx hb gX12_saying__3.2.2.2.2.2.2.2.2.1 (by decide) ?_
          refine toQ hQ0 ?_
          exact RI (v := (-1)) hC hP hD hS [0, 1] fnw rfl rfl (by decide) (⟨(by first | rfl | (simp only [ifc_t ekp, ifc_t hkp, ifc_t ekq, ifc_t hkq, ifc_t ek8, ifc_t hk8, ifc_t hN, ifc_t hV, ifc_t a5891, ifc_t a5893, ifc_t a5895, ifc_f a5897, ifc_f (fun h9 : HOW x4 => a5897 h9.1)]; done) | (simp only [ifc_t ekp, ifc_t hkp, ifc_t ekq, ifc_t hkq, ifc_t ek8, ifc_t hk8, ifc_t hN, ifc_t hV, ifc_t a5891, ifc_t a5893, ifc_t a5895, ifc_f a5897, ifc_f (fun h9 : HOW x4 => a5897 h9.1)]; rfl)), ⟨hN, hV, rfl, rfl, rfl, rfl, rfl, rfl, rfl, (rfl).trans ((ek8).trans (by first | rfl | (simp only [ifc_t ekp, ifc_t hkp, ifc_t ekq, ifc_t hkq, ifc_t ek8, ifc_t hk8, ifc_t hN, ifc_t hV, ifc_t a5891, ifc_t a5893, ifc_t a5895, ifc_f a5897, ifc_f (fun h9 : HOW x4 => a5897 h9.1)]; done) | (simp only [ifc_t ekp, ifc_t hkp, ifc_t ekq, ifc_t hkq, ifc_t ek8, ifc_t hk8, ifc_t hN, ifc_t hV, ifc_t a5891, ifc_t a5893, ifc_t a5895, ifc_f a5897, ifc_f (fun h9 : HOW x4 => a5897 h9.1)]; rfl))), rfl, rfl, rfl, FRO.rf, (fun i hi9 => by first | rfl | (simp only [ifc_t ekp, ifc_t hkp, ifc_t ekq, ifc_t hkq, ifc_t ek8, ifc_t hk8, ifc_t hN, ifc_t hV, ifc_t a5891, ifc_t a5893, ifc_t a5895, ifc_f a5897, ifc_f (fun h9 : HOW x4 => a5897 h9.1)]; done))⟩⟩) rfl gX12_saying__3.2.2.2.2.2.2.2.2.2
      · refine lv_if_eq (tgt := 51) hx hb gX12_saying__1.2.2.2.2.1 (by decide) (fun _ => ?_) (fun c9 => absurd (by decide) c9)
        refine lv_iconst (v := 0) hx hb gX12_saying__2.2.2.2.2.2.2.1 (by decide) ?_
        refine lv_istore (lv' := [(7, .int 0), (0, .ref h0), (1, .int x1), (2, .int x2), (3, .int x3), (4, .int x4), (5, .int x5), (6, .int x6)]) hx hb gX12_saying__2.2.2.2.2.2.2.2.1 hl (by decide) rfl (fun ls hl => ?_)
        refine lv_iload hx hb gX12_saying__2.2.2.2.2.2.2.2.2.1 (lv_at0 hl) ?_
        refine lv_if_eq (tgt := 76) hx hb gX12_saying__2.2.2.2.2.2.2.2.2.2 (by decide) (fun _ => ?_) (fun c9 => absurd (by decide) c9)
        refine lv_iconst (v := (-1)) hx hb gX12_saying__3.2.2.2.2.2.2.2.2.1 (by decide) ?_
        refine toQ hQ0 ?_
        exact RI (v := (-1)) hC hP hD hS [0, 1] fnw rfl rfl (by decide) (⟨(by first | rfl | (simp only [ifc_t ekp, ifc_t hkp, ifc_t ekq, ifc_t hkq, ifc_t ek8, ifc_t hk8, ifc_t hN, ifc_t hV, ifc_t a5891, ifc_t a5893, ifc_f a5895]; done) | (simp only [ifc_t ekp, ifc_t hkp, ifc_t ekq, ifc_t hkq, ifc_t ek8, ifc_t hk8, ifc_t hN, ifc_t hV, ifc_t a5891, ifc_t a5893, ifc_f a5895]; rfl)), ⟨hN, hV, rfl, rfl, rfl, rfl, rfl, rfl, rfl, (rfl).trans ((ek8).trans (by first | rfl | (simp only [ifc_t ekp, ifc_t hkp, ifc_t ekq, ifc_t hkq, ifc_t ek8, ifc_t hk8, ifc_t hN, ifc_t hV, ifc_t a5891, ifc_t a5893, ifc_f a5895]; done) | (simp only [ifc_t ekp, ifc_t hkp, ifc_t ekq, ifc_t hkq, ifc_t ek8, ifc_t hk8, ifc_t hN, ifc_t hV, ifc_t a5891, ifc_t a5893, ifc_f a5895]; rfl))), rfl, rfl, rfl, FRO.rf, (fun i hi9 => by first | rfl | (simp only [ifc_t ekp, ifc_t hkp, ifc_t ekq, ifc_t hkq, ifc_t ek8, ifc_t hk8, ifc_t hN, ifc_t hV, ifc_t a5891, ifc_t a5893, ifc_f a5895]; done))⟩⟩) rfl gX12_saying__3.2.2.2.2.2.2.2.2.2
    · refine lv_if_eq (tgt := 51) hx hb gX12_saying__0.2.2.2.2.2.2.2.2.2 (by decide) (fun _ => ?_) (fun c9 => absurd (by decide) c9)
      refine lv_iconst (v := 0) hx hb gX12_saying__2.2.2.2.2.2.2.1 (by decide) ?_
      refine lv_istore (lv' := [(7, .int 0), (0, .ref h0), (1, .int x1), (2, .int x2), (3, .int x3), (4, .int x4), (5, .int x5), (6, .int x6)]) hx hb gX12_saying__2.2.2.2.2.2.2.2.1 hl (by decide) rfl (fun ls hl => ?_)
      refine lv_iload hx hb gX12_saying__2.2.2.2.2.2.2.2.2.1 (lv_at0 hl) ?_
      refine lv_if_eq (tgt := 76) hx hb gX12_saying__2.2.2.2.2.2.2.2.2.2 (by decide) (fun _ => ?_) (fun c9 => absurd (by decide) c9)
      refine lv_iconst (v := (-1)) hx hb gX12_saying__3.2.2.2.2.2.2.2.2.1 (by decide) ?_
      refine toQ hQ0 ?_
      exact RI (v := (-1)) hC hP hD hS [0, 1] fnw rfl rfl (by decide) (⟨(by first | rfl | (simp only [ifc_t ekp, ifc_t hkp, ifc_t ekq, ifc_t hkq, ifc_t ek8, ifc_t hk8, ifc_t hN, ifc_t hV, ifc_t a5891, ifc_f a5893]; done) | (simp only [ifc_t ekp, ifc_t hkp, ifc_t ekq, ifc_t hkq, ifc_t ek8, ifc_t hk8, ifc_t hN, ifc_t hV, ifc_t a5891, ifc_f a5893]; rfl)), ⟨hN, hV, rfl, rfl, rfl, rfl, rfl, rfl, rfl, (rfl).trans ((ek8).trans (by first | rfl | (simp only [ifc_t ekp, ifc_t hkp, ifc_t ekq, ifc_t hkq, ifc_t ek8, ifc_t hk8, ifc_t hN, ifc_t hV, ifc_t a5891, ifc_f a5893]; done) | (simp only [ifc_t ekp, ifc_t hkp, ifc_t ekq, ifc_t hkq, ifc_t ek8, ifc_t hk8, ifc_t hN, ifc_t hV, ifc_t a5891, ifc_f a5893]; rfl))), rfl, rfl, rfl, FRO.rf, (fun i hi9 => by first | rfl | (simp only [ifc_t ekp, ifc_t hkp, ifc_t ekq, ifc_t hkq, ifc_t ek8, ifc_t hk8, ifc_t hN, ifc_t hV, ifc_t a5891, ifc_f a5893]; done))⟩⟩) rfl gX12_saying__3.2.2.2.2.2.2.2.2.2
  · refine lv_if_eq (tgt := 51) hx hb gX12_saying__0.2.2.2.2.1 (by decide) (fun _ => ?_) (fun c9 => absurd (by decide) c9)
    refine lv_iconst (v := 0) hx hb gX12_saying__2.2.2.2.2.2.2.1 (by decide) ?_
    refine lv_istore (lv' := [(7, .int 0), (0, .ref h0), (1, .int x1), (2, .int x2), (3, .int x3), (4, .int x4), (5, .int x5), (6, .int x6)]) hx hb gX12_saying__2.2.2.2.2.2.2.2.1 hl (by decide) rfl (fun ls hl => ?_)
    refine lv_iload hx hb gX12_saying__2.2.2.2.2.2.2.2.2.1 (lv_at0 hl) ?_
    refine lv_if_eq (tgt := 76) hx hb gX12_saying__2.2.2.2.2.2.2.2.2.2 (by decide) (fun _ => ?_) (fun c9 => absurd (by decide) c9)
    refine lv_iconst (v := (-1)) hx hb gX12_saying__3.2.2.2.2.2.2.2.2.1 (by decide) ?_
    refine toQ hQ0 ?_
    exact RI (v := (-1)) hC hP hD hS [0, 1] fnw rfl rfl (by decide) (⟨(by first | rfl | (simp only [ifc_t ekp, ifc_t hkp, ifc_t ekq, ifc_t hkq, ifc_t ek8, ifc_t hk8, ifc_t hN, ifc_t hV, ifc_f a5891]; done) | (simp only [ifc_t ekp, ifc_t hkp, ifc_t ekq, ifc_t hkq, ifc_t ek8, ifc_t hk8, ifc_t hN, ifc_t hV, ifc_f a5891]; rfl)), ⟨hN, hV, rfl, rfl, rfl, rfl, rfl, rfl, rfl, (rfl).trans ((ek8).trans (by first | rfl | (simp only [ifc_t ekp, ifc_t hkp, ifc_t ekq, ifc_t hkq, ifc_t ek8, ifc_t hk8, ifc_t hN, ifc_t hV, ifc_f a5891]; done) | (simp only [ifc_t ekp, ifc_t hkp, ifc_t ekq, ifc_t hkq, ifc_t ek8, ifc_t hk8, ifc_t hN, ifc_t hV, ifc_f a5891]; rfl))), rfl, rfl, rfl, FRO.rf, (fun i hi9 => by first | rfl | (simp only [ifc_t ekp, ifc_t hkp, ifc_t ekq, ifc_t hkq, ifc_t ek8, ifc_t hk8, ifc_t hN, ifc_t hV, ifc_f a5891]; done))⟩⟩) rfl gX12_saying__3.2.2.2.2.2.2.2.2.2
def K_w_finding (l : Launch) (G : GG) (kp : Nat) (k9 : Nat) (h0 : Nat) (x1 : Int32) (x2 : Int32) (x3 : Int32) (x4 : Int32) (nw : Nat) (nk : Nat) (mhasKept : Int32) (nt : Nat) (mtaped : Int32) (nr : Nat) (mrowMany : Int32) (mroundOf : Int32) (mroundFrom : Int32) (mouts : Int32) (nm : Nat) (mfromHour : Int32) (mtoHour : Int32) (ns : Nat) (mfrom : Int32) (mto : Int32) (msort : Int32) (misFault : Int32) (mdeep : Int32) (mcoded : Int32) (mlines : Int32) (nl : Nat) (nc : Nat) (nF : Nat) (np : Nat) (ntr : Nat) (nb : Nat) (mbestCost : Int32) (nso : Nat) (nsi : Nat) (nit : Nat) (nsh : Nat) (nsf : Nat) (nss : Nat) (nrc : Nat) (mtraced : Int32) (mdealer : Int32) (mnumber : Int32) (mwhose : Int32) (msize : Int32) (misParted : Int32) (fnw : Nat → Int32) : Prop := MI l G yX12_finding cX12_finding 7 (some .int) 3 0 0 [.ref h0, .int x1, .int x2, .int x3, .int x4] [(h0, oX12 nw nk mhasKept nt mtaped nr mrowMany mroundOf mroundFrom mouts nm mfromHour mtoHour ns mfrom mto msort misFault mdeep mcoded mlines nl nc nF np ntr nb mbestCost nso nsi nit nsh nsf nss nrc mtraced mdealer mnumber mwhose msize misParted), (nw, iA G 1662 fnw)] (fun (r : Int32) (u : (Nat → Int32)) => (r = ifc (Hs x1 kp) (ifc (Wi x2 0 7) (ifc (Wi x3 0 999) (ifc (Wi x4 0 2) (ifc (nI k9 = 12) (-2) (nI k9)) (-1)) (-1)) (-1)) (-1)) ∧ (NI u ∧ VI u ∧ u 0 = fnw 0 ∧ u 1 = fnw 1 ∧ u 2 = fnw 2 ∧ u 3 = fnw 3 ∧ u 4 = fnw 4 ∧ u 5 = fnw 5 ∧ u 6 = fnw 6 ∧ u 8 = fnw 8 ∧ u 9 = ifc (Hs x1 kp) (ifc (Wi x2 0 7) (ifc (Wi x3 0 999) (ifc (Wi x4 0 2) (ifc (nI k9 = 12) (nI k9) (nI (k9 + 1))) (nI k9)) (nI k9)) (nI k9)) (nI k9) ∧ u 10 = fnw 10 ∧ u 11 = fnw 11 ∧ FRO u fnw 1552 1600 ∧ ∀ i : Nat, i < 48 → u (1552 + i) = ifc (Hs x1 kp) (ifc (Wi x2 0 7) (ifc (Wi x3 0 999) (ifc (Wi x4 0 2) (ifc (nI k9 = 12) (fnw (1552 + i)) (rowu (shf fnw 1552) (k9 * 4) [x1, x2, x3, x4] i)) (fnw (1552 + i))) (fnw (1552 + i))) (fnw (1552 + i))) (fnw (1552 + i)))) (fun u : (Nat → Int32) => [(h0, oX12 nw nk mhasKept nt mtaped nr mrowMany mroundOf mroundFrom mouts nm mfromHour mtoHour ns mfrom mto msort misFault mdeep mcoded mlines nl nc nF np ntr nb mbestCost nso nsi nit nsh nsf nss nrc mtraced mdealer mnumber mwhose msize misParted), (nw, iA G 1662 u)])
set_option maxHeartbeats 4000000 in
set_option maxRecDepth 100000 in
theorem w_finding (l : Launch) (G : GG) (kp : Nat) (k9 : Nat) (h0 : Nat) (x1 : Int32) (x2 : Int32) (x3 : Int32) (x4 : Int32) (nw : Nat) (nk : Nat) (mhasKept : Int32) (nt : Nat) (mtaped : Int32) (nr : Nat) (mrowMany : Int32) (mroundOf : Int32) (mroundFrom : Int32) (mouts : Int32) (nm : Nat) (mfromHour : Int32) (mtoHour : Int32) (ns : Nat) (mfrom : Int32) (mto : Int32) (msort : Int32) (misFault : Int32) (mdeep : Int32) (mcoded : Int32) (mlines : Int32) (nl : Nat) (nc : Nat) (nF : Nat) (np : Nat) (ntr : Nat) (nb : Nat) (mbestCost : Int32) (nso : Nat) (nsi : Nat) (nit : Nat) (nsh : Nat) (nsf : Nat) (nss : Nat) (nrc : Nat) (mtraced : Int32) (mdealer : Int32) (mnumber : Int32) (mwhose : Int32) (msize : Int32) (misParted : Int32) (fnw : Nat → Int32) (ekp : fnw 4 = nI kp) (hkp : kp ≤ 10) (ek9 : fnw 9 = nI k9) (hk9 : k9 ≤ 12) (hN : NI fnw) (hV : VI fnw) : K_w_finding l G kp k9 h0 x1 x2 x3 x4 nw nk mhasKept nt mtaped nr mrowMany mroundOf mroundFrom mouts nm mfromHour mtoHour ns mfrom mto msort misFault mdeep mcoded mlines nl nc nF np ntr nb mbestCost nso nsi nit nsh nsf nss nrc mtraced mdealer mnumber mwhose msize misParted fnw := by
  refine MI.start (by decide +kernel) (Nat.le_of_ble_eq_true rfl) ?_
  intro p e s m below meth c A ls hC hK hP hD hS hA hl
  refine absQ (fun Q0 hQ0 => ?_)
  have hl : lv_has ls 7 [(0, .ref h0), (1, .int x1), (2, .int x2), (3, .int x3), (4, .int x4)] := hl
  refine Kan8 hC (fun hx hb hr hml hB hown hlocks hnm => ?_)
  refine lv_aload_n hx hb gX12_finding_0.1 rfl (lv_at0 hl) ?_
  refine lv_iload_n hx hb gX12_finding_0.2.1 rfl (lv_at1 hl) ?_
  refine lv_iconst (v := 4) hx hb gX12_finding_0.2.2.1 (by decide) ?_
  refine pV hC hK hl hP hD (m_is l G kp h0 x1 4 nw nk mhasKept nt mtaped nr mrowMany mroundOf mroundFrom mouts nm mfromHour mtoHour ns mfrom mto msort misFault mdeep mcoded mlines nl nc nF np ntr nb mbestCost nso nsi nit nsh nsf nss nrc mtraced mdealer mnumber mwhose msize misParted fnw (by omega) (ekp) (by omega)) si_X12_120 [0, 1] sm_0_1 fm_0_1 nd_0_1 rfl rfl rfl rfl rfl (Nat.le_of_ble_eq_true rfl) rm_3_2_3 ⟨by first | exact Nat.le_of_ble_eq_true rfl | exact Nat.zero_le _, by first | exact Nat.le_of_ble_eq_true rfl | exact Nat.zero_le _⟩ gX12_finding_0.2.2.2.1 (Kors (Keqa fun a5916 => ?_) (Keqa fun a5916 => ?_))
  · refine lv_if_eq (tgt := 40) hx hb gX12_finding_0.2.2.2.2.1 (by decide) (fun c9 => absurd c9 (by decide)) (fun _ => ?_)
    refine lv_iload_n hx hb gX12_finding_0.2.2.2.2.2.1 rfl (lv_at2 hl) ?_
    refine lv_iconst (v := 0) hx hb gX12_finding_0.2.2.2.2.2.2.1 (by decide) ?_
    refine lv_bipush (v := 7) hx hb gX12_finding_0.2.2.2.2.2.2.2.1 (by decide) ?_
    refine pS hC hK hl (m_within l G x2 0 7) si_X12_84 rfl rfl (Nat.le_of_ble_eq_true rfl) rm_3_1_3 ⟨by first | exact Nat.le_of_ble_eq_true rfl | exact Nat.zero_le _, by first | exact Nat.le_of_ble_eq_true rfl | exact Nat.zero_le _⟩ gX12_finding_0.2.2.2.2.2.2.2.2.1 (Kors (Keqa fun a5918 => ?_) (Keqa fun a5918 => ?_))
    · refine lv_if_eq (tgt := 40) hx hb gX12_finding_0.2.2.2.2.2.2.2.2.2 (by decide) (fun c9 => absurd c9 (by decide)) (fun _ => ?_)
      refine lv_iload_n hx hb gX12_finding_1.1 rfl (lv_at3 hl) ?_
      refine lv_iconst (v := 0) hx hb gX12_finding_1.2.1 (by decide) ?_
      refine lv_sipush (v := 999) hx hb gX12_finding_1.2.2.1 (by decide) ?_
      refine pS hC hK hl (m_within l G x3 0 999) si_X12_84 rfl rfl (Nat.le_of_ble_eq_true rfl) rm_3_1_3 ⟨by first | exact Nat.le_of_ble_eq_true rfl | exact Nat.zero_le _, by first | exact Nat.le_of_ble_eq_true rfl | exact Nat.zero_le _⟩ gX12_finding_1.2.2.2.1 (Kors (Keqa fun a5920 => ?_) (Keqa fun a5920 => ?_))
      · refine lv_if_eq (tgt := 40) hx hb gX12_finding_1.2.2.2.2.1 (by decide) (fun c9 => absurd c9 (by decide)) (fun _ => ?_)
        refine lv_iload hx hb gX12_finding_1.2.2.2.2.2.1 (lv_at4 hl) ?_
        refine lv_iconst (v := 0) hx hb gX12_finding_1.2.2.2.2.2.2.1 (by decide) ?_
        refine lv_iconst (v := 2) hx hb gX12_finding_1.2.2.2.2.2.2.2.1 (by decide) ?_
        refine pS hC hK hl (m_within l G x4 0 2) si_X12_84 rfl rfl (Nat.le_of_ble_eq_true rfl) rm_3_1_3 ⟨by first | exact Nat.le_of_ble_eq_true rfl | exact Nat.zero_le _, by first | exact Nat.le_of_ble_eq_true rfl | exact Nat.zero_le _⟩ gX12_finding_1.2.2.2.2.2.2.2.2.1 (Kors (Keqa fun a5922 => ?_) (Keqa fun a5922 => ?_))
        · refine lv_if_ne (tgt := 42) hx hb gX12_finding_1.2.2.2.2.2.2.2.2.2 (by decide) (fun _ => ?_) (fun c9 => absurd c9 (by decide))
          refine lv_aload_n hx hb gX12_finding_2.2.2.1 rfl (lv_at0 hl) ?_
          refine gf_X12_9 hC rfl hK hP 0 rfl rfl gX12_finding_2.2.2.2.1 ?_
          refine lv_bipush (v := 9) hx hb gX12_finding_2.2.2.2.2.1 (by decide) ?_
          refine ald hC hK hP 1 rfl (vin (by decide +kernel)) (k := 9) (by decide +kernel) (v := nI k9) (ek9) gX12_finding_2.2.2.2.2.2.1 ?_
          refine lv_istore (lv' := [(5, .int (nI k9)), (0, .ref h0), (1, .int x1), (2, .int x2), (3, .int x3), (4, .int x4)]) hx hb gX12_finding_2.2.2.2.2.2.2.1 hl (by decide) rfl (fun ls hl => ?_)
          refine lv_iload hx hb gX12_finding_2.2.2.2.2.2.2.2.1 (lv_at0 hl) ?_
          refine lv_bipush (v := 12) hx hb gX12_finding_2.2.2.2.2.2.2.2.2.1 (by decide) ?_
          refine lv_icmp_ne (tgt := 61) hx hb gX12_finding_2.2.2.2.2.2.2.2.2.2 (by decide) (fun c_55_5923 => ?_) (fun c_55_5923 => ?_)
          · have hfull9 := nI_neq (a := k9) (b := 12) (by omega) (by decide) c_55_5923
            obtain ⟨ja, hja, rfl⟩ := Hs_nat (by omega) a5916
            obtain ⟨jb, hjb, rfl⟩ := Wi_nat (N := 7) (by decide) a5918
            refine lv_sipush (v := 1552) hx hb gX12_finding_3.2.2.1 (by decide) ?_
            refine lv_iconst (v := 4) hx hb gX12_finding_3.2.2.2.1 (by decide) ?_
            refine lv_iload hx hb gX12_finding_3.2.2.2.2.1 (lv_at0 hl) ?_
            refine lv_imul hx hb gX12_finding_3.2.2.2.2.2.1 ?_
            refine eqi (x1 := nI (4 * k9)) (nI_mul 4 k9) ?_
            refine lv_iadd hx hb gX12_finding_3.2.2.2.2.2.2.1 ?_
            refine eqi (x1 := nI (1552 + 4 * k9)) (nI_add 1552 (4 * k9)) ?_
            refine lv_istore (lv' := [(6, .int (nI (1552 + 4 * k9))), (5, .int (nI k9)), (0, .ref h0), (1, .int (nI ja)), (2, .int (nI jb)), (3, .int x3), (4, .int x4)]) hx hb gX12_finding_3.2.2.2.2.2.2.2.1 hl (by decide) rfl (fun ls hl => ?_)
            refine lv_aload_n hx hb gX12_finding_3.2.2.2.2.2.2.2.2.1 rfl (lv_at2 hl) ?_
            refine gf_X12_9 hC rfl hK hP 0 rfl rfl gX12_finding_3.2.2.2.2.2.2.2.2.2 ?_
            refine lv_iload hx hb gX12_finding_4.1 (lv_at0 hl) ?_
            refine lv_iconst (v := 0) hx hb gX12_finding_4.2.1 (by decide) ?_
            refine lv_iadd hx hb gX12_finding_4.2.2.1 ?_
            refine eqi (x1 := nI (1552 + 4 * k9 + 0)) (nI_add (1552 + 4 * k9) 0) ?_
            refine lv_iload_n hx hb gX12_finding_4.2.2.2.1 rfl (lv_at3 hl) ?_
            refine astN hC hK hP hD hS 1 (ws' := [(h0, oX12 nw nk mhasKept nt mtaped nr mrowMany mroundOf mroundFrom mouts nm mfromHour mtoHour ns mfrom mto msort misFault mdeep mcoded mlines nl nc nF np ntr nb mbestCost nso nsi nit nsh nsf nss nrc mtraced mdealer mnumber mwhose msize misParted), (nw, iA G 1662 (upd fnw (1552 + 4 * k9 + 0) (nI ja)))]) rfl (k := (1552 + 4 * k9 + 0)) (by omega) (Nat.le_of_ble_eq_true rfl) (rfl) gX12_finding_4.2.2.2.2.1 (fun H locs hP hD hS => ?_)
            refine lv_aload_n hx hb gX12_finding_4.2.2.2.2.2.1 rfl (lv_at2 hl) ?_
            refine gf_X12_9 hC rfl hK hP 0 rfl rfl gX12_finding_4.2.2.2.2.2.2.1 ?_
            refine lv_iload hx hb gX12_finding_4.2.2.2.2.2.2.2.1 (lv_at0 hl) ?_
            refine lv_iconst (v := 1) hx hb gX12_finding_4.2.2.2.2.2.2.2.2.1 (by decide) ?_
            refine lv_iadd hx hb gX12_finding_4.2.2.2.2.2.2.2.2.2 ?_
            refine eqi (x1 := nI (1552 + 4 * k9 + 1)) (nI_add (1552 + 4 * k9) 1) ?_
            refine lv_iload_n hx hb gX12_finding_5.1 rfl (lv_at4 hl) ?_
            refine astN hC hK hP hD hS 1 (ws' := [(h0, oX12 nw nk mhasKept nt mtaped nr mrowMany mroundOf mroundFrom mouts nm mfromHour mtoHour ns mfrom mto msort misFault mdeep mcoded mlines nl nc nF np ntr nb mbestCost nso nsi nit nsh nsf nss nrc mtraced mdealer mnumber mwhose msize misParted), (nw, iA G 1662 (upd (upd fnw (1552 + 4 * k9 + 0) (nI ja)) (1552 + 4 * k9 + 1) (nI jb)))]) rfl (k := (1552 + 4 * k9 + 1)) (by omega) (Nat.le_of_ble_eq_true rfl) (rfl) gX12_finding_5.2.1 (fun H locs hP hD hS => ?_)
            refine lv_aload_n hx hb gX12_finding_5.2.2.1 rfl (lv_at2 hl) ?_
            refine gf_X12_9 hC rfl hK hP 0 rfl rfl gX12_finding_5.2.2.2.1 ?_
            refine lv_iload hx hb gX12_finding_5.2.2.2.2.1 (lv_at0 hl) ?_
            refine lv_iconst (v := 2) hx hb gX12_finding_5.2.2.2.2.2.1 (by decide) ?_
            refine lv_iadd hx hb gX12_finding_5.2.2.2.2.2.2.1 ?_
            refine eqi (x1 := nI (1552 + 4 * k9 + 2)) (nI_add (1552 + 4 * k9) 2) ?_
            refine lv_iload_n hx hb gX12_finding_5.2.2.2.2.2.2.2.1 rfl (lv_at5 hl) ?_
            refine astN hC hK hP hD hS 1 (ws' := [(h0, oX12 nw nk mhasKept nt mtaped nr mrowMany mroundOf mroundFrom mouts nm mfromHour mtoHour ns mfrom mto msort misFault mdeep mcoded mlines nl nc nF np ntr nb mbestCost nso nsi nit nsh nsf nss nrc mtraced mdealer mnumber mwhose msize misParted), (nw, iA G 1662 (upd (upd (upd fnw (1552 + 4 * k9 + 0) (nI ja)) (1552 + 4 * k9 + 1) (nI jb)) (1552 + 4 * k9 + 2) x3))]) rfl (k := (1552 + 4 * k9 + 2)) (by omega) (Nat.le_of_ble_eq_true rfl) (rfl) gX12_finding_5.2.2.2.2.2.2.2.2.1 (fun H locs hP hD hS => ?_)
            refine lv_aload_n hx hb gX12_finding_5.2.2.2.2.2.2.2.2.2 rfl (lv_at2 hl) ?_
            refine gf_X12_9 hC rfl hK hP 0 rfl rfl gX12_finding_6.1 ?_
            refine lv_iload hx hb gX12_finding_6.2.1 (lv_at0 hl) ?_
            refine lv_iconst (v := 3) hx hb gX12_finding_6.2.2.1 (by decide) ?_
            refine lv_iadd hx hb gX12_finding_6.2.2.2.1 ?_
            refine eqi (x1 := nI (1552 + 4 * k9 + 3)) (nI_add (1552 + 4 * k9) 3) ?_
            refine lv_iload hx hb gX12_finding_6.2.2.2.2.1 (lv_at6 hl) ?_
            refine astN hC hK hP hD hS 1 (ws' := [(h0, oX12 nw nk mhasKept nt mtaped nr mrowMany mroundOf mroundFrom mouts nm mfromHour mtoHour ns mfrom mto msort misFault mdeep mcoded mlines nl nc nF np ntr nb mbestCost nso nsi nit nsh nsf nss nrc mtraced mdealer mnumber mwhose msize misParted), (nw, iA G 1662 (upd (upd (upd (upd fnw (1552 + 4 * k9 + 0) (nI ja)) (1552 + 4 * k9 + 1) (nI jb)) (1552 + 4 * k9 + 2) x3) (1552 + 4 * k9 + 3) x4))]) rfl (k := (1552 + 4 * k9 + 3)) (by omega) (Nat.le_of_ble_eq_true rfl) (rfl) gX12_finding_6.2.2.2.2.2.1 (fun H locs hP hD hS => ?_)
            refine lv_aload_n hx hb gX12_finding_6.2.2.2.2.2.2.1 rfl (lv_at2 hl) ?_
            refine gf_X12_9 hC rfl hK hP 0 rfl rfl gX12_finding_6.2.2.2.2.2.2.2.1 ?_
            refine lv_bipush (v := 9) hx hb gX12_finding_6.2.2.2.2.2.2.2.2.1 (by decide) ?_
            refine lv_dup2_11 hx hb gX12_finding_6.2.2.2.2.2.2.2.2.2 rfl rfl ?_
            refine ald hC hK hP 1 rfl (vin (by decide +kernel)) (k := 9) (by decide +kernel) (v := nI k9) ((upd_ne (by omega)).trans ((upd_ne (by omega)).trans ((upd_ne (by omega)).trans ((upd_ne (by omega)).trans (ek9))))) gX12_finding_7.1 ?_
            refine lv_iconst (v := 1) hx hb gX12_finding_7.2.1 (by decide) ?_
            refine lv_iadd hx hb gX12_finding_7.2.2.1 ?_
            refine eqi (x1 := nI (k9 + 1)) (nI_add k9 1) ?_
            refine ast hC hK hP hD hS 1 (ws' := [(h0, oX12 nw nk mhasKept nt mtaped nr mrowMany mroundOf mroundFrom mouts nm mfromHour mtoHour ns mfrom mto msort misFault mdeep mcoded mlines nl nc nF np ntr nb mbestCost nso nsi nit nsh nsf nss nrc mtraced mdealer mnumber mwhose msize misParted), (nw, iA G 1662 (upd (upd (upd (upd (upd fnw (1552 + 4 * k9 + 0) (nI ja)) (1552 + 4 * k9 + 1) (nI jb)) (1552 + 4 * k9 + 2) x3) (1552 + 4 * k9 + 3) x4) 9 (nI (k9 + 1))))]) rfl (vin (by decide +kernel)) (k := 9) (by decide +kernel) (rfl) gX12_finding_7.2.2.2.1 (fun H locs hP hD hS => ?_)
            refine lv_iload hx hb gX12_finding_7.2.2.2.2.1 (lv_at1 hl) ?_
            have tu5924 : shf (upd (upd (upd (upd (upd fnw (1552 + 4 * k9 + 0) (nI ja)) (1552 + 4 * k9 + 1) (nI jb)) (1552 + 4 * k9 + 2) x3) (1552 + 4 * k9 + 3) x4) 9 (nI (k9 + 1))) 1552 = rowu (shf fnw 1552) (k9 * 4) [(nI ja), (nI jb), x3, x4] := by rw [sho (by omega), shu (j := k9 * 4 + 3) (by omega), shu (j := k9 * 4 + 2) (by omega), shu (j := k9 * 4 + 1) (by omega), shu (j := k9 * 4 + 0) (by omega)]; rfl
            refine toQ hQ0 ?_
            exact RI (v := nI k9) hC hP hD hS [0, 1] (upd (upd (upd (upd (upd fnw (1552 + 4 * k9 + 0) (nI ja)) (1552 + 4 * k9 + 1) (nI jb)) (1552 + 4 * k9 + 2) x3) (1552 + 4 * k9 + 3) x4) 9 (nI (k9 + 1))) rfl rfl (by decide) (⟨(by first | rfl | (simp only [ifc_t ekp, ifc_t hkp, ifc_t ek9, ifc_t hk9, ifc_t hN, ifc_t hV, ifc_t a5916, ifc_t a5918, ifc_t a5920, ifc_t a5922, ifc_f c_55_5923]; done) | (simp only [ifc_t ekp, ifc_t hkp, ifc_t ek9, ifc_t hk9, ifc_t hN, ifc_t hV, ifc_t a5916, ifc_t a5918, ifc_t a5920, ifc_t a5922, ifc_f c_55_5923]; rfl)), ⟨(((((hN).setN (B := 9) (bnd_fin0 (s := k9) (by omega) (by omega)) (by omega) (by decide)).setN (B := 7) (bnd_fin1 (s := k9) rfl (by omega)) (by omega) (by decide)).setA (bnd_finA (s := k9) (r := 2) (by omega) (by omega) (by decide) (by decide))).setA (bnd_finA (s := k9) (r := 3) (by omega) (by omega) (by decide) (by decide))).setN (B := 12) (show bnd 9 = (0, ((12 : Nat) : Int)) from by decide +kernel) (by omega) (by decide), (((((hV).set (by omega)).set (by omega)).set (by omega)).set (by omega)).set (by omega), (upd_ne (by omega)).trans ((upd_ne (by omega)).trans ((upd_ne (by omega)).trans ((upd_ne (by omega)).trans (upd_ne (by omega))))), (upd_ne (by omega)).trans ((upd_ne (by omega)).trans ((upd_ne (by omega)).trans ((upd_ne (by omega)).trans (upd_ne (by omega))))), (upd_ne (by omega)).trans ((upd_ne (by omega)).trans ((upd_ne (by omega)).trans ((upd_ne (by omega)).trans (upd_ne (by omega))))), (upd_ne (by omega)).trans ((upd_ne (by omega)).trans ((upd_ne (by omega)).trans ((upd_ne (by omega)).trans (upd_ne (by omega))))), (upd_ne (by omega)).trans ((upd_ne (by omega)).trans ((upd_ne (by omega)).trans ((upd_ne (by omega)).trans (upd_ne (by omega))))), (upd_ne (by omega)).trans ((upd_ne (by omega)).trans ((upd_ne (by omega)).trans ((upd_ne (by omega)).trans (upd_ne (by omega))))), (upd_ne (by omega)).trans ((upd_ne (by omega)).trans ((upd_ne (by omega)).trans ((upd_ne (by omega)).trans (upd_ne (by omega))))), (upd_ne (by omega)).trans ((upd_ne (by omega)).trans ((upd_ne (by omega)).trans ((upd_ne (by omega)).trans (upd_ne (by omega))))), (show _ = (nI (k9 + 1)) from upd_eq rfl).trans (by first | rfl | (simp only [ifc_t ekp, ifc_t hkp, ifc_t ek9, ifc_t hk9, ifc_t hN, ifc_t hV, ifc_t a5916, ifc_t a5918, ifc_t a5920, ifc_t a5922, ifc_f c_55_5923]; done) | (simp only [ifc_t ekp, ifc_t hkp, ifc_t ek9, ifc_t hk9, ifc_t hN, ifc_t hV, ifc_t a5916, ifc_t a5918, ifc_t a5920, ifc_t a5922, ifc_f c_55_5923]; rfl)), (upd_ne (by omega)).trans ((upd_ne (by omega)).trans ((upd_ne (by omega)).trans ((upd_ne (by omega)).trans (upd_ne (by omega))))), (upd_ne (by omega)).trans ((upd_ne (by omega)).trans ((upd_ne (by omega)).trans ((upd_ne (by omega)).trans (upd_ne (by omega))))), (((((FRO.rf).set (by omega)).set (by omega)).set (by omega)).set (by omega)).set (by omega), (fun i hi9 => by simp only [ifc_t ekp, ifc_t hkp, ifc_t ek9, ifc_t hk9, ifc_t hN, ifc_t hV, ifc_t a5916, ifc_t a5918, ifc_t a5920, ifc_t a5922, ifc_f c_55_5923]; exact (congrFun tu5924 i).trans (by first | rfl | (simp only [SCX]; done)))⟩⟩) rfl gX12_finding_7.2.2.2.2.2
          · refine lv_bipush (v := (-2)) hx hb gX12_finding_3.1 (by decide) ?_
            refine toQ hQ0 ?_
            exact RI (v := (-2)) hC hP hD hS [0, 1] fnw rfl rfl (by decide) (⟨(by first | rfl | (simp only [ifc_t ekp, ifc_t hkp, ifc_t ek9, ifc_t hk9, ifc_t hN, ifc_t hV, ifc_t a5916, ifc_t a5918, ifc_t a5920, ifc_t a5922, ifc_t c_55_5923]; done) | (simp only [ifc_t ekp, ifc_t hkp, ifc_t ek9, ifc_t hk9, ifc_t hN, ifc_t hV, ifc_t a5916, ifc_t a5918, ifc_t a5920, ifc_t a5922, ifc_t c_55_5923]; rfl)), ⟨hN, hV, rfl, rfl, rfl, rfl, rfl, rfl, rfl, rfl, (rfl).trans ((ek9).trans (by first | rfl | (simp only [ifc_t ekp, ifc_t hkp, ifc_t ek9, ifc_t hk9, ifc_t hN, ifc_t hV, ifc_t a5916, ifc_t a5918, ifc_t a5920, ifc_t a5922, ifc_t c_55_5923]; done) | (simp only [ifc_t ekp, ifc_t hkp, ifc_t ek9, ifc_t hk9, ifc_t hN, ifc_t hV, ifc_t a5916, ifc_t a5918, ifc_t a5920, ifc_t a5922, ifc_t c_55_5923]; rfl))), rfl, rfl, FRO.rf, (fun i hi9 => by first | rfl | (simp only [ifc_t ekp, ifc_t hkp, ifc_t ek9, ifc_t hk9, ifc_t hN, ifc_t hV, ifc_t a5916, ifc_t a5918, ifc_t a5920, ifc_t a5922, ifc_t c_55_5923]; done))⟩⟩) rfl gX12_finding_3.2.1
        · refine lv_if_ne (tgt := 42) hx hb gX12_finding_1.2.2.2.2.2.2.2.2.2 (by decide) (fun c9 => absurd (by decide) c9) (fun _ => ?_)
          refine lv_iconst (v := (-1)) hx hb gX12_finding_2.1 (by decide) ?_
          refine toQ hQ0 ?_
          exact RI (v := (-1)) hC hP hD hS [0, 1] fnw rfl rfl (by decide) (⟨(by first | rfl | (simp only [ifc_t ekp, ifc_t hkp, ifc_t ek9, ifc_t hk9, ifc_t hN, ifc_t hV, ifc_t a5916, ifc_t a5918, ifc_t a5920, ifc_f a5922]; done) | (simp only [ifc_t ekp, ifc_t hkp, ifc_t ek9, ifc_t hk9, ifc_t hN, ifc_t hV, ifc_t a5916, ifc_t a5918, ifc_t a5920, ifc_f a5922]; rfl)), ⟨hN, hV, rfl, rfl, rfl, rfl, rfl, rfl, rfl, rfl, (rfl).trans ((ek9).trans (by first | rfl | (simp only [ifc_t ekp, ifc_t hkp, ifc_t ek9, ifc_t hk9, ifc_t hN, ifc_t hV, ifc_t a5916, ifc_t a5918, ifc_t a5920, ifc_f a5922]; done) | (simp only [ifc_t ekp, ifc_t hkp, ifc_t ek9, ifc_t hk9, ifc_t hN, ifc_t hV, ifc_t a5916, ifc_t a5918, ifc_t a5920, ifc_f a5922]; rfl))), rfl, rfl, FRO.rf, (fun i hi9 => by first | rfl | (simp only [ifc_t ekp, ifc_t hkp, ifc_t ek9, ifc_t hk9, ifc_t hN, ifc_t hV, ifc_t a5916, ifc_t a5918, ifc_t a5920, ifc_f a5922]; done))⟩⟩) rfl gX12_finding_2.2.1
      · refine lv_if_eq (tgt := 40) hx hb gX12_finding_1.2.2.2.2.1 (by decide) (fun _ => ?_) (fun c9 => absurd (by decide) c9)
        refine lv_iconst (v := (-1)) hx hb gX12_finding_2.1 (by decide) ?_
        refine toQ hQ0 ?_
        exact RI (v := (-1)) hC hP hD hS [0, 1] fnw rfl rfl (by decide) (⟨(by first | rfl | (simp only [ifc_t ekp, ifc_t hkp, ifc_t ek9, ifc_t hk9, ifc_t hN, ifc_t hV, ifc_t a5916, ifc_t a5918, ifc_f a5920]; done) | (simp only [ifc_t ekp, ifc_t hkp, ifc_t ek9, ifc_t hk9, ifc_t hN, ifc_t hV, ifc_t a5916, ifc_t a5918, ifc_f a5920]; rfl)), ⟨hN, hV, rfl, rfl, rfl, rfl, rfl, rfl, rfl, rfl, (rfl).trans ((ek9).trans (by first | rfl | (simp only [ifc_t ekp, ifc_t hkp, ifc_t ek9, ifc_t hk9, ifc_t hN, ifc_t hV, ifc_t a5916, ifc_t a5918, ifc_f a5920]; done) | (simp only [ifc_t ekp, ifc_t hkp, ifc_t ek9, ifc_t hk9, ifc_t hN, ifc_t hV, ifc_t a5916, ifc_t a5918, ifc_f a5920]; rfl))), rfl, rfl, FRO.rf, (fun i hi9 => by first | rfl | (simp only [ifc_t ekp, ifc_t hkp, ifc_t ek9, ifc_t hk9, ifc_t hN, ifc_t hV, ifc_t a5916, ifc_t a5918, ifc_f a5920]; done))⟩⟩) rfl gX12_finding_2.2.1
    · refine lv_if_eq (tgt := 40) hx hb gX12_finding_0.2.2.2.2.2.2.2.2.2 (by decide) (fun _ => ?_) (fun c9 => absurd (by decide) c9)
      refine lv_iconst (v := (-1)) hx hb gX12_finding_2.1 (by decide) ?_
      refine toQ hQ0 ?_
      exact RI (v := (-1)) hC hP hD hS [0, 1] fnw rfl rfl (by decide) (⟨(by first | rfl | (simp only [ifc_t ekp, ifc_t hkp, ifc_t ek9, ifc_t hk9, ifc_t hN, ifc_t hV, ifc_t a5916, ifc_f a5918]; done) | (simp only [ifc_t ekp, ifc_t hkp, ifc_t ek9, ifc_t hk9, ifc_t hN, ifc_t hV, ifc_t a5916, ifc_f a5918]; rfl)), ⟨hN, hV, rfl, rfl, rfl, rfl, rfl, rfl, rfl, rfl, (rfl).trans ((ek9).trans (by first | rfl | (simp only [ifc_t ekp, ifc_t hkp, ifc_t ek9, ifc_t hk9, ifc_t hN, ifc_t hV, ifc_t a5916, ifc_f a5918]; done) | (simp only [ifc_t ekp, ifc_t hkp, ifc_t ek9, ifc_t hk9, ifc_t hN, ifc_t hV, ifc_t a5916, ifc_f a5918]; rfl))), rfl, rfl, FRO.rf, (fun i hi9 => by first | rfl | (simp only [ifc_t ekp, ifc_t hkp, ifc_t ek9, ifc_t hk9, ifc_t hN, ifc_t hV, ifc_t a5916, ifc_f a5918]; done))⟩⟩) rfl gX12_finding_2.2.1
  · refine lv_if_eq (tgt := 40) hx hb gX12_finding_0.2.2.2.2.1 (by decide) (fun _ => ?_) (fun c9 => absurd (by decide) c9)
    refine lv_iconst (v := (-1)) hx hb gX12_finding_2.1 (by decide) ?_
    refine toQ hQ0 ?_
    exact RI (v := (-1)) hC hP hD hS [0, 1] fnw rfl rfl (by decide) (⟨(by first | rfl | (simp only [ifc_t ekp, ifc_t hkp, ifc_t ek9, ifc_t hk9, ifc_t hN, ifc_t hV, ifc_f a5916]; done) | (simp only [ifc_t ekp, ifc_t hkp, ifc_t ek9, ifc_t hk9, ifc_t hN, ifc_t hV, ifc_f a5916]; rfl)), ⟨hN, hV, rfl, rfl, rfl, rfl, rfl, rfl, rfl, rfl, (rfl).trans ((ek9).trans (by first | rfl | (simp only [ifc_t ekp, ifc_t hkp, ifc_t ek9, ifc_t hk9, ifc_t hN, ifc_t hV, ifc_f a5916]; done) | (simp only [ifc_t ekp, ifc_t hkp, ifc_t ek9, ifc_t hk9, ifc_t hN, ifc_t hV, ifc_f a5916]; rfl))), rfl, rfl, FRO.rf, (fun i hi9 => by first | rfl | (simp only [ifc_t ekp, ifc_t hkp, ifc_t ek9, ifc_t hk9, ifc_t hN, ifc_t hV, ifc_f a5916]; done))⟩⟩) rfl gX12_finding_2.2.1
def K_w_warn (l : Launch) (G : GG) (kp : Nat) (kq : Nat) (k10 : Nat) (h0 : Nat) (x1 : Int32) (x2 : Int32) (nw : Nat) (nk : Nat) (mhasKept : Int32) (nt : Nat) (mtaped : Int32) (nr : Nat) (mrowMany : Int32) (mroundOf : Int32) (mroundFrom : Int32) (mouts : Int32) (nm : Nat) (mfromHour : Int32) (mtoHour : Int32) (ns : Nat) (mfrom : Int32) (mto : Int32) (msort : Int32) (misFault : Int32) (mdeep : Int32) (mcoded : Int32) (mlines : Int32) (nl : Nat) (nc : Nat) (nF : Nat) (np : Nat) (ntr : Nat) (nb : Nat) (mbestCost : Int32) (nso : Nat) (nsi : Nat) (nit : Nat) (nsh : Nat) (nsf : Nat) (nss : Nat) (nrc : Nat) (mtraced : Int32) (mdealer : Int32) (mnumber : Int32) (mwhose : Int32) (msize : Int32) (misParted : Int32) (fnw : Nat → Int32) : Prop := MI l G yX12_warn cX12_warn 4 (some .int) 3 0 0 [.ref h0, .int x1, .int x2] [(h0, oX12 nw nk mhasKept nt mtaped nr mrowMany mroundOf mroundFrom mouts nm mfromHour mtoHour ns mfrom mto msort misFault mdeep mcoded mlines nl nc nF np ntr nb mbestCost nso nsi nit nsh nsf nss nrc mtraced mdealer mnumber mwhose msize misParted), (nw, iA G 1662 fnw)] (fun (r : Int32) (u : (Nat → Int32)) => (r = ifc (Hs x1 kp) (ifc (Hs x2 kq) (ifc (nI k10 = 16) (-2) (nI k10)) (-1)) (-1)) ∧ (NI u ∧ VI u ∧ u 0 = fnw 0 ∧ u 1 = fnw 1 ∧ u 2 = fnw 2 ∧ u 3 = fnw 3 ∧ u 4 = fnw 4 ∧ u 5 = fnw 5 ∧ u 6 = fnw 6 ∧ u 8 = fnw 8 ∧ u 9 = fnw 9 ∧ u 10 = ifc (Hs x1 kp) (ifc (Hs x2 kq) (ifc (nI k10 = 16) (nI k10) (nI (k10 + 1))) (nI k10)) (nI k10) ∧ u 11 = fnw 11 ∧ FRO u fnw 1600 1648 ∧ ∀ i : Nat, i < 48 → u (1600 + i) = ifc (Hs x1 kp) (ifc (Hs x2 kq) (ifc (nI k10 = 16) (fnw (1600 + i)) (rowu (shf fnw 1600) (k10 * 3) [x1, x2, fnw 0] i)) (fnw (1600 + i))) (fnw (1600 + i)))) (fun u : (Nat → Int32) => [(h0, oX12 nw nk mhasKept nt mtaped nr mrowMany mroundOf mroundFrom mouts nm mfromHour mtoHour ns mfrom mto msort misFault mdeep mcoded mlines nl nc nF np ntr nb mbestCost nso nsi nit nsh nsf nss nrc mtraced mdealer mnumber mwhose msize misParted), (nw, iA G 1662 u)])
set_option maxHeartbeats 4000000 in
set_option maxRecDepth 100000 in
theorem w_warn (l : Launch) (G : GG) (kp : Nat) (kq : Nat) (k10 : Nat) (h0 : Nat) (x1 : Int32) (x2 : Int32) (nw : Nat) (nk : Nat) (mhasKept : Int32) (nt : Nat) (mtaped : Int32) (nr : Nat) (mrowMany : Int32) (mroundOf : Int32) (mroundFrom : Int32) (mouts : Int32) (nm : Nat) (mfromHour : Int32) (mtoHour : Int32) (ns : Nat) (mfrom : Int32) (mto : Int32) (msort : Int32) (misFault : Int32) (mdeep : Int32) (mcoded : Int32) (mlines : Int32) (nl : Nat) (nc : Nat) (nF : Nat) (np : Nat) (ntr : Nat) (nb : Nat) (mbestCost : Int32) (nso : Nat) (nsi : Nat) (nit : Nat) (nsh : Nat) (nsf : Nat) (nss : Nat) (nrc : Nat) (mtraced : Int32) (mdealer : Int32) (mnumber : Int32) (mwhose : Int32) (msize : Int32) (misParted : Int32) (fnw : Nat → Int32) (ekp : fnw 4 = nI kp) (hkp : kp ≤ 10) (ekq : fnw 5 = nI kq) (hkq : kq ≤ 12) (ek10 : fnw 10 = nI k10) (hk10 : k10 ≤ 16) (hN : NI fnw) (hV : VI fnw) : K_w_warn l G kp kq k10 h0 x1 x2 nw nk mhasKept nt mtaped nr mrowMany mroundOf mroundFrom mouts nm mfromHour mtoHour ns mfrom mto msort misFault mdeep mcoded mlines nl nc nF np ntr nb mbestCost nso nsi nit nsh nsf nss nrc mtraced mdealer mnumber mwhose msize misParted fnw := by
  refine MI.start (by decide +kernel) (Nat.le_of_ble_eq_true rfl) ?_
  intro p e s m below meth c A ls hC hK hP hD hS hA hl
  refine absQ (fun Q0 hQ0 => ?_)
  have hl : lv_has ls 4 [(0, .ref h0), (1, .int x1), (2, .int x2)] := hl
  refine Kan8 hC (fun hx hb hr hml hB hown hlocks hnm => ?_)
  refine lv_aload_n hx hb gX12_warn_0.1 rfl (lv_at0 hl) ?_
  refine lv_iload_n hx hb gX12_warn_0.2.1 rfl (lv_at1 hl) ?_
  refine lv_iconst (v := 4) hx hb gX12_warn_0.2.2.1 (by decide) ?_
  refine pV hC hK hl hP hD (m_is l G kp h0 x1 4 nw nk mhasKept nt mtaped nr mrowMany mroundOf mroundFrom mouts nm mfromHour mtoHour ns mfrom mto msort misFault mdeep mcoded mlines nl nc nF np ntr nb mbestCost nso nsi nit nsh nsf nss nrc mtraced mdealer mnumber mwhose msize misParted fnw (by omega) (ekp) (by omega)) si_X12_120 [0, 1] sm_0_1 fm_0_1 nd_0_1 rfl rfl rfl rfl rfl (Nat.le_of_ble_eq_true rfl) rm_3_2_3 ⟨by first | exact Nat.le_of_ble_eq_true rfl | exact Nat.zero_le _, by first | exact Nat.le_of_ble_eq_true rfl | exact Nat.zero_le _⟩ gX12_warn_0.2.2.2.1 (Kors (Keqa fun a5926 => ?_) (Keqa fun a5926 => ?_))
  · refine lv_if_eq (tgt := 18) hx hb gX12_warn_0.2.2.2.2.1 (by decide) (fun c9 => absurd c9 (by decide)) (fun _ => ?_)
    refine lv_aload_n hx hb gX12_warn_0.2.2.2.2.2.1 rfl (lv_at0 hl) ?_
    refine lv_iload_n hx hb gX12_warn_0.2.2.2.2.2.2.1 rfl (lv_at2 hl) ?_
    refine lv_iconst (v := 5) hx hb gX12_warn_0.2.2.2.2.2.2.2.1 (by decide) ?_
    refine pV hC hK hl hP hD (m_is l G kq h0 x2 5 nw nk mhasKept nt mtaped nr mrowMany mroundOf mroundFrom mouts nm mfromHour mtoHour ns mfrom mto msort misFault mdeep mcoded mlines nl nc nF np ntr nb mbestCost nso nsi nit nsh nsf nss nrc mtraced mdealer mnumber mwhose msize misParted fnw (by omega) (ekq) (by omega)) si_X12_120 [0, 1] sm_0_1 fm_0_1 nd_0_1 rfl rfl rfl rfl rfl (Nat.le_of_ble_eq_true rfl) rm_3_2_3 ⟨by first | exact Nat.le_of_ble_eq_true rfl | exact Nat.zero_le _, by first | exact Nat.le_of_ble_eq_true rfl | exact Nat.zero_le _⟩ gX12_warn_0.2.2.2.2.2.2.2.2.1 (Kors (Keqa fun a5928 => ?_) (Keqa fun a5928 => ?_))
    · refine lv_if_ne (tgt := 20) hx hb gX12_warn_0.2.2.2.2.2.2.2.2.2 (by decide) (fun _ => ?_) (fun c9 => absurd c9 (by decide))
      refine lv_aload_n hx hb gX12_warn_1.2.2.1 rfl (lv_at0 hl) ?_
      refine gf_X12_9 hC rfl hK hP 0 rfl rfl gX12_warn_1.2.2.2.1 ?_
      refine lv_bipush (v := 10) hx hb gX12_warn_1.2.2.2.2.1 (by decide) ?_
      refine ald hC hK hP 1 rfl (vin (by decide +kernel)) (k := 10) (by decide +kernel) (v := nI k10) (ek10) gX12_warn_1.2.2.2.2.2.1 ?_
      refine lv_istore_n (lv' := [(3, .int (nI k10)), (0, .ref h0), (1, .int x1), (2, .int x2)]) hx hb gX12_warn_1.2.2.2.2.2.2.1 rfl hl (by decide) rfl (fun ls hl => ?_)
      refine lv_iload_n hx hb gX12_warn_1.2.2.2.2.2.2.2.1 rfl (lv_at0 hl) ?_
      refine lv_bipush (v := 16) hx hb gX12_warn_1.2.2.2.2.2.2.2.2.1 (by decide) ?_
      refine lv_icmp_ne (tgt := 37) hx hb gX12_warn_1.2.2.2.2.2.2.2.2.2 (by decide) (fun c_31_5929 => ?_) (fun c_31_5929 => ?_)
      · have hfull9 := nI_neq (a := k10) (b := 16) (by omega) (by decide) c_31_5929
        refine lv_aload_n hx hb gX12_warn_2.2.2.1 rfl (lv_at1 hl) ?_
        refine gf_X12_9 hC rfl hK hP 0 rfl rfl gX12_warn_2.2.2.2.1 ?_
        refine lv_sipush (v := 1600) hx hb gX12_warn_2.2.2.2.2.1 (by decide) ?_
        refine lv_iconst (v := 3) hx hb gX12_warn_2.2.2.2.2.2.1 (by decide) ?_
        refine lv_iload_n hx hb gX12_warn_2.2.2.2.2.2.2.1 rfl (lv_at0 hl) ?_
        refine lv_imul hx hb gX12_warn_2.2.2.2.2.2.2.2.1 ?_
        refine eqi (x1 := nI (3 * k10)) (nI_mul 3 k10) ?_
        refine lv_iadd hx hb gX12_warn_2.2.2.2.2.2.2.2.2.1 ?_
        refine eqi (x1 := nI (1600 + 3 * k10)) (nI_add 1600 (3 * k10)) ?_
        refine lv_iload_n hx hb gX12_warn_2.2.2.2.2.2.2.2.2.2 rfl (lv_at2 hl) ?_
        refine astN hC hK hP hD hS 1 (ws' := [(h0, oX12 nw nk mhasKept nt mtaped nr mrowMany mroundOf mroundFrom mouts nm mfromHour mtoHour ns mfrom mto msort misFault mdeep mcoded mlines nl nc nF np ntr nb mbestCost nso nsi nit nsh nsf nss nrc mtraced mdealer mnumber mwhose msize misParted), (nw, iA G 1662 (upd fnw (1600 + 3 * k10) x1))]) rfl (k := (1600 + 3 * k10)) (by omega) (Nat.le_of_ble_eq_true rfl) (rfl) gX12_warn_3.1 (fun H locs hP hD hS => ?_)
        refine lv_aload_n hx hb gX12_warn_3.2.1 rfl (lv_at1 hl) ?_
        refine gf_X12_9 hC rfl hK hP 0 rfl rfl gX12_warn_3.2.2.1 ?_
        refine lv_sipush (v := 1600) hx hb gX12_warn_3.2.2.2.1 (by decide) ?_
        refine lv_iconst (v := 3) hx hb gX12_warn_3.2.2.2.2.1 (by decide) ?_
        refine lv_iload_n hx hb gX12_warn_3.2.2.2.2.2.1 rfl (lv_at0 hl) ?_
        refine lv_imul hx hb gX12_warn_3.2.2.2.2.2.2.1 ?_
        refine eqi (x1 := nI (3 * k10)) (nI_mul 3 k10) ?_
        refine lv_iadd hx hb gX12_warn_3.2.2.2.2.2.2.2.1 ?_
        refine eqi (x1 := nI (1600 + 3 * k10)) (nI_add 1600 (3 * k10)) ?_
        refine lv_iconst (v := 1) hx hb gX12_warn_3.2.2.2.2.2.2.2.2.1 (by decide) ?_
        refine lv_iadd hx hb gX12_warn_3.2.2.2.2.2.2.2.2.2 ?_
        refine eqi (x1 := nI (1600 + 3 * k10 + 1)) (nI_add (1600 + 3 * k10) 1) ?_
        refine lv_iload_n hx hb gX12_warn_4.1 rfl (lv_at3 hl) ?_
        refine astN hC hK hP hD hS 1 (ws' := [(h0, oX12 nw nk mhasKept nt mtaped nr mrowMany mroundOf mroundFrom mouts nm mfromHour mtoHour ns mfrom mto msort misFault mdeep mcoded mlines nl nc nF np ntr nb mbestCost nso nsi nit nsh nsf nss nrc mtraced mdealer mnumber mwhose msize misParted), (nw, iA G 1662 (upd (upd fnw (1600 + 3 * k10) x1) (1600 + 3 * k10 + 1) x2))]) rfl (k := (1600 + 3 * k10 + 1)) (by omega) (Nat.le_of_ble_eq_true rfl) (rfl) gX12_warn_4.2.1 (fun H locs hP hD hS => ?_)
        refine lv_aload_n hx hb gX12_warn_4.2.2.1 rfl (lv_at1 hl) ?_
        refine gf_X12_9 hC rfl hK hP 0 rfl rfl gX12_warn_4.2.2.2.1 ?_
        refine lv_sipush (v := 1600) hx hb gX12_warn_4.2.2.2.2.1 (by decide) ?_
        refine lv_iconst (v := 3) hx hb gX12_warn_4.2.2.2.2.2.1 (by decide) ?_
        refine lv_iload_n hx hb gX12_warn_4.2.2.2.2.2.2.1 rfl (lv_at0 hl) ?_
        refine lv_imul hx hb gX12_warn_4.2.2.2.2.2.2.2.1 ?_
        refine eqi (x1 := nI (3 * k10)) (nI_mul 3 k10) ?_
        refine lv_iadd hx hb gX12_warn_4.2.2.2.2.2.2.2.2.1 ?_
        refine eqi (x1 := nI (1600 + 3 * k10)) (nI_add 1600 (3 * k10)) ?_
        refine lv_iconst (v := 2) hx hb gX12_warn_4.2.2.2.2.2.2.2.2.2 (by decide) ?_
        refine lv_iadd hx hb gX12_warn_5.1 ?_
        refine eqi (x1 := nI (1600 + 3 * k10 + 2)) (nI_add (1600 + 3 * k10) 2) ?_
        refine lv_aload_n hx hb gX12_warn_5.2.1 rfl (lv_at1 hl) ?_
        refine gf_X12_9 hC rfl hK hP 0 rfl rfl gX12_warn_5.2.2.1 ?_
        refine lv_iconst (v := 0) hx hb gX12_warn_5.2.2.2.1 (by decide) ?_
        refine ald hC hK hP 1 rfl (vin (by decide +kernel)) (k := 0) (by decide +kernel) (v := fnw 0) ((upd_ne (by omega)).trans ((upd_ne (by omega)).trans (rfl))) gX12_warn_5.2.2.2.2.1 ?_
        refine astN hC hK hP hD hS 1 (ws' := [(h0, oX12 nw nk mhasKept nt mtaped nr mrowMany mroundOf mroundFrom mouts nm mfromHour mtoHour ns mfrom mto msort misFault mdeep mcoded mlines nl nc nF np ntr nb mbestCost nso nsi nit nsh nsf nss nrc mtraced mdealer mnumber mwhose msize misParted), (nw, iA G 1662 (upd (upd (upd fnw (1600 + 3 * k10) x1) (1600 + 3 * k10 + 1) x2) (1600 + 3 * k10 + 2) (fnw 0)))]) rfl (k := (1600 + 3 * k10 + 2)) (by omega) (Nat.le_of_ble_eq_true rfl) (rfl) gX12_warn_5.2.2.2.2.2.1 (fun H locs hP hD hS => ?_)
        refine lv_aload_n hx hb gX12_warn_5.2.2.2.2.2.2.1 rfl (lv_at1 hl) ?_
        refine gf_X12_9 hC rfl hK hP 0 rfl rfl gX12_warn_5.2.2.2.2.2.2.2.1 ?_
        refine lv_bipush (v := 10) hx hb gX12_warn_5.2.2.2.2.2.2.2.2.1 (by decide) ?_
        refine lv_dup2_11 hx hb gX12_warn_5.2.2.2.2.2.2.2.2.2 rfl rfl ?_
        refine ald hC hK hP 1 rfl (vin (by decide +kernel)) (k := 10) (by decide +kernel) (v := nI k10) ((upd_ne (by omega)).trans ((upd_ne (by omega)).trans ((upd_ne (by omega)).trans (ek10)))) gX12_warn_6.1 ?_
        refine lv_iconst (v := 1) hx hb gX12_warn_6.2.1 (by decide) ?_
        refine lv_iadd hx hb gX12_warn_6.2.2.1 ?_
        refine eqi (x1 := nI (k10 + 1)) (nI_add k10 1) ?_
        refine ast hC hK hP hD hS 1 (ws' := [(h0, oX12 nw nk mhasKept nt mtaped nr mrowMany mroundOf mroundFrom mouts nm mfromHour mtoHour ns mfrom mto msort misFault mdeep mcoded mlines nl nc nF np ntr nb mbestCost nso nsi nit nsh nsf nss nrc mtraced mdealer mnumber mwhose msize misParted), (nw, iA G 1662 (upd (upd (upd (upd fnw (1600 + 3 * k10) x1) (1600 + 3 * k10 + 1) x2) (1600 + 3 * k10 + 2) (fnw 0)) 10 (nI (k10 + 1))))]) rfl (vin (by decide +kernel)) (k := 10) (by decide +kernel) (rfl) gX12_warn_6.2.2.2.1 (fun H locs hP hD hS => ?_)
        refine lv_iload_n hx hb gX12_warn_6.2.2.2.2.1 rfl (lv_at0 hl) ?_
        have tu5930 : shf (upd (upd (upd (upd fnw (1600 + 3 * k10) x1) (1600 + 3 * k10 + 1) x2) (1600 + 3 * k10 + 2) (fnw 0)) 10 (nI (k10 + 1))) 1600 = rowu (shf fnw 1600) (k10 * 3) [x1, x2, (fnw 0)] := by rw [sho (by omega), shu (j := k10 * 3 + 2) (by omega), shu (j := k10 * 3 + 1) (by omega), shu (j := k10 * 3 + 0) (by omega)]; rfl
        refine toQ hQ0 ?_
        exact RI (v := nI k10) hC hP hD hS [0, 1] (upd (upd (upd (upd fnw (1600 + 3 * k10) x1) (1600 + 3 * k10 + 1) x2) (1600 + 3 * k10 + 2) (fnw 0)) 10 (nI (k10 + 1))) rfl rfl (by decide) (⟨(by first | rfl | (simp only [ifc_t ekp, ifc_t hkp, ifc_t ekq, ifc_t hkq, ifc_t ek10, ifc_t hk10, ifc_t hN, ifc_t hV, ifc_t a5926, ifc_t a5928, ifc_f c_31_5929]; done) | (simp only [ifc_t ekp, ifc_t hkp, ifc_t ekq, ifc_t hkq, ifc_t ek10, ifc_t hk10, ifc_t hN, ifc_t hV, ifc_t a5926, ifc_t a5928, ifc_f c_31_5929]; rfl)), ⟨((((hN).setA (bnd_end (by omega))).setA (bnd_end (by omega))).setA (bnd_end (by omega))).setN (B := 16) (show bnd 10 = (0, ((16 : Nat) : Int)) from by decide +kernel) (by omega) (by decide), ((((hV).set (by omega)).set (by omega)).set (by omega)).set (by omega), (upd_ne (by omega)).trans ((upd_ne (by omega)).trans ((upd_ne (by omega)).trans (upd_ne (by omega)))), (upd_ne (by omega)).trans ((upd_ne (by omega)).trans ((upd_ne (by omega)).trans (upd_ne (by omega)))), (upd_ne (by omega)).trans ((upd_ne (by omega)).trans ((upd_ne (by omega)).trans (upd_ne (by omega)))), (upd_ne (by omega)).trans ((upd_ne (by omega)).trans ((upd_ne (by omega)).trans (upd_ne (by omega)))), (upd_ne (by omega)).trans ((upd_ne (by omega)).trans ((upd_ne (by omega)).trans (upd_ne (by omega)))), (upd_ne (by omega)).trans ((upd_ne (by omega)).trans ((upd_ne (by omega)).trans (upd_ne (by omega)))), (upd_ne (by omega)).trans ((upd_ne (by omega)).trans ((upd_ne (by omega)).trans (upd_ne (by omega)))), (upd_ne (by omega)).trans ((upd_ne (by omega)).trans ((upd_ne (by omega)).trans (upd_ne (by omega)))), (upd_ne (by omega)).trans ((upd_ne (by omega)).trans ((upd_ne (by omega)).trans (upd_ne (by omega)))), (show _ = (nI (k10 + 1)) from upd_eq rfl).trans (by first | rfl | (simp only [ifc_t ekp, ifc_t hkp, ifc_t ekq, ifc_t hkq, ifc_t ek10, ifc_t hk10, ifc_t hN, ifc_t hV, ifc_t a5926, ifc_t a5928, ifc_f c_31_5929]; done) | (simp only [ifc_t ekp, ifc_t hkp, ifc_t ekq, ifc_t hkq, ifc_t ek10, ifc_t hk10, ifc_t hN, ifc_t hV, ifc_t a5926, ifc_t a5928, ifc_f c_31_5929]; rfl)), (upd_ne (by omega)).trans ((upd_ne (by omega)).trans ((upd_ne (by omega)).trans (upd_ne (by omega)))), ((((FRO.rf).set (by omega)).set (by omega)).set (by omega)).set (by omega), (fun i hi9 => by simp only [ifc_t ekp, ifc_t hkp, ifc_t ekq, ifc_t hkq, ifc_t ek10, ifc_t hk10, ifc_t hN, ifc_t hV, ifc_t a5926, ifc_t a5928, ifc_f c_31_5929]; exact (congrFun tu5930 i).trans (by first | rfl | (simp only [SCX]; done)))⟩⟩) rfl gX12_warn_6.2.2.2.2.2
      · refine lv_bipush (v := (-2)) hx hb gX12_warn_2.1 (by decide) ?_
        refine toQ hQ0 ?_
        exact RI (v := (-2)) hC hP hD hS [0, 1] fnw rfl rfl (by decide) (⟨(by first | rfl | (simp only [ifc_t ekp, ifc_t hkp, ifc_t ekq, ifc_t hkq, ifc_t ek10, ifc_t hk10, ifc_t hN, ifc_t hV, ifc_t a5926, ifc_t a5928, ifc_t c_31_5929]; done) | (simp only [ifc_t ekp, ifc_t hkp, ifc_t ekq, ifc_t hkq, ifc_t ek10, ifc_t hk10, ifc_t hN, ifc_t hV, ifc_t a5926, ifc_t a5928, ifc_t c_31_5929]; rfl)), ⟨hN, hV, rfl, rfl, rfl, rfl, rfl, rfl, rfl, rfl, rfl, (rfl).trans ((ek10).trans (by first | rfl | (simp only [ifc_t ekp, ifc_t hkp, ifc_t ekq, ifc_t hkq, ifc_t ek10, ifc_t hk10, ifc_t hN, ifc_t hV, ifc_t a5926, ifc_t a5928, ifc_t c_31_5929]; done) | (simp only [ifc_t ekp, ifc_t hkp, ifc_t ekq, ifc_t hkq, ifc_t ek10, ifc_t hk10, ifc_t hN, ifc_t hV, ifc_t a5926, ifc_t a5928, ifc_t c_31_5929]; rfl))), rfl, FRO.rf, (fun i hi9 => by first | rfl | (simp only [ifc_t ekp, ifc_t hkp, ifc_t ekq, ifc_t hkq, ifc_t ek10, ifc_t hk10, ifc_t hN, ifc_t hV, ifc_t a5926, ifc_t a5928, ifc_t c_31_5929]; done))⟩⟩) rfl gX12_warn_2.2.1
    · refine lv_if_ne (tgt := 20) hx hb gX12_warn_0.2.2.2.2.2.2.2.2.2 (by decide) (fun c9 => absurd (by decide) c9) (fun _ => ?_)
      refine lv_iconst (v := (-1)) hx hb gX12_warn_1.1 (by decide) ?_
      refine toQ hQ0 ?_
      exact RI (v := (-1)) hC hP hD hS [0, 1] fnw rfl rfl (by decide) (⟨(by first | rfl | (simp only [ifc_t ekp, ifc_t hkp, ifc_t ekq, ifc_t hkq, ifc_t ek10, ifc_t hk10, ifc_t hN, ifc_t hV, ifc_t a5926, ifc_f a5928]; done) | (simp only [ifc_t ekp, ifc_t hkp, ifc_t ekq, ifc_t hkq, ifc_t ek10, ifc_t hk10, ifc_t hN, ifc_t hV, ifc_t a5926, ifc_f a5928]; rfl)), ⟨hN, hV, rfl, rfl, rfl, rfl, rfl, rfl, rfl, rfl, rfl, (rfl).trans ((ek10).trans (by first | rfl | (simp only [ifc_t ekp, ifc_t hkp, ifc_t ekq, ifc_t hkq, ifc_t ek10, ifc_t hk10, ifc_t hN, ifc_t hV, ifc_t a5926, ifc_f a5928]; done) | (simp only [ifc_t ekp, ifc_t hkp, ifc_t ekq, ifc_t hkq, ifc_t ek10, ifc_t hk10, ifc_t hN, ifc_t hV, ifc_t a5926, ifc_f a5928]; rfl))), rfl, FRO.rf, (fun i hi9 => by first | rfl | (simp only [ifc_t ekp, ifc_t hkp, ifc_t ekq, ifc_t hkq, ifc_t ek10, ifc_t hk10, ifc_t hN, ifc_t hV, ifc_t a5926, ifc_f a5928]; done))⟩⟩) rfl gX12_warn_1.2.1
  · refine lv_if_eq (tgt := 18) hx hb gX12_warn_0.2.2.2.2.1 (by decide) (fun _ => ?_) (fun c9 => absurd (by decide) c9)
    refine lv_iconst (v := (-1)) hx hb gX12_warn_1.1 (by decide) ?_
    refine toQ hQ0 ?_
    exact RI (v := (-1)) hC hP hD hS [0, 1] fnw rfl rfl (by decide) (⟨(by first | rfl | (simp only [ifc_t ekp, ifc_t hkp, ifc_t ekq, ifc_t hkq, ifc_t ek10, ifc_t hk10, ifc_t hN, ifc_t hV, ifc_f a5926]; done) | (simp only [ifc_t ekp, ifc_t hkp, ifc_t ekq, ifc_t hkq, ifc_t ek10, ifc_t hk10, ifc_t hN, ifc_t hV, ifc_f a5926]; rfl)), ⟨hN, hV, rfl, rfl, rfl, rfl, rfl, rfl, rfl, rfl, rfl, (rfl).trans ((ek10).trans (by first | rfl | (simp only [ifc_t ekp, ifc_t hkp, ifc_t ekq, ifc_t hkq, ifc_t ek10, ifc_t hk10, ifc_t hN, ifc_t hV, ifc_f a5926]; done) | (simp only [ifc_t ekp, ifc_t hkp, ifc_t ekq, ifc_t hkq, ifc_t ek10, ifc_t hk10, ifc_t hN, ifc_t hV, ifc_f a5926]; rfl))), rfl, FRO.rf, (fun i hi9 => by first | rfl | (simp only [ifc_t ekp, ifc_t hkp, ifc_t ekq, ifc_t hkq, ifc_t ek10, ifc_t hk10, ifc_t hN, ifc_t hV, ifc_f a5926]; done))⟩⟩) rfl gX12_warn_1.2.1
def K_w_question (l : Launch) (G : GG) (k11 : Nat) (h0 : Nat) (x1 : Int32) (x2 : Int32) (nw : Nat) (nk : Nat) (mhasKept : Int32) (nt : Nat) (mtaped : Int32) (nr : Nat) (mrowMany : Int32) (mroundOf : Int32) (mroundFrom : Int32) (mouts : Int32) (nm : Nat) (mfromHour : Int32) (mtoHour : Int32) (ns : Nat) (mfrom : Int32) (mto : Int32) (msort : Int32) (misFault : Int32) (mdeep : Int32) (mcoded : Int32) (mlines : Int32) (nl : Nat) (nc : Nat) (nF : Nat) (np : Nat) (ntr : Nat) (nb : Nat) (mbestCost : Int32) (nso : Nat) (nsi : Nat) (nit : Nat) (nsh : Nat) (nsf : Nat) (nss : Nat) (nrc : Nat) (mtraced : Int32) (mdealer : Int32) (mnumber : Int32) (mwhose : Int32) (msize : Int32) (misParted : Int32) (fnw : Nat → Int32) : Prop := MI l G yX12_question cX12_question 4 (some .int) 2 0 0 [.ref h0, .int x1, .int x2] [(h0, oX12 nw nk mhasKept nt mtaped nr mrowMany mroundOf mroundFrom mouts nm mfromHour mtoHour ns mfrom mto msort misFault mdeep mcoded mlines nl nc nF np ntr nb mbestCost nso nsi nit nsh nsf nss nrc mtraced mdealer mnumber mwhose msize misParted), (nw, iA G 1662 fnw)] (fun (r : Int32) (u : (Nat → Int32)) => (r = ifc (Wi x1 1 9) (ifc (Wi x2 0 255) (ifc (nI k11 = 7) (-2) (nI k11)) (-1)) (-1)) ∧ (NI u ∧ VI u ∧ u 0 = fnw 0 ∧ u 1 = fnw 1 ∧ u 2 = fnw 2 ∧ u 3 = fnw 3 ∧ u 4 = fnw 4 ∧ u 5 = fnw 5 ∧ u 6 = fnw 6 ∧ u 8 = fnw 8 ∧ u 9 = fnw 9 ∧ u 10 = fnw 10 ∧ u 11 = ifc (Wi x1 1 9) (ifc (Wi x2 0 255) (ifc (nI k11 = 7) (nI k11) (nI (k11 + 1))) (nI k11)) (nI k11) ∧ FRO u fnw 1648 1662 ∧ ∀ i : Nat, i < 14 → u (1648 + i) = ifc (Wi x1 1 9) (ifc (Wi x2 0 255) (ifc (nI k11 = 7) (fnw (1648 + i)) (rowu (shf fnw 1648) (k11 * 2) [x1, x2] i)) (fnw (1648 + i))) (fnw (1648 + i)))) (fun u : (Nat → Int32) => [(h0, oX12 nw nk mhasKept nt mtaped nr mrowMany mroundOf mroundFrom mouts nm mfromHour mtoHour ns mfrom mto msort misFault mdeep mcoded mlines nl nc nF np ntr nb mbestCost nso nsi nit nsh nsf nss nrc mtraced mdealer mnumber mwhose msize misParted), (nw, iA G 1662 u)])
set_option maxHeartbeats 4000000 in
set_option maxRecDepth 100000 in
theorem w_question (l : Launch) (G : GG) (k11 : Nat) (h0 : Nat) (x1 : Int32) (x2 : Int32) (nw : Nat) (nk : Nat) (mhasKept : Int32) (nt : Nat) (mtaped : Int32) (nr : Nat) (mrowMany : Int32) (mroundOf : Int32) (mroundFrom : Int32) (mouts : Int32) (nm : Nat) (mfromHour : Int32) (mtoHour : Int32) (ns : Nat) (mfrom : Int32) (mto : Int32) (msort : Int32) (misFault : Int32) (mdeep : Int32) (mcoded : Int32) (mlines : Int32) (nl : Nat) (nc : Nat) (nF : Nat) (np : Nat) (ntr : Nat) (nb : Nat) (mbestCost : Int32) (nso : Nat) (nsi : Nat) (nit : Nat) (nsh : Nat) (nsf : Nat) (nss : Nat) (nrc : Nat) (mtraced : Int32) (mdealer : Int32) (mnumber : Int32) (mwhose : Int32) (msize : Int32) (misParted : Int32) (fnw : Nat → Int32) (ek11 : fnw 11 = nI k11) (hk11 : k11 ≤ 7) (hN : NI fnw) (hV : VI fnw) : K_w_question l G k11 h0 x1 x2 nw nk mhasKept nt mtaped nr mrowMany mroundOf mroundFrom mouts nm mfromHour mtoHour ns mfrom mto msort misFault mdeep mcoded mlines nl nc nF np ntr nb mbestCost nso nsi nit nsh nsf nss nrc mtraced mdealer mnumber mwhose msize misParted fnw := by
  refine MI.start (by decide +kernel) (Nat.le_of_ble_eq_true rfl) ?_
  intro p e s m below meth c A ls hC hK hP hD hS hA hl
  refine absQ (fun Q0 hQ0 => ?_)
  have hl : lv_has ls 4 [(0, .ref h0), (1, .int x1), (2, .int x2)] := hl
  refine Kan8 hC (fun hx hb hr hml hB hown hlocks hnm => ?_)
  refine lv_iload_n hx hb gX12_question_0.1 rfl (lv_at1 hl) ?_
  refine lv_iconst (v := 1) hx hb gX12_question_0.2.1 (by decide) ?_
  refine lv_bipush (v := 9) hx hb gX12_question_0.2.2.1 (by decide) ?_
  refine pS hC hK hl (m_within l G x1 1 9) si_X12_84 rfl rfl (Nat.le_of_ble_eq_true rfl) rm_2_1_3 ⟨by first | exact Nat.le_of_ble_eq_true rfl | exact Nat.zero_le _, by first | exact Nat.le_of_ble_eq_true rfl | exact Nat.zero_le _⟩ gX12_question_0.2.2.2.1 (Kors (Keqa fun a5932 => ?_) (Keqa fun a5932 => ?_))
  · refine lv_if_eq (tgt := 21) hx hb gX12_question_0.2.2.2.2.1 (by decide) (fun c9 => absurd c9 (by decide)) (fun _ => ?_)
    refine lv_iload_n hx hb gX12_question_0.2.2.2.2.2.1 rfl (lv_at2 hl) ?_
    refine lv_iconst (v := 0) hx hb gX12_question_0.2.2.2.2.2.2.1 (by decide) ?_
    refine lv_sipush (v := 255) hx hb gX12_question_0.2.2.2.2.2.2.2.1 (by decide) ?_
    refine pS hC hK hl (m_within l G x2 0 255) si_X12_84 rfl rfl (Nat.le_of_ble_eq_true rfl) rm_2_1_3 ⟨by first | exact Nat.le_of_ble_eq_true rfl | exact Nat.zero_le _, by first | exact Nat.le_of_ble_eq_true rfl | exact Nat.zero_le _⟩ gX12_question_0.2.2.2.2.2.2.2.2.1 (Kors (Keqa fun a5934 => ?_) (Keqa fun a5934 => ?_))
    · refine lv_if_ne (tgt := 23) hx hb gX12_question_0.2.2.2.2.2.2.2.2.2 (by decide) (fun _ => ?_) (fun c9 => absurd c9 (by decide))
      refine lv_aload_n hx hb gX12_question_1.2.2.1 rfl (lv_at0 hl) ?_
      refine gf_X12_9 hC rfl hK hP 0 rfl rfl gX12_question_1.2.2.2.1 ?_
      refine lv_bipush (v := 11) hx hb gX12_question_1.2.2.2.2.1 (by decide) ?_
      refine ald hC hK hP 1 rfl (vin (by decide +kernel)) (k := 11) (by decide +kernel) (v := nI k11) (ek11) gX12_question_1.2.2.2.2.2.1 ?_
      refine lv_istore_n (lv' := [(3, .int (nI k11)), (0, .ref h0), (1, .int x1), (2, .int x2)]) hx hb gX12_question_1.2.2.2.2.2.2.1 rfl hl (by decide) rfl (fun ls hl => ?_)
      refine lv_iload_n hx hb gX12_question_1.2.2.2.2.2.2.2.1 rfl (lv_at0 hl) ?_
      refine lv_bipush (v := 7) hx hb gX12_question_1.2.2.2.2.2.2.2.2.1 (by decide) ?_
      refine lv_icmp_ne (tgt := 40) hx hb gX12_question_1.2.2.2.2.2.2.2.2.2 (by decide) (fun c_34_5935 => ?_) (fun c_34_5935 => ?_)
      · have hfull9 := nI_neq (a := k11) (b := 7) (by omega) (by decide) c_34_5935
        refine lv_aload_n hx hb gX12_question_2.2.2.1 rfl (lv_at1 hl) ?_
        refine gf_X12_9 hC rfl hK hP 0 rfl rfl gX12_question_2.2.2.2.1 ?_
        refine lv_sipush (v := 1648) hx hb gX12_question_2.2.2.2.2.1 (by decide) ?_
        refine lv_iconst (v := 2) hx hb gX12_question_2.2.2.2.2.2.1 (by decide) ?_
        refine lv_iload_n hx hb gX12_question_2.2.2.2.2.2.2.1 rfl (lv_at0 hl) ?_
        refine lv_imul hx hb gX12_question_2.2.2.2.2.2.2.2.1 ?_
        refine eqi (x1 := nI (2 * k11)) (nI_mul 2 k11) ?_
        refine lv_iadd hx hb gX12_question_2.2.2.2.2.2.2.2.2.1 ?_
        refine eqi (x1 := nI (1648 + 2 * k11)) (nI_add 1648 (2 * k11)) ?_
        refine lv_iload_n hx hb gX12_question_2.2.2.2.2.2.2.2.2.2 rfl (lv_at2 hl) ?_
        refine astN hC hK hP hD hS 1 (ws' := [(h0, oX12 nw nk mhasKept nt mtaped nr mrowMany mroundOf mroundFrom mouts nm mfromHour mtoHour ns mfrom mto msort misFault mdeep mcoded mlines nl nc nF np ntr nb mbestCost nso nsi nit nsh nsf nss nrc mtraced mdealer mnumber mwhose msize misParted), (nw, iA G 1662 (upd fnw (1648 + 2 * k11) x1))]) rfl (k := (1648 + 2 * k11)) (by omega) (Nat.le_of_ble_eq_true rfl) (rfl) gX12_question_3.1 (fun H locs hP hD hS => ?_)
        refine lv_aload_n hx hb gX12_question_3.2.1 rfl (lv_at1 hl) ?_
        refine gf_X12_9 hC rfl hK hP 0 rfl rfl gX12_question_3.2.2.1 ?_
        refine lv_sipush (v := 1648) hx hb gX12_question_3.2.2.2.1 (by decide) ?_
        refine lv_iconst (v := 2) hx hb gX12_question_3.2.2.2.2.1 (by decide) ?_
        refine lv_iload_n hx hb gX12_question_3.2.2.2.2.2.1 rfl (lv_at0 hl) ?_
        refine lv_imul hx hb gX12_question_3.2.2.2.2.2.2.1 ?_
        refine eqi (x1 := nI (2 * k11)) (nI_mul 2 k11) ?_
        refine lv_iadd hx hb gX12_question_3.2.2.2.2.2.2.2.1 ?_
        refine eqi (x1 := nI (1648 + 2 * k11)) (nI_add 1648 (2 * k11)) ?_
        refine lv_iconst (v := 1) hx hb gX12_question_3.2.2.2.2.2.2.2.2.1 (by decide) ?_
        refine lv_iadd hx hb gX12_question_3.2.2.2.2.2.2.2.2.2 ?_
        refine eqi (x1 := nI (1648 + 2 * k11 + 1)) (nI_add (1648 + 2 * k11) 1) ?_
        refine lv_iload_n hx hb gX12_question_4.1 rfl (lv_at3 hl) ?_
        refine astN hC hK hP hD hS 1 (ws' := [(h0, oX12 nw nk mhasKept nt mtaped nr mrowMany mroundOf mroundFrom mouts nm mfromHour mtoHour ns mfrom mto msort misFault mdeep mcoded mlines nl nc nF np ntr nb mbestCost nso nsi nit nsh nsf nss nrc mtraced mdealer mnumber mwhose msize misParted), (nw, iA G 1662 (upd (upd fnw (1648 + 2 * k11) x1) (1648 + 2 * k11 + 1) x2))]) rfl (k := (1648 + 2 * k11 + 1)) (by omega) (Nat.le_of_ble_eq_true rfl) (rfl) gX12_question_4.2.1 (fun H locs hP hD hS => ?_)
        refine lv_aload_n hx hb gX12_question_4.2.2.1 rfl (lv_at1 hl) ?_
        refine gf_X12_9 hC rfl hK hP 0 rfl rfl gX12_question_4.2.2.2.1 ?_
        refine lv_bipush (v := 11) hx hb gX12_question_4.2.2.2.2.1 (by decide) ?_
        refine lv_dup2_11 hx hb gX12_question_4.2.2.2.2.2.1 rfl rfl ?_
        refine ald hC hK hP 1 rfl (vin (by decide +kernel)) (k := 11) (by decide +kernel) (v := nI k11) ((upd_ne (by omega)).trans ((upd_ne (by omega)).trans (ek11))) gX12_question_4.2.2.2.2.2.2.1 ?_
        refine lv_iconst (v := 1) hx hb gX12_question_4.2.2.2.2.2.2.2.1 (by decide) ?_
        refine lv_iadd hx hb gX12_question_4.2.2.2.2.2.2.2.2.1 ?_
        refine eqi (x1 := nI (k11 + 1)) (nI_add k11 1) ?_
        refine ast hC hK hP hD hS 1 (ws' := [(h0, oX12 nw nk mhasKept nt mtaped nr mrowMany mroundOf mroundFrom mouts nm mfromHour mtoHour ns mfrom mto msort misFault mdeep mcoded mlines nl nc nF np ntr nb mbestCost nso nsi nit nsh nsf nss nrc mtraced mdealer mnumber mwhose msize misParted), (nw, iA G 1662 (upd (upd (upd fnw (1648 + 2 * k11) x1) (1648 + 2 * k11 + 1) x2) 11 (nI (k11 + 1))))]) rfl (vin (by decide +kernel)) (k := 11) (by decide +kernel) (rfl) gX12_question_4.2.2.2.2.2.2.2.2.2 (fun H locs hP hD hS => ?_)
        refine lv_iload_n hx hb gX12_question_5.1 rfl (lv_at0 hl) ?_
        have tu5936 : shf (upd (upd (upd fnw (1648 + 2 * k11) x1) (1648 + 2 * k11 + 1) x2) 11 (nI (k11 + 1))) 1648 = rowu (shf fnw 1648) (k11 * 2) [x1, x2] := by rw [sho (by omega), shu (j := k11 * 2 + 1) (by omega), shu (j := k11 * 2 + 0) (by omega)]; rfl
        refine toQ hQ0 ?_
        exact RI (v := nI k11) hC hP hD hS [0, 1] (upd (upd (upd fnw (1648 + 2 * k11) x1) (1648 + 2 * k11 + 1) x2) 11 (nI (k11 + 1))) rfl rfl (by decide) (⟨(by first | rfl | (simp only [ifc_t ek11, ifc_t hk11, ifc_t hN, ifc_t hV, ifc_t a5932, ifc_t a5934, ifc_f c_34_5935]; done) | (simp only [ifc_t ek11, ifc_t hk11, ifc_t hN, ifc_t hV, ifc_t a5932, ifc_t a5934, ifc_f c_34_5935]; rfl)), ⟨(((hN).setA (bnd_end (by omega))).setA (bnd_end (by omega))).setN (B := 7) (show bnd 11 = (0, ((7 : Nat) : Int)) from by decide +kernel) (by omega) (by decide), (((hV).set (by omega)).set (by omega)).set (by omega), (upd_ne (by omega)).trans ((upd_ne (by omega)).trans (upd_ne (by omega))), (upd_ne (by omega)).trans ((upd_ne (by omega)).trans (upd_ne (by omega))), (upd_ne (by omega)).trans ((upd_ne (by omega)).trans (upd_ne (by omega))), (upd_ne (by omega)).trans ((upd_ne (by omega)).trans (upd_ne (by omega))), (upd_ne (by omega)).trans ((upd_ne (by omega)).trans (upd_ne (by omega))), (upd_ne (by omega)).trans ((upd_ne (by omega)).trans (upd_ne (by omega))), (upd_ne (by omega)).trans ((upd_ne (by omega)).trans (upd_ne (by omega))), (upd_ne (by omega)).trans ((upd_ne (by omega)).trans (upd_ne (by omega))), (upd_ne (by omega)).trans ((upd_ne (by omega)).trans (upd_ne (by omega))), (upd_ne (by omega)).trans ((upd_ne (by omega)).trans (upd_ne (by omega))), (show _ = (nI (k11 + 1)) from upd_eq rfl).trans (by first | rfl | (simp only [ifc_t ek11, ifc_t hk11, ifc_t hN, ifc_t hV, ifc_t a5932, ifc_t a5934, ifc_f c_34_5935]; done) | (simp only [ifc_t ek11, ifc_t hk11, ifc_t hN, ifc_t hV, ifc_t a5932, ifc_t a5934, ifc_f c_34_5935]; rfl)), (((FRO.rf).set (by omega)).set (by omega)).set (by omega), (fun i hi9 => by simp only [ifc_t ek11, ifc_t hk11, ifc_t hN, ifc_t hV, ifc_t a5932, ifc_t a5934, ifc_f c_34_5935]; exact (congrFun tu5936 i).trans (by first | rfl | (simp only [SCX]; done)))⟩⟩) rfl gX12_question_5.2
      · refine lv_bipush (v := (-2)) hx hb gX12_question_2.1 (by decide) ?_
        refine toQ hQ0 ?_
        exact RI (v := (-2)) hC hP hD hS [0, 1] fnw rfl rfl (by decide) (⟨(by first | rfl | (simp only [ifc_t ek11, ifc_t hk11, ifc_t hN, ifc_t hV, ifc_t a5932, ifc_t a5934, ifc_t c_34_5935]; done) | (simp only [ifc_t ek11, ifc_t hk11, ifc_t hN, ifc_t hV, ifc_t a5932, ifc_t a5934, ifc_t c_34_5935]; rfl)), ⟨hN, hV, rfl, rfl, rfl, rfl, rfl, rfl, rfl, rfl, rfl, rfl, (rfl).trans ((ek11).trans (by first | rfl | (simp only [ifc_t ek11, ifc_t hk11, ifc_t hN, ifc_t hV, ifc_t a5932, ifc_t a5934, ifc_t c_34_5935]; done) | (simp only [ifc_t ek11, ifc_t hk11, ifc_t hN, ifc_t hV, ifc_t a5932, ifc_t a5934, ifc_t c_34_5935]; rfl))), FRO.rf, (fun i hi9 => by first | rfl | (simp only [ifc_t ek11, ifc_t hk11, ifc_t hN, ifc_t hV, ifc_t a5932, ifc_t a5934, ifc_t c_34_5935]; done))⟩⟩) rfl gX12_question_2.2.1
    · refine lv_if_ne (tgt := 23) hx hb gX12_question_0.2.2.2.2.2.2.2.2.2 (by decide) (fun c9 => absurd (by decide) c9) (fun _ => ?_)
      refine lv_iconst (v := (-1)) hx hb gX12_question_1.1 (by decide) ?_
      refine toQ hQ0 ?_
      exact RI (v := (-1)) hC hP hD hS [0, 1] fnw rfl rfl (by decide) (⟨(by first | rfl | (simp only [ifc_t ek11, ifc_t hk11, ifc_t hN, ifc_t hV, ifc_t a5932, ifc_f a5934]; done) | (simp only [ifc_t ek11, ifc_t hk11, ifc_t hN, ifc_t hV, ifc_t a5932, ifc_f a5934]; rfl)), ⟨hN, hV, rfl, rfl, rfl, rfl, rfl, rfl, rfl, rfl, rfl, rfl, (rfl).trans ((ek11).trans (by first | rfl | (simp only [ifc_t ek11, ifc_t hk11, ifc_t hN, ifc_t hV, ifc_t a5932, ifc_f a5934]; done) | (simp only [ifc_t ek11, ifc_t hk11, ifc_t hN, ifc_t hV, ifc_t a5932, ifc_f a5934]; rfl))), FRO.rf, (fun i hi9 => by first | rfl | (simp only [ifc_t ek11, ifc_t hk11, ifc_t hN, ifc_t hV, ifc_t a5932, ifc_f a5934]; done))⟩⟩) rfl gX12_question_1.2.1
  · refine lv_if_eq (tgt := 21) hx hb gX12_question_0.2.2.2.2.1 (by decide) (fun _ => ?_) (fun c9 => absurd (by decide) c9)
    refine lv_iconst (v := (-1)) hx hb gX12_question_1.1 (by decide) ?_
    refine toQ hQ0 ?_
    exact RI (v := (-1)) hC hP hD hS [0, 1] fnw rfl rfl (by decide) (⟨(by first | rfl | (simp only [ifc_t ek11, ifc_t hk11, ifc_t hN, ifc_t hV, ifc_f a5932]; done) | (simp only [ifc_t ek11, ifc_t hk11, ifc_t hN, ifc_t hV, ifc_f a5932]; rfl)), ⟨hN, hV, rfl, rfl, rfl, rfl, rfl, rfl, rfl, rfl, rfl, rfl, (rfl).trans ((ek11).trans (by first | rfl | (simp only [ifc_t ek11, ifc_t hk11, ifc_t hN, ifc_t hV, ifc_f a5932]; done) | (simp only [ifc_t ek11, ifc_t hk11, ifc_t hN, ifc_t hV, ifc_f a5932]; rfl))), FRO.rf, (fun i hi9 => by first | rfl | (simp only [ifc_t ek11, ifc_t hk11, ifc_t hN, ifc_t hV, ifc_f a5932]; done))⟩⟩) rfl gX12_question_1.2.1
def K_m_stampsOfX (l : Launch) (G : GG) (k6 : Nat) (h0 : Nat) (pa : Int32) (nw : Nat) (nk : Nat) (mhasKept : Int32) (nt : Nat) (mtaped : Int32) (nr : Nat) (mrowMany : Int32) (mroundOf : Int32) (mroundFrom : Int32) (mouts : Int32) (nm : Nat) (mfromHour : Int32) (mtoHour : Int32) (ns : Nat) (mfrom : Int32) (mto : Int32) (msort : Int32) (misFault : Int32) (mdeep : Int32) (mcoded : Int32) (mlines : Int32) (nl : Nat) (nc : Nat) (nF : Nat) (np : Nat) (ntr : Nat) (nb : Nat) (mbestCost : Int32) (nso : Nat) (nsi : Nat) (nit : Nat) (nsh : Nat) (nsf : Nat) (nss : Nat) (nrc : Nat) (mtraced : Int32) (mdealer : Int32) (mnumber : Int32) (mwhose : Int32) (msize : Int32) (misParted : Int32) (fnw : Nat → Int32) : Prop := MP l G yX12_stampsOf cX12_stampsOf 4 (some .int) 2 [.ref h0, .int pa] [(h0, oX12 nw nk mhasKept nt mtaped nr mrowMany mroundOf mroundFrom mouts nm mfromHour mtoHour ns mfrom mto msort misFault mdeep mcoded mlines nl nc nF np ntr nb mbestCost nso nsi nit nsh nsf nss nrc mtraced mdealer mnumber mwhose msize misParted), (nw, iA G 1662 fnw)] (fun r : Int32 => r = (CNT (fun s9 => shf fnw 104 (s9 * 3 + 0) = pa) k6))
set_option maxHeartbeats 4000000 in
set_option maxRecDepth 100000 in
theorem m_stampsOfX (l : Launch) (G : GG) (k6 : Nat) (h0 : Nat) (pa : Int32) (nw : Nat) (nk : Nat) (mhasKept : Int32) (nt : Nat) (mtaped : Int32) (nr : Nat) (mrowMany : Int32) (mroundOf : Int32) (mroundFrom : Int32) (mouts : Int32) (nm : Nat) (mfromHour : Int32) (mtoHour : Int32) (ns : Nat) (mfrom : Int32) (mto : Int32) (msort : Int32) (misFault : Int32) (mdeep : Int32) (mcoded : Int32) (mlines : Int32) (nl : Nat) (nc : Nat) (nF : Nat) (np : Nat) (ntr : Nat) (nb : Nat) (mbestCost : Int32) (nso : Nat) (nsi : Nat) (nit : Nat) (nsh : Nat) (nsf : Nat) (nss : Nat) (nrc : Nat) (mtraced : Int32) (mdealer : Int32) (mnumber : Int32) (mwhose : Int32) (msize : Int32) (misParted : Int32) (fnw : Nat → Int32) (ek6 : fnw 6 = nI k6) (hk6 : k6 ≤ 24) : K_m_stampsOfX l G k6 h0 pa nw nk mhasKept nt mtaped nr mrowMany mroundOf mroundFrom mouts nm mfromHour mtoHour ns mfrom mto msort misFault mdeep mcoded mlines nl nc nF np ntr nb mbestCost nso nsi nit nsh nsf nss nrc mtraced mdealer mnumber mwhose msize misParted fnw := by
  refine MP.start (by decide +kernel) (Nat.le_of_ble_eq_true rfl) ?_
  intro p e s m below meth c ls hC hK hP hD hl
  refine absQ (fun Q0 hQ0 => ?_)
  have hl : lv_has ls 4 [(0, .ref h0), (1, .int pa)] := hl
  refine Kan8 hC (fun hx hb hr hml hB hown hlocks hnm => ?_)
  refine lv_iconst (v := 0) hx hb gX12_stampsOf_0.1 (by decide) ?_
  refine lv_istore_n (lv' := [(2, .int 0), (0, .ref h0), (1, .int pa)]) hx hb gX12_stampsOf_0.2.1 rfl hl (by decide) rfl (fun ls hl => ?_)
  refine lv_iconst (v := 0) hx hb gX12_stampsOf_0.2.2.1 (by decide) ?_
  refine lv_istore_n (lv' := [(3, .int 0), (2, .int 0), (0, .ref h0), (1, .int pa)]) hx hb gX12_stampsOf_0.2.2.2.1 rfl hl (by decide) rfl (fun ls hl => ?_)
  have keyP : ∀ (nP kP : Nat) (nn : Int32) (ls : Array Slot), kP + nP = k6 → (nn = CNT (fun s9 => shf fnw 104 (s9 * 3 + 0) = pa) kP) → lv_has ls 4 [(3, .int (nI kP)), (2, .int nn), (0, .ref h0), (1, .int pa)] → W p l e (RM 2 0 0) s m ([.ref h0, .int pa] : List Value).toArray below meth c s.heap [] 0 0 Q0 (F0 m 4 ls []) := by
    intro nP
    induction nP with
    | zero =>
      intro kP nn ls hkP hcn hl
      obtain rfl : k6 = kP := by omega
      have hl : lv_has ls 4 [(3, .int (nI k6)), (2, .int nn), (0, .ref h0), (1, .int pa)] := hl
      refine lv_iload_n hx hb gX12_stampsOf_0.2.2.2.2.1 rfl (lv_at0 hl) ?_
      refine lv_aload_n hx hb gX12_stampsOf_0.2.2.2.2.2.1 rfl (lv_at2 hl) ?_
      refine gf_X12_9 hC rfl hK hP 0 rfl rfl gX12_stampsOf_0.2.2.2.2.2.2.1 ?_
      refine lv_bipush (v := 6) hx hb gX12_stampsOf_0.2.2.2.2.2.2.2.1 (by decide) ?_
      refine ald hC hK hP 1 rfl (vin (by decide +kernel)) (k := 6) (by decide +kernel) (v := nI k6) (ek6) gX12_stampsOf_0.2.2.2.2.2.2.2.2.1 ?_
      refine lv_icmp_ge (tgt := 44) hx hb gX12_stampsOf_0.2.2.2.2.2.2.2.2.2 (by decide) (fun _ => ?_) (fun c9 => absurd (Int32.le_refl _) c9)
      refine lv_iload_n hx hb gX12_stampsOf_2.2.2.2.2.2.2.2.2.1 rfl (lv_at1 hl) ?_
      refine toQ hQ0 ?_
      exact RP (v := nn) hC (hcn) rfl gX12_stampsOf_2.2.2.2.2.2.2.2.2.2
    | succ nP ihP =>
      intro kP nn ls hkP hcn hl
      refine lv_iload_n hx hb gX12_stampsOf_0.2.2.2.2.1 rfl (lv_at0 hl) ?_
      refine lv_aload_n hx hb gX12_stampsOf_0.2.2.2.2.2.1 rfl (lv_at2 hl) ?_
      refine gf_X12_9 hC rfl hK hP 0 rfl rfl gX12_stampsOf_0.2.2.2.2.2.2.1 ?_
      refine lv_bipush (v := 6) hx hb gX12_stampsOf_0.2.2.2.2.2.2.2.1 (by decide) ?_
      refine ald hC hK hP 1 rfl (vin (by decide +kernel)) (k := 6) (by decide +kernel) (v := nI k6) (ek6) gX12_stampsOf_0.2.2.2.2.2.2.2.2.1 ?_
      refine lv_icmp_ge (tgt := 44) hx hb gX12_stampsOf_0.2.2.2.2.2.2.2.2.2 (by decide) (fun c9 => absurd c9 (nI_ge (a := kP) (b := k6) (by omega) (by omega))) (fun _ => ?_)
      refine lv_iload_n hx hb gX12_stampsOf_1.1 rfl (lv_at1 hl) ?_
      refine lv_aload_n hx hb gX12_stampsOf_1.2.1 rfl (lv_at2 hl) ?_
      refine gf_X12_9 hC rfl hK hP 0 rfl rfl gX12_stampsOf_1.2.2.1 ?_
      refine lv_bipush (v := 104) hx hb gX12_stampsOf_1.2.2.2.1 (by decide) ?_
      refine lv_iconst (v := 3) hx hb gX12_stampsOf_1.2.2.2.2.1 (by decide) ?_
      refine lv_iload_n hx hb gX12_stampsOf_1.2.2.2.2.2.1 rfl (lv_at0 hl) ?_
      refine lv_imul hx hb gX12_stampsOf_1.2.2.2.2.2.2.1 ?_
      refine eqi (x1 := nI (3 * kP)) (nI_mul 3 kP) ?_
      refine lv_iadd hx hb gX12_stampsOf_1.2.2.2.2.2.2.2.1 ?_
      refine eqi (x1 := nI (104 + 3 * kP)) (nI_add 104 (3 * kP)) ?_
      refine aldN hC hK hP 1 rfl (k := (104 + 3 * kP)) (by omega) (Nat.le_of_ble_eq_true rfl) (v := fnw (104 + 3 * kP)) rfl gX12_stampsOf_1.2.2.2.2.2.2.2.2.1 ?_
      refine lv_iload_n hx hb gX12_stampsOf_1.2.2.2.2.2.2.2.2.2 rfl (lv_at3 hl) ?_
      refine lv_icmp_ne (tgt := 35) hx hb gX12_stampsOf_2.1 (by decide) (fun c_28_5937 => ?_) (fun c_28_5937 => ?_)
      · refine lv_iconst (v := 0) hx hb gX12_stampsOf_2.2.2.2.1 (by decide) ?_
        refine lv_iadd hx hb gX12_stampsOf_2.2.2.2.2.1 ?_
        refine lv_istore_n (lv' := [(2, .int (nn + 0)), (3, .int (nI kP)), (0, .ref h0), (1, .int pa)]) hx hb gX12_stampsOf_2.2.2.2.2.2.1 rfl hl (by decide) rfl (fun ls hl => ?_)
        refine lv_iinc (v := nI (kP + 1)) (lv' := [(3, .int (nI (kP + 1))), (2, .int (nn + 0)), (0, .ref h0), (1, .int pa)]) hx hb gX12_stampsOf_2.2.2.2.2.2.2.1 hl (k := 1) rfl (nI_1 _) (by decide) rfl (fun ls hl => ?_)
        refine lv_goto (tgt := 4) hx hb gX12_stampsOf_2.2.2.2.2.2.2.2.1 (by decide) ?_
        have q9e : fnw (104 + 3 * kP) = shf fnw 104 (kP * 3 + 0) := congrArg fnw (by omega)
        have hst9 : nn + 0 = CNT (fun s9 => shf fnw 104 (s9 * 3 + 0) = pa) (kP + 1) := CNT.n0 hcn (fun h9 => c_28_5937 (q9e.trans h9))
        exact ihP (kP + 1) (nn + 0) _ (by omega) (by first | assumption | exact Or.inl rfl | exact Or.inr rfl | exact rfl) (lv_sub hl [0, 1, 2, 3] rfl)
      · refine lv_iconst (v := 1) hx hb gX12_stampsOf_2.2.1 (by decide) ?_
        refine lv_goto (tgt := 36) hx hb gX12_stampsOf_2.2.2.1 (by decide) ?_
        refine lv_iadd hx hb gX12_stampsOf_2.2.2.2.2.1 ?_
        refine lv_istore_n (lv' := [(2, .int (nn + 1)), (3, .int (nI kP)), (0, .ref h0), (1, .int pa)]) hx hb gX12_stampsOf_2.2.2.2.2.2.1 rfl hl (by decide) rfl (fun ls hl => ?_)
        refine lv_iinc (v := nI (kP + 1)) (lv' := [(3, .int (nI (kP + 1))), (2, .int (nn + 1)), (0, .ref h0), (1, .int pa)]) hx hb gX12_stampsOf_2.2.2.2.2.2.2.1 hl (k := 1) rfl (nI_1 _) (by decide) rfl (fun ls hl => ?_)
        refine lv_goto (tgt := 4) hx hb gX12_stampsOf_2.2.2.2.2.2.2.2.1 (by decide) ?_
        have q9e : fnw (104 + 3 * kP) = shf fnw 104 (kP * 3 + 0) := congrArg fnw (by omega)
        have hst9 : nn + 1 = CNT (fun s9 => shf fnw 104 (s9 * 3 + 0) = pa) (kP + 1) := CNT.y hcn (q9e.symm.trans c_28_5937)
        exact ihP (kP + 1) (nn + 1) _ (by omega) (by first | assumption | exact Or.inl rfl | exact Or.inr rfl | exact rfl) (lv_sub hl [0, 1, 2, 3] rfl)
  exact keyP k6 0 0 _ (by omega) (by first | assumption | exact Or.inl rfl | exact Or.inr rfl | exact rfl) (lv_sub hl [0, 1, 2, 3] rfl)
def K_m_papersToX (l : Launch) (G : GG) (kq : Nat) (h0 : Nat) (je : Nat) (nw : Nat) (nk : Nat) (mhasKept : Int32) (nt : Nat) (mtaped : Int32) (nr : Nat) (mrowMany : Int32) (mroundOf : Int32) (mroundFrom : Int32) (nm : Nat) (mfromHour : Int32) (mtoHour : Int32) (ns : Nat) (mfrom : Int32) (mto : Int32) (msort : Int32) (misFault : Int32) (mdeep : Int32) (mcoded : Int32) (mlines : Int32) (nl : Nat) (nc : Nat) (nF : Nat) (np : Nat) (ntr : Nat) (nb : Nat) (mbestCost : Int32) (nso : Nat) (nsi : Nat) (nit : Nat) (nsh : Nat) (nsf : Nat) (nss : Nat) (nrc : Nat) (mtraced : Int32) (mdealer : Int32) (mnumber : Int32) (mwhose : Int32) (msize : Int32) (misParted : Int32) (fnw : Nat → Int32) : Prop := MP l G yX12_papersOf cX12_papersOf 5 (some .int) 4 [.ref h0, .int (nI je), .int 0] [(h0, oX12 nw nk mhasKept nt mtaped nr mrowMany mroundOf mroundFrom 0 nm mfromHour mtoHour ns mfrom mto msort misFault mdeep mcoded mlines nl nc nF np ntr nb mbestCost nso nsi nit nsh nsf nss nrc mtraced mdealer mnumber mwhose msize misParted), (nw, iA G 1662 fnw)] (fun r : Int32 => r = (CNT (fun p9 => SEE (shf fnw 32) (fnw 0) (fnw 1) (fnw 2) p9 ∧ HB (shf fnw 32 (p9 * 6 + 1)) (nI je)) kq))
set_option maxHeartbeats 4000000 in
set_option maxRecDepth 100000 in
theorem m_papersToX (l : Launch) (G : GG) (kq : Nat) (h0 : Nat) (je : Nat) (nw : Nat) (nk : Nat) (mhasKept : Int32) (nt : Nat) (mtaped : Int32) (nr : Nat) (mrowMany : Int32) (mroundOf : Int32) (mroundFrom : Int32) (nm : Nat) (mfromHour : Int32) (mtoHour : Int32) (ns : Nat) (mfrom : Int32) (mto : Int32) (msort : Int32) (misFault : Int32) (mdeep : Int32) (mcoded : Int32) (mlines : Int32) (nl : Nat) (nc : Nat) (nF : Nat) (np : Nat) (ntr : Nat) (nb : Nat) (mbestCost : Int32) (nso : Nat) (nsi : Nat) (nit : Nat) (nsh : Nat) (nsf : Nat) (nss : Nat) (nrc : Nat) (mtraced : Int32) (mdealer : Int32) (mnumber : Int32) (mwhose : Int32) (msize : Int32) (misParted : Int32) (fnw : Nat → Int32) (ekq : fnw 5 = nI kq) (hkq : kq ≤ 12) (hje : je < 10) : K_m_papersToX l G kq h0 je nw nk mhasKept nt mtaped nr mrowMany mroundOf mroundFrom nm mfromHour mtoHour ns mfrom mto msort misFault mdeep mcoded mlines nl nc nF np ntr nb mbestCost nso nsi nit nsh nsf nss nrc mtraced mdealer mnumber mwhose msize misParted fnw := by
  refine MP.start (by decide +kernel) (Nat.le_of_ble_eq_true rfl) ?_
  intro p e s m below meth c ls hC hK hP hD hl
  refine absQ (fun Q0 hQ0 => ?_)
  have hl : lv_has ls 5 [(0, .ref h0), (1, .int (nI je)), (2, .int 0)] := hl
  refine Kan8 hC (fun hx hb hr hml hB hown hlocks hnm => ?_)
  refine lv_iconst (v := 0) hx hb gX12_papersOf_0.1 (by decide) ?_
  refine lv_istore_n (lv' := [(3, .int 0), (0, .ref h0), (1, .int (nI je)), (2, .int 0)]) hx hb gX12_papersOf_0.2.1 rfl hl (by decide) rfl (fun ls hl => ?_)
  refine lv_iconst (v := 0) hx hb gX12_papersOf_0.2.2.1 (by decide) ?_
  refine lv_istore (lv' := [(4, .int 0), (3, .int 0), (0, .ref h0), (1, .int (nI je)), (2, .int 0)]) hx hb gX12_papersOf_0.2.2.2.1 hl (by decide) rfl (fun ls hl => ?_)
  have keyP : ∀ (nP kP : Nat) (nn : Int32) (ls : Array Slot), kP + nP = kq → (nn = CNT (fun p9 => SEE (shf fnw 32) (fnw 0) (fnw 1) (fnw 2) p9 ∧ HB (shf fnw 32 (p9 * 6 + 1)) (nI je)) kP) → lv_has ls 5 [(4, .int (nI kP)), (3, .int nn), (0, .ref h0), (1, .int (nI je)), (2, .int 0)] → W p l e (RM 4 0 0) s m ([.ref h0, .int (nI je), .int 0] : List Value).toArray below meth c s.heap [] 0 0 Q0 (F0 m 5 ls []) := by
    intro nP
    induction nP with
    | zero =>
      intro kP nn ls hkP hcn hl
      obtain rfl : kq = kP := by omega
      have hl : lv_has ls 5 [(4, .int (nI kq)), (3, .int nn), (0, .ref h0), (1, .int (nI je)), (2, .int 0)] := hl
      refine lv_iload hx hb gX12_papersOf_0.2.2.2.2.1 (lv_at0 hl) ?_
      refine lv_aload_n hx hb gX12_papersOf_0.2.2.2.2.2.1 rfl (lv_at2 hl) ?_
      refine gf_X12_9 hC rfl hK hP 0 rfl rfl gX12_papersOf_0.2.2.2.2.2.2.1 ?_
      refine lv_iconst (v := 5) hx hb gX12_papersOf_0.2.2.2.2.2.2.2.1 (by decide) ?_
      refine ald hC hK hP 1 rfl (vin (by decide +kernel)) (k := 5) (by decide +kernel) (v := nI kq) (ekq) gX12_papersOf_0.2.2.2.2.2.2.2.2.1 ?_
      refine lv_icmp_ge (tgt := 71) hx hb gX12_papersOf_0.2.2.2.2.2.2.2.2.2 (by decide) (fun _ => ?_) (fun c9 => absurd (Int32.le_refl _) c9)
      refine lv_iload_n hx hb gX12_papersOf_3.2.2.2.2.2.2.2.2.1 rfl (lv_at1 hl) ?_
      refine toQ hQ0 ?_
      exact RP (v := nn) hC (hcn) rfl gX12_papersOf_3.2.2.2.2.2.2.2.2.2
    | succ nP ihP =>
      intro kP nn ls hkP hcn hl
      refine lv_iload hx hb gX12_papersOf_0.2.2.2.2.1 (lv_at0 hl) ?_
      refine lv_aload_n hx hb gX12_papersOf_0.2.2.2.2.2.1 rfl (lv_at2 hl) ?_
      refine gf_X12_9 hC rfl hK hP 0 rfl rfl gX12_papersOf_0.2.2.2.2.2.2.1 ?_
      refine lv_iconst (v := 5) hx hb gX12_papersOf_0.2.2.2.2.2.2.2.1 (by decide) ?_
      refine ald hC hK hP 1 rfl (vin (by decide +kernel)) (k := 5) (by decide +kernel) (v := nI kq) (ekq) gX12_papersOf_0.2.2.2.2.2.2.2.2.1 ?_
      refine lv_icmp_ge (tgt := 71) hx hb gX12_papersOf_0.2.2.2.2.2.2.2.2.2 (by decide) (fun c9 => absurd c9 (nI_ge (a := kP) (b := kq) (by omega) (by omega))) (fun _ => ?_)
      refine lv_iload_n hx hb gX12_papersOf_1.1 rfl (lv_at1 hl) ?_
      refine lv_aload_n hx hb gX12_papersOf_1.2.1 rfl (lv_at2 hl) ?_
      refine lv_iload hx hb gX12_papersOf_1.2.2.1 (lv_at0 hl) ?_
      refine pV hC hK hl hP hD (m_isInX l G h0 kP nw nk mhasKept nt mtaped nr mrowMany mroundOf mroundFrom nm mfromHour mtoHour ns mfrom mto msort misFault mdeep mcoded mlines nl nc nF np ntr nb mbestCost nso nsi nit nsh nsf nss nrc mtraced mdealer mnumber mwhose msize misParted fnw (by omega)) si_X12_103 [0, 1] sm_0_1 fm_0_1 nd_0_1 rfl rfl rfl rfl rfl (Nat.le_of_ble_eq_true rfl) rm_4_2_3 ⟨by first | exact Nat.le_of_ble_eq_true rfl | exact Nat.zero_le _, by first | exact Nat.le_of_ble_eq_true rfl | exact Nat.zero_le _⟩ gX12_papersOf_1.2.2.2.1 (Kors (Keqa fun a5939 => ?_) (Keqa fun a5939 => ?_))
      · refine lv_if_eq (tgt := 62) hx hb gX12_papersOf_1.2.2.2.2.1 (by decide) (fun c9 => absurd c9 (by decide)) (fun _ => ?_)
        refine lv_iload_n hx hb gX12_papersOf_1.2.2.2.2.2.1 rfl (lv_at4 hl) ?_
        refine lv_if_eq (tgt := 44) hx hb gX12_papersOf_1.2.2.2.2.2.2.1 (by decide) (fun _ => ?_) (fun c9 => absurd (by decide) c9)
        refine lv_aload_n hx hb gX12_papersOf_2.2.2.2.2.1 rfl (lv_at2 hl) ?_
        refine lv_iload hx hb gX12_papersOf_2.2.2.2.2.2.1 (lv_at0 hl) ?_
        refine lv_iconst (v := 1) hx hb gX12_papersOf_2.2.2.2.2.2.2.1 (by decide) ?_
        refine pV hC hK hl hP hD (m_paper l G h0 kP 1 nw nk mhasKept nt mtaped nr mrowMany mroundOf mroundFrom 0 nm mfromHour mtoHour ns mfrom mto msort misFault mdeep mcoded mlines nl nc nF np ntr nb mbestCost nso nsi nit nsh nsf nss nrc mtraced mdealer mnumber mwhose msize misParted fnw (by omega) (by omega)) si_X12_88 [0, 1] sm_0_1 fm_0_1 nd_0_1 rfl rfl rfl rfl rfl (Nat.le_of_ble_eq_true rfl) rm_4_1_3 ⟨by first | exact Nat.le_of_ble_eq_true rfl | exact Nat.zero_le _, by first | exact Nat.le_of_ble_eq_true rfl | exact Nat.zero_le _⟩ gX12_papersOf_2.2.2.2.2.2.2.2.1 (Keqr ?_)
        refine lv_iload_n hx hb gX12_papersOf_2.2.2.2.2.2.2.2.2.1 rfl (lv_at3 hl) ?_
        refine pS hC hK hl (m_has l G (fnw (32 + 6 * kP + 1)) (nI je)) si_X12_99 rfl rfl (Nat.le_of_ble_eq_true rfl) rm_4_1_2 ⟨by first | exact Nat.le_of_ble_eq_true rfl | exact Nat.zero_le _, by first | exact Nat.le_of_ble_eq_true rfl | exact Nat.zero_le _⟩ gX12_papersOf_2.2.2.2.2.2.2.2.2.2 (Kors (Keqa fun a5943 => ?_) (Keqa fun a5943 => ?_))
        · refine lv_if_eq (tgt := 62) hx hb gX12_papersOf_3.1 (by decide) (fun c9 => absurd c9 (by decide)) (fun _ => ?_)
          refine lv_iconst (v := 1) hx hb gX12_papersOf_3.2.1 (by decide) ?_
          refine lv_goto (tgt := 63) hx hb gX12_papersOf_3.2.2.1 (by decide) ?_
          refine lv_iadd hx hb gX12_papersOf_3.2.2.2.2.1 ?_
          refine lv_istore_n (lv' := [(3, .int (nn + 1)), (4, .int (nI kP)), (0, .ref h0), (1, .int (nI je)), (2, .int 0)]) hx hb gX12_papersOf_3.2.2.2.2.2.1 rfl hl (by decide) rfl (fun ls hl => ?_)
          refine lv_iinc (v := nI (kP + 1)) (lv' := [(4, .int (nI (kP + 1))), (3, .int (nn + 1)), (0, .ref h0), (1, .int (nI je)), (2, .int 0)]) hx hb gX12_papersOf_3.2.2.2.2.2.2.1 hl (k := 1) rfl (nI_1 _) (by decide) rfl (fun ls hl => ?_)
          refine lv_goto (tgt := 5) hx hb gX12_papersOf_3.2.2.2.2.2.2.2.1 (by decide) ?_
          have q9e : fnw (32 + 6 * kP + 1) = shf fnw 32 (kP * 6 + 1) := congrArg fnw (by omega)
          have hst9 : nn + 1 = CNT (fun p9 => SEE (shf fnw 32) (fnw 0) (fnw 1) (fnw 2) p9 ∧ HB (shf fnw 32 (p9 * 6 + 1)) (nI je)) (kP + 1) := CNT.y hcn ⟨a5939, HB.mk (by omega) (by rw [← q9e]; exact a5943)⟩
          exact ihP (kP + 1) (nn + 1) _ (by omega) (by first | assumption | exact Or.inl rfl | exact Or.inr rfl | exact rfl) (lv_sub hl [0, 1, 2, 3, 4] rfl)
        · refine lv_if_eq (tgt := 62) hx hb gX12_papersOf_3.1 (by decide) (fun _ => ?_) (fun c9 => absurd (by decide) c9)
          refine lv_iconst (v := 0) hx hb gX12_papersOf_3.2.2.2.1 (by decide) ?_
          refine lv_iadd hx hb gX12_papersOf_3.2.2.2.2.1 ?_
          refine lv_istore_n (lv' := [(3, .int (nn + 0)), (4, .int (nI kP)), (0, .ref h0), (1, .int (nI je)), (2, .int 0)]) hx hb gX12_papersOf_3.2.2.2.2.2.1 rfl hl (by decide) rfl (fun ls hl => ?_)
          refine lv_iinc (v := nI (kP + 1)) (lv' := [(4, .int (nI (kP + 1))), (3, .int (nn + 0)), (0, .ref h0), (1, .int (nI je)), (2, .int 0)]) hx hb gX12_papersOf_3.2.2.2.2.2.2.1 hl (k := 1) rfl (nI_1 _) (by decide) rfl (fun ls hl => ?_)
          refine lv_goto (tgt := 5) hx hb gX12_papersOf_3.2.2.2.2.2.2.2.1 (by decide) ?_
          have q9e : fnw (32 + 6 * kP + 1) = shf fnw 32 (kP * 6 + 1) := congrArg fnw (by omega)
          have hst9 : nn + 0 = CNT (fun p9 => SEE (shf fnw 32) (fnw 0) (fnw 1) (fnw 2) p9 ∧ HB (shf fnw 32 (p9 * 6 + 1)) (nI je)) (kP + 1) := CNT.n0 hcn (fun h9 => a5943 (by have h8 := h9.2.2.2; rw [← q9e] at h8; exact h8))
          exact ihP (kP + 1) (nn + 0) _ (by omega) (by first | assumption | exact Or.inl rfl | exact Or.inr rfl | exact rfl) (lv_sub hl [0, 1, 2, 3, 4] rfl)
      · refine lv_if_eq (tgt := 62) hx hb gX12_papersOf_1.2.2.2.2.1 (by decide) (fun _ => ?_) (fun c9 => absurd (by decide) c9)
        refine lv_iconst (v := 0) hx hb gX12_papersOf_3.2.2.2.1 (by decide) ?_
        refine lv_iadd hx hb gX12_papersOf_3.2.2.2.2.1 ?_
        refine lv_istore_n (lv' := [(3, .int (nn + 0)), (4, .int (nI kP)), (0, .ref h0), (1, .int (nI je)), (2, .int 0)]) hx hb gX12_papersOf_3.2.2.2.2.2.1 rfl hl (by decide) rfl (fun ls hl => ?_)
        refine lv_iinc (v := nI (kP + 1)) (lv' := [(4, .int (nI (kP + 1))), (3, .int (nn + 0)), (0, .ref h0), (1, .int (nI je)), (2, .int 0)]) hx hb gX12_papersOf_3.2.2.2.2.2.2.1 hl (k := 1) rfl (nI_1 _) (by decide) rfl (fun ls hl => ?_)
        refine lv_goto (tgt := 5) hx hb gX12_papersOf_3.2.2.2.2.2.2.2.1 (by decide) ?_
        have hst9 : nn + 0 = CNT (fun p9 => SEE (shf fnw 32) (fnw 0) (fnw 1) (fnw 2) p9 ∧ HB (shf fnw 32 (p9 * 6 + 1)) (nI je)) (kP + 1) := CNT.n0 hcn (fun h9 => a5939 h9.1)
        exact ihP (kP + 1) (nn + 0) _ (by omega) (by first | assumption | exact Or.inl rfl | exact Or.inr rfl | exact rfl) (lv_sub hl [0, 1, 2, 3, 4] rfl)
  exact keyP kq 0 0 _ (by omega) (by first | assumption | exact Or.inl rfl | exact Or.inr rfl | exact rfl) (lv_sub hl [0, 1, 2, 3, 4] rfl)
def K_m_papersByX (l : Launch) (G : GG) (kq : Nat) (h0 : Nat) (je : Nat) (nw : Nat) (nk : Nat) (mhasKept : Int32) (nt : Nat) (mtaped : Int32) (nr : Nat) (mrowMany : Int32) (mroundOf : Int32) (mroundFrom : Int32) (nm : Nat) (mfromHour : Int32) (mtoHour : Int32) (ns : Nat) (mfrom : Int32) (mto : Int32) (msort : Int32) (misFault : Int32) (mdeep : Int32) (mcoded : Int32) (mlines : Int32) (nl : Nat) (nc : Nat) (nF : Nat) (np : Nat) (ntr : Nat) (nb : Nat) (mbestCost : Int32) (nso : Nat) (nsi : Nat) (nit : Nat) (nsh : Nat) (nsf : Nat) (nss : Nat) (nrc : Nat) (mtraced : Int32) (mdealer : Int32) (mnumber : Int32) (mwhose : Int32) (msize : Int32) (misParted : Int32) (fnw : Nat → Int32) : Prop := MP l G yX12_papersOf cX12_papersOf 5 (some .int) 4 [.ref h0, .int (nI je), .int 1] [(h0, oX12 nw nk mhasKept nt mtaped nr mrowMany mroundOf mroundFrom 0 nm mfromHour mtoHour ns mfrom mto msort misFault mdeep mcoded mlines nl nc nF np ntr nb mbestCost nso nsi nit nsh nsf nss nrc mtraced mdealer mnumber mwhose msize misParted), (nw, iA G 1662 fnw)] (fun r : Int32 => r = (CNT (fun p9 => SEE (shf fnw 32) (fnw 0) (fnw 1) (fnw 2) p9 ∧ shf fnw 32 (p9 * 6 + 0) = (nI je)) kq))
set_option maxHeartbeats 4000000 in
set_option maxRecDepth 100000 in
theorem m_papersByX (l : Launch) (G : GG) (kq : Nat) (h0 : Nat) (je : Nat) (nw : Nat) (nk : Nat) (mhasKept : Int32) (nt : Nat) (mtaped : Int32) (nr : Nat) (mrowMany : Int32) (mroundOf : Int32) (mroundFrom : Int32) (nm : Nat) (mfromHour : Int32) (mtoHour : Int32) (ns : Nat) (mfrom : Int32) (mto : Int32) (msort : Int32) (misFault : Int32) (mdeep : Int32) (mcoded : Int32) (mlines : Int32) (nl : Nat) (nc : Nat) (nF : Nat) (np : Nat) (ntr : Nat) (nb : Nat) (mbestCost : Int32) (nso : Nat) (nsi : Nat) (nit : Nat) (nsh : Nat) (nsf : Nat) (nss : Nat) (nrc : Nat) (mtraced : Int32) (mdealer : Int32) (mnumber : Int32) (mwhose : Int32) (msize : Int32) (misParted : Int32) (fnw : Nat → Int32) (ekq : fnw 5 = nI kq) (hkq : kq ≤ 12) (hje : je < 10) : K_m_papersByX l G kq h0 je nw nk mhasKept nt mtaped nr mrowMany mroundOf mroundFrom nm mfromHour mtoHour ns mfrom mto msort misFault mdeep mcoded mlines nl nc nF np ntr nb mbestCost nso nsi nit nsh nsf nss nrc mtraced mdealer mnumber mwhose msize misParted fnw := by
  refine MP.start (by decide +kernel) (Nat.le_of_ble_eq_true rfl) ?_
  intro p e s m below meth c ls hC hK hP hD hl
  refine absQ (fun Q0 hQ0 => ?_)
  have hl : lv_has ls 5 [(0, .ref h0), (1, .int (nI je)), (2, .int 1)] := hl
  refine Kan8 hC (fun hx hb hr hml hB hown hlocks hnm => ?_)
  refine lv_iconst (v := 0) hx hb gX12_papersOf_0.1 (by decide) ?_
  refine lv_istore_n (lv' := [(3, .int 0), (0, .ref h0), (1, .int (nI je)), (2, .int 1)]) hx hb gX12_papersOf_0.2.1 rfl hl (by decide) rfl (fun ls hl => ?_)
  refine lv_iconst (v := 0) hx hb gX12_papersOf_0.2.2.1 (by decide) ?_
  refine lv_istore (lv' := [(4, .int 0), (3, .int 0), (0, .ref h0), (1, .int (nI je)), (2, .int 1)]) hx hb gX12_papersOf_0.2.2.2.1 hl (by decide) rfl (fun ls hl => ?_)
  have keyP : ∀ (nP kP : Nat) (nn : Int32) (ls : Array Slot), kP + nP = kq → (nn = CNT (fun p9 => SEE (shf fnw 32) (fnw 0) (fnw 1) (fnw 2) p9 ∧ shf fnw 32 (p9 * 6 + 0) = (nI je)) kP) → lv_has ls 5 [(4, .int (nI kP)), (3, .int nn), (0, .ref h0), (1, .int (nI je)), (2, .int 1)] → W p l e (RM 4 0 0) s m ([.ref h0, .int (nI je), .int 1] : List Value).toArray below meth c s.heap [] 0 0 Q0 (F0 m 5 ls []) := by
    intro nP
    induction nP with
    | zero =>
      intro kP nn ls hkP hcn hl
      obtain rfl : kq = kP := by omega
      have hl : lv_has ls 5 [(4, .int (nI kq)), (3, .int nn), (0, .ref h0), (1, .int (nI je)), (2, .int 1)] := hl
      refine lv_iload hx hb gX12_papersOf_0.2.2.2.2.1 (lv_at0 hl) ?_
      refine lv_aload_n hx hb gX12_papersOf_0.2.2.2.2.2.1 rfl (lv_at2 hl) ?_
      refine gf_X12_9 hC rfl hK hP 0 rfl rfl gX12_papersOf_0.2.2.2.2.2.2.1 ?_
      refine lv_iconst (v := 5) hx hb gX12_papersOf_0.2.2.2.2.2.2.2.1 (by decide) ?_
      refine ald hC hK hP 1 rfl (vin (by decide +kernel)) (k := 5) (by decide +kernel) (v := nI kq) (ekq) gX12_papersOf_0.2.2.2.2.2.2.2.2.1 ?_
      refine lv_icmp_ge (tgt := 71) hx hb gX12_papersOf_0.2.2.2.2.2.2.2.2.2 (by decide) (fun _ => ?_) (fun c9 => absurd (Int32.le_refl _) c9)
      refine lv_iload_n hx hb gX12_papersOf_3.2.2.2.2.2.2.2.2.1 rfl (lv_at1 hl) ?_
      refine toQ hQ0 ?_
      exact RP (v := nn) hC (hcn) rfl gX12_papersOf_3.2.2.2.2.2.2.2.2.2
    | succ nP ihP =>
      intro kP nn ls hkP hcn hl
      refine lv_iload hx hb gX12_papersOf_0.2.2.2.2.1 (lv_at0 hl) ?_
      refine lv_aload_n hx hb gX12_papersOf_0.2.2.2.2.2.1 rfl (lv_at2 hl) ?_
      refine gf_X12_9 hC rfl hK hP 0 rfl rfl gX12_papersOf_0.2.2.2.2.2.2.1 ?_
      refine lv_iconst (v := 5) hx hb gX12_papersOf_0.2.2.2.2.2.2.2.1 (by decide) ?_
      refine ald hC hK hP 1 rfl (vin (by decide +kernel)) (k := 5) (by decide +kernel) (v := nI kq) (ekq) gX12_papersOf_0.2.2.2.2.2.2.2.2.1 ?_
      refine lv_icmp_ge (tgt := 71) hx hb gX12_papersOf_0.2.2.2.2.2.2.2.2.2 (by decide) (fun c9 => absurd c9 (nI_ge (a := kP) (b := kq) (by omega) (by omega))) (fun _ => ?_)
      refine lv_iload_n hx hb gX12_papersOf_1.1 rfl (lv_at1 hl) ?_
      refine lv_aload_n hx hb gX12_papersOf_1.2.1 rfl (lv_at2 hl) ?_
      refine lv_iload hx hb gX12_papersOf_1.2.2.1 (lv_at0 hl) ?_
      refine pV hC hK hl hP hD (m_isInX l G h0 kP nw nk mhasKept nt mtaped nr mrowMany mroundOf mroundFrom nm mfromHour mtoHour ns mfrom mto msort misFault mdeep mcoded mlines nl nc nF np ntr nb mbestCost nso nsi nit nsh nsf nss nrc mtraced mdealer mnumber mwhose msize misParted fnw (by omega)) si_X12_103 [0, 1] sm_0_1 fm_0_1 nd_0_1 rfl rfl rfl rfl rfl (Nat.le_of_ble_eq_true rfl) rm_4_2_3 ⟨by first | exact Nat.le_of_ble_eq_true rfl | exact Nat.zero_le _, by first | exact Nat.le_of_ble_eq_true rfl | exact Nat.zero_le _⟩ gX12_papersOf_1.2.2.2.1 (Kors (Keqa fun a5945 => ?_) (Keqa fun a5945 => ?_))
      · refine lv_if_eq (tgt := 62) hx hb gX12_papersOf_1.2.2.2.2.1 (by decide) (fun c9 => absurd c9 (by decide)) (fun _ => ?_)
        refine lv_iload_n hx hb gX12_papersOf_1.2.2.2.2.2.1 rfl (lv_at4 hl) ?_
        refine lv_if_eq (tgt := 44) hx hb gX12_papersOf_1.2.2.2.2.2.2.1 (by decide) (fun c9 => absurd c9 (by decide)) (fun _ => ?_)
        refine lv_aload_n hx hb gX12_papersOf_1.2.2.2.2.2.2.2.1 rfl (lv_at2 hl) ?_
        refine lv_iload hx hb gX12_papersOf_1.2.2.2.2.2.2.2.2.1 (lv_at0 hl) ?_
        refine lv_iconst (v := 0) hx hb gX12_papersOf_1.2.2.2.2.2.2.2.2.2 (by decide) ?_
        refine pV hC hK hl hP hD (m_paper l G h0 kP 0 nw nk mhasKept nt mtaped nr mrowMany mroundOf mroundFrom 0 nm mfromHour mtoHour ns mfrom mto msort misFault mdeep mcoded mlines nl nc nF np ntr nb mbestCost nso nsi nit nsh nsf nss nrc mtraced mdealer mnumber mwhose msize misParted fnw (by omega) (by omega)) si_X12_88 [0, 1] sm_0_1 fm_0_1 nd_0_1 rfl rfl rfl rfl rfl (Nat.le_of_ble_eq_true rfl) rm_4_1_3 ⟨by first | exact Nat.le_of_ble_eq_true rfl | exact Nat.zero_le _, by first | exact Nat.le_of_ble_eq_true rfl | exact Nat.zero_le _⟩ gX12_papersOf_2.1 (Keqr ?_)
        refine lv_iload_n hx hb gX12_papersOf_2.2.1 rfl (lv_at3 hl) ?_
        refine lv_icmp_ne (tgt := 62) hx hb gX12_papersOf_2.2.2.1 (by decide) (fun c_38_5948 => ?_) (fun c_38_5948 => ?_)
        · refine lv_iconst (v := 0) hx hb gX12_papersOf_3.2.2.2.1 (by decide) ?_
          refine lv_iadd hx hb gX12_papersOf_3.2.2.2.2.1 ?_
          refine lv_istore_n (lv' := [(3, .int (nn + 0)), (4, .int (nI kP)), (0, .ref h0), (1, .int (nI je)), (2, .int 1)]) hx hb gX12_papersOf_3.2.2.2.2.2.1 rfl hl (by decide) rfl (fun ls hl => ?_)
          refine lv_iinc (v := nI (kP + 1)) (lv' := [(4, .int (nI (kP + 1))), (3, .int (nn + 0)), (0, .ref h0), (1, .int (nI je)), (2, .int 1)]) hx hb gX12_papersOf_3.2.2.2.2.2.2.1 hl (k := 1) rfl (nI_1 _) (by decide) rfl (fun ls hl => ?_)
          refine lv_goto (tgt := 5) hx hb gX12_papersOf_3.2.2.2.2.2.2.2.1 (by decide) ?_
          have q9e : fnw (32 + 6 * kP + 0) = shf fnw 32 (kP * 6 + 0) := congrArg fnw (by omega)
          have hst9 : nn + 0 = CNT (fun p9 => SEE (shf fnw 32) (fnw 0) (fnw 1) (fnw 2) p9 ∧ shf fnw 32 (p9 * 6 + 0) = (nI je)) (kP + 1) := CNT.n0 hcn (fun h9 => c_38_5948 (q9e.trans h9.2))
          exact ihP (kP + 1) (nn + 0) _ (by omega) (by first | assumption | exact Or.inl rfl | exact Or.inr rfl | exact rfl) (lv_sub hl [0, 1, 2, 3, 4] rfl)
        · refine lv_goto (tgt := 58) hx hb gX12_papersOf_2.2.2.2.1 (by decide) ?_
          refine lv_iconst (v := 1) hx hb gX12_papersOf_3.2.1 (by decide) ?_
          refine lv_goto (tgt := 63) hx hb gX12_papersOf_3.2.2.1 (by decide) ?_
          refine lv_iadd hx hb gX12_papersOf_3.2.2.2.2.1 ?_
          refine lv_istore_n (lv' := [(3, .int (nn + 1)), (4, .int (nI kP)), (0, .ref h0), (1, .int (nI je)), (2, .int 1)]) hx hb gX12_papersOf_3.2.2.2.2.2.1 rfl hl (by decide) rfl (fun ls hl => ?_)
          refine lv_iinc (v := nI (kP + 1)) (lv' := [(4, .int (nI (kP + 1))), (3, .int (nn + 1)), (0, .ref h0), (1, .int (nI je)), (2, .int 1)]) hx hb gX12_papersOf_3.2.2.2.2.2.2.1 hl (k := 1) rfl (nI_1 _) (by decide) rfl (fun ls hl => ?_)
          refine lv_goto (tgt := 5) hx hb gX12_papersOf_3.2.2.2.2.2.2.2.1 (by decide) ?_
          have q9e : fnw (32 + 6 * kP + 0) = shf fnw 32 (kP * 6 + 0) := congrArg fnw (by omega)
          have hst9 : nn + 1 = CNT (fun p9 => SEE (shf fnw 32) (fnw 0) (fnw 1) (fnw 2) p9 ∧ shf fnw 32 (p9 * 6 + 0) = (nI je)) (kP + 1) := CNT.y hcn ⟨a5945, q9e.symm.trans c_38_5948⟩
          exact ihP (kP + 1) (nn + 1) _ (by omega) (by first | assumption | exact Or.inl rfl | exact Or.inr rfl | exact rfl) (lv_sub hl [0, 1, 2, 3, 4] rfl)
      · refine lv_if_eq (tgt := 62) hx hb gX12_papersOf_1.2.2.2.2.1 (by decide) (fun _ => ?_) (fun c9 => absurd (by decide) c9)
        refine lv_iconst (v := 0) hx hb gX12_papersOf_3.2.2.2.1 (by decide) ?_
        refine lv_iadd hx hb gX12_papersOf_3.2.2.2.2.1 ?_
        refine lv_istore_n (lv' := [(3, .int (nn + 0)), (4, .int (nI kP)), (0, .ref h0), (1, .int (nI je)), (2, .int 1)]) hx hb gX12_papersOf_3.2.2.2.2.2.1 rfl hl (by decide) rfl (fun ls hl => ?_)
        refine lv_iinc (v := nI (kP + 1)) (lv' := [(4, .int (nI (kP + 1))), (3, .int (nn + 0)), (0, .ref h0), (1, .int (nI je)), (2, .int 1)]) hx hb gX12_papersOf_3.2.2.2.2.2.2.1 hl (k := 1) rfl (nI_1 _) (by decide) rfl (fun ls hl => ?_)
        refine lv_goto (tgt := 5) hx hb gX12_papersOf_3.2.2.2.2.2.2.2.1 (by decide) ?_
        have hst9 : nn + 0 = CNT (fun p9 => SEE (shf fnw 32) (fnw 0) (fnw 1) (fnw 2) p9 ∧ shf fnw 32 (p9 * 6 + 0) = (nI je)) (kP + 1) := CNT.n0 hcn (fun h9 => a5945 h9.1)
        exact ihP (kP + 1) (nn + 0) _ (by omega) (by first | assumption | exact Or.inl rfl | exact Or.inr rfl | exact rfl) (lv_sub hl [0, 1, 2, 3, 4] rfl)
  exact keyP kq 0 0 _ (by omega) (by first | assumption | exact Or.inl rfl | exact Or.inr rfl | exact rfl) (lv_sub hl [0, 1, 2, 3, 4] rfl)
def K_m_doesCountX (l : Launch) (G : GG) (h0 : Nat) (js : Nat) (nw : Nat) (nk : Nat) (mhasKept : Int32) (nt : Nat) (mtaped : Int32) (nr : Nat) (mrowMany : Int32) (mroundOf : Int32) (mroundFrom : Int32) (nm : Nat) (mfromHour : Int32) (mtoHour : Int32) (ns : Nat) (mfrom : Int32) (mto : Int32) (msort : Int32) (misFault : Int32) (mdeep : Int32) (mcoded : Int32) (mlines : Int32) (nl : Nat) (nc : Nat) (nF : Nat) (np : Nat) (ntr : Nat) (nb : Nat) (mbestCost : Int32) (nso : Nat) (nsi : Nat) (nit : Nat) (nsh : Nat) (nsf : Nat) (nss : Nat) (nrc : Nat) (mtraced : Int32) (mdealer : Int32) (mnumber : Int32) (mwhose : Int32) (msize : Int32) (misParted : Int32) (fnw : Nat → Int32) : Prop := MP l G yX12_doesCount cX12_doesCount 2 (some .boolean) 4 [.ref h0, .int (nI js)] [(h0, oX12 nw nk mhasKept nt mtaped nr mrowMany mroundOf mroundFrom 0 nm mfromHour mtoHour ns mfrom mto msort misFault mdeep mcoded mlines nl nc nF np ntr nb mbestCost nso nsi nit nsh nsf nss nrc mtraced mdealer mnumber mwhose msize misParted), (nw, iA G 1662 fnw)] (fun r : Int32 => (r = 1 ∧ CSQ (shf fnw 1424) (shf fnw 32) (fnw 0) (fnw 1) (fnw 2) js) ∨ (r = 0 ∧ ¬ CSQ (shf fnw 1424) (shf fnw 32) (fnw 0) (fnw 1) (fnw 2) js))
set_option maxHeartbeats 4000000 in
set_option maxRecDepth 100000 in
theorem m_doesCountX (l : Launch) (G : GG) (h0 : Nat) (js : Nat) (nw : Nat) (nk : Nat) (mhasKept : Int32) (nt : Nat) (mtaped : Int32) (nr : Nat) (mrowMany : Int32) (mroundOf : Int32) (mroundFrom : Int32) (nm : Nat) (mfromHour : Int32) (mtoHour : Int32) (ns : Nat) (mfrom : Int32) (mto : Int32) (msort : Int32) (misFault : Int32) (mdeep : Int32) (mcoded : Int32) (mlines : Int32) (nl : Nat) (nc : Nat) (nF : Nat) (np : Nat) (ntr : Nat) (nb : Nat) (mbestCost : Int32) (nso : Nat) (nsi : Nat) (nit : Nat) (nsh : Nat) (nsf : Nat) (nss : Nat) (nrc : Nat) (mtraced : Int32) (mdealer : Int32) (mnumber : Int32) (mwhose : Int32) (msize : Int32) (misParted : Int32) (fnw : Nat → Int32) (hjs : js < 16) (hN : NI fnw) : K_m_doesCountX l G h0 js nw nk mhasKept nt mtaped nr mrowMany mroundOf mroundFrom nm mfromHour mtoHour ns mfrom mto msort misFault mdeep mcoded mlines nl nc nF np ntr nb mbestCost nso nsi nit nsh nsf nss nrc mtraced mdealer mnumber mwhose msize misParted fnw := by
  refine MP.start (by decide +kernel) (Nat.le_of_ble_eq_true rfl) ?_
  intro p e s m below meth c ls hC hK hP hD hl
  refine absQ (fun Q0 hQ0 => ?_)
  have hl : lv_has ls 2 [(0, .ref h0), (1, .int (nI js))] := hl
  refine Kan8 hC (fun hx hb hr hml hB hown hlocks hnm => ?_)
  have hq2 : fnw (1424 + 8 * js + 2) = shf fnw 1424 (js * 8 + 2) := congrArg fnw (by omega)
  have hq6 : fnw (1424 + 8 * js + 6) = shf fnw 1424 (js * 8 + 6) := congrArg fnw (by omega)
  have hq7 : fnw (1424 + 8 * js + 7) = shf fnw 1424 (js * 8 + 7) := congrArg fnw (by omega)
  refine lv_aload_n hx hb gX12_doesCount_0.1 rfl (lv_at0 hl) ?_
  refine lv_iload_n hx hb gX12_doesCount_0.2.1 rfl (lv_at1 hl) ?_
  refine lv_bipush (v := 6) hx hb gX12_doesCount_0.2.2.1 (by decide) ?_
  refine pV hC hK hl hP hD (m_saying l G h0 js 6 nw nk mhasKept nt mtaped nr mrowMany mroundOf mroundFrom 0 nm mfromHour mtoHour ns mfrom mto msort misFault mdeep mcoded mlines nl nc nF np ntr nb mbestCost nso nsi nit nsh nsf nss nrc mtraced mdealer mnumber mwhose msize misParted fnw (hjs) (by omega)) si_X12_114 [0, 1] sm_0_1 fm_0_1 nd_0_1 rfl rfl rfl rfl rfl (Nat.le_of_ble_eq_true rfl) rm_4_1_3 ⟨by first | exact Nat.le_of_ble_eq_true rfl | exact Nat.zero_le _, by first | exact Nat.le_of_ble_eq_true rfl | exact Nat.zero_le _⟩ gX12_doesCount_0.2.2.2.1 (Keqr ?_)
  refine lv_if_ge (tgt := 41) hx hb gX12_doesCount_0.2.2.2.2.1 (by decide) (fun c_7_5951 => ?_) (fun c_7_5951 => ?_)
  · refine lv_iconst (v := 0) hx hb gX12_doesCount_2.2.1 (by decide) ?_
    refine toQ hQ0 ?_
    exact RP (v := 0) hC (Or.inr ⟨rfl, fun h9 => Int32.not_lt.mpr c_7_5951 (by rw [hq6]; exact h9.2.1)⟩) (by decide +kernel) gX12_doesCount_2.2.2
  · refine lv_aload_n hx hb gX12_doesCount_0.2.2.2.2.2.1 rfl (lv_at0 hl) ?_
    refine lv_iload_n hx hb gX12_doesCount_0.2.2.2.2.2.2.1 rfl (lv_at1 hl) ?_
    refine lv_bipush (v := 7) hx hb gX12_doesCount_0.2.2.2.2.2.2.2.1 (by decide) ?_
    refine pV hC hK hl hP hD (m_saying l G h0 js 7 nw nk mhasKept nt mtaped nr mrowMany mroundOf mroundFrom 0 nm mfromHour mtoHour ns mfrom mto msort misFault mdeep mcoded mlines nl nc nF np ntr nb mbestCost nso nsi nit nsh nsf nss nrc mtraced mdealer mnumber mwhose msize misParted fnw (hjs) (by omega)) si_X12_114 [0, 1] sm_0_1 fm_0_1 nd_0_1 rfl rfl rfl rfl rfl (Nat.le_of_ble_eq_true rfl) rm_4_1_3 ⟨by first | exact Nat.le_of_ble_eq_true rfl | exact Nat.zero_le _, by first | exact Nat.le_of_ble_eq_true rfl | exact Nat.zero_le _⟩ gX12_doesCount_0.2.2.2.2.2.2.2.2.1 (Keqr ?_)
    refine lv_aload_n hx hb gX12_doesCount_0.2.2.2.2.2.2.2.2.2 rfl (lv_at0 hl) ?_
    refine pV hC hK hl hP hD (m_dayX l G h0 nw nk mhasKept nt mtaped nr mrowMany mroundOf mroundFrom 0 nm mfromHour mtoHour ns mfrom mto msort misFault mdeep mcoded mlines nl nc nF np ntr nb mbestCost nso nsi nit nsh nsf nss nrc mtraced mdealer mnumber mwhose msize misParted fnw) si_X12_92 [0, 1] sm_0_1 fm_0_1 nd_0_1 rfl rfl rfl rfl rfl (Nat.le_of_ble_eq_true rfl) rm_4_1_1 ⟨by first | exact Nat.le_of_ble_eq_true rfl | exact Nat.zero_le _, by first | exact Nat.le_of_ble_eq_true rfl | exact Nat.zero_le _⟩ gX12_doesCount_1.1 (Keqr ?_)
    refine lv_icmp_gt (tgt := 41) hx hb gX12_doesCount_1.2.1 (by decide) (fun c_21_5956 => ?_) (fun c_21_5956 => ?_)
    · refine lv_iconst (v := 0) hx hb gX12_doesCount_2.2.1 (by decide) ?_
      refine toQ hQ0 ?_
      exact RP (v := 0) hC (Or.inr ⟨rfl, fun h9 => Int32.not_le.mpr c_21_5956 (by rw [hq7]; exact h9.1)⟩) (by decide +kernel) gX12_doesCount_2.2.2
    · refine lv_aload_n hx hb gX12_doesCount_1.2.2.1 rfl (lv_at0 hl) ?_
      refine lv_aload_n hx hb gX12_doesCount_1.2.2.2.1 rfl (lv_at0 hl) ?_
      refine lv_iload_n hx hb gX12_doesCount_1.2.2.2.2.1 rfl (lv_at1 hl) ?_
      refine lv_iconst (v := 2) hx hb gX12_doesCount_1.2.2.2.2.2.1 (by decide) ?_
      refine pV hC hK hl hP hD (m_saying l G h0 js 2 nw nk mhasKept nt mtaped nr mrowMany mroundOf mroundFrom 0 nm mfromHour mtoHour ns mfrom mto msort misFault mdeep mcoded mlines nl nc nF np ntr nb mbestCost nso nsi nit nsh nsf nss nrc mtraced mdealer mnumber mwhose msize misParted fnw (hjs) (by omega)) si_X12_114 [0, 1] sm_0_1 fm_0_1 nd_0_1 rfl rfl rfl rfl rfl (Nat.le_of_ble_eq_true rfl) rm_4_1_3 ⟨by first | exact Nat.le_of_ble_eq_true rfl | exact Nat.zero_le _, by first | exact Nat.le_of_ble_eq_true rfl | exact Nat.zero_le _⟩ gX12_doesCount_1.2.2.2.2.2.2.1 (Keqr ?_)
      obtain ⟨jpp, hjpp, ejpp⟩ := NI.nat hN (i := 1424 + 8 * js + 2) (bnd_say2 (s := js) rfl (by omega)) (by decide)
      refine eqi (x1 := nI jpp) ejpp ?_
      refine pV hC hK hl hP hD (m_isInX l G h0 jpp nw nk mhasKept nt mtaped nr mrowMany mroundOf mroundFrom nm mfromHour mtoHour ns mfrom mto msort misFault mdeep mcoded mlines nl nc nF np ntr nb mbestCost nso nsi nit nsh nsf nss nrc mtraced mdealer mnumber mwhose msize misParted fnw (by omega)) si_X12_103 [0, 1] sm_0_1 fm_0_1 nd_0_1 rfl rfl rfl rfl rfl (Nat.le_of_ble_eq_true rfl) rm_4_2_3 ⟨by first | exact Nat.le_of_ble_eq_true rfl | exact Nat.zero_le _, by first | exact Nat.le_of_ble_eq_true rfl | exact Nat.zero_le _⟩ gX12_doesCount_1.2.2.2.2.2.2.2.1 (Kors (Keqa fun a5960 => ?_) (Keqa fun a5960 => ?_))
      · refine lv_if_eq (tgt := 41) hx hb gX12_doesCount_1.2.2.2.2.2.2.2.2.1 (by decide) (fun c9 => absurd c9 (by decide)) (fun _ => ?_)
        refine lv_iconst (v := 1) hx hb gX12_doesCount_1.2.2.2.2.2.2.2.2.2 (by decide) ?_
        refine lv_goto (tgt := 42) hx hb gX12_doesCount_2.1 (by decide) ?_
        refine toQ hQ0 ?_
        exact RP (v := 1) hC (Or.inl ⟨rfl, by rw [← hq7]; exact Int32.not_lt.mp c_21_5956, by rw [← hq6]; exact Int32.not_le.mp c_7_5951, by rw [← hq2, ejpp, nI_clamp (n := jpp) (by omega)]; exact a5960⟩) (by decide +kernel) gX12_doesCount_2.2.2
      · refine lv_if_eq (tgt := 41) hx hb gX12_doesCount_1.2.2.2.2.2.2.2.2.1 (by decide) (fun _ => ?_) (fun c9 => absurd (by decide) c9)
        refine lv_iconst (v := 0) hx hb gX12_doesCount_2.2.1 (by decide) ?_
        refine toQ hQ0 ?_
        exact RP (v := 0) hC (Or.inr ⟨rfl, fun h9 => a5960 (by have h8 := h9.2.2; rw [← hq2, ejpp, nI_clamp (n := jpp) (by omega)] at h8; exact h8)⟩) (by decide +kernel) gX12_doesCount_2.2.2
def K_m_saidByX (l : Launch) (G : GG) (k8 : Nat) (h0 : Nat) (je : Nat) (nw : Nat) (nk : Nat) (mhasKept : Int32) (nt : Nat) (mtaped : Int32) (nr : Nat) (mrowMany : Int32) (mroundOf : Int32) (mroundFrom : Int32) (nm : Nat) (mfromHour : Int32) (mtoHour : Int32) (ns : Nat) (mfrom : Int32) (mto : Int32) (msort : Int32) (misFault : Int32) (mdeep : Int32) (mcoded : Int32) (mlines : Int32) (nl : Nat) (nc : Nat) (nF : Nat) (np : Nat) (ntr : Nat) (nb : Nat) (mbestCost : Int32) (nso : Nat) (nsi : Nat) (nit : Nat) (nsh : Nat) (nsf : Nat) (nss : Nat) (nrc : Nat) (mtraced : Int32) (mdealer : Int32) (mnumber : Int32) (mwhose : Int32) (msize : Int32) (misParted : Int32) (fnw : Nat → Int32) : Prop := MP l G yX12_saidBy cX12_saidBy 4 (some .int) 5 [.ref h0, .int (nI je)] [(h0, oX12 nw nk mhasKept nt mtaped nr mrowMany mroundOf mroundFrom 0 nm mfromHour mtoHour ns mfrom mto msort misFault mdeep mcoded mlines nl nc nF np ntr nb mbestCost nso nsi nit nsh nsf nss nrc mtraced mdealer mnumber mwhose msize misParted), (nw, iA G 1662 fnw)] (fun r : Int32 => r = (CNT (fun s9 => shf fnw 1424 (s9 * 8 + 0) = (nI je) ∧ CSQ (shf fnw 1424) (shf fnw 32) (fnw 0) (fnw 1) (fnw 2) s9) k8))
set_option maxHeartbeats 4000000 in
set_option maxRecDepth 100000 in
theorem m_saidByX (l : Launch) (G : GG) (k8 : Nat) (h0 : Nat) (je : Nat) (nw : Nat) (nk : Nat) (mhasKept : Int32) (nt : Nat) (mtaped : Int32) (nr : Nat) (mrowMany : Int32) (mroundOf : Int32) (mroundFrom : Int32) (nm : Nat) (mfromHour : Int32) (mtoHour : Int32) (ns : Nat) (mfrom : Int32) (mto : Int32) (msort : Int32) (misFault : Int32) (mdeep : Int32) (mcoded : Int32) (mlines : Int32) (nl : Nat) (nc : Nat) (nF : Nat) (np : Nat) (ntr : Nat) (nb : Nat) (mbestCost : Int32) (nso : Nat) (nsi : Nat) (nit : Nat) (nsh : Nat) (nsf : Nat) (nss : Nat) (nrc : Nat) (mtraced : Int32) (mdealer : Int32) (mnumber : Int32) (mwhose : Int32) (msize : Int32) (misParted : Int32) (fnw : Nat → Int32) (ek8 : fnw 8 = nI k8) (hk8 : k8 ≤ 16) (hje : je < 10) (hN : NI fnw) : K_m_saidByX l G k8 h0 je nw nk mhasKept nt mtaped nr mrowMany mroundOf mroundFrom nm mfromHour mtoHour ns mfrom mto msort misFault mdeep mcoded mlines nl nc nF np ntr nb mbestCost nso nsi nit nsh nsf nss nrc mtraced mdealer mnumber mwhose msize misParted fnw := by
  refine MP.start (by decide +kernel) (Nat.le_of_ble_eq_true rfl) ?_
  intro p e s m below meth c ls hC hK hP hD hl
  refine absQ (fun Q0 hQ0 => ?_)
  have hl : lv_has ls 4 [(0, .ref h0), (1, .int (nI je))] := hl
  refine Kan8 hC (fun hx hb hr hml hB hown hlocks hnm => ?_)
  refine lv_iconst (v := 0) hx hb gX12_saidBy_0.1 (by decide) ?_
  refine lv_istore_n (lv' := [(2, .int 0), (0, .ref h0), (1, .int (nI je))]) hx hb gX12_saidBy_0.2.1 rfl hl (by decide) rfl (fun ls hl => ?_)
  refine lv_iconst (v := 0) hx hb gX12_saidBy_0.2.2.1 (by decide) ?_
  refine lv_istore_n (lv' := [(3, .int 0), (2, .int 0), (0, .ref h0), (1, .int (nI je))]) hx hb gX12_saidBy_0.2.2.2.1 rfl hl (by decide) rfl (fun ls hl => ?_)
  have keyP : ∀ (nP kP : Nat) (nn : Int32) (ls : Array Slot), kP + nP = k8 → (nn = CNT (fun s9 => shf fnw 1424 (s9 * 8 + 0) = (nI je) ∧ CSQ (shf fnw 1424) (shf fnw 32) (fnw 0) (fnw 1) (fnw 2) s9) kP) → lv_has ls 4 [(3, .int (nI kP)), (2, .int nn), (0, .ref h0), (1, .int (nI je))] → W p l e (RM 5 0 0) s m ([.ref h0, .int (nI je)] : List Value).toArray below meth c s.heap [] 0 0 Q0 (F0 m 4 ls []) := by
    intro nP
    induction nP with
    | zero =>
      intro kP nn ls hkP hcn hl
      obtain rfl : k8 = kP := by omega
      have hl : lv_has ls 4 [(3, .int (nI k8)), (2, .int nn), (0, .ref h0), (1, .int (nI je))] := hl
      refine lv_iload_n hx hb gX12_saidBy_0.2.2.2.2.1 rfl (lv_at0 hl) ?_
      refine lv_aload_n hx hb gX12_saidBy_0.2.2.2.2.2.1 rfl (lv_at2 hl) ?_
      refine gf_X12_9 hC rfl hK hP 0 rfl rfl gX12_saidBy_0.2.2.2.2.2.2.1 ?_
      refine lv_bipush (v := 8) hx hb gX12_saidBy_0.2.2.2.2.2.2.2.1 (by decide) ?_
      refine ald hC hK hP 1 rfl (vin (by decide +kernel)) (k := 8) (by decide +kernel) (v := nI k8) (ek8) gX12_saidBy_0.2.2.2.2.2.2.2.2.1 ?_
      refine lv_icmp_ge (tgt := 51) hx hb gX12_saidBy_0.2.2.2.2.2.2.2.2.2 (by decide) (fun _ => ?_) (fun c9 => absurd (Int32.le_refl _) c9)
      refine lv_iload_n hx hb gX12_saidBy_3.1 rfl (lv_at1 hl) ?_
      refine toQ hQ0 ?_
      exact RP (v := nn) hC (hcn) rfl gX12_saidBy_3.2
    | succ nP ihP =>
      intro kP nn ls hkP hcn hl
      refine lv_iload_n hx hb gX12_saidBy_0.2.2.2.2.1 rfl (lv_at0 hl) ?_
      refine lv_aload_n hx hb gX12_saidBy_0.2.2.2.2.2.1 rfl (lv_at2 hl) ?_
      refine gf_X12_9 hC rfl hK hP 0 rfl rfl gX12_saidBy_0.2.2.2.2.2.2.1 ?_
      refine lv_bipush (v := 8) hx hb gX12_saidBy_0.2.2.2.2.2.2.2.1 (by decide) ?_
      refine ald hC hK hP 1 rfl (vin (by decide +kernel)) (k := 8) (by decide +kernel) (v := nI k8) (ek8) gX12_saidBy_0.2.2.2.2.2.2.2.2.1 ?_
      refine lv_icmp_ge (tgt := 51) hx hb gX12_saidBy_0.2.2.2.2.2.2.2.2.2 (by decide) (fun c9 => absurd c9 (nI_ge (a := kP) (b := k8) (by omega) (by omega))) (fun _ => ?_)
      refine lv_iload_n hx hb gX12_saidBy_1.1 rfl (lv_at1 hl) ?_
      refine lv_aload_n hx hb gX12_saidBy_1.2.1 rfl (lv_at2 hl) ?_
      refine lv_iload_n hx hb gX12_saidBy_1.2.2.1 rfl (lv_at0 hl) ?_
      refine pV hC hK hl hP hD (m_doesCountX l G h0 kP nw nk mhasKept nt mtaped nr mrowMany mroundOf mroundFrom nm mfromHour mtoHour ns mfrom mto msort misFault mdeep mcoded mlines nl nc nF np ntr nb mbestCost nso nsi nit nsh nsf nss nrc mtraced mdealer mnumber mwhose msize misParted fnw (by omega) (hN)) si_X12_117 [0, 1] sm_0_1 fm_0_1 nd_0_1 rfl rfl rfl rfl rfl (Nat.le_of_ble_eq_true rfl) rm_5_4_2 ⟨by first | exact Nat.le_of_ble_eq_true rfl | exact Nat.zero_le _, by first | exact Nat.le_of_ble_eq_true rfl | exact Nat.zero_le _⟩ gX12_saidBy_1.2.2.2.1 (Kors (Keqa fun a5962 => ?_) (Keqa fun a5962 => ?_))
      · refine lv_if_eq (tgt := 42) hx hb gX12_saidBy_1.2.2.2.2.1 (by decide) (fun c9 => absurd c9 (by decide)) (fun _ => ?_)
        refine lv_iload_n hx hb gX12_saidBy_1.2.2.2.2.2.1 rfl (lv_at3 hl) ?_
        refine lv_if_lt (tgt := 38) hx hb gX12_saidBy_1.2.2.2.2.2.2.1 (by decide) (fun c9 => absurd c9 (nI_nn (by omega))) (fun _ => ?_)
        refine lv_aload_n hx hb gX12_saidBy_1.2.2.2.2.2.2.2.1 rfl (lv_at2 hl) ?_
        refine lv_iload_n hx hb gX12_saidBy_1.2.2.2.2.2.2.2.2.1 rfl (lv_at0 hl) ?_
        refine lv_iconst (v := 0) hx hb gX12_saidBy_1.2.2.2.2.2.2.2.2.2 (by decide) ?_
        refine pV hC hK hl hP hD (m_saying l G h0 kP 0 nw nk mhasKept nt mtaped nr mrowMany mroundOf mroundFrom 0 nm mfromHour mtoHour ns mfrom mto msort misFault mdeep mcoded mlines nl nc nF np ntr nb mbestCost nso nsi nit nsh nsf nss nrc mtraced mdealer mnumber mwhose msize misParted fnw (by omega) (by omega)) si_X12_114 [0, 1] sm_0_1 fm_0_1 nd_0_1 rfl rfl rfl rfl rfl (Nat.le_of_ble_eq_true rfl) rm_5_1_3 ⟨by first | exact Nat.le_of_ble_eq_true rfl | exact Nat.zero_le _, by first | exact Nat.le_of_ble_eq_true rfl | exact Nat.zero_le _⟩ gX12_saidBy_2.1 (Keqr ?_)
        refine lv_iload_n hx hb gX12_saidBy_2.2.1 rfl (lv_at3 hl) ?_
        refine lv_icmp_ne (tgt := 42) hx hb gX12_saidBy_2.2.2.1 (by decide) (fun c_35_5965 => ?_) (fun c_35_5965 => ?_)
        · refine lv_iconst (v := 0) hx hb gX12_saidBy_2.2.2.2.2.2.1 (by decide) ?_
          refine lv_iadd hx hb gX12_saidBy_2.2.2.2.2.2.2.1 ?_
          refine lv_istore_n (lv' := [(2, .int (nn + 0)), (3, .int (nI kP)), (0, .ref h0), (1, .int (nI je))]) hx hb gX12_saidBy_2.2.2.2.2.2.2.2.1 rfl hl (by decide) rfl (fun ls hl => ?_)
          refine lv_iinc (v := nI (kP + 1)) (lv' := [(3, .int (nI (kP + 1))), (2, .int (nn + 0)), (0, .ref h0), (1, .int (nI je))]) hx hb gX12_saidBy_2.2.2.2.2.2.2.2.2.1 hl (k := 1) rfl (nI_1 _) (by decide) rfl (fun ls hl => ?_)
          refine lv_goto (tgt := 4) hx hb gX12_saidBy_2.2.2.2.2.2.2.2.2.2 (by decide) ?_
          have q9e : fnw (1424 + 8 * kP + 0) = shf fnw 1424 (kP * 8 + 0) := congrArg fnw (by omega)
          have hst9 : nn + 0 = CNT (fun s9 => shf fnw 1424 (s9 * 8 + 0) = (nI je) ∧ CSQ (shf fnw 1424) (shf fnw 32) (fnw 0) (fnw 1) (fnw 2) s9) (kP + 1) := CNT.n0 hcn (fun h9 => c_35_5965 (q9e.trans h9.1))
          exact ihP (kP + 1) (nn + 0) _ (by omega) (by first | assumption | exact Or.inl rfl | exact Or.inr rfl | exact rfl) (lv_sub hl [0, 1, 2, 3] rfl)
        · refine lv_iconst (v := 1) hx hb gX12_saidBy_2.2.2.2.1 (by decide) ?_
          refine lv_goto (tgt := 43) hx hb gX12_saidBy_2.2.2.2.2.1 (by decide) ?_
          refine lv_iadd hx hb gX12_saidBy_2.2.2.2.2.2.2.1 ?_
          refine lv_istore_n (lv' := [(2, .int (nn + 1)), (3, .int (nI kP)), (0, .ref h0), (1, .int (nI je))]) hx hb gX12_saidBy_2.2.2.2.2.2.2.2.1 rfl hl (by decide) rfl (fun ls hl => ?_)
          refine lv_iinc (v := nI (kP + 1)) (lv' := [(3, .int (nI (kP + 1))), (2, .int (nn + 1)), (0, .ref h0), (1, .int (nI je))]) hx hb gX12_saidBy_2.2.2.2.2.2.2.2.2.1 hl (k := 1) rfl (nI_1 _) (by decide) rfl (fun ls hl => ?_)
          refine lv_goto (tgt := 4) hx hb gX12_saidBy_2.2.2.2.2.2.2.2.2.2 (by decide) ?_
          have q9e : fnw (1424 + 8 * kP + 0) = shf fnw 1424 (kP * 8 + 0) := congrArg fnw (by omega)
          have hst9 : nn + 1 = CNT (fun s9 => shf fnw 1424 (s9 * 8 + 0) = (nI je) ∧ CSQ (shf fnw 1424) (shf fnw 32) (fnw 0) (fnw 1) (fnw 2) s9) (kP + 1) := CNT.y hcn ⟨q9e.symm.trans c_35_5965, a5962⟩
          exact ihP (kP + 1) (nn + 1) _ (by omega) (by first | assumption | exact Or.inl rfl | exact Or.inr rfl | exact rfl) (lv_sub hl [0, 1, 2, 3] rfl)
      · refine lv_if_eq (tgt := 42) hx hb gX12_saidBy_1.2.2.2.2.1 (by decide) (fun _ => ?_) (fun c9 => absurd (by decide) c9)
        refine lv_iconst (v := 0) hx hb gX12_saidBy_2.2.2.2.2.2.1 (by decide) ?_
        refine lv_iadd hx hb gX12_saidBy_2.2.2.2.2.2.2.1 ?_
        refine lv_istore_n (lv' := [(2, .int (nn + 0)), (3, .int (nI kP)), (0, .ref h0), (1, .int (nI je))]) hx hb gX12_saidBy_2.2.2.2.2.2.2.2.1 rfl hl (by decide) rfl (fun ls hl => ?_)
        refine lv_iinc (v := nI (kP + 1)) (lv' := [(3, .int (nI (kP + 1))), (2, .int (nn + 0)), (0, .ref h0), (1, .int (nI je))]) hx hb gX12_saidBy_2.2.2.2.2.2.2.2.2.1 hl (k := 1) rfl (nI_1 _) (by decide) rfl (fun ls hl => ?_)
        refine lv_goto (tgt := 4) hx hb gX12_saidBy_2.2.2.2.2.2.2.2.2.2 (by decide) ?_
        have hst9 : nn + 0 = CNT (fun s9 => shf fnw 1424 (s9 * 8 + 0) = (nI je) ∧ CSQ (shf fnw 1424) (shf fnw 32) (fnw 0) (fnw 1) (fnw 2) s9) (kP + 1) := CNT.n0 hcn (fun h9 => a5962 h9.2)
        exact ihP (kP + 1) (nn + 0) _ (by omega) (by first | assumption | exact Or.inl rfl | exact Or.inr rfl | exact rfl) (lv_sub hl [0, 1, 2, 3] rfl)
  exact keyP k8 0 0 _ (by omega) (by first | assumption | exact Or.inl rfl | exact Or.inr rfl | exact rfl) (lv_sub hl [0, 1, 2, 3] rfl)
def K_r_personOf (l : Launch) (G : GG) (kp : Nat) (kq : Nat) (k8 : Nat) (h0 : Nat) (x1 : Int32) (x2 : Int32) (nw : Nat) (nk : Nat) (mhasKept : Int32) (nt : Nat) (mtaped : Int32) (nr : Nat) (mrowMany : Int32) (mroundOf : Int32) (mroundFrom : Int32) (nm : Nat) (mfromHour : Int32) (mtoHour : Int32) (ns : Nat) (mfrom : Int32) (mto : Int32) (msort : Int32) (misFault : Int32) (mdeep : Int32) (mcoded : Int32) (mlines : Int32) (nl : Nat) (nc : Nat) (nF : Nat) (np : Nat) (ntr : Nat) (nb : Nat) (mbestCost : Int32) (nso : Nat) (nsi : Nat) (nit : Nat) (nsh : Nat) (nsf : Nat) (nss : Nat) (nrc : Nat) (mtraced : Int32) (mdealer : Int32) (mnumber : Int32) (mwhose : Int32) (msize : Int32) (misParted : Int32) (fnw : Nat → Int32) : Prop := MP l G yX12_personOf cX12_personOf 3 (some .int) 6 [.ref h0, .int x1, .int x2] [(h0, oX12 nw nk mhasKept nt mtaped nr mrowMany mroundOf mroundFrom 0 nm mfromHour mtoHour ns mfrom mto msort misFault mdeep mcoded mlines nl nc nF np ntr nb mbestCost nso nsi nit nsh nsf nss nrc mtraced mdealer mnumber mwhose msize misParted), (nw, iA G 1662 fnw)] (fun r : Int32 => r = ifc (Hs x1 kp) (ifc (x2 = 0) (shf fnw 12 (x1.toNatClampNeg * 2 + 0)) (ifc (x2 = 1) (shf fnw 12 (x1.toNatClampNeg * 2 + 1)) (ifc (x2 = 2) (CNT (fun p9 => SEE (shf fnw 32) (fnw 0) (fnw 1) (fnw 2) p9 ∧ HB ((shf fnw 32) (p9 * 6 + 1)) x1) kq) (ifc (x2 = 3) (CNT (fun p9 => SEE (shf fnw 32) (fnw 0) (fnw 1) (fnw 2) p9 ∧ (shf fnw 32) (p9 * 6 + 0) = x1) kq) (ifc (x2 = 4) (CNT (fun s9 => (shf fnw 1424) (s9 * 8 + 0) = x1 ∧ CSQ (shf fnw 1424) (shf fnw 32) (fnw 0) (fnw 1) (fnw 2) s9) k8) ((-1))))))) (-1))
set_option maxHeartbeats 4000000 in
set_option maxRecDepth 100000 in
theorem r_personOf (l : Launch) (G : GG) (kp : Nat) (kq : Nat) (k8 : Nat) (h0 : Nat) (x1 : Int32) (x2 : Int32) (nw : Nat) (nk : Nat) (mhasKept : Int32) (nt : Nat) (mtaped : Int32) (nr : Nat) (mrowMany : Int32) (mroundOf : Int32) (mroundFrom : Int32) (nm : Nat) (mfromHour : Int32) (mtoHour : Int32) (ns : Nat) (mfrom : Int32) (mto : Int32) (msort : Int32) (misFault : Int32) (mdeep : Int32) (mcoded : Int32) (mlines : Int32) (nl : Nat) (nc : Nat) (nF : Nat) (np : Nat) (ntr : Nat) (nb : Nat) (mbestCost : Int32) (nso : Nat) (nsi : Nat) (nit : Nat) (nsh : Nat) (nsf : Nat) (nss : Nat) (nrc : Nat) (mtraced : Int32) (mdealer : Int32) (mnumber : Int32) (mwhose : Int32) (msize : Int32) (misParted : Int32) (fnw : Nat → Int32) (ekp : fnw 4 = nI kp) (hkp : kp ≤ 10) (ekq : fnw 5 = nI kq) (hkq : kq ≤ 12) (ek8 : fnw 8 = nI k8) (hk8 : k8 ≤ 16) (hN : NI fnw) : K_r_personOf l G kp kq k8 h0 x1 x2 nw nk mhasKept nt mtaped nr mrowMany mroundOf mroundFrom nm mfromHour mtoHour ns mfrom mto msort misFault mdeep mcoded mlines nl nc nF np ntr nb mbestCost nso nsi nit nsh nsf nss nrc mtraced mdealer mnumber mwhose msize misParted fnw := by
  refine MP.start (by decide +kernel) (Nat.le_of_ble_eq_true rfl) ?_
  intro p e s m below meth c ls hC hK hP hD hl
  refine absQ (fun Q0 hQ0 => ?_)
  have hl : lv_has ls 3 [(0, .ref h0), (1, .int x1), (2, .int x2)] := hl
  refine Kan8 hC (fun hx hb hr hml hB hown hlocks hnm => ?_)
  refine lv_aload_n hx hb gX12_personOf_0.1 rfl (lv_at0 hl) ?_
  refine lv_iload_n hx hb gX12_personOf_0.2.1 rfl (lv_at1 hl) ?_
  refine lv_iconst (v := 4) hx hb gX12_personOf_0.2.2.1 (by decide) ?_
  refine pV hC hK hl hP hD (m_is l G kp h0 x1 4 nw nk mhasKept nt mtaped nr mrowMany mroundOf mroundFrom 0 nm mfromHour mtoHour ns mfrom mto msort misFault mdeep mcoded mlines nl nc nF np ntr nb mbestCost nso nsi nit nsh nsf nss nrc mtraced mdealer mnumber mwhose msize misParted fnw (by omega) (ekp) (by omega)) si_X12_120 [0, 1] sm_0_1 fm_0_1 nd_0_1 rfl rfl rfl rfl rfl (Nat.le_of_ble_eq_true rfl) rm_6_2_3 ⟨by first | exact Nat.le_of_ble_eq_true rfl | exact Nat.zero_le _, by first | exact Nat.le_of_ble_eq_true rfl | exact Nat.zero_le _⟩ gX12_personOf_0.2.2.2.1 (Kors (Keqa fun a5967 => ?_) (Keqa fun a5967 => ?_))
  · refine lv_if_eq (tgt := 18) hx hb gX12_personOf_0.2.2.2.2.1 (by decide) (fun c9 => absurd c9 (by decide)) (fun _ => ?_)
    refine lv_iload_n hx hb gX12_personOf_0.2.2.2.2.2.1 rfl (lv_at2 hl) ?_
    refine lv_iconst (v := 0) hx hb gX12_personOf_0.2.2.2.2.2.2.1 (by decide) ?_
    refine lv_iconst (v := 4) hx hb gX12_personOf_0.2.2.2.2.2.2.2.1 (by decide) ?_
    refine pS hC hK hl (m_within l G x2 0 4) si_X12_84 rfl rfl (Nat.le_of_ble_eq_true rfl) rm_6_1_3 ⟨by first | exact Nat.le_of_ble_eq_true rfl | exact Nat.zero_le _, by first | exact Nat.le_of_ble_eq_true rfl | exact Nat.zero_le _⟩ gX12_personOf_0.2.2.2.2.2.2.2.2.1 (Kors (Keqa fun a5969 => ?_) (Keqa fun a5969 => ?_))
    · refine lv_if_ne (tgt := 20) hx hb gX12_personOf_0.2.2.2.2.2.2.2.2.2 (by decide) (fun _ => ?_) (fun c9 => absurd c9 (by decide))
      obtain ⟨je, hje, rfl⟩ := Hs_nat (by omega) a5967
      obtain ⟨jw, hjw, rfl⟩ := Wi_nat (N := 4) (by decide) a5969
      rcases (show jw = 0 ∨ jw = 1 ∨ jw = 2 ∨ jw = 3 ∨ jw = 4 by omega) with rfl | rfl | rfl | rfl | rfl
      · refine lv_iload_n hx hb gX12_personOf_1.2.2.1 rfl (lv_at2 hl) ?_
        refine lv_iconst (v := 2) hx hb gX12_personOf_1.2.2.2.1 (by decide) ?_
        refine lv_icmp_ge (tgt := 41) hx hb gX12_personOf_1.2.2.2.2.1 (by decide) (fun c9 => absurd c9 (by decide)) (fun _ => ?_)
        refine lv_aload_n hx hb gX12_personOf_1.2.2.2.2.2.1 rfl (lv_at0 hl) ?_
        refine gf_X12_9 hC rfl hK hP 0 rfl rfl gX12_personOf_1.2.2.2.2.2.2.1 ?_
        refine lv_bipush (v := 12) hx hb gX12_personOf_1.2.2.2.2.2.2.2.1 (by decide) ?_
        refine lv_iconst (v := 2) hx hb gX12_personOf_1.2.2.2.2.2.2.2.2.1 (by decide) ?_
        refine lv_iload_n hx hb gX12_personOf_1.2.2.2.2.2.2.2.2.2 rfl (lv_at1 hl) ?_
        refine lv_imul hx hb gX12_personOf_2.1 ?_
        refine eqi (x1 := nI (2 * je)) (nI_mul 2 je) ?_
        refine lv_iadd hx hb gX12_personOf_2.2.1 ?_
        refine eqi (x1 := nI (12 + 2 * je)) (nI_add 12 (2 * je)) ?_
        refine lv_iload_n hx hb gX12_personOf_2.2.2.1 rfl (lv_at2 hl) ?_
        refine lv_iadd hx hb gX12_personOf_2.2.2.2.1 ?_
        refine eqi (x1 := nI (12 + 2 * je + 0)) (nI_add (12 + 2 * je) 0) ?_
        refine aldN hC hK hP 1 rfl (k := (12 + 2 * je + 0)) (by omega) (Nat.le_of_ble_eq_true rfl) (v := fnw (12 + 2 * je + 0)) rfl gX12_personOf_2.2.2.2.2.1 ?_
        refine lv_goto (tgt := 69) hx hb gX12_personOf_2.2.2.2.2.2.1 (by decide) ?_
        refine toQ hQ0 ?_
        exact RP (v := fnw (12 + 2 * je + 0)) hC ((by rw [show fnw (12 + 2 * je + 0) = shf fnw 12 (je * 2 + 0) from congrArg fnw (by omega)]; first | rfl | (simp only [nI_clamp (n := je) (by omega), ifc_t ekp, ifc_t hkp, ifc_t ekq, ifc_t hkq, ifc_t ek8, ifc_t hk8, ifc_t hN, ifc_t a5967, ifc_t a5969, ifc_t (q := nI 0 = 0) rfl, ifc_f (q := nI 0 = 1) (by decide), ifc_f (q := nI 0 = 2) (by decide), ifc_f (q := nI 0 = 3) (by decide), ifc_f (q := nI 0 = 4) (by decide), ifc_f (q := nI 0 = 5) (by decide), ifc_f (q := nI 0 = 6) (by decide)]; done) | (simp only [nI_clamp (n := je) (by omega), ifc_t ekp, ifc_t hkp, ifc_t ekq, ifc_t hkq, ifc_t ek8, ifc_t hk8, ifc_t hN, ifc_t a5967, ifc_t a5969, ifc_t (q := nI 0 = 0) rfl, ifc_f (q := nI 0 = 1) (by decide), ifc_f (q := nI 0 = 2) (by decide), ifc_f (q := nI 0 = 3) (by decide), ifc_f (q := nI 0 = 4) (by decide), ifc_f (q := nI 0 = 5) (by decide), ifc_f (q := nI 0 = 6) (by decide)]; rfl))) rfl gX12_personOf_4.2.2
      · refine lv_iload_n hx hb gX12_personOf_1.2.2.1 rfl (lv_at2 hl) ?_
        refine lv_iconst (v := 2) hx hb gX12_personOf_1.2.2.2.1 (by decide) ?_
        refine lv_icmp_ge (tgt := 41) hx hb gX12_personOf_1.2.2.2.2.1 (by decide) (fun c9 => absurd c9 (by decide)) (fun _ => ?_)
        refine lv_aload_n hx hb gX12_personOf_1.2.2.2.2.2.1 rfl (lv_at0 hl) ?_
        refine gf_X12_9 hC rfl hK hP 0 rfl rfl gX12_personOf_1.2.2.2.2.2.2.1 ?_
        refine lv_bipush (v := 12) hx hb gX12_personOf_1.2.2.2.2.2.2.2.1 (by decide) ?_
        refine lv_iconst (v := 2) hx hb gX12_personOf_1.2.2.2.2.2.2.2.2.1 (by decide) ?_
        refine lv_iload_n hx hb gX12_personOf_1.2.2.2.2.2.2.2.2.2 rfl (lv_at1 hl) ?_
        refine lv_imul hx hb gX12_personOf_2.1 ?_
        refine eqi (x1 := nI (2 * je)) (nI_mul 2 je) ?_
        refine lv_iadd hx hb gX12_personOf_2.2.1 ?_
        refine eqi (x1 := nI (12 + 2 * je)) (nI_add 12 (2 * je)) ?_
        refine lv_iload_n hx hb gX12_personOf_2.2.2.1 rfl (lv_at2 hl) ?_
        refine lv_iadd hx hb gX12_personOf_2.2.2.2.1 ?_
        refine eqi (x1 := nI (12 + 2 * je + 1)) (nI_add (12 + 2 * je) 1) ?_
        refine aldN hC hK hP 1 rfl (k := (12 + 2 * je + 1)) (by omega) (Nat.le_of_ble_eq_true rfl) (v := fnw (12 + 2 * je + 1)) rfl gX12_personOf_2.2.2.2.2.1 ?_
        refine lv_goto (tgt := 69) hx hb gX12_personOf_2.2.2.2.2.2.1 (by decide) ?_
        refine toQ hQ0 ?_
        exact RP (v := fnw (12 + 2 * je + 1)) hC ((by rw [show fnw (12 + 2 * je + 1) = shf fnw 12 (je * 2 + 1) from congrArg fnw (by omega)]; first | rfl | (simp only [nI_clamp (n := je) (by omega), ifc_t ekp, ifc_t hkp, ifc_t ekq, ifc_t hkq, ifc_t ek8, ifc_t hk8, ifc_t hN, ifc_t a5967, ifc_t a5969, ifc_f (q := nI 1 = 0) (by decide), ifc_t (q := nI 1 = 1) rfl, ifc_f (q := nI 1 = 2) (by decide), ifc_f (q := nI 1 = 3) (by decide), ifc_f (q := nI 1 = 4) (by decide), ifc_f (q := nI 1 = 5) (by decide), ifc_f (q := nI 1 = 6) (by decide)]; done) | (simp only [nI_clamp (n := je) (by omega), ifc_t ekp, ifc_t hkp, ifc_t ekq, ifc_t hkq, ifc_t ek8, ifc_t hk8, ifc_t hN, ifc_t a5967, ifc_t a5969, ifc_f (q := nI 1 = 0) (by decide), ifc_t (q := nI 1 = 1) rfl, ifc_f (q := nI 1 = 2) (by decide), ifc_f (q := nI 1 = 3) (by decide), ifc_f (q := nI 1 = 4) (by decide), ifc_f (q := nI 1 = 5) (by decide), ifc_f (q := nI 1 = 6) (by decide)]; rfl))) rfl gX12_personOf_4.2.2
      · refine lv_iload_n hx hb gX12_personOf_1.2.2.1 rfl (lv_at2 hl) ?_
        refine lv_iconst (v := 2) hx hb gX12_personOf_1.2.2.2.1 (by decide) ?_
        refine lv_icmp_ge (tgt := 41) hx hb gX12_personOf_1.2.2.2.2.1 (by decide) (fun _ => ?_) (fun c9 => absurd (by decide) c9)
        refine lv_iload_n hx hb gX12_personOf_2.2.2.2.2.2.2.1 rfl (lv_at2 hl) ?_
        refine lv_iconst (v := 4) hx hb gX12_personOf_2.2.2.2.2.2.2.2.1 (by decide) ?_
        refine lv_icmp_ge (tgt := 64) hx hb gX12_personOf_2.2.2.2.2.2.2.2.2.1 (by decide) (fun c9 => absurd c9 (by decide)) (fun _ => ?_)
        refine lv_aload_n hx hb gX12_personOf_2.2.2.2.2.2.2.2.2.2 rfl (lv_at0 hl) ?_
        refine lv_iload_n hx hb gX12_personOf_3.1 rfl (lv_at1 hl) ?_
        refine lv_iload_n hx hb gX12_personOf_3.2.1 rfl (lv_at2 hl) ?_
        refine lv_iconst (v := 3) hx hb gX12_personOf_3.2.2.1 (by decide) ?_
        refine lv_icmp_ne (tgt := 57) hx hb gX12_personOf_3.2.2.2.1 (by decide) (fun _ => ?_) (fun c9 => absurd c9 (by decide))
        refine lv_iconst (v := 0) hx hb gX12_personOf_3.2.2.2.2.2.2.1 (by decide) ?_
        refine pV hC hK hl hP hD (m_papersToX l G kq h0 je nw nk mhasKept nt mtaped nr mrowMany mroundOf mroundFrom nm mfromHour mtoHour ns mfrom mto msort misFault mdeep mcoded mlines nl nc nF np ntr nb mbestCost nso nsi nit nsh nsf nss nrc mtraced mdealer mnumber mwhose msize misParted fnw (ekq) (hkq) (by omega)) si_X12_123 [0, 1] sm_0_1 fm_0_1 nd_0_1 rfl rfl rfl rfl rfl (Nat.le_of_ble_eq_true rfl) rm_6_4_5 ⟨by first | exact Nat.le_of_ble_eq_true rfl | exact Nat.zero_le _, by first | exact Nat.le_of_ble_eq_true rfl | exact Nat.zero_le _⟩ gX12_personOf_3.2.2.2.2.2.2.2.1 (Keqr ?_)
        refine lv_goto (tgt := 69) hx hb gX12_personOf_3.2.2.2.2.2.2.2.2.1 (by decide) ?_
        refine toQ hQ0 ?_
        exact RP (v := (CNT (fun p9 => SEE (shf fnw 32) (fnw 0) (fnw 1) (fnw 2) p9 ∧ HB (shf fnw 32 (p9 * 6 + 1)) (nI je)) kq)) hC ((by first | rfl | (simp only [nI_clamp (n := je) (by omega), ifc_t ekp, ifc_t hkp, ifc_t ekq, ifc_t hkq, ifc_t ek8, ifc_t hk8, ifc_t hN, ifc_t a5967, ifc_t a5969, ifc_f (q := nI 2 = 0) (by decide), ifc_f (q := nI 2 = 1) (by decide), ifc_t (q := nI 2 = 2) rfl, ifc_f (q := nI 2 = 3) (by decide), ifc_f (q := nI 2 = 4) (by decide), ifc_f (q := nI 2 = 5) (by decide), ifc_f (q := nI 2 = 6) (by decide)]; done) | (simp only [nI_clamp (n := je) (by omega), ifc_t ekp, ifc_t hkp, ifc_t ekq, ifc_t hkq, ifc_t ek8, ifc_t hk8, ifc_t hN, ifc_t a5967, ifc_t a5969, ifc_f (q := nI 2 = 0) (by decide), ifc_f (q := nI 2 = 1) (by decide), ifc_t (q := nI 2 = 2) rfl, ifc_f (q := nI 2 = 3) (by decide), ifc_f (q := nI 2 = 4) (by decide), ifc_f (q := nI 2 = 5) (by decide), ifc_f (q := nI 2 = 6) (by decide)]; rfl))) rfl gX12_personOf_4.2.2
      · refine lv_iload_n hx hb gX12_personOf_1.2.2.1 rfl (lv_at2 hl) ?_
        refine lv_iconst (v := 2) hx hb gX12_personOf_1.2.2.2.1 (by decide) ?_
        refine lv_icmp_ge (tgt := 41) hx hb gX12_personOf_1.2.2.2.2.1 (by decide) (fun _ => ?_) (fun c9 => absurd (by decide) c9)
        refine lv_iload_n hx hb gX12_personOf_2.2.2.2.2.2.2.1 rfl (lv_at2 hl) ?_
        refine lv_iconst (v := 4) hx hb gX12_personOf_2.2.2.2.2.2.2.2.1 (by decide) ?_
        refine lv_icmp_ge (tgt := 64) hx hb gX12_personOf_2.2.2.2.2.2.2.2.2.1 (by decide) (fun c9 => absurd c9 (by decide)) (fun _ => ?_)
        refine lv_aload_n hx hb gX12_personOf_2.2.2.2.2.2.2.2.2.2 rfl (lv_at0 hl) ?_
        refine lv_iload_n hx hb gX12_personOf_3.1 rfl (lv_at1 hl) ?_
        refine lv_iload_n hx hb gX12_personOf_3.2.1 rfl (lv_at2 hl) ?_
        refine lv_iconst (v := 3) hx hb gX12_personOf_3.2.2.1 (by decide) ?_
        refine lv_icmp_ne (tgt := 57) hx hb gX12_personOf_3.2.2.2.1 (by decide) (fun c9 => absurd (by decide) c9) (fun _ => ?_)
        refine lv_iconst (v := 1) hx hb gX12_personOf_3.2.2.2.2.1 (by decide) ?_
        refine lv_goto (tgt := 58) hx hb gX12_personOf_3.2.2.2.2.2.1 (by decide) ?_
        refine pV hC hK hl hP hD (m_papersByX l G kq h0 je nw nk mhasKept nt mtaped nr mrowMany mroundOf mroundFrom nm mfromHour mtoHour ns mfrom mto msort misFault mdeep mcoded mlines nl nc nF np ntr nb mbestCost nso nsi nit nsh nsf nss nrc mtraced mdealer mnumber mwhose msize misParted fnw (ekq) (hkq) (by omega)) si_X12_123 [0, 1] sm_0_1 fm_0_1 nd_0_1 rfl rfl rfl rfl rfl (Nat.le_of_ble_eq_true rfl) rm_6_4_5 ⟨by first | exact Nat.le_of_ble_eq_true rfl | exact Nat.zero_le _, by first | exact Nat.le_of_ble_eq_true rfl | exact Nat.zero_le _⟩ gX12_personOf_3.2.2.2.2.2.2.2.1 (Keqr ?_)
        refine lv_goto (tgt := 69) hx hb gX12_personOf_3.2.2.2.2.2.2.2.2.1 (by decide) ?_
        refine toQ hQ0 ?_
        exact RP (v := (CNT (fun p9 => SEE (shf fnw 32) (fnw 0) (fnw 1) (fnw 2) p9 ∧ shf fnw 32 (p9 * 6 + 0) = (nI je)) kq)) hC ((by first | rfl | (simp only [nI_clamp (n := je) (by omega), ifc_t ekp, ifc_t hkp, ifc_t ekq, ifc_t hkq, ifc_t ek8, ifc_t hk8, ifc_t hN, ifc_t a5967, ifc_t a5969, ifc_f (q := nI 3 = 0) (by decide), ifc_f (q := nI 3 = 1) (by decide), ifc_f (q := nI 3 = 2) (by decide), ifc_t (q := nI 3 = 3) rfl, ifc_f (q := nI 3 = 4) (by decide), ifc_f (q := nI 3 = 5) (by decide), ifc_f (q := nI 3 = 6) (by decide)]; done) | (simp only [nI_clamp (n := je) (by omega), ifc_t ekp, ifc_t hkp, ifc_t ekq, ifc_t hkq, ifc_t ek8, ifc_t hk8, ifc_t hN, ifc_t a5967, ifc_t a5969, ifc_f (q := nI 3 = 0) (by decide), ifc_f (q := nI 3 = 1) (by decide), ifc_f (q := nI 3 = 2) (by decide), ifc_t (q := nI 3 = 3) rfl, ifc_f (q := nI 3 = 4) (by decide), ifc_f (q := nI 3 = 5) (by decide), ifc_f (q := nI 3 = 6) (by decide)]; rfl))) rfl gX12_personOf_4.2.2
      · refine lv_iload_n hx hb gX12_personOf_1.2.2.1 rfl (lv_at2 hl) ?_
        refine lv_iconst (v := 2) hx hb gX12_personOf_1.2.2.2.1 (by decide) ?_
        refine lv_icmp_ge (tgt := 41) hx hb gX12_personOf_1.2.2.2.2.1 (by decide) (fun _ => ?_) (fun c9 => absurd (by decide) c9)
        refine lv_iload_n hx hb gX12_personOf_2.2.2.2.2.2.2.1 rfl (lv_at2 hl) ?_
        refine lv_iconst (v := 4) hx hb gX12_personOf_2.2.2.2.2.2.2.2.1 (by decide) ?_
        refine lv_icmp_ge (tgt := 64) hx hb gX12_personOf_2.2.2.2.2.2.2.2.2.1 (by decide) (fun _ => ?_) (fun c9 => absurd (by decide) c9)
        refine lv_aload_n hx hb gX12_personOf_3.2.2.2.2.2.2.2.2.2 rfl (lv_at0 hl) ?_
        refine lv_iload_n hx hb gX12_personOf_4.1 rfl (lv_at1 hl) ?_
        refine pV hC hK hl hP hD (m_saidByX l G k8 h0 je nw nk mhasKept nt mtaped nr mrowMany mroundOf mroundFrom nm mfromHour mtoHour ns mfrom mto msort misFault mdeep mcoded mlines nl nc nF np ntr nb mbestCost nso nsi nit nsh nsf nss nrc mtraced mdealer mnumber mwhose msize misParted fnw (ek8) (hk8) (by omega) (hN)) si_X12_127 [0, 1] sm_0_1 fm_0_1 nd_0_1 rfl rfl rfl rfl rfl (Nat.le_of_ble_eq_true rfl) rm_6_5_4 ⟨by first | exact Nat.le_of_ble_eq_true rfl | exact Nat.zero_le _, by first | exact Nat.le_of_ble_eq_true rfl | exact Nat.zero_le _⟩ gX12_personOf_4.2.1 (Keqr ?_)
        refine toQ hQ0 ?_
        exact RP (v := (CNT (fun s9 => shf fnw 1424 (s9 * 8 + 0) = (nI je) ∧ CSQ (shf fnw 1424) (shf fnw 32) (fnw 0) (fnw 1) (fnw 2) s9) k8)) hC ((by first | rfl | (simp only [nI_clamp (n := je) (by omega), ifc_t ekp, ifc_t hkp, ifc_t ekq, ifc_t hkq, ifc_t ek8, ifc_t hk8, ifc_t hN, ifc_t a5967, ifc_t a5969, ifc_f (q := nI 4 = 0) (by decide), ifc_f (q := nI 4 = 1) (by decide), ifc_f (q := nI 4 = 2) (by decide), ifc_f (q := nI 4 = 3) (by decide), ifc_t (q := nI 4 = 4) rfl, ifc_f (q := nI 4 = 5) (by decide), ifc_f (q := nI 4 = 6) (by decide)]; done) | (simp only [nI_clamp (n := je) (by omega), ifc_t ekp, ifc_t hkp, ifc_t ekq, ifc_t hkq, ifc_t ek8, ifc_t hk8, ifc_t hN, ifc_t a5967, ifc_t a5969, ifc_f (q := nI 4 = 0) (by decide), ifc_f (q := nI 4 = 1) (by decide), ifc_f (q := nI 4 = 2) (by decide), ifc_f (q := nI 4 = 3) (by decide), ifc_t (q := nI 4 = 4) rfl, ifc_f (q := nI 4 = 5) (by decide), ifc_f (q := nI 4 = 6) (by decide)]; rfl))) rfl gX12_personOf_4.2.2
    · refine lv_if_ne (tgt := 20) hx hb gX12_personOf_0.2.2.2.2.2.2.2.2.2 (by decide) (fun c9 => absurd (by decide) c9) (fun _ => ?_)
      refine lv_iconst (v := (-1)) hx hb gX12_personOf_1.1 (by decide) ?_
      refine toQ hQ0 ?_
      exact RP (v := (-1)) hC ((by first | rfl | (simp only [ifc_t ekp, ifc_t hkp, ifc_t ekq, ifc_t hkq, ifc_t ek8, ifc_t hk8, ifc_t hN, ifc_t a5967, ifc_f a5969, ifc_f (q := x2 = 0) (fun h9 => a5969 (by rw [h9]; unfold Wi; decide)), ifc_f (q := x2 = 1) (fun h9 => a5969 (by rw [h9]; unfold Wi; decide)), ifc_f (q := x2 = 2) (fun h9 => a5969 (by rw [h9]; unfold Wi; decide)), ifc_f (q := x2 = 3) (fun h9 => a5969 (by rw [h9]; unfold Wi; decide)), ifc_f (q := x2 = 4) (fun h9 => a5969 (by rw [h9]; unfold Wi; decide))]; done) | (simp only [ifc_t ekp, ifc_t hkp, ifc_t ekq, ifc_t hkq, ifc_t ek8, ifc_t hk8, ifc_t hN, ifc_t a5967, ifc_f a5969, ifc_f (q := x2 = 0) (fun h9 => a5969 (by rw [h9]; unfold Wi; decide)), ifc_f (q := x2 = 1) (fun h9 => a5969 (by rw [h9]; unfold Wi; decide)), ifc_f (q := x2 = 2) (fun h9 => a5969 (by rw [h9]; unfold Wi; decide)), ifc_f (q := x2 = 3) (fun h9 => a5969 (by rw [h9]; unfold Wi; decide)), ifc_f (q := x2 = 4) (fun h9 => a5969 (by rw [h9]; unfold Wi; decide))]; rfl))) rfl gX12_personOf_1.2.1
  · refine lv_if_eq (tgt := 18) hx hb gX12_personOf_0.2.2.2.2.1 (by decide) (fun _ => ?_) (fun c9 => absurd (by decide) c9)
    refine lv_iconst (v := (-1)) hx hb gX12_personOf_1.1 (by decide) ?_
    refine toQ hQ0 ?_
    exact RP (v := (-1)) hC ((by first | rfl | (simp only [ifc_t ekp, ifc_t hkp, ifc_t ekq, ifc_t hkq, ifc_t ek8, ifc_t hk8, ifc_t hN, ifc_f a5967]; done) | (simp only [ifc_t ekp, ifc_t hkp, ifc_t ekq, ifc_t hkq, ifc_t ek8, ifc_t hk8, ifc_t hN, ifc_f a5967]; rfl))) rfl gX12_personOf_1.2.1
def K_r_paperOf (l : Launch) (G : GG) (kq : Nat) (k6 : Nat) (h0 : Nat) (x1 : Int32) (x2 : Int32) (nw : Nat) (nk : Nat) (mhasKept : Int32) (nt : Nat) (mtaped : Int32) (nr : Nat) (mrowMany : Int32) (mroundOf : Int32) (mroundFrom : Int32) (nm : Nat) (mfromHour : Int32) (mtoHour : Int32) (ns : Nat) (mfrom : Int32) (mto : Int32) (msort : Int32) (misFault : Int32) (mdeep : Int32) (mcoded : Int32) (mlines : Int32) (nl : Nat) (nc : Nat) (nF : Nat) (np : Nat) (ntr : Nat) (nb : Nat) (mbestCost : Int32) (nso : Nat) (nsi : Nat) (nit : Nat) (nsh : Nat) (nsf : Nat) (nss : Nat) (nrc : Nat) (mtraced : Int32) (mdealer : Int32) (mnumber : Int32) (mwhose : Int32) (msize : Int32) (misParted : Int32) (fnw : Nat → Int32) : Prop := MP l G yX12_paperOf cX12_paperOf 3 (some .int) 3 [.ref h0, .int x1, .int x2] [(h0, oX12 nw nk mhasKept nt mtaped nr mrowMany mroundOf mroundFrom 0 nm mfromHour mtoHour ns mfrom mto msort misFault mdeep mcoded mlines nl nc nF np ntr nb mbestCost nso nsi nit nsh nsf nss nrc mtraced mdealer mnumber mwhose msize misParted), (nw, iA G 1662 fnw)] (fun r : Int32 => r = ifc (Hs x1 kq) (ifc (x2 = 0) ((shf fnw 32) (x1.toNatClampNeg * 6 + 0)) (ifc (x2 = 1) ((shf fnw 32) (x1.toNatClampNeg * 6 + 1)) (ifc (x2 = 2) ((shf fnw 32) (x1.toNatClampNeg * 6 + 2)) (ifc (x2 = 3) ((shf fnw 32) (x1.toNatClampNeg * 6 + 3)) (ifc (x2 = 4) ((shf fnw 32) (x1.toNatClampNeg * 6 + 4)) (ifc (x2 = 5) (CNT (fun s9 => (shf fnw 104) (s9 * 3 + 0) = x1) k6) (ifc (x2 = 6) (ifc (SEE (shf fnw 32) (fnw 0) (fnw 1) (fnw 2) x1.toNatClampNeg) 1 0) ((-1))))))))) (-1))
set_option maxHeartbeats 4000000 in
set_option maxRecDepth 100000 in
theorem r_paperOf (l : Launch) (G : GG) (kq : Nat) (k6 : Nat) (h0 : Nat) (x1 : Int32) (x2 : Int32) (nw : Nat) (nk : Nat) (mhasKept : Int32) (nt : Nat) (mtaped : Int32) (nr : Nat) (mrowMany : Int32) (mroundOf : Int32) (mroundFrom : Int32) (nm : Nat) (mfromHour : Int32) (mtoHour : Int32) (ns : Nat) (mfrom : Int32) (mto : Int32) (msort : Int32) (misFault : Int32) (mdeep : Int32) (mcoded : Int32) (mlines : Int32) (nl : Nat) (nc : Nat) (nF : Nat) (np : Nat) (ntr : Nat) (nb : Nat) (mbestCost : Int32) (nso : Nat) (nsi : Nat) (nit : Nat) (nsh : Nat) (nsf : Nat) (nss : Nat) (nrc : Nat) (mtraced : Int32) (mdealer : Int32) (mnumber : Int32) (mwhose : Int32) (msize : Int32) (misParted : Int32) (fnw : Nat → Int32) (ekq : fnw 5 = nI kq) (hkq : kq ≤ 12) (ek6 : fnw 6 = nI k6) (hk6 : k6 ≤ 24) (hN : NI fnw) : K_r_paperOf l G kq k6 h0 x1 x2 nw nk mhasKept nt mtaped nr mrowMany mroundOf mroundFrom nm mfromHour mtoHour ns mfrom mto msort misFault mdeep mcoded mlines nl nc nF np ntr nb mbestCost nso nsi nit nsh nsf nss nrc mtraced mdealer mnumber mwhose msize misParted fnw := by
  refine MP.start (by decide +kernel) (Nat.le_of_ble_eq_true rfl) ?_
  intro p e s m below meth c ls hC hK hP hD hl
  refine absQ (fun Q0 hQ0 => ?_)
  have hl : lv_has ls 3 [(0, .ref h0), (1, .int x1), (2, .int x2)] := hl
  refine Kan8 hC (fun hx hb hr hml hB hown hlocks hnm => ?_)
  refine lv_aload_n hx hb gX12_paperOf_0.1 rfl (lv_at0 hl) ?_
  refine lv_iload_n hx hb gX12_paperOf_0.2.1 rfl (lv_at1 hl) ?_
  refine lv_iconst (v := 5) hx hb gX12_paperOf_0.2.2.1 (by decide) ?_
  refine pV hC hK hl hP hD (m_is l G kq h0 x1 5 nw nk mhasKept nt mtaped nr mrowMany mroundOf mroundFrom 0 nm mfromHour mtoHour ns mfrom mto msort misFault mdeep mcoded mlines nl nc nF np ntr nb mbestCost nso nsi nit nsh nsf nss nrc mtraced mdealer mnumber mwhose msize misParted fnw (by omega) (ekq) (by omega)) si_X12_120 [0, 1] sm_0_1 fm_0_1 nd_0_1 rfl rfl rfl rfl rfl (Nat.le_of_ble_eq_true rfl) rm_3_2_3 ⟨by first | exact Nat.le_of_ble_eq_true rfl | exact Nat.zero_le _, by first | exact Nat.le_of_ble_eq_true rfl | exact Nat.zero_le _⟩ gX12_paperOf_0.2.2.2.1 (Kors (Keqa fun a5977 => ?_) (Keqa fun a5977 => ?_))
  · refine lv_if_eq (tgt := 19) hx hb gX12_paperOf_0.2.2.2.2.1 (by decide) (fun c9 => absurd c9 (by decide)) (fun _ => ?_)
    refine lv_iload_n hx hb gX12_paperOf_0.2.2.2.2.2.1 rfl (lv_at2 hl) ?_
    refine lv_iconst (v := 0) hx hb gX12_paperOf_0.2.2.2.2.2.2.1 (by decide) ?_
    refine lv_bipush (v := 6) hx hb gX12_paperOf_0.2.2.2.2.2.2.2.1 (by decide) ?_
    refine pS hC hK hl (m_within l G x2 0 6) si_X12_84 rfl rfl (Nat.le_of_ble_eq_true rfl) rm_3_1_3 ⟨by first | exact Nat.le_of_ble_eq_true rfl | exact Nat.zero_le _, by first | exact Nat.le_of_ble_eq_true rfl | exact Nat.zero_le _⟩ gX12_paperOf_0.2.2.2.2.2.2.2.2.1 (Kors (Keqa fun a5979 => ?_) (Keqa fun a5979 => ?_))
    · refine lv_if_ne (tgt := 21) hx hb gX12_paperOf_0.2.2.2.2.2.2.2.2.2 (by decide) (fun _ => ?_) (fun c9 => absurd c9 (by decide))
      obtain ⟨jp, hjp, rfl⟩ := Hs_nat (by omega) a5977
      obtain ⟨jw, hjw, rfl⟩ := Wi_nat (N := 6) (by decide) a5979
      rcases (show jw = 0 ∨ jw = 1 ∨ jw = 2 ∨ jw = 3 ∨ jw = 4 ∨ jw = 5 ∨ jw = 6 by omega) with rfl | rfl | rfl | rfl | rfl | rfl | rfl
      · refine lv_iload_n hx hb gX12_paperOf_1.2.2.1 rfl (lv_at2 hl) ?_
        refine lv_iconst (v := 5) hx hb gX12_paperOf_1.2.2.2.1 (by decide) ?_
        refine lv_icmp_ge (tgt := 35) hx hb gX12_paperOf_1.2.2.2.2.1 (by decide) (fun c9 => absurd c9 (by decide)) (fun _ => ?_)
        refine lv_aload_n hx hb gX12_paperOf_1.2.2.2.2.2.1 rfl (lv_at0 hl) ?_
        refine lv_iload_n hx hb gX12_paperOf_1.2.2.2.2.2.2.1 rfl (lv_at1 hl) ?_
        refine lv_iload_n hx hb gX12_paperOf_1.2.2.2.2.2.2.2.1 rfl (lv_at2 hl) ?_
        refine pV hC hK hl hP hD (m_paper l G h0 jp 0 nw nk mhasKept nt mtaped nr mrowMany mroundOf mroundFrom 0 nm mfromHour mtoHour ns mfrom mto msort misFault mdeep mcoded mlines nl nc nF np ntr nb mbestCost nso nsi nit nsh nsf nss nrc mtraced mdealer mnumber mwhose msize misParted fnw (by omega) (by omega)) si_X12_88 [0, 1] sm_0_1 fm_0_1 nd_0_1 rfl rfl rfl rfl rfl (Nat.le_of_ble_eq_true rfl) rm_3_1_3 ⟨by first | exact Nat.le_of_ble_eq_true rfl | exact Nat.zero_le _, by first | exact Nat.le_of_ble_eq_true rfl | exact Nat.zero_le _⟩ gX12_paperOf_1.2.2.2.2.2.2.2.2.1 (Keqr ?_)
        refine lv_goto (tgt := 61) hx hb gX12_paperOf_1.2.2.2.2.2.2.2.2.2 (by decide) ?_
        refine toQ hQ0 ?_
        exact RP (v := fnw (32 + 6 * jp + 0)) hC ((by rw [show fnw (32 + 6 * jp + 0) = shf fnw 32 (jp * 6 + 0) from congrArg fnw (by omega)]; first | rfl | (simp only [nI_clamp (n := jp) (by omega), ifc_t ekq, ifc_t hkq, ifc_t ek6, ifc_t hk6, ifc_t hN, ifc_t a5977, ifc_t a5979, ifc_t (q := nI 0 = 0) rfl, ifc_f (q := nI 0 = 1) (by decide), ifc_f (q := nI 0 = 2) (by decide), ifc_f (q := nI 0 = 3) (by decide), ifc_f (q := nI 0 = 4) (by decide), ifc_f (q := nI 0 = 5) (by decide), ifc_f (q := nI 0 = 6) (by decide)]; done) | (simp only [nI_clamp (n := jp) (by omega), ifc_t ekq, ifc_t hkq, ifc_t ek6, ifc_t hk6, ifc_t hN, ifc_t a5977, ifc_t a5979, ifc_t (q := nI 0 = 0) rfl, ifc_f (q := nI 0 = 1) (by decide), ifc_f (q := nI 0 = 2) (by decide), ifc_f (q := nI 0 = 3) (by decide), ifc_f (q := nI 0 = 4) (by decide), ifc_f (q := nI 0 = 5) (by decide), ifc_f (q := nI 0 = 6) (by decide)]; rfl))) rfl gX12_paperOf_3.2.2.2.2
      · refine lv_iload_n hx hb gX12_paperOf_1.2.2.1 rfl (lv_at2 hl) ?_
        refine lv_iconst (v := 5) hx hb gX12_paperOf_1.2.2.2.1 (by decide) ?_
        refine lv_icmp_ge (tgt := 35) hx hb gX12_paperOf_1.2.2.2.2.1 (by decide) (fun c9 => absurd c9 (by decide)) (fun _ => ?_)
        refine lv_aload_n hx hb gX12_paperOf_1.2.2.2.2.2.1 rfl (lv_at0 hl) ?_
        refine lv_iload_n hx hb gX12_paperOf_1.2.2.2.2.2.2.1 rfl (lv_at1 hl) ?_
        refine lv_iload_n hx hb gX12_paperOf_1.2.2.2.2.2.2.2.1 rfl (lv_at2 hl) ?_
        refine pV hC hK hl hP hD (m_paper l G h0 jp 1 nw nk mhasKept nt mtaped nr mrowMany mroundOf mroundFrom 0 nm mfromHour mtoHour ns mfrom mto msort misFault mdeep mcoded mlines nl nc nF np ntr nb mbestCost nso nsi nit nsh nsf nss nrc mtraced mdealer mnumber mwhose msize misParted fnw (by omega) (by omega)) si_X12_88 [0, 1] sm_0_1 fm_0_1 nd_0_1 rfl rfl rfl rfl rfl (Nat.le_of_ble_eq_true rfl) rm_3_1_3 ⟨by first | exact Nat.le_of_ble_eq_true rfl | exact Nat.zero_le _, by first | exact Nat.le_of_ble_eq_true rfl | exact Nat.zero_le _⟩ gX12_paperOf_1.2.2.2.2.2.2.2.2.1 (Keqr ?_)
        refine lv_goto (tgt := 61) hx hb gX12_paperOf_1.2.2.2.2.2.2.2.2.2 (by decide) ?_
        refine toQ hQ0 ?_
        exact RP (v := fnw (32 + 6 * jp + 1)) hC ((by rw [show fnw (32 + 6 * jp + 1) = shf fnw 32 (jp * 6 + 1) from congrArg fnw (by omega)]; first | rfl | (simp only [nI_clamp (n := jp) (by omega), ifc_t ekq, ifc_t hkq, ifc_t ek6, ifc_t hk6, ifc_t hN, ifc_t a5977, ifc_t a5979, ifc_f (q := nI 1 = 0) (by decide), ifc_t (q := nI 1 = 1) rfl, ifc_f (q := nI 1 = 2) (by decide), ifc_f (q := nI 1 = 3) (by decide), ifc_f (q := nI 1 = 4) (by decide), ifc_f (q := nI 1 = 5) (by decide), ifc_f (q := nI 1 = 6) (by decide)]; done) | (simp only [nI_clamp (n := jp) (by omega), ifc_t ekq, ifc_t hkq, ifc_t ek6, ifc_t hk6, ifc_t hN, ifc_t a5977, ifc_t a5979, ifc_f (q := nI 1 = 0) (by decide), ifc_t (q := nI 1 = 1) rfl, ifc_f (q := nI 1 = 2) (by decide), ifc_f (q := nI 1 = 3) (by decide), ifc_f (q := nI 1 = 4) (by decide), ifc_f (q := nI 1 = 5) (by decide), ifc_f (q := nI 1 = 6) (by decide)]; rfl))) rfl gX12_paperOf_3.2.2.2.2
      · refine lv_iload_n hx hb gX12_paperOf_1.2.2.1 rfl (lv_at2 hl) ?_
        refine lv_iconst (v := 5) hx hb gX12_paperOf_1.2.2.2.1 (by decide) ?_
        refine lv_icmp_ge (tgt := 35) hx hb gX12_paperOf_1.2.2.2.2.1 (by decide) (fun c9 => absurd c9 (by decide)) (fun _ => ?_)
        refine lv_aload_n hx hb gX12_paperOf_1.2.2.2.2.2.1 rfl (lv_at0 hl) ?_
        refine lv_iload_n hx hb gX12_paperOf_1.2.2.2.2.2.2.1 rfl (lv_at1 hl) ?_
        refine lv_iload_n hx hb gX12_paperOf_1.2.2.2.2.2.2.2.1 rfl (lv_at2 hl) ?_
        refine pV hC hK hl hP hD (m_paper l G h0 jp 2 nw nk mhasKept nt mtaped nr mrowMany mroundOf mroundFrom 0 nm mfromHour mtoHour ns mfrom mto msort misFault mdeep mcoded mlines nl nc nF np ntr nb mbestCost nso nsi nit nsh nsf nss nrc mtraced mdealer mnumber mwhose msize misParted fnw (by omega) (by omega)) si_X12_88 [0, 1] sm_0_1 fm_0_1 nd_0_1 rfl rfl rfl rfl rfl (Nat.le_of_ble_eq_true rfl) rm_3_1_3 ⟨by first | exact Nat.le_of_ble_eq_true rfl | exact Nat.zero_le _, by first | exact Nat.le_of_ble_eq_true rfl | exact Nat.zero_le _⟩ gX12_paperOf_1.2.2.2.2.2.2.2.2.1 (Keqr ?_)
        refine lv_goto (tgt := 61) hx hb gX12_paperOf_1.2.2.2.2.2.2.2.2.2 (by decide) ?_
        refine toQ hQ0 ?_
        exact RP (v := fnw (32 + 6 * jp + 2)) hC ((by rw [show fnw (32 + 6 * jp + 2) = shf fnw 32 (jp * 6 + 2) from congrArg fnw (by omega)]; first | rfl | (simp only [nI_clamp (n := jp) (by omega), ifc_t ekq, ifc_t hkq, ifc_t ek6, ifc_t hk6, ifc_t hN, ifc_t a5977, ifc_t a5979, ifc_f (q := nI 2 = 0) (by decide), ifc_f (q := nI 2 = 1) (by decide), ifc_t (q := nI 2 = 2) rfl, ifc_f (q := nI 2 = 3) (by decide), ifc_f (q := nI 2 = 4) (by decide), ifc_f (q := nI 2 = 5) (by decide), ifc_f (q := nI 2 = 6) (by decide)]; done) | (simp only [nI_clamp (n := jp) (by omega), ifc_t ekq, ifc_t hkq, ifc_t ek6, ifc_t hk6, ifc_t hN, ifc_t a5977, ifc_t a5979, ifc_f (q := nI 2 = 0) (by decide), ifc_f (q := nI 2 = 1) (by decide), ifc_t (q := nI 2 = 2) rfl, ifc_f (q := nI 2 = 3) (by decide), ifc_f (q := nI 2 = 4) (by decide), ifc_f (q := nI 2 = 5) (by decide), ifc_f (q := nI 2 = 6) (by decide)]; rfl))) rfl gX12_paperOf_3.2.2.2.2
      · refine lv_iload_n hx hb gX12_paperOf_1.2.2.1 rfl (lv_at2 hl) ?_
        refine lv_iconst (v := 5) hx hb gX12_paperOf_1.2.2.2.1 (by decide) ?_
        refine lv_icmp_ge (tgt := 35) hx hb gX12_paperOf_1.2.2.2.2.1 (by decide) (fun c9 => absurd c9 (by decide)) (fun _ => ?_)
        refine lv_aload_n hx hb gX12_paperOf_1.2.2.2.2.2.1 rfl (lv_at0 hl) ?_
        refine lv_iload_n hx hb gX12_paperOf_1.2.2.2.2.2.2.1 rfl (lv_at1 hl) ?_
        refine lv_iload_n hx hb gX12_paperOf_1.2.2.2.2.2.2.2.1 rfl (lv_at2 hl) ?_
        refine pV hC hK hl hP hD (m_paper l G h0 jp 3 nw nk mhasKept nt mtaped nr mrowMany mroundOf mroundFrom 0 nm mfromHour mtoHour ns mfrom mto msort misFault mdeep mcoded mlines nl nc nF np ntr nb mbestCost nso nsi nit nsh nsf nss nrc mtraced mdealer mnumber mwhose msize misParted fnw (by omega) (by omega)) si_X12_88 [0, 1] sm_0_1 fm_0_1 nd_0_1 rfl rfl rfl rfl rfl (Nat.le_of_ble_eq_true rfl) rm_3_1_3 ⟨by first | exact Nat.le_of_ble_eq_true rfl | exact Nat.zero_le _, by first | exact Nat.le_of_ble_eq_true rfl | exact Nat.zero_le _⟩ gX12_paperOf_1.2.2.2.2.2.2.2.2.1 (Keqr ?_)
        refine lv_goto (tgt := 61) hx hb gX12_paperOf_1.2.2.2.2.2.2.2.2.2 (by decide) ?_
        refine toQ hQ0 ?_
        exact RP (v := fnw (32 + 6 * jp + 3)) hC ((by rw [show fnw (32 + 6 * jp + 3) = shf fnw 32 (jp * 6 + 3) from congrArg fnw (by omega)]; first | rfl | (simp only [nI_clamp (n := jp) (by omega), ifc_t ekq, ifc_t hkq, ifc_t ek6, ifc_t hk6, ifc_t hN, ifc_t a5977, ifc_t a5979, ifc_f (q := nI 3 = 0) (by decide), ifc_f (q := nI 3 = 1) (by decide), ifc_f (q := nI 3 = 2) (by decide), ifc_t (q := nI 3 = 3) rfl, ifc_f (q := nI 3 = 4) (by decide), ifc_f (q := nI 3 = 5) (by decide), ifc_f (q := nI 3 = 6) (by decide)]; done) | (simp only [nI_clamp (n := jp) (by omega), ifc_t ekq, ifc_t hkq, ifc_t ek6, ifc_t hk6, ifc_t hN, ifc_t a5977, ifc_t a5979, ifc_f (q := nI 3 = 0) (by decide), ifc_f (q := nI 3 = 1) (by decide), ifc_f (q := nI 3 = 2) (by decide), ifc_t (q := nI 3 = 3) rfl, ifc_f (q := nI 3 = 4) (by decide), ifc_f (q := nI 3 = 5) (by decide), ifc_f (q := nI 3 = 6) (by decide)]; rfl))) rfl gX12_paperOf_3.2.2.2.2
      · refine lv_iload_n hx hb gX12_paperOf_1.2.2.1 rfl (lv_at2 hl) ?_
        refine lv_iconst (v := 5) hx hb gX12_paperOf_1.2.2.2.1 (by decide) ?_
        refine lv_icmp_ge (tgt := 35) hx hb gX12_paperOf_1.2.2.2.2.1 (by decide) (fun c9 => absurd c9 (by decide)) (fun _ => ?_)
        refine lv_aload_n hx hb gX12_paperOf_1.2.2.2.2.2.1 rfl (lv_at0 hl) ?_
        refine lv_iload_n hx hb gX12_paperOf_1.2.2.2.2.2.2.1 rfl (lv_at1 hl) ?_
        refine lv_iload_n hx hb gX12_paperOf_1.2.2.2.2.2.2.2.1 rfl (lv_at2 hl) ?_
        refine pV hC hK hl hP hD (m_paper l G h0 jp 4 nw nk mhasKept nt mtaped nr mrowMany mroundOf mroundFrom 0 nm mfromHour mtoHour ns mfrom mto msort misFault mdeep mcoded mlines nl nc nF np ntr nb mbestCost nso nsi nit nsh nsf nss nrc mtraced mdealer mnumber mwhose msize misParted fnw (by omega) (by omega)) si_X12_88 [0, 1] sm_0_1 fm_0_1 nd_0_1 rfl rfl rfl rfl rfl (Nat.le_of_ble_eq_true rfl) rm_3_1_3 ⟨by first | exact Nat.le_of_ble_eq_true rfl | exact Nat.zero_le _, by first | exact Nat.le_of_ble_eq_true rfl | exact Nat.zero_le _⟩ gX12_paperOf_1.2.2.2.2.2.2.2.2.1 (Keqr ?_)
        refine lv_goto (tgt := 61) hx hb gX12_paperOf_1.2.2.2.2.2.2.2.2.2 (by decide) ?_
        refine toQ hQ0 ?_
        exact RP (v := fnw (32 + 6 * jp + 4)) hC ((by rw [show fnw (32 + 6 * jp + 4) = shf fnw 32 (jp * 6 + 4) from congrArg fnw (by omega)]; first | rfl | (simp only [nI_clamp (n := jp) (by omega), ifc_t ekq, ifc_t hkq, ifc_t ek6, ifc_t hk6, ifc_t hN, ifc_t a5977, ifc_t a5979, ifc_f (q := nI 4 = 0) (by decide), ifc_f (q := nI 4 = 1) (by decide), ifc_f (q := nI 4 = 2) (by decide), ifc_f (q := nI 4 = 3) (by decide), ifc_t (q := nI 4 = 4) rfl, ifc_f (q := nI 4 = 5) (by decide), ifc_f (q := nI 4 = 6) (by decide)]; done) | (simp only [nI_clamp (n := jp) (by omega), ifc_t ekq, ifc_t hkq, ifc_t ek6, ifc_t hk6, ifc_t hN, ifc_t a5977, ifc_t a5979, ifc_f (q := nI 4 = 0) (by decide), ifc_f (q := nI 4 = 1) (by decide), ifc_f (q := nI 4 = 2) (by decide), ifc_f (q := nI 4 = 3) (by decide), ifc_t (q := nI 4 = 4) rfl, ifc_f (q := nI 4 = 5) (by decide), ifc_f (q := nI 4 = 6) (by decide)]; rfl))) rfl gX12_paperOf_3.2.2.2.2
      · refine lv_iload_n hx hb gX12_paperOf_1.2.2.1 rfl (lv_at2 hl) ?_
        refine lv_iconst (v := 5) hx hb gX12_paperOf_1.2.2.2.1 (by decide) ?_
        refine lv_icmp_ge (tgt := 35) hx hb gX12_paperOf_1.2.2.2.2.1 (by decide) (fun _ => ?_) (fun c9 => absurd (by decide) c9)
        refine lv_iload_n hx hb gX12_paperOf_2.1 rfl (lv_at2 hl) ?_
        refine lv_iconst (v := 5) hx hb gX12_paperOf_2.2.1 (by decide) ?_
        refine lv_icmp_ne (tgt := 48) hx hb gX12_paperOf_2.2.2.1 (by decide) (fun c9 => absurd (by decide) c9) (fun _ => ?_)
        refine lv_aload_n hx hb gX12_paperOf_2.2.2.2.1 rfl (lv_at0 hl) ?_
        refine lv_iload_n hx hb gX12_paperOf_2.2.2.2.2.1 rfl (lv_at1 hl) ?_
        refine pV hC hK hl hP hD (m_stampsOfX l G k6 h0 (nI jp) nw nk mhasKept nt mtaped nr mrowMany mroundOf mroundFrom 0 nm mfromHour mtoHour ns mfrom mto msort misFault mdeep mcoded mlines nl nc nF np ntr nb mbestCost nso nsi nit nsh nsf nss nrc mtraced mdealer mnumber mwhose msize misParted fnw (ek6) (hk6)) si_X12_130 [0, 1] sm_0_1 fm_0_1 nd_0_1 rfl rfl rfl rfl rfl (Nat.le_of_ble_eq_true rfl) rm_3_2_4 ⟨by first | exact Nat.le_of_ble_eq_true rfl | exact Nat.zero_le _, by first | exact Nat.le_of_ble_eq_true rfl | exact Nat.zero_le _⟩ gX12_paperOf_2.2.2.2.2.2.1 (Keqr ?_)
        refine lv_goto (tgt := 61) hx hb gX12_paperOf_2.2.2.2.2.2.2.1 (by decide) ?_
        refine toQ hQ0 ?_
        exact RP (v := (CNT (fun s9 => shf fnw 104 (s9 * 3 + 0) = (nI jp)) k6)) hC ((by first | rfl | (simp only [nI_clamp (n := jp) (by omega), ifc_t ekq, ifc_t hkq, ifc_t ek6, ifc_t hk6, ifc_t hN, ifc_t a5977, ifc_t a5979, ifc_f (q := nI 5 = 0) (by decide), ifc_f (q := nI 5 = 1) (by decide), ifc_f (q := nI 5 = 2) (by decide), ifc_f (q := nI 5 = 3) (by decide), ifc_f (q := nI 5 = 4) (by decide), ifc_t (q := nI 5 = 5) rfl, ifc_f (q := nI 5 = 6) (by decide)]; done) | (simp only [nI_clamp (n := jp) (by omega), ifc_t ekq, ifc_t hkq, ifc_t ek6, ifc_t hk6, ifc_t hN, ifc_t a5977, ifc_t a5979, ifc_f (q := nI 5 = 0) (by decide), ifc_f (q := nI 5 = 1) (by decide), ifc_f (q := nI 5 = 2) (by decide), ifc_f (q := nI 5 = 3) (by decide), ifc_f (q := nI 5 = 4) (by decide), ifc_t (q := nI 5 = 5) rfl, ifc_f (q := nI 5 = 6) (by decide)]; rfl))) rfl gX12_paperOf_3.2.2.2.2
      · refine lv_iload_n hx hb gX12_paperOf_1.2.2.1 rfl (lv_at2 hl) ?_
        refine lv_iconst (v := 5) hx hb gX12_paperOf_1.2.2.2.1 (by decide) ?_
        refine lv_icmp_ge (tgt := 35) hx hb gX12_paperOf_1.2.2.2.2.1 (by decide) (fun _ => ?_) (fun c9 => absurd (by decide) c9)
        refine lv_iload_n hx hb gX12_paperOf_2.1 rfl (lv_at2 hl) ?_
        refine lv_iconst (v := 5) hx hb gX12_paperOf_2.2.1 (by decide) ?_
        refine lv_icmp_ne (tgt := 48) hx hb gX12_paperOf_2.2.2.1 (by decide) (fun _ => ?_) (fun c9 => absurd c9 (by decide))
        refine lv_aload_n hx hb gX12_paperOf_2.2.2.2.2.2.2.2.1 rfl (lv_at0 hl) ?_
        refine lv_iload_n hx hb gX12_paperOf_2.2.2.2.2.2.2.2.2.1 rfl (lv_at1 hl) ?_
        refine pV hC hK hl hP hD (m_isInX l G h0 jp nw nk mhasKept nt mtaped nr mrowMany mroundOf mroundFrom nm mfromHour mtoHour ns mfrom mto msort misFault mdeep mcoded mlines nl nc nF np ntr nb mbestCost nso nsi nit nsh nsf nss nrc mtraced mdealer mnumber mwhose msize misParted fnw (by omega)) si_X12_103 [0, 1] sm_0_1 fm_0_1 nd_0_1 rfl rfl rfl rfl rfl (Nat.le_of_ble_eq_true rfl) rm_3_2_3 ⟨by first | exact Nat.le_of_ble_eq_true rfl | exact Nat.zero_le _, by first | exact Nat.le_of_ble_eq_true rfl | exact Nat.zero_le _⟩ gX12_paperOf_2.2.2.2.2.2.2.2.2.2 (Kors (Keqa fun a5993 => ?_) (Keqa fun a5993 => ?_))
        · refine lv_if_eq (tgt := 60) hx hb gX12_paperOf_3.1 (by decide) (fun c9 => absurd c9 (by decide)) (fun _ => ?_)
          refine lv_iconst (v := 1) hx hb gX12_paperOf_3.2.1 (by decide) ?_
          refine lv_goto (tgt := 61) hx hb gX12_paperOf_3.2.2.1 (by decide) ?_
          refine toQ hQ0 ?_
          exact RP (v := 1) hC ((by first | rfl | (simp only [nI_clamp (n := jp) (by omega), ifc_t ekq, ifc_t hkq, ifc_t ek6, ifc_t hk6, ifc_t hN, ifc_t a5977, ifc_t a5979, ifc_t a5993, ifc_f (q := nI 6 = 0) (by decide), ifc_f (q := nI 6 = 1) (by decide), ifc_f (q := nI 6 = 2) (by decide), ifc_f (q := nI 6 = 3) (by decide), ifc_f (q := nI 6 = 4) (by decide), ifc_f (q := nI 6 = 5) (by decide), ifc_t (q := nI 6 = 6) rfl]; done) | (simp only [nI_clamp (n := jp) (by omega), ifc_t ekq, ifc_t hkq, ifc_t ek6, ifc_t hk6, ifc_t hN, ifc_t a5977, ifc_t a5979, ifc_t a5993, ifc_f (q := nI 6 = 0) (by decide), ifc_f (q := nI 6 = 1) (by decide), ifc_f (q := nI 6 = 2) (by decide), ifc_f (q := nI 6 = 3) (by decide), ifc_f (q := nI 6 = 4) (by decide), ifc_f (q := nI 6 = 5) (by decide), ifc_t (q := nI 6 = 6) rfl]; rfl))) rfl gX12_paperOf_3.2.2.2.2
        · refine lv_if_eq (tgt := 60) hx hb gX12_paperOf_3.1 (by decide) (fun _ => ?_) (fun c9 => absurd (by decide) c9)
          refine lv_iconst (v := 0) hx hb gX12_paperOf_3.2.2.2.1 (by decide) ?_
          refine toQ hQ0 ?_
          exact RP (v := 0) hC ((by first | rfl | (simp only [nI_clamp (n := jp) (by omega), ifc_t ekq, ifc_t hkq, ifc_t ek6, ifc_t hk6, ifc_t hN, ifc_t a5977, ifc_t a5979, ifc_f a5993, ifc_f (q := nI 6 = 0) (by decide), ifc_f (q := nI 6 = 1) (by decide), ifc_f (q := nI 6 = 2) (by decide), ifc_f (q := nI 6 = 3) (by decide), ifc_f (q := nI 6 = 4) (by decide), ifc_f (q := nI 6 = 5) (by decide), ifc_t (q := nI 6 = 6) rfl]; done) | (simp only [nI_clamp (n := jp) (by omega), ifc_t ekq, ifc_t hkq, ifc_t ek6, ifc_t hk6, ifc_t hN, ifc_t a5977, ifc_t a5979, ifc_f a5993, ifc_f (q := nI 6 = 0) (by decide), ifc_f (q := nI 6 = 1) (by decide), ifc_f (q := nI 6 = 2) (by decide), ifc_f (q := nI 6 = 3) (by decide), ifc_f (q := nI 6 = 4) (by decide), ifc_f (q := nI 6 = 5) (by decide), ifc_t (q := nI 6 = 6) rfl]; rfl))) rfl gX12_paperOf_3.2.2.2.2
    · refine lv_if_ne (tgt := 21) hx hb gX12_paperOf_0.2.2.2.2.2.2.2.2.2 (by decide) (fun c9 => absurd (by decide) c9) (fun _ => ?_)
      refine lv_iconst (v := (-1)) hx hb gX12_paperOf_1.1 (by decide) ?_
      refine toQ hQ0 ?_
      exact RP (v := (-1)) hC ((by first | rfl | (simp only [ifc_t ekq, ifc_t hkq, ifc_t ek6, ifc_t hk6, ifc_t hN, ifc_t a5977, ifc_f a5979, ifc_f (q := x2 = 0) (fun h9 => a5979 (by rw [h9]; unfold Wi; decide)), ifc_f (q := x2 = 1) (fun h9 => a5979 (by rw [h9]; unfold Wi; decide)), ifc_f (q := x2 = 2) (fun h9 => a5979 (by rw [h9]; unfold Wi; decide)), ifc_f (q := x2 = 3) (fun h9 => a5979 (by rw [h9]; unfold Wi; decide)), ifc_f (q := x2 = 4) (fun h9 => a5979 (by rw [h9]; unfold Wi; decide)), ifc_f (q := x2 = 5) (fun h9 => a5979 (by rw [h9]; unfold Wi; decide)), ifc_f (q := x2 = 6) (fun h9 => a5979 (by rw [h9]; unfold Wi; decide))]; done) | (simp only [ifc_t ekq, ifc_t hkq, ifc_t ek6, ifc_t hk6, ifc_t hN, ifc_t a5977, ifc_f a5979, ifc_f (q := x2 = 0) (fun h9 => a5979 (by rw [h9]; unfold Wi; decide)), ifc_f (q := x2 = 1) (fun h9 => a5979 (by rw [h9]; unfold Wi; decide)), ifc_f (q := x2 = 2) (fun h9 => a5979 (by rw [h9]; unfold Wi; decide)), ifc_f (q := x2 = 3) (fun h9 => a5979 (by rw [h9]; unfold Wi; decide)), ifc_f (q := x2 = 4) (fun h9 => a5979 (by rw [h9]; unfold Wi; decide)), ifc_f (q := x2 = 5) (fun h9 => a5979 (by rw [h9]; unfold Wi; decide)), ifc_f (q := x2 = 6) (fun h9 => a5979 (by rw [h9]; unfold Wi; decide))]; rfl))) rfl gX12_paperOf_1.2.1
  · refine lv_if_eq (tgt := 19) hx hb gX12_paperOf_0.2.2.2.2.1 (by decide) (fun _ => ?_) (fun c9 => absurd (by decide) c9)
    refine lv_iconst (v := (-1)) hx hb gX12_paperOf_1.1 (by decide) ?_
    refine toQ hQ0 ?_
    exact RP (v := (-1)) hC ((by first | rfl | (simp only [ifc_t ekq, ifc_t hkq, ifc_t ek6, ifc_t hk6, ifc_t hN, ifc_f a5977]; done) | (simp only [ifc_t ekq, ifc_t hkq, ifc_t ek6, ifc_t hk6, ifc_t hN, ifc_f a5977]; rfl))) rfl gX12_paperOf_1.2.1
def K_r_line (l : Launch) (G : GG) (h0 : Nat) (x1 : Int32) (x2 : Int32) (x3 : Int32) (nw : Nat) (nk : Nat) (mhasKept : Int32) (nt : Nat) (mtaped : Int32) (nr : Nat) (mrowMany : Int32) (mroundOf : Int32) (mroundFrom : Int32) (mouts : Int32) (nm : Nat) (mfromHour : Int32) (mtoHour : Int32) (ns : Nat) (mfrom : Int32) (mto : Int32) (msort : Int32) (misFault : Int32) (mdeep : Int32) (mcoded : Int32) (mlines : Int32) (nl : Nat) (nc : Nat) (nF : Nat) (np : Nat) (ntr : Nat) (nb : Nat) (mbestCost : Int32) (nso : Nat) (nsi : Nat) (nit : Nat) (nsh : Nat) (nsf : Nat) (nss : Nat) (nrc : Nat) (mtraced : Int32) (mdealer : Int32) (mnumber : Int32) (mwhose : Int32) (msize : Int32) (misParted : Int32) (fnw : Nat → Int32) : Prop := MP l G yX12_line cX12_line 4 (some .int) 3 [.ref h0, .int x1, .int x2, .int x3] [(h0, oX12 nw nk mhasKept nt mtaped nr mrowMany mroundOf mroundFrom mouts nm mfromHour mtoHour ns mfrom mto msort misFault mdeep mcoded mlines nl nc nF np ntr nb mbestCost nso nsi nit nsh nsf nss nrc mtraced mdealer mnumber mwhose msize misParted), (nw, iA G 1662 fnw)] (fun r : Int32 => True)
set_option maxHeartbeats 4000000 in
set_option maxRecDepth 100000 in
theorem r_line (l : Launch) (G : GG) (h0 : Nat) (x1 : Int32) (x2 : Int32) (x3 : Int32) (nw : Nat) (nk : Nat) (mhasKept : Int32) (nt : Nat) (mtaped : Int32) (nr : Nat) (mrowMany : Int32) (mroundOf : Int32) (mroundFrom : Int32) (mouts : Int32) (nm : Nat) (mfromHour : Int32) (mtoHour : Int32) (ns : Nat) (mfrom : Int32) (mto : Int32) (msort : Int32) (misFault : Int32) (mdeep : Int32) (mcoded : Int32) (mlines : Int32) (nl : Nat) (nc : Nat) (nF : Nat) (np : Nat) (ntr : Nat) (nb : Nat) (mbestCost : Int32) (nso : Nat) (nsi : Nat) (nit : Nat) (nsh : Nat) (nsf : Nat) (nss : Nat) (nrc : Nat) (mtraced : Int32) (mdealer : Int32) (mnumber : Int32) (mwhose : Int32) (msize : Int32) (misParted : Int32) (fnw : Nat → Int32) (hN : NI fnw) (hV : VI fnw) : K_r_line l G h0 x1 x2 x3 nw nk mhasKept nt mtaped nr mrowMany mroundOf mroundFrom mouts nm mfromHour mtoHour ns mfrom mto msort misFault mdeep mcoded mlines nl nc nF np ntr nb mbestCost nso nsi nit nsh nsf nss nrc mtraced mdealer mnumber mwhose msize misParted fnw := by
  refine MP.start (by decide +kernel) (Nat.le_of_ble_eq_true rfl) ?_
  intro p e s m below meth c ls hC hK hP hD hl
  refine absQ (fun Q0 hQ0 => ?_)
  have hl : lv_has ls 4 [(0, .ref h0), (1, .int x1), (2, .int x2), (3, .int x3)] := hl
  refine Kan8 hC (fun hx hb hr hml hB hown hlocks hnm => ?_)
  obtain ⟨k7, hk7, ek7⟩ := NI.nat hN (i := 7) (B := 8) (by decide +kernel) (by decide)
  refine lv_aload_n hx hb gX12_line_0.1 rfl (lv_at0 hl) ?_
  refine lv_iload_n hx hb gX12_line_0.2.1 rfl (lv_at1 hl) ?_
  refine lv_bipush (v := 7) hx hb gX12_line_0.2.2.1 (by decide) ?_
  refine pV hC hK hl hP hD (m_is l G k7 h0 x1 7 nw nk mhasKept nt mtaped nr mrowMany mroundOf mroundFrom mouts nm mfromHour mtoHour ns mfrom mto msort misFault mdeep mcoded mlines nl nc nF np ntr nb mbestCost nso nsi nit nsh nsf nss nrc mtraced mdealer mnumber mwhose msize misParted fnw (by omega) (ek7) (by omega)) si_X12_120 [0, 1] sm_0_1 fm_0_1 nd_0_1 rfl rfl rfl rfl rfl (Nat.le_of_ble_eq_true rfl) rm_3_2_3 ⟨by first | exact Nat.le_of_ble_eq_true rfl | exact Nat.zero_le _, by first | exact Nat.le_of_ble_eq_true rfl | exact Nat.zero_le _⟩ gX12_line_0.2.2.2.1 (Kors (Keqa fun a5995 => ?_) (Keqa fun a5995 => ?_))
  · refine lv_if_eq (tgt := 34) hx hb gX12_line_0.2.2.2.2.1 (by decide) (fun c9 => absurd c9 (by decide)) (fun _ => ?_)
    obtain ⟨jv, hjv, rfl⟩ := Hs_nat (by omega) a5995
    obtain ⟨L9, hL9, eL9, hLN9⟩ := VI.line hV (v := jv) (by omega)
    refine lv_iload_n hx hb gX12_line_0.2.2.2.2.2.1 rfl (lv_at2 hl) ?_
    refine lv_iconst (v := 0) hx hb gX12_line_0.2.2.2.2.2.2.1 (by decide) ?_
    refine lv_aload_n hx hb gX12_line_0.2.2.2.2.2.2.2.1 rfl (lv_at0 hl) ?_
    refine lv_iload_n hx hb gX12_line_0.2.2.2.2.2.2.2.2.1 rfl (lv_at1 hl) ?_
    refine pV hC hK hl hP hD (m_lines l G L9 h0 jv nw nk mhasKept nt mtaped nr mrowMany mroundOf mroundFrom mouts nm mfromHour mtoHour ns mfrom mto msort misFault mdeep mcoded mlines nl nc nF np ntr nb mbestCost nso nsi nit nsh nsf nss nrc mtraced mdealer mnumber mwhose msize misParted fnw (by omega) (eL9)) si_X12_183 [0, 1] sm_0_1 fm_0_1 nd_0_1 rfl rfl rfl rfl rfl (Nat.le_of_ble_eq_true rfl) rm_3_1_2 ⟨by first | exact Nat.le_of_ble_eq_true rfl | exact Nat.zero_le _, by first | exact Nat.le_of_ble_eq_true rfl | exact Nat.zero_le _⟩ gX12_line_0.2.2.2.2.2.2.2.2.2 (Keqr ?_)
    refine lv_iconst (v := 1) hx hb gX12_line_1.1 (by decide) ?_
    refine lv_isub hx hb gX12_line_1.2.1 ?_
    refine pS hC hK hl (m_within l G x2 0 ((nI L9) - 1)) si_X12_84 rfl rfl (Nat.le_of_ble_eq_true rfl) rm_3_1_3 ⟨by first | exact Nat.le_of_ble_eq_true rfl | exact Nat.zero_le _, by first | exact Nat.le_of_ble_eq_true rfl | exact Nat.zero_le _⟩ gX12_line_1.2.2.1 (Kors (Keqa fun a5999 => ?_) (Keqa fun a5999 => ?_))
    · refine lv_if_eq (tgt := 34) hx hb gX12_line_1.2.2.2.1 (by decide) (fun c9 => absurd c9 (by decide)) (fun _ => ?_)
      refine lv_iload_n hx hb gX12_line_1.2.2.2.2.1 rfl (lv_at3 hl) ?_
      refine lv_iconst (v := 0) hx hb gX12_line_1.2.2.2.2.2.1 (by decide) ?_
      refine lv_iconst (v := 4) hx hb gX12_line_1.2.2.2.2.2.2.1 (by decide) ?_
      refine pS hC hK hl (m_within l G x3 0 4) si_X12_84 rfl rfl (Nat.le_of_ble_eq_true rfl) rm_3_1_3 ⟨by first | exact Nat.le_of_ble_eq_true rfl | exact Nat.zero_le _, by first | exact Nat.le_of_ble_eq_true rfl | exact Nat.zero_le _⟩ gX12_line_1.2.2.2.2.2.2.2.1 (Kors (Keqa fun a6001 => ?_) (Keqa fun a6001 => ?_))
      · refine lv_if_ne (tgt := 37) hx hb gX12_line_1.2.2.2.2.2.2.2.2.1 (by decide) (fun _ => ?_) (fun c9 => absurd c9 (by decide))
        obtain ⟨jl, hjl, rfl⟩ := Hs_nat (by omega) ((WiHs (by omega)).mp a5999)
        obtain ⟨jw, hjw, rfl⟩ := Wi_nat (N := 4) (by decide) a6001
        refine lv_iload_n hx hb gX12_line_2.2.1 rfl (lv_at3 hl) ?_
        refine lv_iconst (v := 4) hx hb gX12_line_2.2.2.1 (by decide) ?_
        refine lv_icmp_ge (tgt := 52) hx hb gX12_line_2.2.2.2.1 (by decide) (fun c_39_6002 => ?_) (fun c_39_6002 => ?_)
        · refine lv_aload_n hx hb gX12_line_3.1 rfl (lv_at0 hl) ?_
          refine lv_iload_n hx hb gX12_line_3.2.1 rfl (lv_at1 hl) ?_
          refine lv_iload_n hx hb gX12_line_3.2.2.1 rfl (lv_at2 hl) ?_
          refine lv_iconst (v := 5) hx hb gX12_line_3.2.2.2.1 (by decide) ?_
          refine pV hC hK hl hP hD (m_lineOf l G h0 jv jl 5 nw nk mhasKept nt mtaped nr mrowMany mroundOf mroundFrom mouts nm mfromHour mtoHour ns mfrom mto msort misFault mdeep mcoded mlines nl nc nF np ntr nb mbestCost nso nsi nit nsh nsf nss nrc mtraced mdealer mnumber mwhose msize misParted fnw (by omega) (by omega) (by omega)) si_X12_193 [0, 1] sm_0_1 fm_0_1 nd_0_1 rfl rfl rfl rfl rfl (Nat.le_of_ble_eq_true rfl) rm_3_1_4 ⟨by first | exact Nat.le_of_ble_eq_true rfl | exact Nat.zero_le _, by first | exact Nat.le_of_ble_eq_true rfl | exact Nat.zero_le _⟩ gX12_line_3.2.2.2.2.1 (Keqr ?_)
          refine lv_aload_n hx hb gX12_line_3.2.2.2.2.2.1 rfl (lv_at0 hl) ?_
          refine lv_iload_n hx hb gX12_line_3.2.2.2.2.2.2.1 rfl (lv_at1 hl) ?_
          refine lv_iload_n hx hb gX12_line_3.2.2.2.2.2.2.2.1 rfl (lv_at2 hl) ?_
          refine lv_iconst (v := 4) hx hb gX12_line_3.2.2.2.2.2.2.2.2.1 (by decide) ?_
          refine pV hC hK hl hP hD (m_lineOf l G h0 jv jl 4 nw nk mhasKept nt mtaped nr mrowMany mroundOf mroundFrom mouts nm mfromHour mtoHour ns mfrom mto msort misFault mdeep mcoded mlines nl nc nF np ntr nb mbestCost nso nsi nit nsh nsf nss nrc mtraced mdealer mnumber mwhose msize misParted fnw (by omega) (by omega) (by omega)) si_X12_193 [0, 1] sm_0_1 fm_0_1 nd_0_1 rfl rfl rfl rfl rfl (Nat.le_of_ble_eq_true rfl) rm_3_1_4 ⟨by first | exact Nat.le_of_ble_eq_true rfl | exact Nat.zero_le _, by first | exact Nat.le_of_ble_eq_true rfl | exact Nat.zero_le _⟩ gX12_line_3.2.2.2.2.2.2.2.2.2 (Keqr ?_)
          refine lv_icmp_le (tgt := 73) hx hb gX12_line_4.1 (by decide) (fun c_66_6007 => ?_) (fun c_66_6007 => ?_)
          · refine lv_iconst (v := 0) hx hb gX12_line_4.2.2.2.1 (by decide) ?_
            refine toQ hQ0 ?_
            exact RP (v := 0) hC (trivial) rfl gX12_line_4.2.2.2.2
          · refine lv_iconst (v := 1) hx hb gX12_line_4.2.1 (by decide) ?_
            refine lv_goto (tgt := 74) hx hb gX12_line_4.2.2.1 (by decide) ?_
            refine toQ hQ0 ?_
            exact RP (v := 1) hC (trivial) rfl gX12_line_4.2.2.2.2
        · refine lv_aload_n hx hb gX12_line_2.2.2.2.2.1 rfl (lv_at0 hl) ?_
          refine lv_iload_n hx hb gX12_line_2.2.2.2.2.2.1 rfl (lv_at1 hl) ?_
          refine lv_iload_n hx hb gX12_line_2.2.2.2.2.2.2.1 rfl (lv_at2 hl) ?_
          refine lv_iload_n hx hb gX12_line_2.2.2.2.2.2.2.2.1 rfl (lv_at3 hl) ?_
          refine pV hC hK hl hP hD (m_lineOf l G h0 jv jl jw nw nk mhasKept nt mtaped nr mrowMany mroundOf mroundFrom mouts nm mfromHour mtoHour ns mfrom mto msort misFault mdeep mcoded mlines nl nc nF np ntr nb mbestCost nso nsi nit nsh nsf nss nrc mtraced mdealer mnumber mwhose msize misParted fnw (by omega) (by omega) (by omega)) si_X12_193 [0, 1] sm_0_1 fm_0_1 nd_0_1 rfl rfl rfl rfl rfl (Nat.le_of_ble_eq_true rfl) rm_3_1_4 ⟨by first | exact Nat.le_of_ble_eq_true rfl | exact Nat.zero_le _, by first | exact Nat.le_of_ble_eq_true rfl | exact Nat.zero_le _⟩ gX12_line_2.2.2.2.2.2.2.2.2.1 (Keqr ?_)
          refine lv_goto (tgt := 74) hx hb gX12_line_2.2.2.2.2.2.2.2.2.2 (by decide) ?_
          refine toQ hQ0 ?_
          exact RP (v := fnw (176 + 156 * jv + 2 + 6 * jl + jw)) hC (trivial) rfl gX12_line_4.2.2.2.2
      · refine lv_if_ne (tgt := 37) hx hb gX12_line_1.2.2.2.2.2.2.2.2.1 (by decide) (fun c9 => absurd (by decide) c9) (fun _ => ?_)
        refine lv_bipush (v := (-9)) hx hb gX12_line_1.2.2.2.2.2.2.2.2.2 (by decide) ?_
        refine toQ hQ0 ?_
        exact RP (v := (-9)) hC (trivial) rfl gX12_line_2.1
    · refine lv_if_eq (tgt := 34) hx hb gX12_line_1.2.2.2.1 (by decide) (fun _ => ?_) (fun c9 => absurd (by decide) c9)
      refine lv_bipush (v := (-9)) hx hb gX12_line_1.2.2.2.2.2.2.2.2.2 (by decide) ?_
      refine toQ hQ0 ?_
      exact RP (v := (-9)) hC (trivial) rfl gX12_line_2.1
  · refine lv_if_eq (tgt := 34) hx hb gX12_line_0.2.2.2.2.1 (by decide) (fun _ => ?_) (fun c9 => absurd (by decide) c9)
    refine lv_bipush (v := (-9)) hx hb gX12_line_1.2.2.2.2.2.2.2.2.2 (by decide) ?_
    refine toQ hQ0 ?_
    exact RP (v := (-9)) hC (trivial) rfl gX12_line_2.1
def K_m_isAgainst (l : Launch) (G : GG) (h0 : Nat) (hh : Int32) (js : Nat) (nw : Nat) (nk : Nat) (mhasKept : Int32) (nt : Nat) (mtaped : Int32) (nr : Nat) (mrowMany : Int32) (mroundOf : Int32) (mroundFrom : Int32) (mouts : Int32) (nm : Nat) (mfromHour : Int32) (mtoHour : Int32) (ns : Nat) (mfrom : Int32) (mto : Int32) (msort : Int32) (misFault : Int32) (mdeep : Int32) (mcoded : Int32) (mlines : Int32) (nl : Nat) (nc : Nat) (nF : Nat) (np : Nat) (ntr : Nat) (nb : Nat) (mbestCost : Int32) (nso : Nat) (nsi : Nat) (nit : Nat) (nsh : Nat) (nsf : Nat) (nss : Nat) (nrc : Nat) (mtraced : Int32) (mdealer : Int32) (mnumber : Int32) (mwhose : Int32) (msize : Int32) (misParted : Int32) (fnw : Nat → Int32) : Prop := MP l G yX12_isAgainst cX12_isAgainst 3 (some .boolean) 2 [.ref h0, .int hh, .int (nI js)] [(h0, oX12 nw nk mhasKept nt mtaped nr mrowMany mroundOf mroundFrom mouts nm mfromHour mtoHour ns mfrom mto msort misFault mdeep mcoded mlines nl nc nF np ntr nb mbestCost nso nsi nit nsh nsf nss nrc mtraced mdealer mnumber mwhose msize misParted), (nw, iA G 1662 fnw)] (fun r : Int32 => r = 1 ∨ r = 0)
set_option maxHeartbeats 4000000 in
set_option maxRecDepth 100000 in
theorem m_isAgainst (l : Launch) (G : GG) (h0 : Nat) (hh : Int32) (js : Nat) (nw : Nat) (nk : Nat) (mhasKept : Int32) (nt : Nat) (mtaped : Int32) (nr : Nat) (mrowMany : Int32) (mroundOf : Int32) (mroundFrom : Int32) (mouts : Int32) (nm : Nat) (mfromHour : Int32) (mtoHour : Int32) (ns : Nat) (mfrom : Int32) (mto : Int32) (msort : Int32) (misFault : Int32) (mdeep : Int32) (mcoded : Int32) (mlines : Int32) (nl : Nat) (nc : Nat) (nF : Nat) (np : Nat) (ntr : Nat) (nb : Nat) (mbestCost : Int32) (nso : Nat) (nsi : Nat) (nit : Nat) (nsh : Nat) (nsf : Nat) (nss : Nat) (nrc : Nat) (mtraced : Int32) (mdealer : Int32) (mnumber : Int32) (mwhose : Int32) (msize : Int32) (misParted : Int32) (fnw : Nat → Int32) (hjs : js < 16) : K_m_isAgainst l G h0 hh js nw nk mhasKept nt mtaped nr mrowMany mroundOf mroundFrom mouts nm mfromHour mtoHour ns mfrom mto msort misFault mdeep mcoded mlines nl nc nF np ntr nb mbestCost nso nsi nit nsh nsf nss nrc mtraced mdealer mnumber mwhose msize misParted fnw := by
  refine MP.start (by decide +kernel) (Nat.le_of_ble_eq_true rfl) ?_
  intro p e s m below meth c ls hC hK hP hD hl
  refine absQ (fun Q0 hQ0 => ?_)
  have hl : lv_has ls 3 [(0, .ref h0), (1, .int hh), (2, .int (nI js))] := hl
  refine Kan8 hC (fun hx hb hr hml hB hown hlocks hnm => ?_)
  refine lv_aload_n hx hb gX12_isAgainst_0.1 rfl (lv_at0 hl) ?_
  refine lv_iload_n hx hb gX12_isAgainst_0.2.1 rfl (lv_at2 hl) ?_
  refine lv_iconst (v := 5) hx hb gX12_isAgainst_0.2.2.1 (by decide) ?_
  refine pV hC hK hl hP hD (m_saying l G h0 js 5 nw nk mhasKept nt mtaped nr mrowMany mroundOf mroundFrom mouts nm mfromHour mtoHour ns mfrom mto msort misFault mdeep mcoded mlines nl nc nF np ntr nb mbestCost nso nsi nit nsh nsf nss nrc mtraced mdealer mnumber mwhose msize misParted fnw (hjs) (by omega)) si_X12_114 [0, 1] sm_0_1 fm_0_1 nd_0_1 rfl rfl rfl rfl rfl (Nat.le_of_ble_eq_true rfl) rm_2_1_3 ⟨by first | exact Nat.le_of_ble_eq_true rfl | exact Nat.zero_le _, by first | exact Nat.le_of_ble_eq_true rfl | exact Nat.zero_le _⟩ gX12_isAgainst_0.2.2.2.1 (Keqr ?_)
  refine lv_iconst (v := 1) hx hb gX12_isAgainst_0.2.2.2.2.1 (by decide) ?_
  refine lv_icmp_ne (tgt := 28) hx hb gX12_isAgainst_0.2.2.2.2.2.1 (by decide) (fun c_7_6012 => ?_) (fun c_7_6012 => ?_)
  · refine lv_aload_n hx hb gX12_isAgainst_1.2.2.2.2.2.2.1 rfl (lv_at0 hl) ?_
    refine lv_iload_n hx hb gX12_isAgainst_1.2.2.2.2.2.2.2.1 rfl (lv_at2 hl) ?_
    refine lv_iconst (v := 3) hx hb gX12_isAgainst_1.2.2.2.2.2.2.2.2.1 (by decide) ?_
    refine pV hC hK hl hP hD (m_saying l G h0 js 3 nw nk mhasKept nt mtaped nr mrowMany mroundOf mroundFrom mouts nm mfromHour mtoHour ns mfrom mto msort misFault mdeep mcoded mlines nl nc nF np ntr nb mbestCost nso nsi nit nsh nsf nss nrc mtraced mdealer mnumber mwhose msize misParted fnw (hjs) (by omega)) si_X12_114 [0, 1] sm_0_1 fm_0_1 nd_0_1 rfl rfl rfl rfl rfl (Nat.le_of_ble_eq_true rfl) rm_2_1_3 ⟨by first | exact Nat.le_of_ble_eq_true rfl | exact Nat.zero_le _, by first | exact Nat.le_of_ble_eq_true rfl | exact Nat.zero_le _⟩ gX12_isAgainst_1.2.2.2.2.2.2.2.2.2 (Keqr ?_)
    refine lv_iload_n hx hb gX12_isAgainst_2.1 rfl (lv_at1 hl) ?_
    refine lv_icmp_lt (tgt := 42) hx hb gX12_isAgainst_2.2.1 (by decide) (fun c_35_6015 => ?_) (fun c_35_6015 => ?_)
    · refine lv_iconst (v := 0) hx hb gX12_isAgainst_2.2.2.2.2.1 (by decide) ?_
      refine toQ hQ0 ?_
      exact RP (v := 0) hC (Or.inr (rfl)) (by decide +kernel) gX12_isAgainst_2.2.2.2.2.2
    · refine lv_iconst (v := 1) hx hb gX12_isAgainst_2.2.2.1 (by decide) ?_
      refine lv_goto (tgt := 43) hx hb gX12_isAgainst_2.2.2.2.1 (by decide) ?_
      refine toQ hQ0 ?_
      exact RP (v := 1) hC (Or.inl (rfl)) (by decide +kernel) gX12_isAgainst_2.2.2.2.2.2
  · refine lv_aload_n hx hb gX12_isAgainst_0.2.2.2.2.2.2.1 rfl (lv_at0 hl) ?_
    refine lv_iload_n hx hb gX12_isAgainst_0.2.2.2.2.2.2.2.1 rfl (lv_at2 hl) ?_
    refine lv_iconst (v := 3) hx hb gX12_isAgainst_0.2.2.2.2.2.2.2.2.1 (by decide) ?_
    refine pV hC hK hl hP hD (m_saying l G h0 js 3 nw nk mhasKept nt mtaped nr mrowMany mroundOf mroundFrom mouts nm mfromHour mtoHour ns mfrom mto msort misFault mdeep mcoded mlines nl nc nF np ntr nb mbestCost nso nsi nit nsh nsf nss nrc mtraced mdealer mnumber mwhose msize misParted fnw (hjs) (by omega)) si_X12_114 [0, 1] sm_0_1 fm_0_1 nd_0_1 rfl rfl rfl rfl rfl (Nat.le_of_ble_eq_true rfl) rm_2_1_3 ⟨by first | exact Nat.le_of_ble_eq_true rfl | exact Nat.zero_le _, by first | exact Nat.le_of_ble_eq_true rfl | exact Nat.zero_le _⟩ gX12_isAgainst_0.2.2.2.2.2.2.2.2.2 (Keqr ?_)
    refine lv_iload_n hx hb gX12_isAgainst_1.1 rfl (lv_at1 hl) ?_
    refine lv_icmp_ge (tgt := 24) hx hb gX12_isAgainst_1.2.1 (by decide) (fun c_17_6018 => ?_) (fun c_17_6018 => ?_)
    · refine lv_iconst (v := 0) hx hb gX12_isAgainst_1.2.2.2.2.1 (by decide) ?_
      refine lv_goto (tgt := 43) hx hb gX12_isAgainst_1.2.2.2.2.2.1 (by decide) ?_
      refine toQ hQ0 ?_
      exact RP (v := 0) hC (Or.inr (rfl)) (by decide +kernel) gX12_isAgainst_2.2.2.2.2.2
    · refine lv_iconst (v := 1) hx hb gX12_isAgainst_1.2.2.1 (by decide) ?_
      refine lv_goto (tgt := 43) hx hb gX12_isAgainst_1.2.2.2.1 (by decide) ?_
      refine toQ hQ0 ?_
      exact RP (v := 1) hC (Or.inl (rfl)) (by decide +kernel) gX12_isAgainst_2.2.2.2.2.2
def K_m_findHours (l : Launch) (G : GG) (h0 : Nat) (jp : Nat) (je : Nat) (cl : Int32) (nw : Nat) (nk : Nat) (mhasKept : Int32) (nt : Nat) (mtaped : Int32) (nr : Nat) (mrowMany : Int32) (mroundOf : Int32) (mroundFrom : Int32) (mouts : Int32) (nm : Nat) (mfromHour : Int32) (mtoHour : Int32) (ns : Nat) (mfrom : Int32) (mto : Int32) (msort : Int32) (misFault : Int32) (mdeep : Int32) (mcoded : Int32) (mlines : Int32) (nl : Nat) (nc : Nat) (nF : Nat) (np : Nat) (ntr : Nat) (nb : Nat) (mbestCost : Int32) (nso : Nat) (nsi : Nat) (nit : Nat) (nsh : Nat) (nsf : Nat) (nss : Nat) (nrc : Nat) (mtraced : Int32) (mdealer : Int32) (mnumber : Int32) (mwhose : Int32) (msize : Int32) (misParted : Int32) (fnw : Nat → Int32) (fnm : Nat → Int32) : Prop := MV l G yX12_findHours cX12_findHours 4 5 0 0 [.ref h0, .int (nI jp), .int (nI je), .int cl] [(h0, oX12 nw nk mhasKept nt mtaped nr mrowMany mroundOf mroundFrom mouts nm mfromHour mtoHour ns mfrom mto msort misFault mdeep mcoded mlines nl nc nF np ntr nb mbestCost nso nsi nit nsh nsf nss nrc mtraced mdealer mnumber mwhose msize misParted), (nw, iA G 1662 fnw), (nm, iA G 36 fnm)] (fun u : Int32 × Int32 => u.2.toInt ≤ 1167) (fun u : Int32 × Int32 => [(h0, oX12 nw nk mhasKept nt mtaped nr mrowMany mroundOf mroundFrom mouts nm u.1 u.2 ns mfrom mto msort misFault mdeep mcoded mlines nl nc nF np ntr nb mbestCost nso nsi nit nsh nsf nss nrc mtraced mdealer mnumber mwhose msize misParted), (nw, iA G 1662 fnw), (nm, iA G 36 fnm)])
set_option maxHeartbeats 4000000 in
set_option maxRecDepth 100000 in
theorem m_findHours (l : Launch) (G : GG) (h0 : Nat) (jp : Nat) (je : Nat) (cl : Int32) (nw : Nat) (nk : Nat) (mhasKept : Int32) (nt : Nat) (mtaped : Int32) (nr : Nat) (mrowMany : Int32) (mroundOf : Int32) (mroundFrom : Int32) (mouts : Int32) (nm : Nat) (mfromHour : Int32) (mtoHour : Int32) (ns : Nat) (mfrom : Int32) (mto : Int32) (msort : Int32) (misFault : Int32) (mdeep : Int32) (mcoded : Int32) (mlines : Int32) (nl : Nat) (nc : Nat) (nF : Nat) (np : Nat) (ntr : Nat) (nb : Nat) (mbestCost : Int32) (nso : Nat) (nsi : Nat) (nit : Nat) (nsh : Nat) (nsf : Nat) (nss : Nat) (nrc : Nat) (mtraced : Int32) (mdealer : Int32) (mnumber : Int32) (mwhose : Int32) (msize : Int32) (misParted : Int32) (fnw : Nat → Int32) (fnm : Nat → Int32) (hjp : jp < 12) (hje : je < 10) (hN : NI fnw) (hM : MB fnm) : K_m_findHours l G h0 jp je cl nw nk mhasKept nt mtaped nr mrowMany mroundOf mroundFrom mouts nm mfromHour mtoHour ns mfrom mto msort misFault mdeep mcoded mlines nl nc nF np ntr nb mbestCost nso nsi nit nsh nsf nss nrc mtraced mdealer mnumber mwhose msize misParted fnw fnm := by
  refine MV.start (by decide +kernel) (Nat.le_of_ble_eq_true rfl) ?_
  intro p e s m below meth c A ls hC hK hP hD hS hA hl
  refine absQ (fun Q0 hQ0 => ?_)
  have hl : lv_has ls 4 [(0, .ref h0), (1, .int (nI jp)), (2, .int (nI je)), (3, .int cl)] := hl
  refine Kan8 hC (fun hx hb hr hml hB hown hlocks hnm => ?_)
  refine lv_aload_n hx hb gX12_findHours_0.1 rfl (lv_at0 hl) ?_
  refine lv_iload_n hx hb gX12_findHours_0.2.1 rfl (lv_at1 hl) ?_
  refine lv_iload_n hx hb gX12_findHours_0.2.2.1 rfl (lv_at2 hl) ?_
  refine lv_iload_n hx hb gX12_findHours_0.2.2.2.1 rfl (lv_at3 hl) ?_
  refine iV (wr := []) hC hK hl hP hD hS hA (m_inHand l G h0 jp je cl nw nk mhasKept nt mtaped nr mrowMany mroundOf mroundFrom mouts nm mfromHour mtoHour ns mfrom mto msort misFault mdeep mcoded mlines nl nc nF np ntr nb mbestCost nso nsi nit nsh nsf nss nrc mtraced mdealer mnumber mwhose msize misParted fnw fnm (hjp) (hje) (hN) (hM)) si_X12_171 [0, 1, 2] [] sm_0_1_2 fm_0_1_2 nd_0_1_2 rfl rfl (by decide) rfl rfl rfl rfl rfl (Nat.le_of_ble_eq_true rfl) rm_5_4_4 ⟨Nat.le_of_ble_eq_true rfl, Nat.le_of_ble_eq_true rfl⟩ gX12_findHours_0.2.2.2.2.1 (fun r6019 => Ktu2 fun fh16021 th16022 => ?_)
  intro H locs hr6019 hP hD hS
  try dsimp only at hr6019
  refine Kpdr (ws := [(h0, oX12 nw nk mhasKept nt mtaped nr mrowMany mroundOf mroundFrom mouts nm fh16021 th16022 ns mfrom mto msort misFault mdeep mcoded mlines nl nc nF np ntr nb mbestCost nso nsi nit nsh nsf nss nrc mtraced mdealer mnumber mwhose msize misParted), (nw, iA G 1662 fnw), (nm, iA G 36 fnm)]) hP hD (fun hP hD => ?_)
  rcases hr6019 with ⟨rfl, a6023⟩ | rfl
  · refine lv_if_ne (tgt := 22) hx hb gX12_findHours_0.2.2.2.2.2.1 (by decide) (fun _ => ?_) (fun c9 => absurd c9 (by decide))
    refine toQ hQ0 ?_
    exact RV hC hP hD hS [0, 1, 2] (fh16021, th16022) rfl rfl (by decide) (by first | assumption | decide) gX12_findHours_1.2.2
  · refine lv_if_ne (tgt := 22) hx hb gX12_findHours_0.2.2.2.2.2.1 (by decide) (fun c9 => absurd (by decide) c9) (fun _ => ?_)
    refine lv_aload_n hx hb gX12_findHours_0.2.2.2.2.2.2.1 rfl (lv_at0 hl) ?_
    refine lv_iconst (v := 0) hx hb gX12_findHours_0.2.2.2.2.2.2.2.1 (by decide) ?_
    refine pf_X12_161 hC rfl hK hP hD hS 0 (ws' := [(h0, oX12 nw nk mhasKept nt mtaped nr mrowMany mroundOf mroundFrom mouts nm 0 th16022 ns mfrom mto msort misFault mdeep mcoded mlines nl nc nF np ntr nb mbestCost nso nsi nit nsh nsf nss nrc mtraced mdealer mnumber mwhose msize misParted), (nw, iA G 1662 fnw), (nm, iA G 36 fnm)]) rfl (Nat.le_of_ble_eq_true rfl) rfl rfl rfl gX12_findHours_0.2.2.2.2.2.2.2.2.1 (fun H locs hP hD hS => ?_)
    refine lv_aload_n hx hb gX12_findHours_0.2.2.2.2.2.2.2.2.2 rfl (lv_at0 hl) ?_
    refine lv_sipush (v := 1000) hx hb gX12_findHours_1.1 (by decide) ?_
    refine pf_X12_164 hC rfl hK hP hD hS 0 (ws' := [(h0, oX12 nw nk mhasKept nt mtaped nr mrowMany mroundOf mroundFrom mouts nm 0 1000 ns mfrom mto msort misFault mdeep mcoded mlines nl nc nF np ntr nb mbestCost nso nsi nit nsh nsf nss nrc mtraced mdealer mnumber mwhose msize misParted), (nw, iA G 1662 fnw), (nm, iA G 36 fnm)]) rfl (Nat.le_of_ble_eq_true rfl) rfl rfl rfl gX12_findHours_1.2.1 (fun H locs hP hD hS => ?_)
    refine toQ hQ0 ?_
    exact RV hC hP hD hS [0, 1, 2] (0, 1000) rfl rfl (by decide) (by first | assumption | decide) gX12_findHours_1.2.2
def K_r_quarrel (l : Launch) (G : GG) (h0 : Nat) (x1 : Int32) (x2 : Int32) (x3 : Int32) (nw : Nat) (nk : Nat) (mhasKept : Int32) (nt : Nat) (mtaped : Int32) (nr : Nat) (mrowMany : Int32) (mroundOf : Int32) (mroundFrom : Int32) (nm : Nat) (mfromHour : Int32) (mtoHour : Int32) (ns : Nat) (mfrom : Int32) (mto : Int32) (msort : Int32) (misFault : Int32) (mdeep : Int32) (mcoded : Int32) (mlines : Int32) (nl : Nat) (nc : Nat) (nF : Nat) (np : Nat) (ntr : Nat) (nb : Nat) (mbestCost : Int32) (nso : Nat) (nsi : Nat) (nit : Nat) (nsh : Nat) (nsf : Nat) (nss : Nat) (nrc : Nat) (mtraced : Int32) (mdealer : Int32) (mnumber : Int32) (mwhose : Int32) (msize : Int32) (misParted : Int32) (fnw : Nat → Int32) (fnm : Nat → Int32) : Prop := MI l G yX12_quarrel cX12_quarrel 10 (some .int) 6 0 0 [.ref h0, .int x1, .int x2, .int x3] [(h0, oX12 nw nk mhasKept nt mtaped nr mrowMany mroundOf mroundFrom 0 nm mfromHour mtoHour ns mfrom mto msort misFault mdeep mcoded mlines nl nc nF np ntr nb mbestCost nso nsi nit nsh nsf nss nrc mtraced mdealer mnumber mwhose msize misParted), (nw, iA G 1662 fnw), (nm, iA G 36 fnm)] (fun (r : Int32) (u : Int32 × Int32 × (Nat → Int32)) => (True) ∧ (MB u.2.2)) (fun u : Int32 × Int32 × (Nat → Int32) => [(h0, oX12 nw nk mhasKept nt mtaped nr mrowMany mroundOf mroundFrom 0 nm u.1 u.2.1 ns mfrom mto msort misFault mdeep mcoded mlines nl nc nF np ntr nb mbestCost nso nsi nit nsh nsf nss nrc mtraced mdealer mnumber mwhose msize misParted), (nw, iA G 1662 fnw), (nm, iA G 36 u.2.2)])
set_option maxHeartbeats 4000000 in
set_option maxRecDepth 100000 in
theorem r_quarrel (l : Launch) (G : GG) (h0 : Nat) (x1 : Int32) (x2 : Int32) (x3 : Int32) (nw : Nat) (nk : Nat) (mhasKept : Int32) (nt : Nat) (mtaped : Int32) (nr : Nat) (mrowMany : Int32) (mroundOf : Int32) (mroundFrom : Int32) (nm : Nat) (mfromHour : Int32) (mtoHour : Int32) (ns : Nat) (mfrom : Int32) (mto : Int32) (msort : Int32) (misFault : Int32) (mdeep : Int32) (mcoded : Int32) (mlines : Int32) (nl : Nat) (nc : Nat) (nF : Nat) (np : Nat) (ntr : Nat) (nb : Nat) (mbestCost : Int32) (nso : Nat) (nsi : Nat) (nit : Nat) (nsh : Nat) (nsf : Nat) (nss : Nat) (nrc : Nat) (mtraced : Int32) (mdealer : Int32) (mnumber : Int32) (mwhose : Int32) (msize : Int32) (misParted : Int32) (fnw : Nat → Int32) (fnm : Nat → Int32) (hN : NI fnw) (hM : MB fnm) : K_r_quarrel l G h0 x1 x2 x3 nw nk mhasKept nt mtaped nr mrowMany mroundOf mroundFrom nm mfromHour mtoHour ns mfrom mto msort misFault mdeep mcoded mlines nl nc nF np ntr nb mbestCost nso nsi nit nsh nsf nss nrc mtraced mdealer mnumber mwhose msize misParted fnw fnm := by
  refine MI.start (by decide +kernel) (Nat.le_of_ble_eq_true rfl) ?_
  intro p e s m below meth c A ls hC hK hP hD hS hA hl
  refine absQ (fun Q0 hQ0 => ?_)
  have hl : lv_has ls 10 [(0, .ref h0), (1, .int x1), (2, .int x2), (3, .int x3)] := hl
  refine Kan8 hC (fun hx hb hr hml hB hown hlocks hnm => ?_)
  obtain ⟨kp, hkp, ekp⟩ := NI.nat hN (i := 4) (B := 10) (by decide +kernel) (by decide)
  obtain ⟨kq, hkq, ekq⟩ := NI.nat hN (i := 5) (B := 12) (by decide +kernel) (by decide)
  obtain ⟨k8, hk8, ek8⟩ := NI.nat hN (i := 8) (B := 16) (by decide +kernel) (by decide)
  refine lv_aload_n hx hb gX12_quarrel_0.1 rfl (lv_at0 hl) ?_
  refine lv_iload_n hx hb gX12_quarrel_0.2.1 rfl (lv_at1 hl) ?_
  refine lv_iconst (v := 4) hx hb gX12_quarrel_0.2.2.1 (by decide) ?_
  refine pV hC hK hl hP hD (m_is l G kp h0 x1 4 nw nk mhasKept nt mtaped nr mrowMany mroundOf mroundFrom 0 nm mfromHour mtoHour ns mfrom mto msort misFault mdeep mcoded mlines nl nc nF np ntr nb mbestCost nso nsi nit nsh nsf nss nrc mtraced mdealer mnumber mwhose msize misParted fnw (by omega) (ekp) (by omega)) si_X12_120 [0, 1] sm_0_1 fm_0_1 nd_0_1 rfl rfl rfl rfl rfl (Nat.le_of_ble_eq_true rfl) rm_6_2_3 ⟨by first | exact Nat.le_of_ble_eq_true rfl | exact Nat.zero_le _, by first | exact Nat.le_of_ble_eq_true rfl | exact Nat.zero_le _⟩ gX12_quarrel_0.2.2.2.1 (Kors (Keqa fun a6025 => ?_) (Keqa fun a6025 => ?_))
  · refine lv_if_eq (tgt := 27) hx hb gX12_quarrel_0.2.2.2.2.1 (by decide) (fun c9 => absurd c9 (by decide)) (fun _ => ?_)
    refine lv_aload_n hx hb gX12_quarrel_0.2.2.2.2.2.1 rfl (lv_at0 hl) ?_
    refine lv_iload_n hx hb gX12_quarrel_0.2.2.2.2.2.2.1 rfl (lv_at2 hl) ?_
    refine lv_iconst (v := 5) hx hb gX12_quarrel_0.2.2.2.2.2.2.2.1 (by decide) ?_
    refine pV hC hK hl hP hD (m_is l G kq h0 x2 5 nw nk mhasKept nt mtaped nr mrowMany mroundOf mroundFrom 0 nm mfromHour mtoHour ns mfrom mto msort misFault mdeep mcoded mlines nl nc nF np ntr nb mbestCost nso nsi nit nsh nsf nss nrc mtraced mdealer mnumber mwhose msize misParted fnw (by omega) (ekq) (by omega)) si_X12_120 [0, 1] sm_0_1 fm_0_1 nd_0_1 rfl rfl rfl rfl rfl (Nat.le_of_ble_eq_true rfl) rm_6_2_3 ⟨by first | exact Nat.le_of_ble_eq_true rfl | exact Nat.zero_le _, by first | exact Nat.le_of_ble_eq_true rfl | exact Nat.zero_le _⟩ gX12_quarrel_0.2.2.2.2.2.2.2.2.1 (Kors (Keqa fun a6027 => ?_) (Keqa fun a6027 => ?_))
    · refine lv_if_eq (tgt := 27) hx hb gX12_quarrel_0.2.2.2.2.2.2.2.2.2 (by decide) (fun c9 => absurd c9 (by decide)) (fun _ => ?_)
      refine lv_iload_n hx hb gX12_quarrel_1.1 rfl (lv_at3 hl) ?_
      refine lv_iconst (v := 0) hx hb gX12_quarrel_1.2.1 (by decide) ?_
      refine lv_iconst (v := 1) hx hb gX12_quarrel_1.2.2.1 (by decide) ?_
      refine pS hC hK hl (m_within l G x3 0 1) si_X12_84 rfl rfl (Nat.le_of_ble_eq_true rfl) rm_6_1_3 ⟨by first | exact Nat.le_of_ble_eq_true rfl | exact Nat.zero_le _, by first | exact Nat.le_of_ble_eq_true rfl | exact Nat.zero_le _⟩ gX12_quarrel_1.2.2.2.1 (Kors (Keqa fun a6029 => ?_) (Keqa fun a6029 => ?_))
      · refine lv_if_ne (tgt := 29) hx hb gX12_quarrel_1.2.2.2.2.1 (by decide) (fun _ => ?_) (fun c9 => absurd c9 (by decide))
        obtain ⟨je, hje, rfl⟩ := Hs_nat (by omega) a6025
        obtain ⟨jp, hjp, rfl⟩ := Hs_nat (by omega) a6027
        refine lv_aload_n hx hb gX12_quarrel_1.2.2.2.2.2.2.2.1 rfl (lv_at0 hl) ?_
        refine lv_iload_n hx hb gX12_quarrel_1.2.2.2.2.2.2.2.2.1 rfl (lv_at2 hl) ?_
        refine pV hC hK hl hP hD (m_isIn l G h0 jp nw nk mhasKept nt mtaped nr mrowMany mroundOf mroundFrom 0 nm mfromHour mtoHour ns mfrom mto msort misFault mdeep mcoded mlines nl nc nF np ntr nb mbestCost nso nsi nit nsh nsf nss nrc mtraced mdealer mnumber mwhose msize misParted fnw (by omega)) si_X12_103 [0, 1] sm_0_1 fm_0_1 nd_0_1 rfl rfl rfl rfl rfl (Nat.le_of_ble_eq_true rfl) rm_6_2_3 ⟨by first | exact Nat.le_of_ble_eq_true rfl | exact Nat.zero_le _, by first | exact Nat.le_of_ble_eq_true rfl | exact Nat.zero_le _⟩ gX12_quarrel_1.2.2.2.2.2.2.2.2.2 (Kors (Keqr ?_) (Keqr ?_))
        · refine lv_if_ne (tgt := 40) hx hb gX12_quarrel_2.1 (by decide) (fun _ => ?_) (fun c9 => absurd c9 (by decide))
          refine lv_aload_n hx hb gX12_quarrel_2.2.2.2.1 rfl (lv_at0 hl) ?_
          refine lv_iload_n hx hb gX12_quarrel_2.2.2.2.2.1 rfl (lv_at2 hl) ?_
          refine lv_iload_n hx hb gX12_quarrel_2.2.2.2.2.2.1 rfl (lv_at1 hl) ?_
          refine lv_aload_n hx hb gX12_quarrel_2.2.2.2.2.2.2.1 rfl (lv_at0 hl) ?_
          refine iV (wr := []) hC hK hl hP hD hS hA (m_findClocks l G h0 nw nk mhasKept nt mtaped nr mrowMany mroundOf mroundFrom 0 nm mfromHour mtoHour ns mfrom mto msort misFault mdeep mcoded mlines nl nc nF np ntr nb mbestCost nso nsi nit nsh nsf nss nrc mtraced mdealer mnumber mwhose msize misParted fnw fnm (hN) (hM)) si_X12_148 [0, 1, 2] [] sm_0_1_2 fm_0_1_2 nd_0_1_2 rfl rfl (by decide) rfl rfl rfl rfl rfl (Nat.le_of_ble_eq_true rfl) rm_6_4_7 ⟨Nat.le_of_ble_eq_true rfl, Nat.le_of_ble_eq_true rfl⟩ gX12_quarrel_2.2.2.2.2.2.2.2.1 (fun r6032 gnm6034 H locs hr6032 hP hD hS => ?_)
          try dsimp only at hr6032
          refine Kpdr (ws := [(h0, oX12 nw nk mhasKept nt mtaped nr mrowMany mroundOf mroundFrom 0 nm mfromHour mtoHour ns mfrom mto msort misFault mdeep mcoded mlines nl nc nF np ntr nb mbestCost nso nsi nit nsh nsf nss nrc mtraced mdealer mnumber mwhose msize misParted), (nw, iA G 1662 fnw), (nm, iA G 36 gnm6034)]) hP hD (fun hP hD => ?_)
          obtain ⟨hr6032, w6035⟩ := hr6032
          rcases hr6032 with rfl | rfl
          · refine vV (wr := []) hC hK hl hP hD hS hA (m_findHours l G h0 jp je 1 nw nk mhasKept nt mtaped nr mrowMany mroundOf mroundFrom 0 nm mfromHour mtoHour ns mfrom mto msort misFault mdeep mcoded mlines nl nc nF np ntr nb mbestCost nso nsi nit nsh nsf nss nrc mtraced mdealer mnumber mwhose msize misParted fnw gnm6034 (by omega) (by omega) (hN) (w6035)) si_X12_298 [0, 1, 2] [] sm_0_1_2 fm_0_1_2 nd_0_1_2 rfl rfl (by decide) rfl rfl rfl rfl rfl (Nat.le_of_ble_eq_true rfl) rm_6_5_4 ⟨Nat.le_of_ble_eq_true rfl, Nat.le_of_ble_eq_true rfl⟩ gX12_quarrel_2.2.2.2.2.2.2.2.2.1 (Ktu2 fun fh16039 th16040 => ?_)
            intro H locs hr6037 hP hD hS
            try dsimp only at hr6037
            refine Kpdr (ws := [(h0, oX12 nw nk mhasKept nt mtaped nr mrowMany mroundOf mroundFrom 0 nm fh16039 th16040 ns mfrom mto msort misFault mdeep mcoded mlines nl nc nF np ntr nb mbestCost nso nsi nit nsh nsf nss nrc mtraced mdealer mnumber mwhose msize misParted), (nw, iA G 1662 fnw), (nm, iA G 36 gnm6034)]) hP hD (fun hP hD => ?_)
            have w6041 := hr6037
            refine lv_aload_n hx hb gX12_quarrel_2.2.2.2.2.2.2.2.2.2 rfl (lv_at0 hl) ?_
            refine gf_X12_161 hC rfl hK hP 0 rfl rfl gX12_quarrel_3.1 ?_
            refine lv_istore (lv' := [(4, .int fh16039), (0, .ref h0), (1, .int (nI je)), (2, .int (nI jp)), (3, .int x3)]) hx hb gX12_quarrel_3.2.1 hl (by decide) rfl (fun ls hl => ?_)
            refine lv_iconst (v := (-1)) hx hb gX12_quarrel_3.2.2.1 (by decide) ?_
            refine lv_istore (lv' := [(5, .int (-1)), (4, .int fh16039), (0, .ref h0), (1, .int (nI je)), (2, .int (nI jp)), (3, .int x3)]) hx hb gX12_quarrel_3.2.2.2.1 hl (by decide) rfl (fun ls hl => ?_)
            refine lv_aload_n hx hb gX12_quarrel_3.2.2.2.2.1 rfl (lv_at2 hl) ?_
            refine gf_X12_161 hC rfl hK hP 0 rfl rfl gX12_quarrel_3.2.2.2.2.2.1 ?_
            refine lv_istore (lv' := [(6, .int fh16039), (5, .int (-1)), (4, .int fh16039), (0, .ref h0), (1, .int (nI je)), (2, .int (nI jp)), (3, .int x3)]) hx hb gX12_quarrel_3.2.2.2.2.2.2.1 hl (by decide) rfl (fun ls hl => ?_)
            have keyZ : ∀ (nZ : Nat) (hZx : Int32) (be : Int32) (le : Int32) (H : Heap) (locs : List Loc) (ls : Array Slot), (th16040).toInt + 1 - hZx.toInt ≤ (nZ : Int) → va_PD G A [(h0, oX12 nw nk mhasKept nt mtaped nr mrowMany mroundOf mroundFrom 0 nm fh16039 th16040 ns mfrom mto msort misFault mdeep mcoded mlines nl nc nF np ntr nb mbestCost nso nsi nit nsh nsf nss nrc mtraced mdealer mnumber mwhose msize misParted), (nw, iA G 1662 fnw), (nm, iA G 36 gnm6034)] H → va_S A s.heap H locs → lv_has ls 10 [(6, .int hZx), (5, .int le), (4, .int be), (0, .ref h0), (1, .int (nI je)), (2, .int (nI jp)), (3, .int x3)] → W p l e (RM 6 0 0) s m ([.ref h0, .int (nI je), .int (nI jp), .int x3] : List Value).toArray below meth c H locs 0 0 Q0 (F0 m 65 ls []) := by
              intro nZ
              induction nZ with
              | zero =>
                intro hZx be le H locs ls hkZ hPD hS hl
                refine Kan2 hPD (fun hP hD => ?_)
                have hzZ : th16040 < hZx := hz_end (by omega)
                refine lv_iload hx hb gX12_quarrel_3.2.2.2.2.2.2.2.1 (lv_at0 hl) ?_
                refine lv_aload_n hx hb gX12_quarrel_3.2.2.2.2.2.2.2.2.1 rfl (lv_at3 hl) ?_
                refine gf_X12_164 hC rfl hK hP 0 rfl rfl gX12_quarrel_3.2.2.2.2.2.2.2.2.2 ?_
                refine lv_icmp_gt (tgt := 194) hx hb gX12_quarrel_4.1 (by decide) (fun _ => ?_) (fun c9 => absurd (hzZ) c9)
                refine lv_iload_n hx hb gX12_quarrel_10.1 rfl (lv_at6 hl) ?_
                refine lv_if_ne (tgt := 203) hx hb gX12_quarrel_10.2.1 (by decide) (fun c_195_6042 => ?_) (fun c_195_6042 => ?_)
                · refine lv_sipush (v := 1000) hx hb gX12_quarrel_10.2.2.2.2.1 (by decide) ?_
                  refine lv_iload hx hb gX12_quarrel_10.2.2.2.2.2.1 (lv_at2 hl) ?_
                  refine lv_iadd hx hb gX12_quarrel_10.2.2.2.2.2.2.1 ?_
                  refine toQ hQ0 ?_
                  exact RI (v := 1000 + be) hC hP hD hS [0, 1, 2] (fh16039, th16040, gnm6034) rfl rfl (by decide) (⟨trivial, by first | assumption | exact hM⟩) rfl gX12_quarrel_10.2.2.2.2.2.2.2
                · refine lv_iload hx hb gX12_quarrel_10.2.2.1 (lv_at1 hl) ?_
                  refine lv_goto (tgt := 209) hx hb gX12_quarrel_10.2.2.2.1 (by decide) ?_
                  refine toQ hQ0 ?_
                  exact RI (v := le) hC hP hD hS [0, 1, 2] (fh16039, th16040, gnm6034) rfl rfl (by decide) (⟨trivial, by first | assumption | exact hM⟩) rfl gX12_quarrel_10.2.2.2.2.2.2.2
              | succ nZ ihZ =>
                intro hZx be le H locs ls hkZ hPD hS hl
                refine Kan2 hPD (fun hP hD => ?_)
                refine lv_iload hx hb gX12_quarrel_3.2.2.2.2.2.2.2.1 (lv_at0 hl) ?_
                refine lv_aload_n hx hb gX12_quarrel_3.2.2.2.2.2.2.2.2.1 rfl (lv_at3 hl) ?_
                refine gf_X12_164 hC rfl hK hP 0 rfl rfl gX12_quarrel_3.2.2.2.2.2.2.2.2.2 ?_
                refine lv_icmp_gt (tgt := 194) hx hb gX12_quarrel_4.1 (by decide) (fun c_71_6043 => ?_) (fun c_71_6043 => ?_)
                · refine lv_iload_n hx hb gX12_quarrel_10.1 rfl (lv_at6 hl) ?_
                  refine lv_if_ne (tgt := 203) hx hb gX12_quarrel_10.2.1 (by decide) (fun c_195_6044 => ?_) (fun c_195_6044 => ?_)
                  · refine lv_sipush (v := 1000) hx hb gX12_quarrel_10.2.2.2.2.1 (by decide) ?_
                    refine lv_iload hx hb gX12_quarrel_10.2.2.2.2.2.1 (lv_at2 hl) ?_
                    refine lv_iadd hx hb gX12_quarrel_10.2.2.2.2.2.2.1 ?_
                    refine toQ hQ0 ?_
                    exact RI (v := 1000 + be) hC hP hD hS [0, 1, 2] (fh16039, th16040, gnm6034) rfl rfl (by decide) (⟨trivial, by first | assumption | exact hM⟩) rfl gX12_quarrel_10.2.2.2.2.2.2.2
                  · refine lv_iload hx hb gX12_quarrel_10.2.2.1 (lv_at1 hl) ?_
                    refine lv_goto (tgt := 209) hx hb gX12_quarrel_10.2.2.2.1 (by decide) ?_
                    refine toQ hQ0 ?_
                    exact RI (v := le) hC hP hD hS [0, 1, 2] (fh16039, th16040, gnm6034) rfl rfl (by decide) (⟨trivial, by first | assumption | exact hM⟩) rfl gX12_quarrel_10.2.2.2.2.2.2.2
                · refine lv_iconst (v := 0) hx hb gX12_quarrel_4.2.1 (by decide) ?_
                  refine lv_istore (lv' := [(7, .int 0), (6, .int hZx), (5, .int le), (4, .int be), (0, .ref h0), (1, .int (nI je)), (2, .int (nI jp)), (3, .int x3)]) hx hb gX12_quarrel_4.2.2.1 hl (by decide) rfl (fun ls hl => ?_)
                  refine lv_iconst (v := 0) hx hb gX12_quarrel_4.2.2.2.1 (by decide) ?_
                  refine lv_istore (lv' := [(8, .int 0), (7, .int 0), (6, .int hZx), (5, .int le), (4, .int be), (0, .ref h0), (1, .int (nI je)), (2, .int (nI jp)), (3, .int x3)]) hx hb gX12_quarrel_4.2.2.2.2.1 hl (by decide) rfl (fun ls hl => ?_)
                  have keyQ : ∀ (nQ kQ : Nat) (su : Int32) (H : Heap) (locs : List Loc) (ls : Array Slot), kQ + nQ = k8 → va_PD G A [(h0, oX12 nw nk mhasKept nt mtaped nr mrowMany mroundOf mroundFrom 0 nm fh16039 th16040 ns mfrom mto msort misFault mdeep mcoded mlines nl nc nF np ntr nb mbestCost nso nsi nit nsh nsf nss nrc mtraced mdealer mnumber mwhose msize misParted), (nw, iA G 1662 fnw), (nm, iA G 36 gnm6034)] H → va_S A s.heap H locs → lv_has ls 10 [(8, .int (nI kQ)), (7, .int su), (6, .int hZx), (5, .int le), (4, .int be), (0, .ref h0), (1, .int (nI je)), (2, .int (nI jp)), (3, .int x3)] → W p l e (RM 6 0 0) s m ([.ref h0, .int (nI je), .int (nI jp), .int x3] : List Value).toArray below meth c H locs 0 0 Q0 (F0 m 80 ls []) := by
                    intro nQ
                    induction nQ with
                    | zero =>
                      intro kQ su H locs ls hkQ hPD hS hl
                      refine Kan2 hPD (fun hP hD => ?_)
                      obtain rfl : k8 = kQ := by omega
                      have hl : lv_has ls 10 [(8, .int (nI k8)), (7, .int su), (6, .int hZx), (5, .int le), (4, .int be), (0, .ref h0), (1, .int (nI je)), (2, .int (nI jp)), (3, .int x3)] := hl
                      refine lv_iload hx hb gX12_quarrel_4.2.2.2.2.2.1 (lv_at0 hl) ?_
                      refine lv_aload_n hx hb gX12_quarrel_4.2.2.2.2.2.2.1 rfl (lv_at5 hl) ?_
                      refine gf_X12_9 hC rfl hK hP 0 rfl rfl gX12_quarrel_4.2.2.2.2.2.2.2.1 ?_
                      refine lv_bipush (v := 8) hx hb gX12_quarrel_4.2.2.2.2.2.2.2.2.1 (by decide) ?_
                      refine ald hC hK hP 1 rfl (vin (by decide +kernel)) (k := 8) (by decide +kernel) (v := nI k8) (ek8) gX12_quarrel_4.2.2.2.2.2.2.2.2.2 ?_
                      refine lv_icmp_ge (tgt := 168) hx hb gX12_quarrel_5.1 (by decide) (fun _ => ?_) (fun c9 => absurd (Int32.le_refl _) c9)
                      refine lv_iload hx hb gX12_quarrel_8.2.2.2.2.2.2.2.2.2 (lv_at3 hl) ?_
                      refine lv_if_lt (tgt := 180) hx hb gX12_quarrel_9.1 (by decide) (fun c_170_6045 => ?_) (fun c_170_6045 => ?_)
                      · refine lv_iload hx hb gX12_quarrel_9.2.2.2.2.1 (lv_at1 hl) ?_
                        refine lv_istore (lv' := [(5, .int su), (8, .int (nI k8)), (7, .int su), (6, .int hZx), (4, .int be), (0, .ref h0), (1, .int (nI je)), (2, .int (nI jp)), (3, .int x3)]) hx hb gX12_quarrel_9.2.2.2.2.2.1 hl (by decide) rfl (fun ls hl => ?_)
                        refine lv_iload hx hb gX12_quarrel_9.2.2.2.2.2.2.1 (lv_at3 hl) ?_
                        refine lv_istore (lv' := [(4, .int hZx), (5, .int su), (8, .int (nI k8)), (7, .int su), (6, .int hZx), (0, .ref h0), (1, .int (nI je)), (2, .int (nI jp)), (3, .int x3)]) hx hb gX12_quarrel_9.2.2.2.2.2.2.2.1 hl (by decide) rfl (fun ls hl => ?_)
                        refine lv_iinc (v := hZx + 1) (lv' := [(6, .int (hZx + 1)), (4, .int hZx), (5, .int su), (8, .int (nI k8)), (7, .int su), (0, .ref h0), (1, .int (nI je)), (2, .int (nI jp)), (3, .int x3)]) hx hb gX12_quarrel_9.2.2.2.2.2.2.2.2.1 hl (k := 4) rfl (rfl) (by decide) rfl (fun ls hl => ?_)
                        refine lv_goto (tgt := 65) hx hb gX12_quarrel_9.2.2.2.2.2.2.2.2.2 (by decide) ?_
                        exact ihZ (hZx + 1) hZx su _ _ _ (hz_back c_71_6043 w6041 hkZ) (And.intro hP hD) hS (lv_sub hl [0, 2, 1, 5, 6, 7, 8] rfl)
                      · refine lv_iload hx hb gX12_quarrel_9.2.1 (lv_at1 hl) ?_
                        refine lv_iload hx hb gX12_quarrel_9.2.2.1 (lv_at3 hl) ?_
                        refine lv_icmp_ge (tgt := 188) hx hb gX12_quarrel_9.2.2.2.1 (by decide) (fun c_177_6046 => ?_) (fun c_177_6046 => ?_)
                        · refine lv_iinc (v := hZx + 1) (lv' := [(6, .int (hZx + 1)), (8, .int (nI k8)), (7, .int su), (5, .int le), (4, .int be), (0, .ref h0), (1, .int (nI je)), (2, .int (nI jp)), (3, .int x3)]) hx hb gX12_quarrel_9.2.2.2.2.2.2.2.2.1 hl (k := 2) rfl (rfl) (by decide) rfl (fun ls hl => ?_)
                          refine lv_goto (tgt := 65) hx hb gX12_quarrel_9.2.2.2.2.2.2.2.2.2 (by decide) ?_
                          exact ihZ (hZx + 1) be le _ _ _ (hz_back c_71_6043 w6041 hkZ) (And.intro hP hD) hS (lv_sub hl [0, 3, 4, 5, 6, 7, 8] rfl)
                        · refine lv_iload hx hb gX12_quarrel_9.2.2.2.2.1 (lv_at1 hl) ?_
                          refine lv_istore (lv' := [(5, .int su), (8, .int (nI k8)), (7, .int su), (6, .int hZx), (4, .int be), (0, .ref h0), (1, .int (nI je)), (2, .int (nI jp)), (3, .int x3)]) hx hb gX12_quarrel_9.2.2.2.2.2.1 hl (by decide) rfl (fun ls hl => ?_)
                          refine lv_iload hx hb gX12_quarrel_9.2.2.2.2.2.2.1 (lv_at3 hl) ?_
                          refine lv_istore (lv' := [(4, .int hZx), (5, .int su), (8, .int (nI k8)), (7, .int su), (6, .int hZx), (0, .ref h0), (1, .int (nI je)), (2, .int (nI jp)), (3, .int x3)]) hx hb gX12_quarrel_9.2.2.2.2.2.2.2.1 hl (by decide) rfl (fun ls hl => ?_)
                          refine lv_iinc (v := hZx + 1) (lv' := [(6, .int (hZx + 1)), (4, .int hZx), (5, .int su), (8, .int (nI k8)), (7, .int su), (0, .ref h0), (1, .int (nI je)), (2, .int (nI jp)), (3, .int x3)]) hx hb gX12_quarrel_9.2.2.2.2.2.2.2.2.1 hl (k := 4) rfl (rfl) (by decide) rfl (fun ls hl => ?_)
                          refine lv_goto (tgt := 65) hx hb gX12_quarrel_9.2.2.2.2.2.2.2.2.2 (by decide) ?_
                          exact ihZ (hZx + 1) hZx su _ _ _ (hz_back c_71_6043 w6041 hkZ) (And.intro hP hD) hS (lv_sub hl [0, 2, 1, 5, 6, 7, 8] rfl)
                    | succ nQ ihQ =>
                      intro kQ su H locs ls hkQ hPD hS hl
                      refine Kan2 hPD (fun hP hD => ?_)
                      refine lv_iload hx hb gX12_quarrel_4.2.2.2.2.2.1 (lv_at0 hl) ?_
                      refine lv_aload_n hx hb gX12_quarrel_4.2.2.2.2.2.2.1 rfl (lv_at5 hl) ?_
                      refine gf_X12_9 hC rfl hK hP 0 rfl rfl gX12_quarrel_4.2.2.2.2.2.2.2.1 ?_
                      refine lv_bipush (v := 8) hx hb gX12_quarrel_4.2.2.2.2.2.2.2.2.1 (by decide) ?_
                      refine ald hC hK hP 1 rfl (vin (by decide +kernel)) (k := 8) (by decide +kernel) (v := nI k8) (ek8) gX12_quarrel_4.2.2.2.2.2.2.2.2.2 ?_
                      refine lv_icmp_ge (tgt := 168) hx hb gX12_quarrel_5.1 (by decide) (fun c9 => absurd c9 (nI_ge (a := kQ) (b := k8) (by omega) (by omega))) (fun _ => ?_)
                      refine lv_aload_n hx hb gX12_quarrel_5.2.1 rfl (lv_at5 hl) ?_
                      refine lv_iload hx hb gX12_quarrel_5.2.2.1 (lv_at0 hl) ?_
                      refine pV hC hK hl hP hD (m_doesCount l G h0 kQ nw nk mhasKept nt mtaped nr mrowMany mroundOf mroundFrom 0 nm fh16039 th16040 ns mfrom mto msort misFault mdeep mcoded mlines nl nc nF np ntr nb mbestCost nso nsi nit nsh nsf nss nrc mtraced mdealer mnumber mwhose msize misParted fnw (by omega) (hN)) si_X12_117 [0, 1] sm_0_1 fm_0_1 nd_0_1 rfl rfl rfl rfl rfl (Nat.le_of_ble_eq_true rfl) rm_6_4_2 ⟨by first | exact Nat.le_of_ble_eq_true rfl | exact Nat.zero_le _, by first | exact Nat.le_of_ble_eq_true rfl | exact Nat.zero_le _⟩ gX12_quarrel_5.2.2.2.1 (Kors (Keqr ?_) (Keqr ?_))
                      · refine lv_if_eq (tgt := 127) hx hb gX12_quarrel_5.2.2.2.2.1 (by decide) (fun c9 => absurd c9 (by decide)) (fun _ => ?_)
                        refine lv_aload_n hx hb gX12_quarrel_5.2.2.2.2.2.1 rfl (lv_at5 hl) ?_
                        refine lv_iload hx hb gX12_quarrel_5.2.2.2.2.2.2.1 (lv_at0 hl) ?_
                        refine lv_iconst (v := 1) hx hb gX12_quarrel_5.2.2.2.2.2.2.2.1 (by decide) ?_
                        refine pV hC hK hl hP hD (m_saying l G h0 kQ 1 nw nk mhasKept nt mtaped nr mrowMany mroundOf mroundFrom 0 nm fh16039 th16040 ns mfrom mto msort misFault mdeep mcoded mlines nl nc nF np ntr nb mbestCost nso nsi nit nsh nsf nss nrc mtraced mdealer mnumber mwhose msize misParted fnw (by omega) (by omega)) si_X12_114 [0, 1] sm_0_1 fm_0_1 nd_0_1 rfl rfl rfl rfl rfl (Nat.le_of_ble_eq_true rfl) rm_6_1_3 ⟨by first | exact Nat.le_of_ble_eq_true rfl | exact Nat.zero_le _, by first | exact Nat.le_of_ble_eq_true rfl | exact Nat.zero_le _⟩ gX12_quarrel_5.2.2.2.2.2.2.2.2.1 (Keqr ?_)
                        refine lv_iload_n hx hb gX12_quarrel_5.2.2.2.2.2.2.2.2.2 rfl (lv_at6 hl) ?_
                        refine lv_icmp_ne (tgt := 127) hx hb gX12_quarrel_6.1 (by decide) (fun c_109_6051 => ?_) (fun c_109_6051 => ?_)
                        · refine lv_iconst (v := 0) hx hb gX12_quarrel_6.2.2.2.2.2.2.2.2.2 (by decide) ?_
                          refine lv_istore (lv' := [(9, .int 0), (8, .int (nI kQ)), (7, .int su), (6, .int hZx), (5, .int le), (4, .int be), (0, .ref h0), (1, .int (nI je)), (2, .int (nI jp)), (3, .int x3)]) hx hb gX12_quarrel_7.1 hl (by decide) rfl (fun ls hl => ?_)
                          refine lv_iload hx hb gX12_quarrel_7.2.1 (lv_at2 hl) ?_
                          refine lv_iload hx hb gX12_quarrel_7.2.2.1 (lv_at0 hl) ?_
                          refine lv_if_eq (tgt := 158) hx hb gX12_quarrel_7.2.2.2.1 (by decide) (fun _ => ?_) (fun c9 => absurd (by decide) c9)
                          refine lv_iconst (v := 0) hx hb gX12_quarrel_8.2.2.2.2.1 (by decide) ?_
                          refine lv_iadd hx hb gX12_quarrel_8.2.2.2.2.2.1 ?_
                          refine lv_istore (lv' := [(7, .int (su + 0)), (9, .int 0), (8, .int (nI kQ)), (6, .int hZx), (5, .int le), (4, .int be), (0, .ref h0), (1, .int (nI je)), (2, .int (nI jp)), (3, .int x3)]) hx hb gX12_quarrel_8.2.2.2.2.2.2.1 hl (by decide) rfl (fun ls hl => ?_)
                          refine lv_iinc (v := nI (kQ + 1)) (lv' := [(8, .int (nI (kQ + 1))), (7, .int (su + 0)), (9, .int 0), (6, .int hZx), (5, .int le), (4, .int be), (0, .ref h0), (1, .int (nI je)), (2, .int (nI jp)), (3, .int x3)]) hx hb gX12_quarrel_8.2.2.2.2.2.2.2.1 hl (k := 2) rfl (nI_1 _) (by decide) rfl (fun ls hl => ?_)
                          refine lv_goto (tgt := 80) hx hb gX12_quarrel_8.2.2.2.2.2.2.2.2.1 (by decide) ?_
                          exact ihQ (kQ + 1) (su + 0) _ _ _ (by omega) (And.intro hP hD) hS (lv_sub hl [0, 1, 3, 4, 5, 6, 7, 8, 9] rfl)
                        · refine lv_aload_n hx hb gX12_quarrel_6.2.1 rfl (lv_at5 hl) ?_
                          refine lv_iload hx hb gX12_quarrel_6.2.2.1 (lv_at0 hl) ?_
                          refine lv_iconst (v := 2) hx hb gX12_quarrel_6.2.2.2.1 (by decide) ?_
                          refine pV hC hK hl hP hD (m_saying l G h0 kQ 2 nw nk mhasKept nt mtaped nr mrowMany mroundOf mroundFrom 0 nm fh16039 th16040 ns mfrom mto msort misFault mdeep mcoded mlines nl nc nF np ntr nb mbestCost nso nsi nit nsh nsf nss nrc mtraced mdealer mnumber mwhose msize misParted fnw (by omega) (by omega)) si_X12_114 [0, 1] sm_0_1 fm_0_1 nd_0_1 rfl rfl rfl rfl rfl (Nat.le_of_ble_eq_true rfl) rm_6_1_3 ⟨by first | exact Nat.le_of_ble_eq_true rfl | exact Nat.zero_le _, by first | exact Nat.le_of_ble_eq_true rfl | exact Nat.zero_le _⟩ gX12_quarrel_6.2.2.2.2.1 (Keqr ?_)
                          refine lv_iload_n hx hb gX12_quarrel_6.2.2.2.2.2.1 rfl (lv_at7 hl) ?_
                          refine lv_icmp_ne (tgt := 127) hx hb gX12_quarrel_6.2.2.2.2.2.2.1 (by decide) (fun c_120_6054 => ?_) (fun c_120_6054 => ?_)
                          · refine lv_iconst (v := 0) hx hb gX12_quarrel_6.2.2.2.2.2.2.2.2.2 (by decide) ?_
                            refine lv_istore (lv' := [(9, .int 0), (8, .int (nI kQ)), (7, .int su), (6, .int hZx), (5, .int le), (4, .int be), (0, .ref h0), (1, .int (nI je)), (2, .int (nI jp)), (3, .int x3)]) hx hb gX12_quarrel_7.1 hl (by decide) rfl (fun ls hl => ?_)
                            refine lv_iload hx hb gX12_quarrel_7.2.1 (lv_at2 hl) ?_
                            refine lv_iload hx hb gX12_quarrel_7.2.2.1 (lv_at0 hl) ?_
                            refine lv_if_eq (tgt := 158) hx hb gX12_quarrel_7.2.2.2.1 (by decide) (fun _ => ?_) (fun c9 => absurd (by decide) c9)
                            refine lv_iconst (v := 0) hx hb gX12_quarrel_8.2.2.2.2.1 (by decide) ?_
                            refine lv_iadd hx hb gX12_quarrel_8.2.2.2.2.2.1 ?_
                            refine lv_istore (lv' := [(7, .int (su + 0)), (9, .int 0), (8, .int (nI kQ)), (6, .int hZx), (5, .int le), (4, .int be), (0, .ref h0), (1, .int (nI je)), (2, .int (nI jp)), (3, .int x3)]) hx hb gX12_quarrel_8.2.2.2.2.2.2.1 hl (by decide) rfl (fun ls hl => ?_)
                            refine lv_iinc (v := nI (kQ + 1)) (lv' := [(8, .int (nI (kQ + 1))), (7, .int (su + 0)), (9, .int 0), (6, .int hZx), (5, .int le), (4, .int be), (0, .ref h0), (1, .int (nI je)), (2, .int (nI jp)), (3, .int x3)]) hx hb gX12_quarrel_8.2.2.2.2.2.2.2.1 hl (k := 2) rfl (nI_1 _) (by decide) rfl (fun ls hl => ?_)
                            refine lv_goto (tgt := 80) hx hb gX12_quarrel_8.2.2.2.2.2.2.2.2.1 (by decide) ?_
                            exact ihQ (kQ + 1) (su + 0) _ _ _ (by omega) (And.intro hP hD) hS (lv_sub hl [0, 1, 3, 4, 5, 6, 7, 8, 9] rfl)
                          · refine lv_iconst (v := 1) hx hb gX12_quarrel_6.2.2.2.2.2.2.2.1 (by decide) ?_
                            refine lv_goto (tgt := 128) hx hb gX12_quarrel_6.2.2.2.2.2.2.2.2.1 (by decide) ?_
                            refine lv_istore (lv' := [(9, .int 1), (8, .int (nI kQ)), (7, .int su), (6, .int hZx), (5, .int le), (4, .int be), (0, .ref h0), (1, .int (nI je)), (2, .int (nI jp)), (3, .int x3)]) hx hb gX12_quarrel_7.1 hl (by decide) rfl (fun ls hl => ?_)
                            refine lv_iload hx hb gX12_quarrel_7.2.1 (lv_at2 hl) ?_
                            refine lv_iload hx hb gX12_quarrel_7.2.2.1 (lv_at0 hl) ?_
                            refine lv_if_eq (tgt := 158) hx hb gX12_quarrel_7.2.2.2.1 (by decide) (fun c9 => absurd c9 (by decide)) (fun _ => ?_)
                            refine lv_aload_n hx hb gX12_quarrel_7.2.2.2.2.1 rfl (lv_at6 hl) ?_
                            refine lv_iload hx hb gX12_quarrel_7.2.2.2.2.2.1 (lv_at3 hl) ?_
                            refine lv_iload hx hb gX12_quarrel_7.2.2.2.2.2.2.1 (lv_at1 hl) ?_
                            refine pV hC hK hl hP hD (m_isAgainst l G h0 hZx kQ nw nk mhasKept nt mtaped nr mrowMany mroundOf mroundFrom 0 nm fh16039 th16040 ns mfrom mto msort misFault mdeep mcoded mlines nl nc nF np ntr nb mbestCost nso nsi nit nsh nsf nss nrc mtraced mdealer mnumber mwhose msize misParted fnw (by omega)) si_X12_302 [0, 1] sm_0_1 fm_0_1 nd_0_1 rfl rfl rfl rfl rfl (Nat.le_of_ble_eq_true rfl) rm_6_2_3 ⟨by first | exact Nat.le_of_ble_eq_true rfl | exact Nat.zero_le _, by first | exact Nat.le_of_ble_eq_true rfl | exact Nat.zero_le _⟩ gX12_quarrel_7.2.2.2.2.2.2.2.1 (Kors (Keqr ?_) (Keqr ?_))
                            · refine lv_if_eq (tgt := 158) hx hb gX12_quarrel_7.2.2.2.2.2.2.2.2.1 (by decide) (fun c9 => absurd c9 (by decide)) (fun _ => ?_)
                              refine lv_aload_n hx hb gX12_quarrel_7.2.2.2.2.2.2.2.2.2 rfl (lv_at6 hl) ?_
                              refine lv_iload hx hb gX12_quarrel_8.1 (lv_at1 hl) ?_
                              refine lv_iconst (v := 4) hx hb gX12_quarrel_8.2.1 (by decide) ?_
                              refine pV hC hK hl hP hD (m_saying l G h0 kQ 4 nw nk mhasKept nt mtaped nr mrowMany mroundOf mroundFrom 0 nm fh16039 th16040 ns mfrom mto msort misFault mdeep mcoded mlines nl nc nF np ntr nb mbestCost nso nsi nit nsh nsf nss nrc mtraced mdealer mnumber mwhose msize misParted fnw (by omega) (by omega)) si_X12_114 [0, 1] sm_0_1 fm_0_1 nd_0_1 rfl rfl rfl rfl rfl (Nat.le_of_ble_eq_true rfl) rm_6_1_3 ⟨by first | exact Nat.le_of_ble_eq_true rfl | exact Nat.zero_le _, by first | exact Nat.le_of_ble_eq_true rfl | exact Nat.zero_le _⟩ gX12_quarrel_8.2.2.1 (Keqr ?_)
                              refine lv_goto (tgt := 159) hx hb gX12_quarrel_8.2.2.2.1 (by decide) ?_
                              refine lv_iadd hx hb gX12_quarrel_8.2.2.2.2.2.1 ?_
                              refine lv_istore (lv' := [(7, .int (su + (fnw (1424 + 8 * kQ + 4)))), (9, .int 1), (8, .int (nI kQ)), (6, .int hZx), (5, .int le), (4, .int be), (0, .ref h0), (1, .int (nI je)), (2, .int (nI jp)), (3, .int x3)]) hx hb gX12_quarrel_8.2.2.2.2.2.2.1 hl (by decide) rfl (fun ls hl => ?_)
                              refine lv_iinc (v := nI (kQ + 1)) (lv' := [(8, .int (nI (kQ + 1))), (7, .int (su + (fnw (1424 + 8 * kQ + 4)))), (9, .int 1), (6, .int hZx), (5, .int le), (4, .int be), (0, .ref h0), (1, .int (nI je)), (2, .int (nI jp)), (3, .int x3)]) hx hb gX12_quarrel_8.2.2.2.2.2.2.2.1 hl (k := 2) rfl (nI_1 _) (by decide) rfl (fun ls hl => ?_)
                              refine lv_goto (tgt := 80) hx hb gX12_quarrel_8.2.2.2.2.2.2.2.2.1 (by decide) ?_
                              exact ihQ (kQ + 1) (su + (fnw (1424 + 8 * kQ + 4))) _ _ _ (by omega) (And.intro hP hD) hS (lv_sub hl [0, 1, 3, 4, 5, 6, 7, 8, 9] rfl)
                            · refine lv_if_eq (tgt := 158) hx hb gX12_quarrel_7.2.2.2.2.2.2.2.2.1 (by decide) (fun _ => ?_) (fun c9 => absurd (by decide) c9)
                              refine lv_iconst (v := 0) hx hb gX12_quarrel_8.2.2.2.2.1 (by decide) ?_
                              refine lv_iadd hx hb gX12_quarrel_8.2.2.2.2.2.1 ?_
                              refine lv_istore (lv' := [(7, .int (su + 0)), (9, .int 1), (8, .int (nI kQ)), (6, .int hZx), (5, .int le), (4, .int be), (0, .ref h0), (1, .int (nI je)), (2, .int (nI jp)), (3, .int x3)]) hx hb gX12_quarrel_8.2.2.2.2.2.2.1 hl (by decide) rfl (fun ls hl => ?_)
                              refine lv_iinc (v := nI (kQ + 1)) (lv' := [(8, .int (nI (kQ + 1))), (7, .int (su + 0)), (9, .int 1), (6, .int hZx), (5, .int le), (4, .int be), (0, .ref h0), (1, .int (nI je)), (2, .int (nI jp)), (3, .int x3)]) hx hb gX12_quarrel_8.2.2.2.2.2.2.2.1 hl (k := 2) rfl (nI_1 _) (by decide) rfl (fun ls hl => ?_)
                              refine lv_goto (tgt := 80) hx hb gX12_quarrel_8.2.2.2.2.2.2.2.2.1 (by decide) ?_
                              exact ihQ (kQ + 1) (su + 0) _ _ _ (by omega) (And.intro hP hD) hS (lv_sub hl [0, 1, 3, 4, 5, 6, 7, 8, 9] rfl)
                      · refine lv_if_eq (tgt := 127) hx hb gX12_quarrel_5.2.2.2.2.1 (by decide) (fun _ => ?_) (fun c9 => absurd (by decide) c9)
                        refine lv_iconst (v := 0) hx hb gX12_quarrel_6.2.2.2.2.2.2.2.2.2 (by decide) ?_
                        refine lv_istore (lv' := [(9, .int 0), (8, .int (nI kQ)), (7, .int su), (6, .int hZx), (5, .int le), (4, .int be), (0, .ref h0), (1, .int (nI je)), (2, .int (nI jp)), (3, .int x3)]) hx hb gX12_quarrel_7.1 hl (by decide) rfl (fun ls hl => ?_)
                        refine lv_iload hx hb gX12_quarrel_7.2.1 (lv_at2 hl) ?_
                        refine lv_iload hx hb gX12_quarrel_7.2.2.1 (lv_at0 hl) ?_
                        refine lv_if_eq (tgt := 158) hx hb gX12_quarrel_7.2.2.2.1 (by decide) (fun _ => ?_) (fun c9 => absurd (by decide) c9)
                        refine lv_iconst (v := 0) hx hb gX12_quarrel_8.2.2.2.2.1 (by decide) ?_
                        refine lv_iadd hx hb gX12_quarrel_8.2.2.2.2.2.1 ?_
                        refine lv_istore (lv' := [(7, .int (su + 0)), (9, .int 0), (8, .int (nI kQ)), (6, .int hZx), (5, .int le), (4, .int be), (0, .ref h0), (1, .int (nI je)), (2, .int (nI jp)), (3, .int x3)]) hx hb gX12_quarrel_8.2.2.2.2.2.2.1 hl (by decide) rfl (fun ls hl => ?_)
                        refine lv_iinc (v := nI (kQ + 1)) (lv' := [(8, .int (nI (kQ + 1))), (7, .int (su + 0)), (9, .int 0), (6, .int hZx), (5, .int le), (4, .int be), (0, .ref h0), (1, .int (nI je)), (2, .int (nI jp)), (3, .int x3)]) hx hb gX12_quarrel_8.2.2.2.2.2.2.2.1 hl (k := 2) rfl (nI_1 _) (by decide) rfl (fun ls hl => ?_)
                        refine lv_goto (tgt := 80) hx hb gX12_quarrel_8.2.2.2.2.2.2.2.2.1 (by decide) ?_
                        exact ihQ (kQ + 1) (su + 0) _ _ _ (by omega) (And.intro hP hD) hS (lv_sub hl [0, 1, 3, 4, 5, 6, 7, 8, 9] rfl)
                  exact keyQ k8 0 0 _ _ _ (by omega) (And.intro hP hD) hS (lv_sub hl [0, 1, 2, 3, 4, 5, 6, 7, 8] rfl)
            exact keyZ ((th16040).toInt + 1 - (fh16039).toInt).toNat fh16039 fh16039 (-1) _ _ _ (by omega) (And.intro hP hD) hS (lv_sub hl [0, 1, 2, 3, 4, 5, 6] rfl)
          · refine vV (wr := []) hC hK hl hP hD hS hA (m_findHours l G h0 jp je 0 nw nk mhasKept nt mtaped nr mrowMany mroundOf mroundFrom 0 nm mfromHour mtoHour ns mfrom mto msort misFault mdeep mcoded mlines nl nc nF np ntr nb mbestCost nso nsi nit nsh nsf nss nrc mtraced mdealer mnumber mwhose msize misParted fnw gnm6034 (by omega) (by omega) (hN) (w6035)) si_X12_298 [0, 1, 2] [] sm_0_1_2 fm_0_1_2 nd_0_1_2 rfl rfl (by decide) rfl rfl rfl rfl rfl (Nat.le_of_ble_eq_true rfl) rm_6_5_4 ⟨Nat.le_of_ble_eq_true rfl, Nat.le_of_ble_eq_true rfl⟩ gX12_quarrel_2.2.2.2.2.2.2.2.2.1 (Ktu2 fun fh16061 th16062 => ?_)
            intro H locs hr6059 hP hD hS
            try dsimp only at hr6059
            refine Kpdr (ws := [(h0, oX12 nw nk mhasKept nt mtaped nr mrowMany mroundOf mroundFrom 0 nm fh16061 th16062 ns mfrom mto msort misFault mdeep mcoded mlines nl nc nF np ntr nb mbestCost nso nsi nit nsh nsf nss nrc mtraced mdealer mnumber mwhose msize misParted), (nw, iA G 1662 fnw), (nm, iA G 36 gnm6034)]) hP hD (fun hP hD => ?_)
            have w6063 := hr6059
            refine lv_aload_n hx hb gX12_quarrel_2.2.2.2.2.2.2.2.2.2 rfl (lv_at0 hl) ?_
            refine gf_X12_161 hC rfl hK hP 0 rfl rfl gX12_quarrel_3.1 ?_
            refine lv_istore (lv' := [(4, .int fh16061), (0, .ref h0), (1, .int (nI je)), (2, .int (nI jp)), (3, .int x3)]) hx hb gX12_quarrel_3.2.1 hl (by decide) rfl (fun ls hl => ?_)
            refine lv_iconst (v := (-1)) hx hb gX12_quarrel_3.2.2.1 (by decide) ?_
            refine lv_istore (lv' := [(5, .int (-1)), (4, .int fh16061), (0, .ref h0), (1, .int (nI je)), (2, .int (nI jp)), (3, .int x3)]) hx hb gX12_quarrel_3.2.2.2.1 hl (by decide) rfl (fun ls hl => ?_)
            refine lv_aload_n hx hb gX12_quarrel_3.2.2.2.2.1 rfl (lv_at2 hl) ?_
            refine gf_X12_161 hC rfl hK hP 0 rfl rfl gX12_quarrel_3.2.2.2.2.2.1 ?_
            refine lv_istore (lv' := [(6, .int fh16061), (5, .int (-1)), (4, .int fh16061), (0, .ref h0), (1, .int (nI je)), (2, .int (nI jp)), (3, .int x3)]) hx hb gX12_quarrel_3.2.2.2.2.2.2.1 hl (by decide) rfl (fun ls hl => ?_)
            have keyZ : ∀ (nZ : Nat) (hZx : Int32) (be : Int32) (le : Int32) (H : Heap) (locs : List Loc) (ls : Array Slot), (th16062).toInt + 1 - hZx.toInt ≤ (nZ : Int) → va_PD G A [(h0, oX12 nw nk mhasKept nt mtaped nr mrowMany mroundOf mroundFrom 0 nm fh16061 th16062 ns mfrom mto msort misFault mdeep mcoded mlines nl nc nF np ntr nb mbestCost nso nsi nit nsh nsf nss nrc mtraced mdealer mnumber mwhose msize misParted), (nw, iA G 1662 fnw), (nm, iA G 36 gnm6034)] H → va_S A s.heap H locs → lv_has ls 10 [(6, .int hZx), (5, .int le), (4, .int be), (0, .ref h0), (1, .int (nI je)), (2, .int (nI jp)), (3, .int x3)] → W p l e (RM 6 0 0) s m ([.ref h0, .int (nI je), .int (nI jp), .int x3] : List Value).toArray below meth c H locs 0 0 Q0 (F0 m 65 ls []) := by
              intro nZ
              induction nZ with
              | zero =>
                intro hZx be le H locs ls hkZ hPD hS hl
                refine Kan2 hPD (fun hP hD => ?_)
                have hzZ : th16062 < hZx := hz_end (by omega)
                refine lv_iload hx hb gX12_quarrel_3.2.2.2.2.2.2.2.1 (lv_at0 hl) ?_
                refine lv_aload_n hx hb gX12_quarrel_3.2.2.2.2.2.2.2.2.1 rfl (lv_at3 hl) ?_
                refine gf_X12_164 hC rfl hK hP 0 rfl rfl gX12_quarrel_3.2.2.2.2.2.2.2.2.2 ?_
                refine lv_icmp_gt (tgt := 194) hx hb gX12_quarrel_4.1 (by decide) (fun _ => ?_) (fun c9 => absurd (hzZ) c9)
                refine lv_iload_n hx hb gX12_quarrel_10.1 rfl (lv_at6 hl) ?_
                refine lv_if_ne (tgt := 203) hx hb gX12_quarrel_10.2.1 (by decide) (fun c_195_6064 => ?_) (fun c_195_6064 => ?_)
                · refine lv_sipush (v := 1000) hx hb gX12_quarrel_10.2.2.2.2.1 (by decide) ?_
                  refine lv_iload hx hb gX12_quarrel_10.2.2.2.2.2.1 (lv_at2 hl) ?_
                  refine lv_iadd hx hb gX12_quarrel_10.2.2.2.2.2.2.1 ?_
                  refine toQ hQ0 ?_
                  exact RI (v := 1000 + be) hC hP hD hS [0, 1, 2] (fh16061, th16062, gnm6034) rfl rfl (by decide) (⟨trivial, by first | assumption | exact hM⟩) rfl gX12_quarrel_10.2.2.2.2.2.2.2
                · refine lv_iload hx hb gX12_quarrel_10.2.2.1 (lv_at1 hl) ?_
                  refine lv_goto (tgt := 209) hx hb gX12_quarrel_10.2.2.2.1 (by decide) ?_
                  refine toQ hQ0 ?_
                  exact RI (v := le) hC hP hD hS [0, 1, 2] (fh16061, th16062, gnm6034) rfl rfl (by decide) (⟨trivial, by first | assumption | exact hM⟩) rfl gX12_quarrel_10.2.2.2.2.2.2.2
              | succ nZ ihZ =>
                intro hZx be le H locs ls hkZ hPD hS hl
                refine Kan2 hPD (fun hP hD => ?_)
                refine lv_iload hx hb gX12_quarrel_3.2.2.2.2.2.2.2.1 (lv_at0 hl) ?_
                refine lv_aload_n hx hb gX12_quarrel_3.2.2.2.2.2.2.2.2.1 rfl (lv_at3 hl) ?_
                refine gf_X12_164 hC rfl hK hP 0 rfl rfl gX12_quarrel_3.2.2.2.2.2.2.2.2.2 ?_
                refine lv_icmp_gt (tgt := 194) hx hb gX12_quarrel_4.1 (by decide) (fun c_71_6065 => ?_) (fun c_71_6065 => ?_)
                · refine lv_iload_n hx hb gX12_quarrel_10.1 rfl (lv_at6 hl) ?_
                  refine lv_if_ne (tgt := 203) hx hb gX12_quarrel_10.2.1 (by decide) (fun c_195_6066 => ?_) (fun c_195_6066 => ?_)
                  · refine lv_sipush (v := 1000) hx hb gX12_quarrel_10.2.2.2.2.1 (by decide) ?_
                    refine lv_iload hx hb gX12_quarrel_10.2.2.2.2.2.1 (lv_at2 hl) ?_
                    refine lv_iadd hx hb gX12_quarrel_10.2.2.2.2.2.2.1 ?_
                    refine toQ hQ0 ?_
                    exact RI (v := 1000 + be) hC hP hD hS [0, 1, 2] (fh16061, th16062, gnm6034) rfl rfl (by decide) (⟨trivial, by first | assumption | exact hM⟩) rfl gX12_quarrel_10.2.2.2.2.2.2.2
                  · refine lv_iload hx hb gX12_quarrel_10.2.2.1 (lv_at1 hl) ?_
                    refine lv_goto (tgt := 209) hx hb gX12_quarrel_10.2.2.2.1 (by decide) ?_
                    refine toQ hQ0 ?_
                    exact RI (v := le) hC hP hD hS [0, 1, 2] (fh16061, th16062, gnm6034) rfl rfl (by decide) (⟨trivial, by first | assumption | exact hM⟩) rfl gX12_quarrel_10.2.2.2.2.2.2.2
                · refine lv_iconst (v := 0) hx hb gX12_quarrel_4.2.1 (by decide) ?_
                  refine lv_istore (lv' := [(7, .int 0), (6, .int hZx), (5, .int le), (4, .int be), (0, .ref h0), (1, .int (nI je)), (2, .int (nI jp)), (3, .int x3)]) hx hb gX12_quarrel_4.2.2.1 hl (by decide) rfl (fun ls hl => ?_)
                  refine lv_iconst (v := 0) hx hb gX12_quarrel_4.2.2.2.1 (by decide) ?_
                  refine lv_istore (lv' := [(8, .int 0), (7, .int 0), (6, .int hZx), (5, .int le), (4, .int be), (0, .ref h0), (1, .int (nI je)), (2, .int (nI jp)), (3, .int x3)]) hx hb gX12_quarrel_4.2.2.2.2.1 hl (by decide) rfl (fun ls hl => ?_)
                  have keyQ : ∀ (nQ kQ : Nat) (su : Int32) (H : Heap) (locs : List Loc) (ls : Array Slot), kQ + nQ = k8 → va_PD G A [(h0, oX12 nw nk mhasKept nt mtaped nr mrowMany mroundOf mroundFrom 0 nm fh16061 th16062 ns mfrom mto msort misFault mdeep mcoded mlines nl nc nF np ntr nb mbestCost nso nsi nit nsh nsf nss nrc mtraced mdealer mnumber mwhose msize misParted), (nw, iA G 1662 fnw), (nm, iA G 36 gnm6034)] H → va_S A s.heap H locs → lv_has ls 10 [(8, .int (nI kQ)), (7, .int su), (6, .int hZx), (5, .int le), (4, .int be), (0, .ref h0), (1, .int (nI je)), (2, .int (nI jp)), (3, .int x3)] → W p l e (RM 6 0 0) s m ([.ref h0, .int (nI je), .int (nI jp), .int x3] : List Value).toArray below meth c H locs 0 0 Q0 (F0 m 80 ls []) := by
                    intro nQ
                    induction nQ with
                    | zero =>
                      intro kQ su H locs ls hkQ hPD hS hl
                      refine Kan2 hPD (fun hP hD => ?_)
                      obtain rfl : k8 = kQ := by omega
                      have hl : lv_has ls 10 [(8, .int (nI k8)), (7, .int su), (6, .int hZx), (5, .int le), (4, .int be), (0, .ref h0), (1, .int (nI je)), (2, .int (nI jp)), (3, .int x3)] := hl
                      refine lv_iload hx hb gX12_quarrel_4.2.2.2.2.2.1 (lv_at0 hl) ?_
                      refine lv_aload_n hx hb gX12_quarrel_4.2.2.2.2.2.2.1 rfl (lv_at5 hl) ?_
                      refine gf_X12_9 hC rfl hK hP 0 rfl rfl gX12_quarrel_4.2.2.2.2.2.2.2.1 ?_
                      refine lv_bipush (v := 8) hx hb gX12_quarrel_4.2.2.2.2.2.2.2.2.1 (by decide) ?_
                      refine ald hC hK hP 1 rfl (vin (by decide +kernel)) (k := 8) (by decide +kernel) (v := nI k8) (ek8) gX12_quarrel_4.2.2.2.2.2.2.2.2.2 ?_
                      refine lv_icmp_ge (tgt := 168) hx hb gX12_quarrel_5.1 (by decide) (fun _ => ?_) (fun c9 => absurd (Int32.le_refl _) c9)
                      refine lv_iload hx hb gX12_quarrel_8.2.2.2.2.2.2.2.2.2 (lv_at3 hl) ?_
                      refine lv_if_lt (tgt := 180) hx hb gX12_quarrel_9.1 (by decide) (fun c_170_6067 => ?_) (fun c_170_6067 => ?_)
                      · refine lv_iload hx hb gX12_quarrel_9.2.2.2.2.1 (lv_at1 hl) ?_
                        refine lv_istore (lv' := [(5, .int su), (8, .int (nI k8)), (7, .int su), (6, .int hZx), (4, .int be), (0, .ref h0), (1, .int (nI je)), (2, .int (nI jp)), (3, .int x3)]) hx hb gX12_quarrel_9.2.2.2.2.2.1 hl (by decide) rfl (fun ls hl => ?_)
                        refine lv_iload hx hb gX12_quarrel_9.2.2.2.2.2.2.1 (lv_at3 hl) ?_
                        refine lv_istore (lv' := [(4, .int hZx), (5, .int su), (8, .int (nI k8)), (7, .int su), (6, .int hZx), (0, .ref h0), (1, .int (nI je)), (2, .int (nI jp)), (3, .int x3)]) hx hb gX12_quarrel_9.2.2.2.2.2.2.2.1 hl (by decide) rfl (fun ls hl => ?_)
                        refine lv_iinc (v := hZx + 1) (lv' := [(6, .int (hZx + 1)), (4, .int hZx), (5, .int su), (8, .int (nI k8)), (7, .int su), (0, .ref h0), (1, .int (nI je)), (2, .int (nI jp)), (3, .int x3)]) hx hb gX12_quarrel_9.2.2.2.2.2.2.2.2.1 hl (k := 4) rfl (rfl) (by decide) rfl (fun ls hl => ?_)
                        refine lv_goto (tgt := 65) hx hb gX12_quarrel_9.2.2.2.2.2.2.2.2.2 (by decide) ?_
                        exact ihZ (hZx + 1) hZx su _ _ _ (hz_back c_71_6065 w6063 hkZ) (And.intro hP hD) hS (lv_sub hl [0, 2, 1, 5, 6, 7, 8] rfl)
                      · refine lv_iload hx hb gX12_quarrel_9.2.1 (lv_at1 hl) ?_
                        refine lv_iload hx hb gX12_quarrel_9.2.2.1 (lv_at3 hl) ?_
                        refine lv_icmp_ge (tgt := 188) hx hb gX12_quarrel_9.2.2.2.1 (by decide) (fun c_177_6068 => ?_) (fun c_177_6068 => ?_)
                        · refine lv_iinc (v := hZx + 1) (lv' := [(6, .int (hZx + 1)), (8, .int (nI k8)), (7, .int su), (5, .int le), (4, .int be), (0, .ref h0), (1, .int (nI je)), (2, .int (nI jp)), (3, .int x3)]) hx hb gX12_quarrel_9.2.2.2.2.2.2.2.2.1 hl (k := 2) rfl (rfl) (by decide) rfl (fun ls hl => ?_)
                          refine lv_goto (tgt := 65) hx hb gX12_quarrel_9.2.2.2.2.2.2.2.2.2 (by decide) ?_
                          exact ihZ (hZx + 1) be le _ _ _ (hz_back c_71_6065 w6063 hkZ) (And.intro hP hD) hS (lv_sub hl [0, 3, 4, 5, 6, 7, 8] rfl)
                        · refine lv_iload hx hb gX12_quarrel_9.2.2.2.2.1 (lv_at1 hl) ?_
                          refine lv_istore (lv' := [(5, .int su), (8, .int (nI k8)), (7, .int su), (6, .int hZx), (4, .int be), (0, .ref h0), (1, .int (nI je)), (2, .int (nI jp)), (3, .int x3)]) hx hb gX12_quarrel_9.2.2.2.2.2.1 hl (by decide) rfl (fun ls hl => ?_)
                          refine lv_iload hx hb gX12_quarrel_9.2.2.2.2.2.2.1 (lv_at3 hl) ?_
                          refine lv_istore (lv' := [(4, .int hZx), (5, .int su), (8, .int (nI k8)), (7, .int su), (6, .int hZx), (0, .ref h0), (1, .int (nI je)), (2, .int (nI jp)), (3, .int x3)]) hx hb gX12_quarrel_9.2.2.2.2.2.2.2.1 hl (by decide) rfl (fun ls hl => ?_)
                          refine lv_iinc (v := hZx + 1) (lv' := [(6, .int (hZx + 1)), (4, .int hZx), (5, .int su), (8, .int (nI k8)), (7, .int su), (0, .ref h0), (1, .int (nI je)), (2, .int (nI jp)), (3, .int x3)]) hx hb gX12_quarrel_9.2.2.2.2.2.2.2.2.1 hl (k := 4) rfl (rfl) (by decide) rfl (fun ls hl => ?_)
                          refine lv_goto (tgt := 65) hx hb gX12_quarrel_9.2.2.2.2.2.2.2.2.2 (by decide) ?_
                          exact ihZ (hZx + 1) hZx su _ _ _ (hz_back c_71_6065 w6063 hkZ) (And.intro hP hD) hS (lv_sub hl [0, 2, 1, 5, 6, 7, 8] rfl)
                    | succ nQ ihQ =>
                      intro kQ su H locs ls hkQ hPD hS hl
                      refine Kan2 hPD (fun hP hD => ?_)
                      refine lv_iload hx hb gX12_quarrel_4.2.2.2.2.2.1 (lv_at0 hl) ?_
                      refine lv_aload_n hx hb gX12_quarrel_4.2.2.2.2.2.2.1 rfl (lv_at5 hl) ?_
                      refine gf_X12_9 hC rfl hK hP 0 rfl rfl gX12_quarrel_4.2.2.2.2.2.2.2.1 ?_
                      refine lv_bipush (v := 8) hx hb gX12_quarrel_4.2.2.2.2.2.2.2.2.1 (by decide) ?_
                      refine ald hC hK hP 1 rfl (vin (by decide +kernel)) (k := 8) (by decide +kernel) (v := nI k8) (ek8) gX12_quarrel_4.2.2.2.2.2.2.2.2.2 ?_
                      refine lv_icmp_ge (tgt := 168) hx hb gX12_quarrel_5.1 (by decide) (fun c9 => absurd c9 (nI_ge (a := kQ) (b := k8) (by omega) (by omega))) (fun _ => ?_)
                      refine lv_aload_n hx hb gX12_quarrel_5.2.1 rfl (lv_at5 hl) ?_
                      refine lv_iload hx hb gX12_quarrel_5.2.2.1 (lv_at0 hl) ?_
                      refine pV hC hK hl hP hD (m_doesCount l G h0 kQ nw nk mhasKept nt mtaped nr mrowMany mroundOf mroundFrom 0 nm fh16061 th16062 ns mfrom mto msort misFault mdeep mcoded mlines nl nc nF np ntr nb mbestCost nso nsi nit nsh nsf nss nrc mtraced mdealer mnumber mwhose msize misParted fnw (by omega) (hN)) si_X12_117 [0, 1] sm_0_1 fm_0_1 nd_0_1 rfl rfl rfl rfl rfl (Nat.le_of_ble_eq_true rfl) rm_6_4_2 ⟨by first | exact Nat.le_of_ble_eq_true rfl | exact Nat.zero_le _, by first | exact Nat.le_of_ble_eq_true rfl | exact Nat.zero_le _⟩ gX12_quarrel_5.2.2.2.1 (Kors (Keqr ?_) (Keqr ?_))
                      · refine lv_if_eq (tgt := 127) hx hb gX12_quarrel_5.2.2.2.2.1 (by decide) (fun c9 => absurd c9 (by decide)) (fun _ => ?_)
                        refine lv_aload_n hx hb gX12_quarrel_5.2.2.2.2.2.1 rfl (lv_at5 hl) ?_
                        refine lv_iload hx hb gX12_quarrel_5.2.2.2.2.2.2.1 (lv_at0 hl) ?_
                        refine lv_iconst (v := 1) hx hb gX12_quarrel_5.2.2.2.2.2.2.2.1 (by decide) ?_
                        refine pV hC hK hl hP hD (m_saying l G h0 kQ 1 nw nk mhasKept nt mtaped nr mrowMany mroundOf mroundFrom 0 nm fh16061 th16062 ns mfrom mto msort misFault mdeep mcoded mlines nl nc nF np ntr nb mbestCost nso nsi nit nsh nsf nss nrc mtraced mdealer mnumber mwhose msize misParted fnw (by omega) (by omega)) si_X12_114 [0, 1] sm_0_1 fm_0_1 nd_0_1 rfl rfl rfl rfl rfl (Nat.le_of_ble_eq_true rfl) rm_6_1_3 ⟨by first | exact Nat.le_of_ble_eq_true rfl | exact Nat.zero_le _, by first | exact Nat.le_of_ble_eq_true rfl | exact Nat.zero_le _⟩ gX12_quarrel_5.2.2.2.2.2.2.2.2.1 (Keqr ?_)
                        refine lv_iload_n hx hb gX12_quarrel_5.2.2.2.2.2.2.2.2.2 rfl (lv_at6 hl) ?_
                        refine lv_icmp_ne (tgt := 127) hx hb gX12_quarrel_6.1 (by decide) (fun c_109_6073 => ?_) (fun c_109_6073 => ?_)
                        · refine lv_iconst (v := 0) hx hb gX12_quarrel_6.2.2.2.2.2.2.2.2.2 (by decide) ?_
                          refine lv_istore (lv' := [(9, .int 0), (8, .int (nI kQ)), (7, .int su), (6, .int hZx), (5, .int le), (4, .int be), (0, .ref h0), (1, .int (nI je)), (2, .int (nI jp)), (3, .int x3)]) hx hb gX12_quarrel_7.1 hl (by decide) rfl (fun ls hl => ?_)
                          refine lv_iload hx hb gX12_quarrel_7.2.1 (lv_at2 hl) ?_
                          refine lv_iload hx hb gX12_quarrel_7.2.2.1 (lv_at0 hl) ?_
                          refine lv_if_eq (tgt := 158) hx hb gX12_quarrel_7.2.2.2.1 (by decide) (fun _ => ?_) (fun c9 => absurd (by decide) c9)
                          refine lv_iconst (v := 0) hx hb gX12_quarrel_8.2.2.2.2.1 (by decide) ?_
                          refine lv_iadd hx hb gX12_quarrel_8.2.2.2.2.2.1 ?_
                          refine lv_istore (lv' := [(7, .int (su + 0)), (9, .int 0), (8, .int (nI kQ)), (6, .int hZx), (5, .int le), (4, .int be), (0, .ref h0), (1, .int (nI je)), (2, .int (nI jp)), (3, .int x3)]) hx hb gX12_quarrel_8.2.2.2.2.2.2.1 hl (by decide) rfl (fun ls hl => ?_)
                          refine lv_iinc (v := nI (kQ + 1)) (lv' := [(8, .int (nI (kQ + 1))), (7, .int (su + 0)), (9, .int 0), (6, .int hZx), (5, .int le), (4, .int be), (0, .ref h0), (1, .int (nI je)), (2, .int (nI jp)), (3, .int x3)]) hx hb gX12_quarrel_8.2.2.2.2.2.2.2.1 hl (k := 2) rfl (nI_1 _) (by decide) rfl (fun ls hl => ?_)
                          refine lv_goto (tgt := 80) hx hb gX12_quarrel_8.2.2.2.2.2.2.2.2.1 (by decide) ?_
                          exact ihQ (kQ + 1) (su + 0) _ _ _ (by omega) (And.intro hP hD) hS (lv_sub hl [0, 1, 3, 4, 5, 6, 7, 8, 9] rfl)
                        · refine lv_aload_n hx hb gX12_quarrel_6.2.1 rfl (lv_at5 hl) ?_
                          refine lv_iload hx hb gX12_quarrel_6.2.2.1 (lv_at0 hl) ?_
                          refine lv_iconst (v := 2) hx hb gX12_quarrel_6.2.2.2.1 (by decide) ?_
                          refine pV hC hK hl hP hD (m_saying l G h0 kQ 2 nw nk mhasKept nt mtaped nr mrowMany mroundOf mroundFrom 0 nm fh16061 th16062 ns mfrom mto msort misFault mdeep mcoded mlines nl nc nF np ntr nb mbestCost nso nsi nit nsh nsf nss nrc mtraced mdealer mnumber mwhose msize misParted fnw (by omega) (by omega)) si_X12_114 [0, 1] sm_0_1 fm_0_1 nd_0_1 rfl rfl rfl rfl rfl (Nat.le_of_ble_eq_true rfl) rm_6_1_3 ⟨by first | exact Nat.le_of_ble_eq_true rfl | exact Nat.zero_le _, by first | exact Nat.le_of_ble_eq_true rfl | exact Nat.zero_le _⟩ gX12_quarrel_6.2.2.2.2.1 (Keqr ?_)
                          refine lv_iload_n hx hb gX12_quarrel_6.2.2.2.2.2.1 rfl (lv_at7 hl) ?_
                          refine lv_icmp_ne (tgt := 127) hx hb gX12_quarrel_6.2.2.2.2.2.2.1 (by decide) (fun c_120_6076 => ?_) (fun c_120_6076 => ?_)
                          · refine lv_iconst (v := 0) hx hb gX12_quarrel_6.2.2.2.2.2.2.2.2.2 (by decide) ?_
                            refine lv_istore (lv' := [(9, .int 0), (8, .int (nI kQ)), (7, .int su), (6, .int hZx), (5, .int le), (4, .int be), (0, .ref h0), (1, .int (nI je)), (2, .int (nI jp)), (3, .int x3)]) hx hb gX12_quarrel_7.1 hl (by decide) rfl (fun ls hl => ?_)
                            refine lv_iload hx hb gX12_quarrel_7.2.1 (lv_at2 hl) ?_
                            refine lv_iload hx hb gX12_quarrel_7.2.2.1 (lv_at0 hl) ?_
                            refine lv_if_eq (tgt := 158) hx hb gX12_quarrel_7.2.2.2.1 (by decide) (fun _ => ?_) (fun c9 => absurd (by decide) c9)
                            refine lv_iconst (v := 0) hx hb gX12_quarrel_8.2.2.2.2.1 (by decide) ?_
                            refine lv_iadd hx hb gX12_quarrel_8.2.2.2.2.2.1 ?_
                            refine lv_istore (lv' := [(7, .int (su + 0)), (9, .int 0), (8, .int (nI kQ)), (6, .int hZx), (5, .int le), (4, .int be), (0, .ref h0), (1, .int (nI je)), (2, .int (nI jp)), (3, .int x3)]) hx hb gX12_quarrel_8.2.2.2.2.2.2.1 hl (by decide) rfl (fun ls hl => ?_)
                            refine lv_iinc (v := nI (kQ + 1)) (lv' := [(8, .int (nI (kQ + 1))), (7, .int (su + 0)), (9, .int 0), (6, .int hZx), (5, .int le), (4, .int be), (0, .ref h0), (1, .int (nI je)), (2, .int (nI jp)), (3, .int x3)]) hx hb gX12_quarrel_8.2.2.2.2.2.2.2.1 hl (k := 2) rfl (nI_1 _) (by decide) rfl (fun ls hl => ?_)
                            refine lv_goto (tgt := 80) hx hb gX12_quarrel_8.2.2.2.2.2.2.2.2.1 (by decide) ?_
                            exact ihQ (kQ + 1) (su + 0) _ _ _ (by omega) (And.intro hP hD) hS (lv_sub hl [0, 1, 3, 4, 5, 6, 7, 8, 9] rfl)
                          · refine lv_iconst (v := 1) hx hb gX12_quarrel_6.2.2.2.2.2.2.2.1 (by decide) ?_
                            refine lv_goto (tgt := 128) hx hb gX12_quarrel_6.2.2.2.2.2.2.2.2.1 (by decide) ?_
                            refine lv_istore (lv' := [(9, .int 1), (8, .int (nI kQ)), (7, .int su), (6, .int hZx), (5, .int le), (4, .int be), (0, .ref h0), (1, .int (nI je)), (2, .int (nI jp)), (3, .int x3)]) hx hb gX12_quarrel_7.1 hl (by decide) rfl (fun ls hl => ?_)
                            refine lv_iload hx hb gX12_quarrel_7.2.1 (lv_at2 hl) ?_
                            refine lv_iload hx hb gX12_quarrel_7.2.2.1 (lv_at0 hl) ?_
                            refine lv_if_eq (tgt := 158) hx hb gX12_quarrel_7.2.2.2.1 (by decide) (fun c9 => absurd c9 (by decide)) (fun _ => ?_)
                            refine lv_aload_n hx hb gX12_quarrel_7.2.2.2.2.1 rfl (lv_at6 hl) ?_
                            refine lv_iload hx hb gX12_quarrel_7.2.2.2.2.2.1 (lv_at3 hl) ?_
                            refine lv_iload hx hb gX12_quarrel_7.2.2.2.2.2.2.1 (lv_at1 hl) ?_
                            refine pV hC hK hl hP hD (m_isAgainst l G h0 hZx kQ nw nk mhasKept nt mtaped nr mrowMany mroundOf mroundFrom 0 nm fh16061 th16062 ns mfrom mto msort misFault mdeep mcoded mlines nl nc nF np ntr nb mbestCost nso nsi nit nsh nsf nss nrc mtraced mdealer mnumber mwhose msize misParted fnw (by omega)) si_X12_302 [0, 1] sm_0_1 fm_0_1 nd_0_1 rfl rfl rfl rfl rfl (Nat.le_of_ble_eq_true rfl) rm_6_2_3 ⟨by first | exact Nat.le_of_ble_eq_true rfl | exact Nat.zero_le _, by first | exact Nat.le_of_ble_eq_true rfl | exact Nat.zero_le _⟩ gX12_quarrel_7.2.2.2.2.2.2.2.1 (Kors (Keqr ?_) (Keqr ?_))
                            · refine lv_if_eq (tgt := 158) hx hb gX12_quarrel_7.2.2.2.2.2.2.2.2.1 (by decide) (fun c9 => absurd c9 (by decide)) (fun _ => ?_)
                              refine lv_aload_n hx hb gX12_quarrel_7.2.2.2.2.2.2.2.2.2 rfl (lv_at6 hl) ?_
                              refine lv_iload hx hb gX12_quarrel_8.1 (lv_at1 hl) ?_
                              refine lv_iconst (v := 4) hx hb gX12_quarrel_8.2.1 (by decide) ?_
                              refine pV hC hK hl hP hD (m_saying l G h0 kQ 4 nw nk mhasKept nt mtaped nr mrowMany mroundOf mroundFrom 0 nm fh16061 th16062 ns mfrom mto msort misFault mdeep mcoded mlines nl nc nF np ntr nb mbestCost nso nsi nit nsh nsf nss nrc mtraced mdealer mnumber mwhose msize misParted fnw (by omega) (by omega)) si_X12_114 [0, 1] sm_0_1 fm_0_1 nd_0_1 rfl rfl rfl rfl rfl (Nat.le_of_ble_eq_true rfl) rm_6_1_3 ⟨by first | exact Nat.le_of_ble_eq_true rfl | exact Nat.zero_le _, by first | exact Nat.le_of_ble_eq_true rfl | exact Nat.zero_le _⟩ gX12_quarrel_8.2.2.1 (Keqr ?_)
                              refine lv_goto (tgt := 159) hx hb gX12_quarrel_8.2.2.2.1 (by decide) ?_
                              refine lv_iadd hx hb gX12_quarrel_8.2.2.2.2.2.1 ?_
                              refine lv_istore (lv' := [(7, .int (su + (fnw (1424 + 8 * kQ + 4)))), (9, .int 1), (8, .int (nI kQ)), (6, .int hZx), (5, .int le), (4, .int be), (0, .ref h0), (1, .int (nI je)), (2, .int (nI jp)), (3, .int x3)]) hx hb gX12_quarrel_8.2.2.2.2.2.2.1 hl (by decide) rfl (fun ls hl => ?_)
                              refine lv_iinc (v := nI (kQ + 1)) (lv' := [(8, .int (nI (kQ + 1))), (7, .int (su + (fnw (1424 + 8 * kQ + 4)))), (9, .int 1), (6, .int hZx), (5, .int le), (4, .int be), (0, .ref h0), (1, .int (nI je)), (2, .int (nI jp)), (3, .int x3)]) hx hb gX12_quarrel_8.2.2.2.2.2.2.2.1 hl (k := 2) rfl (nI_1 _) (by decide) rfl (fun ls hl => ?_)
                              refine lv_goto (tgt := 80) hx hb gX12_quarrel_8.2.2.2.2.2.2.2.2.1 (by decide) ?_
                              exact ihQ (kQ + 1) (su + (fnw (1424 + 8 * kQ + 4))) _ _ _ (by omega) (And.intro hP hD) hS (lv_sub hl [0, 1, 3, 4, 5, 6, 7, 8, 9] rfl)
                            · refine lv_if_eq (tgt := 158) hx hb gX12_quarrel_7.2.2.2.2.2.2.2.2.1 (by decide) (fun _ => ?_) (fun c9 => absurd (by decide) c9)
                              refine lv_iconst (v := 0) hx hb gX12_quarrel_8.2.2.2.2.1 (by decide) ?_
                              refine lv_iadd hx hb gX12_quarrel_8.2.2.2.2.2.1 ?_
                              refine lv_istore (lv' := [(7, .int (su + 0)), (9, .int 1), (8, .int (nI kQ)), (6, .int hZx), (5, .int le), (4, .int be), (0, .ref h0), (1, .int (nI je)), (2, .int (nI jp)), (3, .int x3)]) hx hb gX12_quarrel_8.2.2.2.2.2.2.1 hl (by decide) rfl (fun ls hl => ?_)
                              refine lv_iinc (v := nI (kQ + 1)) (lv' := [(8, .int (nI (kQ + 1))), (7, .int (su + 0)), (9, .int 1), (6, .int hZx), (5, .int le), (4, .int be), (0, .ref h0), (1, .int (nI je)), (2, .int (nI jp)), (3, .int x3)]) hx hb gX12_quarrel_8.2.2.2.2.2.2.2.1 hl (k := 2) rfl (nI_1 _) (by decide) rfl (fun ls hl => ?_)
                              refine lv_goto (tgt := 80) hx hb gX12_quarrel_8.2.2.2.2.2.2.2.2.1 (by decide) ?_
                              exact ihQ (kQ + 1) (su + 0) _ _ _ (by omega) (And.intro hP hD) hS (lv_sub hl [0, 1, 3, 4, 5, 6, 7, 8, 9] rfl)
                      · refine lv_if_eq (tgt := 127) hx hb gX12_quarrel_5.2.2.2.2.1 (by decide) (fun _ => ?_) (fun c9 => absurd (by decide) c9)
                        refine lv_iconst (v := 0) hx hb gX12_quarrel_6.2.2.2.2.2.2.2.2.2 (by decide) ?_
                        refine lv_istore (lv' := [(9, .int 0), (8, .int (nI kQ)), (7, .int su), (6, .int hZx), (5, .int le), (4, .int be), (0, .ref h0), (1, .int (nI je)), (2, .int (nI jp)), (3, .int x3)]) hx hb gX12_quarrel_7.1 hl (by decide) rfl (fun ls hl => ?_)
                        refine lv_iload hx hb gX12_quarrel_7.2.1 (lv_at2 hl) ?_
                        refine lv_iload hx hb gX12_quarrel_7.2.2.1 (lv_at0 hl) ?_
                        refine lv_if_eq (tgt := 158) hx hb gX12_quarrel_7.2.2.2.1 (by decide) (fun _ => ?_) (fun c9 => absurd (by decide) c9)
                        refine lv_iconst (v := 0) hx hb gX12_quarrel_8.2.2.2.2.1 (by decide) ?_
                        refine lv_iadd hx hb gX12_quarrel_8.2.2.2.2.2.1 ?_
                        refine lv_istore (lv' := [(7, .int (su + 0)), (9, .int 0), (8, .int (nI kQ)), (6, .int hZx), (5, .int le), (4, .int be), (0, .ref h0), (1, .int (nI je)), (2, .int (nI jp)), (3, .int x3)]) hx hb gX12_quarrel_8.2.2.2.2.2.2.1 hl (by decide) rfl (fun ls hl => ?_)
                        refine lv_iinc (v := nI (kQ + 1)) (lv' := [(8, .int (nI (kQ + 1))), (7, .int (su + 0)), (9, .int 0), (6, .int hZx), (5, .int le), (4, .int be), (0, .ref h0), (1, .int (nI je)), (2, .int (nI jp)), (3, .int x3)]) hx hb gX12_quarrel_8.2.2.2.2.2.2.2.1 hl (k := 2) rfl (nI_1 _) (by decide) rfl (fun ls hl => ?_)
                        refine lv_goto (tgt := 80) hx hb gX12_quarrel_8.2.2.2.2.2.2.2.2.1 (by decide) ?_
                        exact ihQ (kQ + 1) (su + 0) _ _ _ (by omega) (And.intro hP hD) hS (lv_sub hl [0, 1, 3, 4, 5, 6, 7, 8, 9] rfl)
                  exact keyQ k8 0 0 _ _ _ (by omega) (And.intro hP hD) hS (lv_sub hl [0, 1, 2, 3, 4, 5, 6, 7, 8] rfl)
            exact keyZ ((th16062).toInt + 1 - (fh16061).toInt).toNat fh16061 fh16061 (-1) _ _ _ (by omega) (And.intro hP hD) hS (lv_sub hl [0, 1, 2, 3, 4, 5, 6] rfl)
        · refine lv_if_ne (tgt := 40) hx hb gX12_quarrel_2.1 (by decide) (fun c9 => absurd (by decide) c9) (fun _ => ?_)
          refine lv_bipush (v := (-3)) hx hb gX12_quarrel_2.2.1 (by decide) ?_
          refine toQ hQ0 ?_
          exact RI (v := (-3)) hC hP hD hS [0, 1, 2] (mfromHour, mtoHour, fnm) rfl rfl (by decide) (⟨trivial, by first | assumption | exact hM⟩) rfl gX12_quarrel_2.2.2.1
      · refine lv_if_ne (tgt := 29) hx hb gX12_quarrel_1.2.2.2.2.1 (by decide) (fun c9 => absurd (by decide) c9) (fun _ => ?_)
        refine lv_iconst (v := (-1)) hx hb gX12_quarrel_1.2.2.2.2.2.1 (by decide) ?_
        refine toQ hQ0 ?_
        exact RI (v := (-1)) hC hP hD hS [0, 1, 2] (mfromHour, mtoHour, fnm) rfl rfl (by decide) (⟨trivial, by first | assumption | exact hM⟩) rfl gX12_quarrel_1.2.2.2.2.2.2.1
    · refine lv_if_eq (tgt := 27) hx hb gX12_quarrel_0.2.2.2.2.2.2.2.2.2 (by decide) (fun _ => ?_) (fun c9 => absurd (by decide) c9)
      refine lv_iconst (v := (-1)) hx hb gX12_quarrel_1.2.2.2.2.2.1 (by decide) ?_
      refine toQ hQ0 ?_
      exact RI (v := (-1)) hC hP hD hS [0, 1, 2] (mfromHour, mtoHour, fnm) rfl rfl (by decide) (⟨trivial, by first | assumption | exact hM⟩) rfl gX12_quarrel_1.2.2.2.2.2.2.1
  · refine lv_if_eq (tgt := 27) hx hb gX12_quarrel_0.2.2.2.2.1 (by decide) (fun _ => ?_) (fun c9 => absurd (by decide) c9)
    refine lv_iconst (v := (-1)) hx hb gX12_quarrel_1.2.2.2.2.2.1 (by decide) ?_
    refine toQ hQ0 ?_
    exact RI (v := (-1)) hC hP hD hS [0, 1, 2] (mfromHour, mtoHour, fnm) rfl rfl (by decide) (⟨trivial, by first | assumption | exact hM⟩) rfl gX12_quarrel_1.2.2.2.2.2.2.1
def K_r_impossible (l : Launch) (G : GG) (h0 : Nat) (nw : Nat) (nk : Nat) (mhasKept : Int32) (nt : Nat) (mtaped : Int32) (nr : Nat) (mrowMany : Int32) (mroundOf : Int32) (mroundFrom : Int32) (nm : Nat) (mfromHour : Int32) (mtoHour : Int32) (ns : Nat) (mfrom : Int32) (mto : Int32) (msort : Int32) (misFault : Int32) (mdeep : Int32) (mcoded : Int32) (mlines : Int32) (nl : Nat) (nc : Nat) (nF : Nat) (np : Nat) (ntr : Nat) (nb : Nat) (mbestCost : Int32) (nso : Nat) (nsi : Nat) (nit : Nat) (nsh : Nat) (nsf : Nat) (nss : Nat) (nrc : Nat) (mtraced : Int32) (mdealer : Int32) (mnumber : Int32) (mwhose : Int32) (msize : Int32) (misParted : Int32) (fnw : Nat → Int32) (fnm : Nat → Int32) : Prop := MI l G yX12_impossible cX12_impossible 6 (some .int) 6 0 0 [.ref h0] [(h0, oX12 nw nk mhasKept nt mtaped nr mrowMany mroundOf mroundFrom 0 nm mfromHour mtoHour ns mfrom mto msort misFault mdeep mcoded mlines nl nc nF np ntr nb mbestCost nso nsi nit nsh nsf nss nrc mtraced mdealer mnumber mwhose msize misParted), (nw, iA G 1662 fnw), (nm, iA G 36 fnm)] (fun (r : Int32) (u : Int32 × Int32 × (Nat → Int32)) => (True) ∧ (MB u.2.2)) (fun u : Int32 × Int32 × (Nat → Int32) => [(h0, oX12 nw nk mhasKept nt mtaped nr mrowMany mroundOf mroundFrom 0 nm u.1 u.2.1 ns mfrom mto msort misFault mdeep mcoded mlines nl nc nF np ntr nb mbestCost nso nsi nit nsh nsf nss nrc mtraced mdealer mnumber mwhose msize misParted), (nw, iA G 1662 fnw), (nm, iA G 36 u.2.2)])
set_option maxHeartbeats 4000000 in
set_option maxRecDepth 100000 in
theorem r_impossible (l : Launch) (G : GG) (h0 : Nat) (nw : Nat) (nk : Nat) (mhasKept : Int32) (nt : Nat) (mtaped : Int32) (nr : Nat) (mrowMany : Int32) (mroundOf : Int32) (mroundFrom : Int32) (nm : Nat) (mfromHour : Int32) (mtoHour : Int32) (ns : Nat) (mfrom : Int32) (mto : Int32) (msort : Int32) (misFault : Int32) (mdeep : Int32) (mcoded : Int32) (mlines : Int32) (nl : Nat) (nc : Nat) (nF : Nat) (np : Nat) (ntr : Nat) (nb : Nat) (mbestCost : Int32) (nso : Nat) (nsi : Nat) (nit : Nat) (nsh : Nat) (nsf : Nat) (nss : Nat) (nrc : Nat) (mtraced : Int32) (mdealer : Int32) (mnumber : Int32) (mwhose : Int32) (msize : Int32) (misParted : Int32) (fnw : Nat → Int32) (fnm : Nat → Int32) (hN : NI fnw) (hM : MB fnm) : K_r_impossible l G h0 nw nk mhasKept nt mtaped nr mrowMany mroundOf mroundFrom nm mfromHour mtoHour ns mfrom mto msort misFault mdeep mcoded mlines nl nc nF np ntr nb mbestCost nso nsi nit nsh nsf nss nrc mtraced mdealer mnumber mwhose msize misParted fnw fnm := by
  refine MI.start (by decide +kernel) (Nat.le_of_ble_eq_true rfl) ?_
  intro p e s m below meth c A ls hC hK hP hD hS hA hl
  refine absQ (fun Q0 hQ0 => ?_)
  have hl : lv_has ls 6 [(0, .ref h0)] := hl
  refine Kan8 hC (fun hx hb hr hml hB hown hlocks hnm => ?_)
  obtain ⟨k8, hk8, ek8⟩ := NI.nat hN (i := 8) (B := 16) (by decide +kernel) (by decide)
  refine lv_aload_n hx hb gX12_impossible_0.1 rfl (lv_at0 hl) ?_
  refine iV (wr := []) hC hK hl hP hD hS hA (m_findClocks l G h0 nw nk mhasKept nt mtaped nr mrowMany mroundOf mroundFrom 0 nm mfromHour mtoHour ns mfrom mto msort misFault mdeep mcoded mlines nl nc nF np ntr nb mbestCost nso nsi nit nsh nsf nss nrc mtraced mdealer mnumber mwhose msize misParted fnw fnm (hN) (hM)) si_X12_148 [0, 1, 2] [] sm_0_1_2 fm_0_1_2 nd_0_1_2 rfl rfl (by decide) rfl rfl rfl rfl rfl (Nat.le_of_ble_eq_true rfl) rm_6_4_7 ⟨Nat.le_of_ble_eq_true rfl, Nat.le_of_ble_eq_true rfl⟩ gX12_impossible_0.2.1 (fun r6081 gnm6083 H locs hr6081 hP hD hS => ?_)
  try dsimp only at hr6081
  refine Kpdr (ws := [(h0, oX12 nw nk mhasKept nt mtaped nr mrowMany mroundOf mroundFrom 0 nm mfromHour mtoHour ns mfrom mto msort misFault mdeep mcoded mlines nl nc nF np ntr nb mbestCost nso nsi nit nsh nsf nss nrc mtraced mdealer mnumber mwhose msize misParted), (nw, iA G 1662 fnw), (nm, iA G 36 gnm6083)]) hP hD (fun hP hD => ?_)
  obtain ⟨hr6081, w6084⟩ := hr6081
  rcases hr6081 with rfl | rfl
  · refine lv_istore_n (lv' := [(1, .int 1), (0, .ref h0)]) hx hb gX12_impossible_0.2.2.1 rfl hl (by decide) rfl (fun ls hl => ?_)
    refine lv_iconst (v := 0) hx hb gX12_impossible_0.2.2.2.1 (by decide) ?_
    refine lv_istore_n (lv' := [(2, .int 0), (1, .int 1), (0, .ref h0)]) hx hb gX12_impossible_0.2.2.2.2.1 rfl hl (by decide) rfl (fun ls hl => ?_)
    refine lv_iconst (v := 0) hx hb gX12_impossible_0.2.2.2.2.2.1 (by decide) ?_
    refine lv_istore_n (lv' := [(3, .int 0), (2, .int 0), (1, .int 1), (0, .ref h0)]) hx hb gX12_impossible_0.2.2.2.2.2.2.1 rfl hl (by decide) rfl (fun ls hl => ?_)
    have keyP : ∀ (nP kP : Nat) (se : Int32) (vfh : Int32) (vth : Int32) (H : Heap) (locs : List Loc) (ls : Array Slot), kP + nP = k8 → va_PD G A [(h0, oX12 nw nk mhasKept nt mtaped nr mrowMany mroundOf mroundFrom 0 nm vfh vth ns mfrom mto msort misFault mdeep mcoded mlines nl nc nF np ntr nb mbestCost nso nsi nit nsh nsf nss nrc mtraced mdealer mnumber mwhose msize misParted), (nw, iA G 1662 fnw), (nm, iA G 36 gnm6083)] H → va_S A s.heap H locs → lv_has ls 6 [(3, .int (nI kP)), (2, .int se), (1, .int 1), (0, .ref h0)] → W p l e (RM 6 0 0) s m ([.ref h0] : List Value).toArray below meth c H locs 0 0 Q0 (F0 m 9 ls []) := by
      intro nP
      induction nP with
      | zero =>
        intro kP se vfh vth H locs ls hkP hPD hS hl
        refine Kan2 hPD (fun hP hD => ?_)
        obtain rfl : k8 = kP := by omega
        have hl : lv_has ls 6 [(3, .int (nI k8)), (2, .int se), (1, .int 1), (0, .ref h0)] := hl
        refine lv_iload_n hx hb gX12_impossible_0.2.2.2.2.2.2.2.1 rfl (lv_at0 hl) ?_
        refine lv_aload_n hx hb gX12_impossible_0.2.2.2.2.2.2.2.2.1 rfl (lv_at3 hl) ?_
        refine gf_X12_9 hC rfl hK hP 0 rfl rfl gX12_impossible_0.2.2.2.2.2.2.2.2.2 ?_
        refine lv_bipush (v := 8) hx hb gX12_impossible_1.1 (by decide) ?_
        refine ald hC hK hP 1 rfl (vin (by decide +kernel)) (k := 8) (by decide +kernel) (v := nI k8) (ek8) gX12_impossible_1.2.1 ?_
        refine lv_icmp_ge (tgt := 104) hx hb gX12_impossible_1.2.2.1 (by decide) (fun _ => ?_) (fun c9 => absurd (Int32.le_refl _) c9)
        refine lv_iload_n hx hb gX12_impossible_5.2.2.2.2.2.2.2.2.1 rfl (lv_at1 hl) ?_
        refine toQ hQ0 ?_
        exact RI (v := se) hC hP hD hS [0, 1, 2] (vfh, vth, gnm6083) rfl rfl (by decide) (⟨trivial, by first | assumption | exact hM⟩) rfl gX12_impossible_5.2.2.2.2.2.2.2.2.2
      | succ nP ihP =>
        intro kP se vfh vth H locs ls hkP hPD hS hl
        refine Kan2 hPD (fun hP hD => ?_)
        refine lv_iload_n hx hb gX12_impossible_0.2.2.2.2.2.2.2.1 rfl (lv_at0 hl) ?_
        refine lv_aload_n hx hb gX12_impossible_0.2.2.2.2.2.2.2.2.1 rfl (lv_at3 hl) ?_
        refine gf_X12_9 hC rfl hK hP 0 rfl rfl gX12_impossible_0.2.2.2.2.2.2.2.2.2 ?_
        refine lv_bipush (v := 8) hx hb gX12_impossible_1.1 (by decide) ?_
        refine ald hC hK hP 1 rfl (vin (by decide +kernel)) (k := 8) (by decide +kernel) (v := nI k8) (ek8) gX12_impossible_1.2.1 ?_
        refine lv_icmp_ge (tgt := 104) hx hb gX12_impossible_1.2.2.1 (by decide) (fun c9 => absurd c9 (nI_ge (a := kP) (b := k8) (by omega) (by omega))) (fun _ => ?_)
        refine lv_aload_n hx hb gX12_impossible_1.2.2.2.1 rfl (lv_at3 hl) ?_
        refine lv_iload_n hx hb gX12_impossible_1.2.2.2.2.1 rfl (lv_at0 hl) ?_
        refine pV hC hK hl hP hD (m_doesCount l G h0 kP nw nk mhasKept nt mtaped nr mrowMany mroundOf mroundFrom 0 nm vfh vth ns mfrom mto msort misFault mdeep mcoded mlines nl nc nF np ntr nb mbestCost nso nsi nit nsh nsf nss nrc mtraced mdealer mnumber mwhose msize misParted fnw (by omega) (hN)) si_X12_117 [0, 1] sm_0_1 fm_0_1 nd_0_1 rfl rfl rfl rfl rfl (Nat.le_of_ble_eq_true rfl) rm_6_4_2 ⟨by first | exact Nat.le_of_ble_eq_true rfl | exact Nat.zero_le _, by first | exact Nat.le_of_ble_eq_true rfl | exact Nat.zero_le _⟩ gX12_impossible_1.2.2.2.2.2.1 (Kors (Keqr ?_) (Keqr ?_))
        · refine lv_if_eq (tgt := 98) hx hb gX12_impossible_1.2.2.2.2.2.2.1 (by decide) (fun c9 => absurd c9 (by decide)) (fun _ => ?_)
          refine lv_aload_n hx hb gX12_impossible_1.2.2.2.2.2.2.2.1 rfl (lv_at3 hl) ?_
          refine lv_aload_n hx hb gX12_impossible_1.2.2.2.2.2.2.2.2.1 rfl (lv_at3 hl) ?_
          refine lv_iload_n hx hb gX12_impossible_1.2.2.2.2.2.2.2.2.2 rfl (lv_at0 hl) ?_
          refine lv_iconst (v := 2) hx hb gX12_impossible_2.1 (by decide) ?_
          refine pV hC hK hl hP hD (m_saying l G h0 kP 2 nw nk mhasKept nt mtaped nr mrowMany mroundOf mroundFrom 0 nm vfh vth ns mfrom mto msort misFault mdeep mcoded mlines nl nc nF np ntr nb mbestCost nso nsi nit nsh nsf nss nrc mtraced mdealer mnumber mwhose msize misParted fnw (by omega) (by omega)) si_X12_114 [0, 1] sm_0_1 fm_0_1 nd_0_1 rfl rfl rfl rfl rfl (Nat.le_of_ble_eq_true rfl) rm_6_1_3 ⟨by first | exact Nat.le_of_ble_eq_true rfl | exact Nat.zero_le _, by first | exact Nat.le_of_ble_eq_true rfl | exact Nat.zero_le _⟩ gX12_impossible_2.2.1 (Keqr ?_)
          obtain ⟨spp, hspp, espp⟩ := NI.nat hN (i := 1424 + 8 * kP + 2) (B := 11) (bnd_say2 (s := kP) rfl (by omega)) (by decide)
          refine eqi (x1 := nI spp) espp ?_
          refine lv_aload_n hx hb gX12_impossible_2.2.2.1 rfl (lv_at3 hl) ?_
          refine lv_iload_n hx hb gX12_impossible_2.2.2.2.1 rfl (lv_at0 hl) ?_
          refine lv_iconst (v := 1) hx hb gX12_impossible_2.2.2.2.2.1 (by decide) ?_
          refine pV hC hK hl hP hD (m_saying l G h0 kP 1 nw nk mhasKept nt mtaped nr mrowMany mroundOf mroundFrom 0 nm vfh vth ns mfrom mto msort misFault mdeep mcoded mlines nl nc nF np ntr nb mbestCost nso nsi nit nsh nsf nss nrc mtraced mdealer mnumber mwhose msize misParted fnw (by omega) (by omega)) si_X12_114 [0, 1] sm_0_1 fm_0_1 nd_0_1 rfl rfl rfl rfl rfl (Nat.le_of_ble_eq_true rfl) rm_6_1_3 ⟨by first | exact Nat.le_of_ble_eq_true rfl | exact Nat.zero_le _, by first | exact Nat.le_of_ble_eq_true rfl | exact Nat.zero_le _⟩ gX12_impossible_2.2.2.2.2.2.1 (Keqr ?_)
          obtain ⟨sof, hsof, esof⟩ := NI.nat hN (i := 1424 + 8 * kP + 1) (B := 9) (bnd_say1 (s := kP) rfl (by omega)) (by decide)
          refine eqi (x1 := nI sof) esof ?_
          refine lv_iload_n hx hb gX12_impossible_2.2.2.2.2.2.2.1 rfl (lv_at2 hl) ?_
          refine vV (wr := []) hC hK hl hP hD hS hA (m_findHours l G h0 spp sof 1 nw nk mhasKept nt mtaped nr mrowMany mroundOf mroundFrom 0 nm vfh vth ns mfrom mto msort misFault mdeep mcoded mlines nl nc nF np ntr nb mbestCost nso nsi nit nsh nsf nss nrc mtraced mdealer mnumber mwhose msize misParted fnw gnm6083 (by omega) (by omega) (hN) (w6084)) si_X12_298 [0, 1, 2] [] sm_0_1_2 fm_0_1_2 nd_0_1_2 rfl rfl (by decide) rfl rfl rfl rfl rfl (Nat.le_of_ble_eq_true rfl) rm_6_5_4 ⟨Nat.le_of_ble_eq_true rfl, Nat.le_of_ble_eq_true rfl⟩ gX12_impossible_2.2.2.2.2.2.2.2.1 (Ktu2 fun fh16094 th16095 => ?_)
          intro H locs hr6092 hP hD hS
          try dsimp only at hr6092
          refine Kpdr (ws := [(h0, oX12 nw nk mhasKept nt mtaped nr mrowMany mroundOf mroundFrom 0 nm fh16094 th16095 ns mfrom mto msort misFault mdeep mcoded mlines nl nc nF np ntr nb mbestCost nso nsi nit nsh nsf nss nrc mtraced mdealer mnumber mwhose msize misParted), (nw, iA G 1662 fnw), (nm, iA G 36 gnm6083)]) hP hD (fun hP hD => ?_)
          have w6096 := hr6092
          refine lv_iconst (v := 1) hx hb gX12_impossible_2.2.2.2.2.2.2.2.2.1 (by decide) ?_
          refine lv_istore (lv' := [(4, .int 1), (3, .int (nI kP)), (2, .int se), (1, .int 1), (0, .ref h0)]) hx hb gX12_impossible_2.2.2.2.2.2.2.2.2.2 hl (by decide) rfl (fun ls hl => ?_)
          refine lv_aload_n hx hb gX12_impossible_3.1 rfl (lv_at4 hl) ?_
          refine gf_X12_161 hC rfl hK hP 0 rfl rfl gX12_impossible_3.2.1 ?_
          refine lv_istore (lv' := [(5, .int fh16094), (4, .int 1), (3, .int (nI kP)), (2, .int se), (1, .int 1), (0, .ref h0)]) hx hb gX12_impossible_3.2.2.1 hl (by decide) rfl (fun ls hl => ?_)
          have keyZ : ∀ (nZ : Nat) (hZx : Int32) (al : Int32) (H : Heap) (locs : List Loc) (ls : Array Slot), (th16095).toInt + 1 - hZx.toInt ≤ (nZ : Int) → va_PD G A [(h0, oX12 nw nk mhasKept nt mtaped nr mrowMany mroundOf mroundFrom 0 nm fh16094 th16095 ns mfrom mto msort misFault mdeep mcoded mlines nl nc nF np ntr nb mbestCost nso nsi nit nsh nsf nss nrc mtraced mdealer mnumber mwhose msize misParted), (nw, iA G 1662 fnw), (nm, iA G 36 gnm6083)] H → va_S A s.heap H locs → lv_has ls 6 [(5, .int hZx), (4, .int al), (3, .int (nI kP)), (2, .int se), (1, .int 1), (0, .ref h0)] → W p l e (RM 6 0 0) s m ([.ref h0] : List Value).toArray below meth c H locs 0 0 Q0 (F0 m 54 ls []) := by
            intro nZ
            induction nZ with
            | zero =>
              intro hZx al H locs ls hkZ hPD hS hl
              refine Kan2 hPD (fun hP hD => ?_)
              have hzZ : th16095 < hZx := hz_end (by omega)
              refine lv_iload hx hb gX12_impossible_3.2.2.2.1 (lv_at0 hl) ?_
              refine lv_aload_n hx hb gX12_impossible_3.2.2.2.2.1 rfl (lv_at5 hl) ?_
              refine gf_X12_164 hC rfl hK hP 0 rfl rfl gX12_impossible_3.2.2.2.2.2.1 ?_
              refine lv_icmp_gt (tgt := 83) hx hb gX12_impossible_3.2.2.2.2.2.2.1 (by decide) (fun _ => ?_) (fun c9 => absurd (hzZ) c9)
              refine lv_iload_n hx hb gX12_impossible_4.2.2.2.2.2.2.1 rfl (lv_at3 hl) ?_
              refine lv_iload hx hb gX12_impossible_4.2.2.2.2.2.2.2.1 (lv_at1 hl) ?_
              refine lv_if_eq (tgt := 95) hx hb gX12_impossible_4.2.2.2.2.2.2.2.2.1 (by decide) (fun c_86_6097 => ?_) (fun c_86_6097 => ?_)
              · refine lv_iconst (v := 0) hx hb gX12_impossible_5.2.2.2.1 (by decide) ?_
                refine lv_ior hx hb gX12_impossible_5.2.2.2.2.1 ?_
                refine lv_istore_n (lv' := [(2, .int (se ||| 0)), (5, .int hZx), (4, .int al), (3, .int (nI kP)), (1, .int 1), (0, .ref h0)]) hx hb gX12_impossible_5.2.2.2.2.2.1 rfl hl (by decide) rfl (fun ls hl => ?_)
                refine lv_iinc (v := nI (kP + 1)) (lv' := [(3, .int (nI (kP + 1))), (2, .int (se ||| 0)), (5, .int hZx), (4, .int al), (1, .int 1), (0, .ref h0)]) hx hb gX12_impossible_5.2.2.2.2.2.2.1 hl (k := 3) rfl (nI_1 _) (by decide) rfl (fun ls hl => ?_)
                refine lv_goto (tgt := 9) hx hb gX12_impossible_5.2.2.2.2.2.2.2.1 (by decide) ?_
                exact ihP (kP + 1) (se ||| 0) fh16094 th16095 _ _ _ (by omega) (And.intro hP hD) hS (lv_sub hl [0, 1, 4, 5] rfl)
              · refine lv_iconst (v := 1) hx hb gX12_impossible_4.2.2.2.2.2.2.2.2.2 (by decide) ?_
                refine lv_iload_n hx hb gX12_impossible_5.1 rfl (lv_at2 hl) ?_
                refine lv_ishl hx hb gX12_impossible_5.2.1 ?_
                refine lv_goto (tgt := 96) hx hb gX12_impossible_5.2.2.1 (by decide) ?_
                refine lv_ior hx hb gX12_impossible_5.2.2.2.2.1 ?_
                refine lv_istore_n (lv' := [(2, .int (se ||| (1 <<< ((nI kP) &&& 31)))), (5, .int hZx), (4, .int al), (3, .int (nI kP)), (1, .int 1), (0, .ref h0)]) hx hb gX12_impossible_5.2.2.2.2.2.1 rfl hl (by decide) rfl (fun ls hl => ?_)
                refine lv_iinc (v := nI (kP + 1)) (lv' := [(3, .int (nI (kP + 1))), (2, .int (se ||| (1 <<< ((nI kP) &&& 31)))), (5, .int hZx), (4, .int al), (1, .int 1), (0, .ref h0)]) hx hb gX12_impossible_5.2.2.2.2.2.2.1 hl (k := 3) rfl (nI_1 _) (by decide) rfl (fun ls hl => ?_)
                refine lv_goto (tgt := 9) hx hb gX12_impossible_5.2.2.2.2.2.2.2.1 (by decide) ?_
                exact ihP (kP + 1) (se ||| (1 <<< ((nI kP) &&& 31))) fh16094 th16095 _ _ _ (by omega) (And.intro hP hD) hS (lv_sub hl [0, 1, 4, 5] rfl)
            | succ nZ ihZ =>
              intro hZx al H locs ls hkZ hPD hS hl
              refine Kan2 hPD (fun hP hD => ?_)
              refine lv_iload hx hb gX12_impossible_3.2.2.2.1 (lv_at0 hl) ?_
              refine lv_aload_n hx hb gX12_impossible_3.2.2.2.2.1 rfl (lv_at5 hl) ?_
              refine gf_X12_164 hC rfl hK hP 0 rfl rfl gX12_impossible_3.2.2.2.2.2.1 ?_
              refine lv_icmp_gt (tgt := 83) hx hb gX12_impossible_3.2.2.2.2.2.2.1 (by decide) (fun c_60_6098 => ?_) (fun c_60_6098 => ?_)
              · refine lv_iload_n hx hb gX12_impossible_4.2.2.2.2.2.2.1 rfl (lv_at3 hl) ?_
                refine lv_iload hx hb gX12_impossible_4.2.2.2.2.2.2.2.1 (lv_at1 hl) ?_
                refine lv_if_eq (tgt := 95) hx hb gX12_impossible_4.2.2.2.2.2.2.2.2.1 (by decide) (fun c_86_6099 => ?_) (fun c_86_6099 => ?_)
                · refine lv_iconst (v := 0) hx hb gX12_impossible_5.2.2.2.1 (by decide) ?_
                  refine lv_ior hx hb gX12_impossible_5.2.2.2.2.1 ?_
                  refine lv_istore_n (lv' := [(2, .int (se ||| 0)), (5, .int hZx), (4, .int al), (3, .int (nI kP)), (1, .int 1), (0, .ref h0)]) hx hb gX12_impossible_5.2.2.2.2.2.1 rfl hl (by decide) rfl (fun ls hl => ?_)
                  refine lv_iinc (v := nI (kP + 1)) (lv' := [(3, .int (nI (kP + 1))), (2, .int (se ||| 0)), (5, .int hZx), (4, .int al), (1, .int 1), (0, .ref h0)]) hx hb gX12_impossible_5.2.2.2.2.2.2.1 hl (k := 3) rfl (nI_1 _) (by decide) rfl (fun ls hl => ?_)
                  refine lv_goto (tgt := 9) hx hb gX12_impossible_5.2.2.2.2.2.2.2.1 (by decide) ?_
                  exact ihP (kP + 1) (se ||| 0) fh16094 th16095 _ _ _ (by omega) (And.intro hP hD) hS (lv_sub hl [0, 1, 4, 5] rfl)
                · refine lv_iconst (v := 1) hx hb gX12_impossible_4.2.2.2.2.2.2.2.2.2 (by decide) ?_
                  refine lv_iload_n hx hb gX12_impossible_5.1 rfl (lv_at2 hl) ?_
                  refine lv_ishl hx hb gX12_impossible_5.2.1 ?_
                  refine lv_goto (tgt := 96) hx hb gX12_impossible_5.2.2.1 (by decide) ?_
                  refine lv_ior hx hb gX12_impossible_5.2.2.2.2.1 ?_
                  refine lv_istore_n (lv' := [(2, .int (se ||| (1 <<< ((nI kP) &&& 31)))), (5, .int hZx), (4, .int al), (3, .int (nI kP)), (1, .int 1), (0, .ref h0)]) hx hb gX12_impossible_5.2.2.2.2.2.1 rfl hl (by decide) rfl (fun ls hl => ?_)
                  refine lv_iinc (v := nI (kP + 1)) (lv' := [(3, .int (nI (kP + 1))), (2, .int (se ||| (1 <<< ((nI kP) &&& 31)))), (5, .int hZx), (4, .int al), (1, .int 1), (0, .ref h0)]) hx hb gX12_impossible_5.2.2.2.2.2.2.1 hl (k := 3) rfl (nI_1 _) (by decide) rfl (fun ls hl => ?_)
                  refine lv_goto (tgt := 9) hx hb gX12_impossible_5.2.2.2.2.2.2.2.1 (by decide) ?_
                  exact ihP (kP + 1) (se ||| (1 <<< ((nI kP) &&& 31))) fh16094 th16095 _ _ _ (by omega) (And.intro hP hD) hS (lv_sub hl [0, 1, 4, 5] rfl)
              · refine lv_iload hx hb gX12_impossible_3.2.2.2.2.2.2.2.1 (lv_at1 hl) ?_
                refine lv_if_eq (tgt := 83) hx hb gX12_impossible_3.2.2.2.2.2.2.2.2.1 (by decide) (fun c_65_6100 => ?_) (fun c_65_6100 => ?_)
                · refine lv_iload_n hx hb gX12_impossible_4.2.2.2.2.2.2.1 rfl (lv_at3 hl) ?_
                  refine lv_iload hx hb gX12_impossible_4.2.2.2.2.2.2.2.1 (lv_at1 hl) ?_
                  refine lv_if_eq (tgt := 95) hx hb gX12_impossible_4.2.2.2.2.2.2.2.2.1 (by decide) (fun _ => ?_) (fun c9 => absurd (c_65_6100) c9)
                  refine lv_iconst (v := 0) hx hb gX12_impossible_5.2.2.2.1 (by decide) ?_
                  refine lv_ior hx hb gX12_impossible_5.2.2.2.2.1 ?_
                  refine lv_istore_n (lv' := [(2, .int (se ||| 0)), (5, .int hZx), (4, .int al), (3, .int (nI kP)), (1, .int 1), (0, .ref h0)]) hx hb gX12_impossible_5.2.2.2.2.2.1 rfl hl (by decide) rfl (fun ls hl => ?_)
                  refine lv_iinc (v := nI (kP + 1)) (lv' := [(3, .int (nI (kP + 1))), (2, .int (se ||| 0)), (5, .int hZx), (4, .int al), (1, .int 1), (0, .ref h0)]) hx hb gX12_impossible_5.2.2.2.2.2.2.1 hl (k := 3) rfl (nI_1 _) (by decide) rfl (fun ls hl => ?_)
                  refine lv_goto (tgt := 9) hx hb gX12_impossible_5.2.2.2.2.2.2.2.1 (by decide) ?_
                  exact ihP (kP + 1) (se ||| 0) fh16094 th16095 _ _ _ (by omega) (And.intro hP hD) hS (lv_sub hl [0, 1, 4, 5] rfl)
                · refine lv_aload_n hx hb gX12_impossible_3.2.2.2.2.2.2.2.2.2 rfl (lv_at5 hl) ?_
                  refine lv_iload hx hb gX12_impossible_4.1 (lv_at0 hl) ?_
                  refine lv_iload_n hx hb gX12_impossible_4.2.1 rfl (lv_at2 hl) ?_
                  refine pV hC hK hl hP hD (m_isAgainst l G h0 hZx kP nw nk mhasKept nt mtaped nr mrowMany mroundOf mroundFrom 0 nm fh16094 th16095 ns mfrom mto msort misFault mdeep mcoded mlines nl nc nF np ntr nb mbestCost nso nsi nit nsh nsf nss nrc mtraced mdealer mnumber mwhose msize misParted fnw (by omega)) si_X12_302 [0, 1] sm_0_1 fm_0_1 nd_0_1 rfl rfl rfl rfl rfl (Nat.le_of_ble_eq_true rfl) rm_6_2_3 ⟨by first | exact Nat.le_of_ble_eq_true rfl | exact Nat.zero_le _, by first | exact Nat.le_of_ble_eq_true rfl | exact Nat.zero_le _⟩ gX12_impossible_4.2.2.1 (Kors (Keqr ?_) (Keqr ?_))
                  · refine lv_istore (lv' := [(4, .int 1), (5, .int hZx), (3, .int (nI kP)), (2, .int se), (1, .int 1), (0, .ref h0)]) hx hb gX12_impossible_4.2.2.2.1 hl (by decide) rfl (fun ls hl => ?_)
                    refine lv_iinc (v := hZx + 1) (lv' := [(5, .int (hZx + 1)), (4, .int 1), (3, .int (nI kP)), (2, .int se), (1, .int 1), (0, .ref h0)]) hx hb gX12_impossible_4.2.2.2.2.1 hl (k := 1) rfl (rfl) (by decide) rfl (fun ls hl => ?_)
                    refine lv_goto (tgt := 54) hx hb gX12_impossible_4.2.2.2.2.2.1 (by decide) ?_
                    exact ihZ (hZx + 1) 1 _ _ _ (hz_back c_60_6098 w6096 hkZ) (And.intro hP hD) hS (lv_sub hl [0, 1, 2, 3, 4, 5] rfl)
                  · refine lv_istore (lv' := [(4, .int 0), (5, .int hZx), (3, .int (nI kP)), (2, .int se), (1, .int 1), (0, .ref h0)]) hx hb gX12_impossible_4.2.2.2.1 hl (by decide) rfl (fun ls hl => ?_)
                    refine lv_iinc (v := hZx + 1) (lv' := [(5, .int (hZx + 1)), (4, .int 0), (3, .int (nI kP)), (2, .int se), (1, .int 1), (0, .ref h0)]) hx hb gX12_impossible_4.2.2.2.2.1 hl (k := 1) rfl (rfl) (by decide) rfl (fun ls hl => ?_)
                    refine lv_goto (tgt := 54) hx hb gX12_impossible_4.2.2.2.2.2.1 (by decide) ?_
                    exact ihZ (hZx + 1) 0 _ _ _ (hz_back c_60_6098 w6096 hkZ) (And.intro hP hD) hS (lv_sub hl [0, 1, 2, 3, 4, 5] rfl)
          exact keyZ ((th16095).toInt + 1 - (fh16094).toInt).toNat fh16094 1 _ _ _ (by omega) (And.intro hP hD) hS (lv_sub hl [0, 1, 2, 3, 4, 5] rfl)
        · refine lv_if_eq (tgt := 98) hx hb gX12_impossible_1.2.2.2.2.2.2.1 (by decide) (fun _ => ?_) (fun c9 => absurd (by decide) c9)
          refine lv_iinc (v := nI (kP + 1)) (lv' := [(3, .int (nI (kP + 1))), (2, .int se), (1, .int 1), (0, .ref h0)]) hx hb gX12_impossible_5.2.2.2.2.2.2.1 hl (k := 0) rfl (nI_1 _) (by decide) rfl (fun ls hl => ?_)
          refine lv_goto (tgt := 9) hx hb gX12_impossible_5.2.2.2.2.2.2.2.1 (by decide) ?_
          exact ihP (kP + 1) se vfh vth _ _ _ (by omega) (And.intro hP hD) hS (lv_sub hl [0, 1, 2, 3] rfl)
    exact keyP k8 0 0 mfromHour mtoHour _ _ _ (by omega) (And.intro hP hD) hS (lv_sub hl [0, 1, 2, 3] rfl)
  · refine lv_istore_n (lv' := [(1, .int 0), (0, .ref h0)]) hx hb gX12_impossible_0.2.2.1 rfl hl (by decide) rfl (fun ls hl => ?_)
    refine lv_iconst (v := 0) hx hb gX12_impossible_0.2.2.2.1 (by decide) ?_
    refine lv_istore_n (lv' := [(2, .int 0), (1, .int 0), (0, .ref h0)]) hx hb gX12_impossible_0.2.2.2.2.1 rfl hl (by decide) rfl (fun ls hl => ?_)
    refine lv_iconst (v := 0) hx hb gX12_impossible_0.2.2.2.2.2.1 (by decide) ?_
    refine lv_istore_n (lv' := [(3, .int 0), (2, .int 0), (1, .int 0), (0, .ref h0)]) hx hb gX12_impossible_0.2.2.2.2.2.2.1 rfl hl (by decide) rfl (fun ls hl => ?_)
    have keyP : ∀ (nP kP : Nat) (se : Int32) (vfh : Int32) (vth : Int32) (H : Heap) (locs : List Loc) (ls : Array Slot), kP + nP = k8 → va_PD G A [(h0, oX12 nw nk mhasKept nt mtaped nr mrowMany mroundOf mroundFrom 0 nm vfh vth ns mfrom mto msort misFault mdeep mcoded mlines nl nc nF np ntr nb mbestCost nso nsi nit nsh nsf nss nrc mtraced mdealer mnumber mwhose msize misParted), (nw, iA G 1662 fnw), (nm, iA G 36 gnm6083)] H → va_S A s.heap H locs → lv_has ls 6 [(3, .int (nI kP)), (2, .int se), (1, .int 0), (0, .ref h0)] → W p l e (RM 6 0 0) s m ([.ref h0] : List Value).toArray below meth c H locs 0 0 Q0 (F0 m 9 ls []) := by
      intro nP
      induction nP with
      | zero =>
        intro kP se vfh vth H locs ls hkP hPD hS hl
        refine Kan2 hPD (fun hP hD => ?_)
        obtain rfl : k8 = kP := by omega
        have hl : lv_has ls 6 [(3, .int (nI k8)), (2, .int se), (1, .int 0), (0, .ref h0)] := hl
        refine lv_iload_n hx hb gX12_impossible_0.2.2.2.2.2.2.2.1 rfl (lv_at0 hl) ?_
        refine lv_aload_n hx hb gX12_impossible_0.2.2.2.2.2.2.2.2.1 rfl (lv_at3 hl) ?_
        refine gf_X12_9 hC rfl hK hP 0 rfl rfl gX12_impossible_0.2.2.2.2.2.2.2.2.2 ?_
        refine lv_bipush (v := 8) hx hb gX12_impossible_1.1 (by decide) ?_
        refine ald hC hK hP 1 rfl (vin (by decide +kernel)) (k := 8) (by decide +kernel) (v := nI k8) (ek8) gX12_impossible_1.2.1 ?_
        refine lv_icmp_ge (tgt := 104) hx hb gX12_impossible_1.2.2.1 (by decide) (fun _ => ?_) (fun c9 => absurd (Int32.le_refl _) c9)
        refine lv_iload_n hx hb gX12_impossible_5.2.2.2.2.2.2.2.2.1 rfl (lv_at1 hl) ?_
        refine toQ hQ0 ?_
        exact RI (v := se) hC hP hD hS [0, 1, 2] (vfh, vth, gnm6083) rfl rfl (by decide) (⟨trivial, by first | assumption | exact hM⟩) rfl gX12_impossible_5.2.2.2.2.2.2.2.2.2
      | succ nP ihP =>
        intro kP se vfh vth H locs ls hkP hPD hS hl
        refine Kan2 hPD (fun hP hD => ?_)
        refine lv_iload_n hx hb gX12_impossible_0.2.2.2.2.2.2.2.1 rfl (lv_at0 hl) ?_
        refine lv_aload_n hx hb gX12_impossible_0.2.2.2.2.2.2.2.2.1 rfl (lv_at3 hl) ?_
        refine gf_X12_9 hC rfl hK hP 0 rfl rfl gX12_impossible_0.2.2.2.2.2.2.2.2.2 ?_
        refine lv_bipush (v := 8) hx hb gX12_impossible_1.1 (by decide) ?_
        refine ald hC hK hP 1 rfl (vin (by decide +kernel)) (k := 8) (by decide +kernel) (v := nI k8) (ek8) gX12_impossible_1.2.1 ?_
        refine lv_icmp_ge (tgt := 104) hx hb gX12_impossible_1.2.2.1 (by decide) (fun c9 => absurd c9 (nI_ge (a := kP) (b := k8) (by omega) (by omega))) (fun _ => ?_)
        refine lv_aload_n hx hb gX12_impossible_1.2.2.2.1 rfl (lv_at3 hl) ?_
        refine lv_iload_n hx hb gX12_impossible_1.2.2.2.2.1 rfl (lv_at0 hl) ?_
        refine pV hC hK hl hP hD (m_doesCount l G h0 kP nw nk mhasKept nt mtaped nr mrowMany mroundOf mroundFrom 0 nm vfh vth ns mfrom mto msort misFault mdeep mcoded mlines nl nc nF np ntr nb mbestCost nso nsi nit nsh nsf nss nrc mtraced mdealer mnumber mwhose msize misParted fnw (by omega) (hN)) si_X12_117 [0, 1] sm_0_1 fm_0_1 nd_0_1 rfl rfl rfl rfl rfl (Nat.le_of_ble_eq_true rfl) rm_6_4_2 ⟨by first | exact Nat.le_of_ble_eq_true rfl | exact Nat.zero_le _, by first | exact Nat.le_of_ble_eq_true rfl | exact Nat.zero_le _⟩ gX12_impossible_1.2.2.2.2.2.1 (Kors (Keqr ?_) (Keqr ?_))
        · refine lv_if_eq (tgt := 98) hx hb gX12_impossible_1.2.2.2.2.2.2.1 (by decide) (fun c9 => absurd c9 (by decide)) (fun _ => ?_)
          refine lv_aload_n hx hb gX12_impossible_1.2.2.2.2.2.2.2.1 rfl (lv_at3 hl) ?_
          refine lv_aload_n hx hb gX12_impossible_1.2.2.2.2.2.2.2.2.1 rfl (lv_at3 hl) ?_
          refine lv_iload_n hx hb gX12_impossible_1.2.2.2.2.2.2.2.2.2 rfl (lv_at0 hl) ?_
          refine lv_iconst (v := 2) hx hb gX12_impossible_2.1 (by decide) ?_
          refine pV hC hK hl hP hD (m_saying l G h0 kP 2 nw nk mhasKept nt mtaped nr mrowMany mroundOf mroundFrom 0 nm vfh vth ns mfrom mto msort misFault mdeep mcoded mlines nl nc nF np ntr nb mbestCost nso nsi nit nsh nsf nss nrc mtraced mdealer mnumber mwhose msize misParted fnw (by omega) (by omega)) si_X12_114 [0, 1] sm_0_1 fm_0_1 nd_0_1 rfl rfl rfl rfl rfl (Nat.le_of_ble_eq_true rfl) rm_6_1_3 ⟨by first | exact Nat.le_of_ble_eq_true rfl | exact Nat.zero_le _, by first | exact Nat.le_of_ble_eq_true rfl | exact Nat.zero_le _⟩ gX12_impossible_2.2.1 (Keqr ?_)
          obtain ⟨spp, hspp, espp⟩ := NI.nat hN (i := 1424 + 8 * kP + 2) (B := 11) (bnd_say2 (s := kP) rfl (by omega)) (by decide)
          refine eqi (x1 := nI spp) espp ?_
          refine lv_aload_n hx hb gX12_impossible_2.2.2.1 rfl (lv_at3 hl) ?_
          refine lv_iload_n hx hb gX12_impossible_2.2.2.2.1 rfl (lv_at0 hl) ?_
          refine lv_iconst (v := 1) hx hb gX12_impossible_2.2.2.2.2.1 (by decide) ?_
          refine pV hC hK hl hP hD (m_saying l G h0 kP 1 nw nk mhasKept nt mtaped nr mrowMany mroundOf mroundFrom 0 nm vfh vth ns mfrom mto msort misFault mdeep mcoded mlines nl nc nF np ntr nb mbestCost nso nsi nit nsh nsf nss nrc mtraced mdealer mnumber mwhose msize misParted fnw (by omega) (by omega)) si_X12_114 [0, 1] sm_0_1 fm_0_1 nd_0_1 rfl rfl rfl rfl rfl (Nat.le_of_ble_eq_true rfl) rm_6_1_3 ⟨by first | exact Nat.le_of_ble_eq_true rfl | exact Nat.zero_le _, by first | exact Nat.le_of_ble_eq_true rfl | exact Nat.zero_le _⟩ gX12_impossible_2.2.2.2.2.2.1 (Keqr ?_)
          obtain ⟨sof, hsof, esof⟩ := NI.nat hN (i := 1424 + 8 * kP + 1) (B := 9) (bnd_say1 (s := kP) rfl (by omega)) (by decide)
          refine eqi (x1 := nI sof) esof ?_
          refine lv_iload_n hx hb gX12_impossible_2.2.2.2.2.2.2.1 rfl (lv_at2 hl) ?_
          refine vV (wr := []) hC hK hl hP hD hS hA (m_findHours l G h0 spp sof 0 nw nk mhasKept nt mtaped nr mrowMany mroundOf mroundFrom 0 nm vfh vth ns mfrom mto msort misFault mdeep mcoded mlines nl nc nF np ntr nb mbestCost nso nsi nit nsh nsf nss nrc mtraced mdealer mnumber mwhose msize misParted fnw gnm6083 (by omega) (by omega) (hN) (w6084)) si_X12_298 [0, 1, 2] [] sm_0_1_2 fm_0_1_2 nd_0_1_2 rfl rfl (by decide) rfl rfl rfl rfl rfl (Nat.le_of_ble_eq_true rfl) rm_6_5_4 ⟨Nat.le_of_ble_eq_true rfl, Nat.le_of_ble_eq_true rfl⟩ gX12_impossible_2.2.2.2.2.2.2.2.1 (Ktu2 fun fh16111 th16112 => ?_)
          intro H locs hr6109 hP hD hS
          try dsimp only at hr6109
          refine Kpdr (ws := [(h0, oX12 nw nk mhasKept nt mtaped nr mrowMany mroundOf mroundFrom 0 nm fh16111 th16112 ns mfrom mto msort misFault mdeep mcoded mlines nl nc nF np ntr nb mbestCost nso nsi nit nsh nsf nss nrc mtraced mdealer mnumber mwhose msize misParted), (nw, iA G 1662 fnw), (nm, iA G 36 gnm6083)]) hP hD (fun hP hD => ?_)
          have w6113 := hr6109
          refine lv_iconst (v := 1) hx hb gX12_impossible_2.2.2.2.2.2.2.2.2.1 (by decide) ?_
          refine lv_istore (lv' := [(4, .int 1), (3, .int (nI kP)), (2, .int se), (1, .int 0), (0, .ref h0)]) hx hb gX12_impossible_2.2.2.2.2.2.2.2.2.2 hl (by decide) rfl (fun ls hl => ?_)
          refine lv_aload_n hx hb gX12_impossible_3.1 rfl (lv_at4 hl) ?_
          refine gf_X12_161 hC rfl hK hP 0 rfl rfl gX12_impossible_3.2.1 ?_
          refine lv_istore (lv' := [(5, .int fh16111), (4, .int 1), (3, .int (nI kP)), (2, .int se), (1, .int 0), (0, .ref h0)]) hx hb gX12_impossible_3.2.2.1 hl (by decide) rfl (fun ls hl => ?_)
          have keyZ : ∀ (nZ : Nat) (hZx : Int32) (al : Int32) (H : Heap) (locs : List Loc) (ls : Array Slot), (th16112).toInt + 1 - hZx.toInt ≤ (nZ : Int) → va_PD G A [(h0, oX12 nw nk mhasKept nt mtaped nr mrowMany mroundOf mroundFrom 0 nm fh16111 th16112 ns mfrom mto msort misFault mdeep mcoded mlines nl nc nF np ntr nb mbestCost nso nsi nit nsh nsf nss nrc mtraced mdealer mnumber mwhose msize misParted), (nw, iA G 1662 fnw), (nm, iA G 36 gnm6083)] H → va_S A s.heap H locs → lv_has ls 6 [(5, .int hZx), (4, .int al), (3, .int (nI kP)), (2, .int se), (1, .int 0), (0, .ref h0)] → W p l e (RM 6 0 0) s m ([.ref h0] : List Value).toArray below meth c H locs 0 0 Q0 (F0 m 54 ls []) := by
            intro nZ
            induction nZ with
            | zero =>
              intro hZx al H locs ls hkZ hPD hS hl
              refine Kan2 hPD (fun hP hD => ?_)
              have hzZ : th16112 < hZx := hz_end (by omega)
              refine lv_iload hx hb gX12_impossible_3.2.2.2.1 (lv_at0 hl) ?_
              refine lv_aload_n hx hb gX12_impossible_3.2.2.2.2.1 rfl (lv_at5 hl) ?_
              refine gf_X12_164 hC rfl hK hP 0 rfl rfl gX12_impossible_3.2.2.2.2.2.1 ?_
              refine lv_icmp_gt (tgt := 83) hx hb gX12_impossible_3.2.2.2.2.2.2.1 (by decide) (fun _ => ?_) (fun c9 => absurd (hzZ) c9)
              refine lv_iload_n hx hb gX12_impossible_4.2.2.2.2.2.2.1 rfl (lv_at3 hl) ?_
              refine lv_iload hx hb gX12_impossible_4.2.2.2.2.2.2.2.1 (lv_at1 hl) ?_
              refine lv_if_eq (tgt := 95) hx hb gX12_impossible_4.2.2.2.2.2.2.2.2.1 (by decide) (fun c_86_6114 => ?_) (fun c_86_6114 => ?_)
              · refine lv_iconst (v := 0) hx hb gX12_impossible_5.2.2.2.1 (by decide) ?_
                refine lv_ior hx hb gX12_impossible_5.2.2.2.2.1 ?_
                refine lv_istore_n (lv' := [(2, .int (se ||| 0)), (5, .int hZx), (4, .int al), (3, .int (nI kP)), (1, .int 0), (0, .ref h0)]) hx hb gX12_impossible_5.2.2.2.2.2.1 rfl hl (by decide) rfl (fun ls hl => ?_)
                refine lv_iinc (v := nI (kP + 1)) (lv' := [(3, .int (nI (kP + 1))), (2, .int (se ||| 0)), (5, .int hZx), (4, .int al), (1, .int 0), (0, .ref h0)]) hx hb gX12_impossible_5.2.2.2.2.2.2.1 hl (k := 3) rfl (nI_1 _) (by decide) rfl (fun ls hl => ?_)
                refine lv_goto (tgt := 9) hx hb gX12_impossible_5.2.2.2.2.2.2.2.1 (by decide) ?_
                exact ihP (kP + 1) (se ||| 0) fh16111 th16112 _ _ _ (by omega) (And.intro hP hD) hS (lv_sub hl [0, 1, 4, 5] rfl)
              · refine lv_iconst (v := 1) hx hb gX12_impossible_4.2.2.2.2.2.2.2.2.2 (by decide) ?_
                refine lv_iload_n hx hb gX12_impossible_5.1 rfl (lv_at2 hl) ?_
                refine lv_ishl hx hb gX12_impossible_5.2.1 ?_
                refine lv_goto (tgt := 96) hx hb gX12_impossible_5.2.2.1 (by decide) ?_
                refine lv_ior hx hb gX12_impossible_5.2.2.2.2.1 ?_
                refine lv_istore_n (lv' := [(2, .int (se ||| (1 <<< ((nI kP) &&& 31)))), (5, .int hZx), (4, .int al), (3, .int (nI kP)), (1, .int 0), (0, .ref h0)]) hx hb gX12_impossible_5.2.2.2.2.2.1 rfl hl (by decide) rfl (fun ls hl => ?_)
                refine lv_iinc (v := nI (kP + 1)) (lv' := [(3, .int (nI (kP + 1))), (2, .int (se ||| (1 <<< ((nI kP) &&& 31)))), (5, .int hZx), (4, .int al), (1, .int 0), (0, .ref h0)]) hx hb gX12_impossible_5.2.2.2.2.2.2.1 hl (k := 3) rfl (nI_1 _) (by decide) rfl (fun ls hl => ?_)
                refine lv_goto (tgt := 9) hx hb gX12_impossible_5.2.2.2.2.2.2.2.1 (by decide) ?_
                exact ihP (kP + 1) (se ||| (1 <<< ((nI kP) &&& 31))) fh16111 th16112 _ _ _ (by omega) (And.intro hP hD) hS (lv_sub hl [0, 1, 4, 5] rfl)
            | succ nZ ihZ =>
              intro hZx al H locs ls hkZ hPD hS hl
              refine Kan2 hPD (fun hP hD => ?_)
              refine lv_iload hx hb gX12_impossible_3.2.2.2.1 (lv_at0 hl) ?_
              refine lv_aload_n hx hb gX12_impossible_3.2.2.2.2.1 rfl (lv_at5 hl) ?_
              refine gf_X12_164 hC rfl hK hP 0 rfl rfl gX12_impossible_3.2.2.2.2.2.1 ?_
              refine lv_icmp_gt (tgt := 83) hx hb gX12_impossible_3.2.2.2.2.2.2.1 (by decide) (fun c_60_6115 => ?_) (fun c_60_6115 => ?_)
              · refine lv_iload_n hx hb gX12_impossible_4.2.2.2.2.2.2.1 rfl (lv_at3 hl) ?_
                refine lv_iload hx hb gX12_impossible_4.2.2.2.2.2.2.2.1 (lv_at1 hl) ?_
                refine lv_if_eq (tgt := 95) hx hb gX12_impossible_4.2.2.2.2.2.2.2.2.1 (by decide) (fun c_86_6116 => ?_) (fun c_86_6116 => ?_)
                · refine lv_iconst (v := 0) hx hb gX12_impossible_5.2.2.2.1 (by decide) ?_
                  refine lv_ior hx hb gX12_impossible_5.2.2.2.2.1 ?_
                  refine lv_istore_n (lv' := [(2, .int (se ||| 0)), (5, .int hZx), (4, .int al), (3, .int (nI kP)), (1, .int 0), (0, .ref h0)]) hx hb gX12_impossible_5.2.2.2.2.2.1 rfl hl (by decide) rfl (fun ls hl => ?_)
                  refine lv_iinc (v := nI (kP + 1)) (lv' := [(3, .int (nI (kP + 1))), (2, .int (se ||| 0)), (5, .int hZx), (4, .int al), (1, .int 0), (0, .ref h0)]) hx hb gX12_impossible_5.2.2.2.2.2.2.1 hl (k := 3) rfl (nI_1 _) (by decide) rfl (fun ls hl => ?_)
                  refine lv_goto (tgt := 9) hx hb gX12_impossible_5.2.2.2.2.2.2.2.1 (by decide) ?_
                  exact ihP (kP + 1) (se ||| 0) fh16111 th16112 _ _ _ (by omega) (And.intro hP hD) hS (lv_sub hl [0, 1, 4, 5] rfl)
                · refine lv_iconst (v := 1) hx hb gX12_impossible_4.2.2.2.2.2.2.2.2.2 (by decide) ?_
                  refine lv_iload_n hx hb gX12_impossible_5.1 rfl (lv_at2 hl) ?_
                  refine lv_ishl hx hb gX12_impossible_5.2.1 ?_
                  refine lv_goto (tgt := 96) hx hb gX12_impossible_5.2.2.1 (by decide) ?_
                  refine lv_ior hx hb gX12_impossible_5.2.2.2.2.1 ?_
                  refine lv_istore_n (lv' := [(2, .int (se ||| (1 <<< ((nI kP) &&& 31)))), (5, .int hZx), (4, .int al), (3, .int (nI kP)), (1, .int 0), (0, .ref h0)]) hx hb gX12_impossible_5.2.2.2.2.2.1 rfl hl (by decide) rfl (fun ls hl => ?_)
                  refine lv_iinc (v := nI (kP + 1)) (lv' := [(3, .int (nI (kP + 1))), (2, .int (se ||| (1 <<< ((nI kP) &&& 31)))), (5, .int hZx), (4, .int al), (1, .int 0), (0, .ref h0)]) hx hb gX12_impossible_5.2.2.2.2.2.2.1 hl (k := 3) rfl (nI_1 _) (by decide) rfl (fun ls hl => ?_)
                  refine lv_goto (tgt := 9) hx hb gX12_impossible_5.2.2.2.2.2.2.2.1 (by decide) ?_
                  exact ihP (kP + 1) (se ||| (1 <<< ((nI kP) &&& 31))) fh16111 th16112 _ _ _ (by omega) (And.intro hP hD) hS (lv_sub hl [0, 1, 4, 5] rfl)
              · refine lv_iload hx hb gX12_impossible_3.2.2.2.2.2.2.2.1 (lv_at1 hl) ?_
                refine lv_if_eq (tgt := 83) hx hb gX12_impossible_3.2.2.2.2.2.2.2.2.1 (by decide) (fun c_65_6117 => ?_) (fun c_65_6117 => ?_)
                · refine lv_iload_n hx hb gX12_impossible_4.2.2.2.2.2.2.1 rfl (lv_at3 hl) ?_
                  refine lv_iload hx hb gX12_impossible_4.2.2.2.2.2.2.2.1 (lv_at1 hl) ?_
                  refine lv_if_eq (tgt := 95) hx hb gX12_impossible_4.2.2.2.2.2.2.2.2.1 (by decide) (fun _ => ?_) (fun c9 => absurd (c_65_6117) c9)
                  refine lv_iconst (v := 0) hx hb gX12_impossible_5.2.2.2.1 (by decide) ?_
                  refine lv_ior hx hb gX12_impossible_5.2.2.2.2.1 ?_
                  refine lv_istore_n (lv' := [(2, .int (se ||| 0)), (5, .int hZx), (4, .int al), (3, .int (nI kP)), (1, .int 0), (0, .ref h0)]) hx hb gX12_impossible_5.2.2.2.2.2.1 rfl hl (by decide) rfl (fun ls hl => ?_)
                  refine lv_iinc (v := nI (kP + 1)) (lv' := [(3, .int (nI (kP + 1))), (2, .int (se ||| 0)), (5, .int hZx), (4, .int al), (1, .int 0), (0, .ref h0)]) hx hb gX12_impossible_5.2.2.2.2.2.2.1 hl (k := 3) rfl (nI_1 _) (by decide) rfl (fun ls hl => ?_)
                  refine lv_goto (tgt := 9) hx hb gX12_impossible_5.2.2.2.2.2.2.2.1 (by decide) ?_
                  exact ihP (kP + 1) (se ||| 0) fh16111 th16112 _ _ _ (by omega) (And.intro hP hD) hS (lv_sub hl [0, 1, 4, 5] rfl)
                · refine lv_aload_n hx hb gX12_impossible_3.2.2.2.2.2.2.2.2.2 rfl (lv_at5 hl) ?_
                  refine lv_iload hx hb gX12_impossible_4.1 (lv_at0 hl) ?_
                  refine lv_iload_n hx hb gX12_impossible_4.2.1 rfl (lv_at2 hl) ?_
                  refine pV hC hK hl hP hD (m_isAgainst l G h0 hZx kP nw nk mhasKept nt mtaped nr mrowMany mroundOf mroundFrom 0 nm fh16111 th16112 ns mfrom mto msort misFault mdeep mcoded mlines nl nc nF np ntr nb mbestCost nso nsi nit nsh nsf nss nrc mtraced mdealer mnumber mwhose msize misParted fnw (by omega)) si_X12_302 [0, 1] sm_0_1 fm_0_1 nd_0_1 rfl rfl rfl rfl rfl (Nat.le_of_ble_eq_true rfl) rm_6_2_3 ⟨by first | exact Nat.le_of_ble_eq_true rfl | exact Nat.zero_le _, by first | exact Nat.le_of_ble_eq_true rfl | exact Nat.zero_le _⟩ gX12_impossible_4.2.2.1 (Kors (Keqr ?_) (Keqr ?_))
                  · refine lv_istore (lv' := [(4, .int 1), (5, .int hZx), (3, .int (nI kP)), (2, .int se), (1, .int 0), (0, .ref h0)]) hx hb gX12_impossible_4.2.2.2.1 hl (by decide) rfl (fun ls hl => ?_)
                    refine lv_iinc (v := hZx + 1) (lv' := [(5, .int (hZx + 1)), (4, .int 1), (3, .int (nI kP)), (2, .int se), (1, .int 0), (0, .ref h0)]) hx hb gX12_impossible_4.2.2.2.2.1 hl (k := 1) rfl (rfl) (by decide) rfl (fun ls hl => ?_)
                    refine lv_goto (tgt := 54) hx hb gX12_impossible_4.2.2.2.2.2.1 (by decide) ?_
                    exact ihZ (hZx + 1) 1 _ _ _ (hz_back c_60_6115 w6113 hkZ) (And.intro hP hD) hS (lv_sub hl [0, 1, 2, 3, 4, 5] rfl)
                  · refine lv_istore (lv' := [(4, .int 0), (5, .int hZx), (3, .int (nI kP)), (2, .int se), (1, .int 0), (0, .ref h0)]) hx hb gX12_impossible_4.2.2.2.1 hl (by decide) rfl (fun ls hl => ?_)
                    refine lv_iinc (v := hZx + 1) (lv' := [(5, .int (hZx + 1)), (4, .int 0), (3, .int (nI kP)), (2, .int se), (1, .int 0), (0, .ref h0)]) hx hb gX12_impossible_4.2.2.2.2.1 hl (k := 1) rfl (rfl) (by decide) rfl (fun ls hl => ?_)
                    refine lv_goto (tgt := 54) hx hb gX12_impossible_4.2.2.2.2.2.1 (by decide) ?_
                    exact ihZ (hZx + 1) 0 _ _ _ (hz_back c_60_6115 w6113 hkZ) (And.intro hP hD) hS (lv_sub hl [0, 1, 2, 3, 4, 5] rfl)
          exact keyZ ((th16112).toInt + 1 - (fh16111).toInt).toNat fh16111 1 _ _ _ (by omega) (And.intro hP hD) hS (lv_sub hl [0, 1, 2, 3, 4, 5] rfl)
        · refine lv_if_eq (tgt := 98) hx hb gX12_impossible_1.2.2.2.2.2.2.1 (by decide) (fun _ => ?_) (fun c9 => absurd (by decide) c9)
          refine lv_iinc (v := nI (kP + 1)) (lv' := [(3, .int (nI (kP + 1))), (2, .int se), (1, .int 0), (0, .ref h0)]) hx hb gX12_impossible_5.2.2.2.2.2.2.1 hl (k := 0) rfl (nI_1 _) (by decide) rfl (fun ls hl => ?_)
          refine lv_goto (tgt := 9) hx hb gX12_impossible_5.2.2.2.2.2.2.2.1 (by decide) ?_
          exact ihP (kP + 1) se vfh vth _ _ _ (by omega) (And.intro hP hD) hS (lv_sub hl [0, 1, 2, 3] rfl)
    exact keyP k8 0 0 mfromHour mtoHour _ _ _ (by omega) (And.intro hP hD) hS (lv_sub hl [0, 1, 2, 3] rfl)
