section WR
variable {p : Program} {l : Launch} {e : Env} {R : Room} {s : State} {m : MethodId} {args : Array Value} {below : List Frame} {meth : Method} {c : Code} {H : Heap} {locs : List Loc} {cells slots : Nat} {Q : State → Prop}
variable {pc : Nat} {ls : Array Slot} {rest : List Value} {G : GG} {ws : va_W} {A : Nat → Prop} {y0 : MethodName} {b0 : ByteArray} {mL0 : Nat} {rt0 : Option FieldType} {a : Nat} {H0 : Heap}
end WR
theorem upd_ne {f : Nat → Int32} {k i : Nat} {v : Int32} (h : i ≠ k) : upd f k v i = f i := if_neg h
theorem upd_eq {f : Nat → Int32} {k i : Nat} {v : Int32} (h : i = k) : upd f k v i = v := if_pos h
/-- the numbers of the row that both sides hold alike -/
def SCX (g : Nat → Int32) (a b c d p q s f w u v : Int32) : Prop := g 0 = a ∧ g 1 = b ∧ g 2 = c ∧ g 3 = d ∧ g 4 = p ∧ g 5 = q ∧ g 6 = s ∧ g 8 = f ∧ g 9 = w ∧ g 10 = u ∧ g 11 = v
theorem SCX.rf {f : Nat → Int32} : SCX f (f 0) (f 1) (f 2) (f 3) (f 4) (f 5) (f 6) (f 8) (f 9) (f 10) (f 11) := ⟨rfl, rfl, rfl, rfl, rfl, rfl, rfl, rfl, rfl, rfl, rfl⟩
theorem SCX.ag {f g : Nat → Int32} {a b c d p q s r w u v : Int32} (h : SCX f a b c d p q s r w u v) (he : ∀ i, i < 12 → i ≠ 7 → g i = f i) : SCX g a b c d p q s r w u v := by
  obtain ⟨h0, h1, h2, h3, h4, h5, h6, h8, h9, h10, h11⟩ := h
  exact ⟨(he 0 (by omega) (by omega)).trans h0, (he 1 (by omega) (by omega)).trans h1, (he 2 (by omega) (by omega)).trans h2, (he 3 (by omega) (by omega)).trans h3, (he 4 (by omega) (by omega)).trans h4, (he 5 (by omega) (by omega)).trans h5, (he 6 (by omega) (by omega)).trans h6, (he 8 (by omega) (by omega)).trans h8, (he 9 (by omega) (by omega)).trans h9, (he 10 (by omega) (by omega)).trans h10, (he 11 (by omega) (by omega)).trans h11⟩
theorem SCX.set {f : Nat → Int32} {k : Nat} {x a b c d p q s r w u v : Int32} (h : SCX f a b c d p q s r w u v) (hk : k = 7 ∨ 12 ≤ k) : SCX (upd f k x) a b c d p q s r w u v :=
  h.ag fun i h1 h2 => upd_ne (by omega)
theorem SCX.st {f : Nat → Int32} {x a b c d p q s r w u v : Int32} (h : SCX f a b c d p q s r w u v) : SCX (upd f 6 x) a b c d p q x r w u v := by
  obtain ⟨h0, h1, h2, h3, h4, h5, h6, h8, h9, h10, h11⟩ := h
  exact ⟨(upd_ne (by omega)).trans h0, (upd_ne (by omega)).trans h1, (upd_ne (by omega)).trans h2, (upd_ne (by omega)).trans h3, (upd_ne (by omega)).trans h4, (upd_ne (by omega)).trans h5, upd_eq rfl, (upd_ne (by omega)).trans h8, (upd_ne (by omega)).trans h9, (upd_ne (by omega)).trans h10, (upd_ne (by omega)).trans h11⟩
theorem SCX.tr {f g : Nat → Int32} {a b c d p q s r w u v : Int32} (h : SCX f a b c d p q s r w u v) (h2 : SCX g (f 0) (f 1) (f 2) (f 3) (f 4) (f 5) (f 6) (f 8) (f 9) (f 10) (f 11)) : SCX g a b c d p q s r w u v := by
  obtain ⟨h0, h1, h2', h3, h4, h5, h6, h8, h9, h10, h11⟩ := h
  obtain ⟨k0, k1, k2, k3, k4, k5, k6, k8, k9, k10, k11⟩ := h2
  exact ⟨k0.trans h0, k1.trans h1, k2.trans h2', k3.trans h3, k4.trans h4, k5.trans h5, k6.trans h6, k8.trans h8, k9.trans h9, k10.trans h10, k11.trans h11⟩
theorem SCX.st6 {f g : Nat → Int32} {a b c d p q s x r w u v : Int32} (h : SCX f a b c d p q s r w u v) (h2 : SCX g (f 0) (f 1) (f 2) (f 3) (f 4) (f 5) x (f 8) (f 9) (f 10) (f 11)) : SCX g a b c d p q x r w u v := by
  obtain ⟨h0, h1, h2', h3, h4, h5, h6, h8, h9, h10, h11⟩ := h
  obtain ⟨k0, k1, k2, k3, k4, k5, k6, k8, k9, k10, k11⟩ := h2
  exact ⟨k0.trans h0, k1.trans h1, k2.trans h2', k3.trans h3, k4.trans h4, k5.trans h5, k6, k8.trans h8, k9.trans h9, k10.trans h10, k11.trans h11⟩
/-- the row from a place on -/
def shf (g : Nat → Int32) (base : Nat) : Nat → Int32 := fun i => g (base + i)
theorem shu {g : Nat → Int32} {base k j : Nat} {v : Int32} (h : k = base + j) : shf (upd g k v) base = upd (shf g base) j v := by
  funext i
  unfold shf upd
  by_cases c : i = j
  · rw [if_pos c, if_pos (by omega)]
  · rw [if_neg c, if_neg (by omega)]
theorem sho {g : Nat → Int32} {base k : Nat} {v : Int32} (h : k < base) : shf (upd g k v) base = shf g base := by
  funext i
  unfold shf
  exact upd_ne (by omega)
/-- beyond the first twelve, the row is as it was outside a region -/
def FRO (g f : Nat → Int32) (lo hi : Nat) : Prop := ∀ j, 12 ≤ j → (j < lo ∨ hi ≤ j) → g j = f j
theorem FRO.rf {f : Nat → Int32} {lo hi : Nat} : FRO f f lo hi := fun _ _ _ => rfl
theorem FRO.set {g f : Nat → Int32} {lo hi k : Nat} {v : Int32} (h : FRO g f lo hi) (hk : k < 12 ∨ (lo ≤ k ∧ k < hi)) : FRO (upd g k v) f lo hi := fun j h1 h2 => (upd_ne (by omega)).trans (h j h1 h2)
theorem FRO.tr {g f e : Nat → Int32} {lo hi : Nat} (h : FRO g f lo hi) (h2 : FRO f e lo hi) : FRO g e lo hi := fun j h1 h9 => (h j h1 h9).trans (h2 j h1 h9)
/-- a table's numbers lie in the row -/
def EQT (g : Nat → Int32) (base n : Nat) (f : Nat → Int32) : Prop := ∀ i, i < n → g (base + i) = f i
theorem EQT.fr {f0 g f : Nat → Int32} {base n lo hi : Nat} (h : EQT f0 base n f) (hf : FRO g f0 lo hi) (hb : 12 ≤ base) (hr : base + n ≤ lo ∨ hi ≤ base) : EQT g base n f := fun i hi' => (hf (base + i) (by omega) (by omega)).trans (h i hi')
theorem Hs_at {x : Int32} {k : Nat} (hk : k < 2 ^ 31) (h : Hs x k) : x.toNatClampNeg < k := by
  obtain ⟨j, hj, rfl⟩ := Hs_nat hk h
  rw [nI_clamp (by omega)]
  exact hj
theorem EQT.hs {g f : Nat → Int32} {base n W k c : Nat} {x : Int32} (h : EQT g base n f) (hx : Hs x k) (hk : k < 2 ^ 31) (hn : k * W ≤ n) (hc : c < W) : shf g base (x.toNatClampNeg * W + c) = f (x.toNatClampNeg * W + c) := by
  have h1 := Hs_at hk hx
  have h2 : (x.toNatClampNeg + 1) * W ≤ k * W := Nat.mul_le_mul_right W h1
  rw [Nat.succ_mul] at h2
  exact h _ (by omega)
theorem nI_neq {a b : Nat} (ha : a < 2 ^ 31) (hb : b < 2 ^ 31) (h : ¬ nI a = nI b) : a ≠ b := fun e => h (congrArg nI e)
theorem hz_end {t h : Int32} (hk : t.toInt + 1 - h.toInt ≤ 0) : t < h := by
  rw [Int32.lt_iff_toInt_lt]
  omega
theorem hz_back {t h : Int32} {n : Nat} (hc : ¬ t < h) (ht : t.toInt ≤ 1167) (hk : t.toInt + 1 - h.toInt ≤ ((n + 1 : Nat) : Int)) : t.toInt + 1 - (h + 1).toInt ≤ (n : Int) := by
  rw [Int32.lt_iff_toInt_lt] at hc
  have h1 : (1 : Int32).toInt = 1 := by decide
  have h2 := ti_lo h
  rw [ti_add (by omega) (by omega), h1]
  omega
section WR
variable {p : Program} {l : Launch} {e : Env} {R : Room} {s : State} {m : MethodId} {args : Array Value} {below : List Frame} {meth : Method} {c : Code} {H : Heap} {locs : List Loc} {cells slots : Nat} {Q : State → Prop}
variable {pc : Nat} {ls : Array Slot} {rest : List Value} {G : GG} {ws : va_W} {A : Nat → Prop} {y0 : MethodName} {b0 : ByteArray} {mL0 : Nat} {rt0 : Option FieldType} {a : Nat} {H0 : Heap}
theorem dX12_days_0 : decode cX12_days 0 = .ok (.iload_n 1, 1) := by decide +kernel
theorem dX12_days_1 : decode cX12_days 1 = .ok (.iconst 1, 1) := by decide +kernel
theorem dX12_days_2 : decode cX12_days 2 = .ok (.bipush 99, 2) := by decide +kernel
theorem dX12_days_4 : decode cX12_days 4 = .ok (.invokestatic 84, 3) := by decide +kernel
theorem dX12_days_7 : decode cX12_days 7 = .ok (.ifCond .ne 5, 3) := by decide +kernel
theorem dX12_days_12 : decode cX12_days 12 = .ok (.aload_n 0, 1) := by decide +kernel
theorem dX12_days_13 : decode cX12_days 13 = .ok (.getfield 9, 3) := by decide +kernel
theorem dX12_days_16 : decode cX12_days 16 = .ok (.iconst 0, 1) := by decide +kernel
theorem dX12_days_17 : decode cX12_days 17 = .ok (.iaload, 1) := by decide +kernel
theorem dX12_days_18 : decode cX12_days 18 = .ok (.iload_n 1, 1) := by decide +kernel
theorem dX12_days_19 : decode cX12_days 19 = .ok (.iadd, 1) := by decide +kernel
theorem dX12_days_20 : decode cX12_days 20 = .ok (.sipush 499, 3) := by decide +kernel
theorem dX12_days_23 : decode cX12_days 23 = .ok (.if_icmp .le 6, 3) := by decide +kernel
theorem dX12_days_29 : decode cX12_days 29 = .ok (.aload_n 0, 1) := by decide +kernel
theorem dX12_days_30 : decode cX12_days 30 = .ok (.getfield 9, 3) := by decide +kernel
theorem dX12_days_33 : decode cX12_days 33 = .ok (.iconst 0, 1) := by decide +kernel
theorem dX12_days_34 : decode cX12_days 34 = .ok (.dup2, 1) := by decide +kernel
theorem dX12_days_35 : decode cX12_days 35 = .ok (.iaload, 1) := by decide +kernel
theorem dX12_days_36 : decode cX12_days 36 = .ok (.iload_n 1, 1) := by decide +kernel
theorem dX12_days_37 : decode cX12_days 37 = .ok (.iadd, 1) := by decide +kernel
theorem dX12_days_38 : decode cX12_days 38 = .ok (.iastore, 1) := by decide +kernel
theorem dX12_days_39 : decode cX12_days 39 = .ok (.aload_n 0, 1) := by decide +kernel
theorem dX12_days_40 : decode cX12_days 40 = .ok (.getfield 9, 3) := by decide +kernel
theorem dX12_days_43 : decode cX12_days 43 = .ok (.iconst 0, 1) := by decide +kernel
theorem dX12_days_44 : decode cX12_days 44 = .ok (.iaload, 1) := by decide +kernel
theorem dX12_days_45 : decode cX12_days 45 = .ok (.ireturn, 1) := by decide +kernel
theorem dX12_days_26 : decode cX12_days 26 = .ok (.bipush (-4), 2) := by decide +kernel
theorem dX12_days_28 : decode cX12_days 28 = .ok (.ireturn, 1) := by decide +kernel
theorem dX12_days_10 : decode cX12_days 10 = .ok (.iconst (-1), 1) := by decide +kernel
theorem dX12_days_11 : decode cX12_days 11 = .ok (.ireturn, 1) := by decide +kernel
theorem dX12_gap_0 : decode cX12_gap 0 = .ok (.iload_n 1, 1) := by decide +kernel
theorem dX12_gap_1 : decode cX12_gap 1 = .ok (.iconst 0, 1) := by decide +kernel
theorem dX12_gap_2 : decode cX12_gap 2 = .ok (.bipush 99, 2) := by decide +kernel
theorem dX12_gap_4 : decode cX12_gap 4 = .ok (.invokestatic 84, 3) := by decide +kernel
theorem dX12_gap_7 : decode cX12_gap 7 = .ok (.ifCond .ne 5, 3) := by decide +kernel
theorem dX12_gap_12 : decode cX12_gap 12 = .ok (.aload_n 0, 1) := by decide +kernel
theorem dX12_gap_13 : decode cX12_gap 13 = .ok (.getfield 9, 3) := by decide +kernel
theorem dX12_gap_16 : decode cX12_gap 16 = .ok (.iconst 3, 1) := by decide +kernel
theorem dX12_gap_17 : decode cX12_gap 17 = .ok (.iaload, 1) := by decide +kernel
theorem dX12_gap_18 : decode cX12_gap 18 = .ok (.istore_n 2, 1) := by decide +kernel
theorem dX12_gap_19 : decode cX12_gap 19 = .ok (.aload_n 0, 1) := by decide +kernel
theorem dX12_gap_20 : decode cX12_gap 20 = .ok (.getfield 9, 3) := by decide +kernel
theorem dX12_gap_23 : decode cX12_gap 23 = .ok (.iconst 3, 1) := by decide +kernel
theorem dX12_gap_24 : decode cX12_gap 24 = .ok (.iload_n 1, 1) := by decide +kernel
theorem dX12_gap_25 : decode cX12_gap 25 = .ok (.iastore, 1) := by decide +kernel
theorem dX12_gap_26 : decode cX12_gap 26 = .ok (.iload_n 2, 1) := by decide +kernel
theorem dX12_gap_27 : decode cX12_gap 27 = .ok (.ireturn, 1) := by decide +kernel
theorem dX12_gap_10 : decode cX12_gap 10 = .ok (.iconst (-1), 1) := by decide +kernel
theorem dX12_gap_11 : decode cX12_gap 11 = .ok (.ireturn, 1) := by decide +kernel
end WR
theorem has0 : ∀ k : Fin 16, ¬ (((0 : Int32) >>> (nI k.1 &&& 31)) &&& 1 = 1) := by decide +kernel
section WR
variable {p : Program} {l : Launch} {e : Env} {R : Room} {s : State} {m : MethodId} {args : Array Value} {below : List Frame} {meth : Method} {c : Code} {H : Heap} {locs : List Loc} {cells slots : Nat} {Q : State → Prop}
variable {pc : Nat} {ls : Array Slot} {rest : List Value} {G : GG} {ws : va_W} {A : Nat → Prop} {y0 : MethodName} {b0 : ByteArray} {mL0 : Nat} {rt0 : Option FieldType} {a : Nat} {H0 : Heap}
theorem dX12_view_0 : decode cX12_view 0 = .ok (.iload_n 1, 1) := by decide +kernel
theorem dX12_view_1 : decode cX12_view 1 = .ok (.iconst (-1), 1) := by decide +kernel
theorem dX12_view_2 : decode cX12_view 2 = .ok (.sipush 499, 3) := by decide +kernel
theorem dX12_view_5 : decode cX12_view 5 = .ok (.invokestatic 84, 3) := by decide +kernel
theorem dX12_view_8 : decode cX12_view 8 = .ok (.ifCond .eq 12, 3) := by decide +kernel
theorem dX12_view_11 : decode cX12_view 11 = .ok (.iload_n 2, 1) := by decide +kernel
theorem dX12_view_12 : decode cX12_view 12 = .ok (.iconst 0, 1) := by decide +kernel
theorem dX12_view_13 : decode cX12_view 13 = .ok (.iconst 3, 1) := by decide +kernel
theorem dX12_view_14 : decode cX12_view 14 = .ok (.invokestatic 84, 3) := by decide +kernel
theorem dX12_view_17 : decode cX12_view 17 = .ok (.ifCond .ne 5, 3) := by decide +kernel
theorem dX12_view_22 : decode cX12_view 22 = .ok (.aload_n 0, 1) := by decide +kernel
theorem dX12_view_23 : decode cX12_view 23 = .ok (.getfield 9, 3) := by decide +kernel
theorem dX12_view_26 : decode cX12_view 26 = .ok (.iconst 1, 1) := by decide +kernel
theorem dX12_view_27 : decode cX12_view 27 = .ok (.iload_n 1, 1) := by decide +kernel
theorem dX12_view_28 : decode cX12_view 28 = .ok (.iastore, 1) := by decide +kernel
theorem dX12_view_29 : decode cX12_view 29 = .ok (.aload_n 0, 1) := by decide +kernel
theorem dX12_view_30 : decode cX12_view 30 = .ok (.getfield 9, 3) := by decide +kernel
theorem dX12_view_33 : decode cX12_view 33 = .ok (.iconst 2, 1) := by decide +kernel
theorem dX12_view_34 : decode cX12_view 34 = .ok (.iload_n 2, 1) := by decide +kernel
theorem dX12_view_35 : decode cX12_view 35 = .ok (.iastore, 1) := by decide +kernel
theorem dX12_view_36 : decode cX12_view 36 = .ok (.aload_n 0, 1) := by decide +kernel
theorem dX12_view_37 : decode cX12_view 37 = .ok (.invokevirtual 107, 3) := by decide +kernel
theorem dX12_view_40 : decode cX12_view 40 = .ok (.invokestatic 110, 3) := by decide +kernel
theorem dX12_view_43 : decode cX12_view 43 = .ok (.ireturn, 1) := by decide +kernel
theorem dX12_view_20 : decode cX12_view 20 = .ok (.iconst (-1), 1) := by decide +kernel
theorem dX12_view_21 : decode cX12_view 21 = .ok (.ireturn, 1) := by decide +kernel
theorem dX12_person_0 : decode cX12_person 0 = .ok (.iload_n 1, 1) := by decide +kernel
theorem dX12_person_1 : decode cX12_person 1 = .ok (.iconst 0, 1) := by decide +kernel
theorem dX12_person_2 : decode cX12_person 2 = .ok (.bipush 9, 2) := by decide +kernel
theorem dX12_person_4 : decode cX12_person 4 = .ok (.invokestatic 84, 3) := by decide +kernel
theorem dX12_person_7 : decode cX12_person 7 = .ok (.ifCond .eq 13, 3) := by decide +kernel
theorem dX12_person_10 : decode cX12_person 10 = .ok (.iload_n 2, 1) := by decide +kernel
theorem dX12_person_11 : decode cX12_person 11 = .ok (.iconst 0, 1) := by decide +kernel
theorem dX12_person_12 : decode cX12_person 12 = .ok (.bipush 48, 2) := by decide +kernel
theorem dX12_person_14 : decode cX12_person 14 = .ok (.invokestatic 84, 3) := by decide +kernel
theorem dX12_person_17 : decode cX12_person 17 = .ok (.ifCond .ne 5, 3) := by decide +kernel
theorem dX12_person_22 : decode cX12_person 22 = .ok (.aload_n 0, 1) := by decide +kernel
theorem dX12_person_23 : decode cX12_person 23 = .ok (.getfield 9, 3) := by decide +kernel
theorem dX12_person_26 : decode cX12_person 26 = .ok (.iconst 4, 1) := by decide +kernel
theorem dX12_person_27 : decode cX12_person 27 = .ok (.iaload, 1) := by decide +kernel
theorem dX12_person_28 : decode cX12_person 28 = .ok (.istore_n 3, 1) := by decide +kernel
theorem dX12_person_29 : decode cX12_person 29 = .ok (.iload_n 3, 1) := by decide +kernel
theorem dX12_person_30 : decode cX12_person 30 = .ok (.bipush 10, 2) := by decide +kernel
theorem dX12_person_32 : decode cX12_person 32 = .ok (.if_icmp .ne 6, 3) := by decide +kernel
theorem dX12_person_38 : decode cX12_person 38 = .ok (.aload_n 0, 1) := by decide +kernel
theorem dX12_person_39 : decode cX12_person 39 = .ok (.getfield 9, 3) := by decide +kernel
theorem dX12_person_42 : decode cX12_person 42 = .ok (.bipush 12, 2) := by decide +kernel
theorem dX12_person_44 : decode cX12_person 44 = .ok (.iconst 2, 1) := by decide +kernel
theorem dX12_person_45 : decode cX12_person 45 = .ok (.iload_n 3, 1) := by decide +kernel
theorem dX12_person_46 : decode cX12_person 46 = .ok (.imul, 1) := by decide +kernel
theorem dX12_person_47 : decode cX12_person 47 = .ok (.iadd, 1) := by decide +kernel
theorem dX12_person_48 : decode cX12_person 48 = .ok (.iload_n 1, 1) := by decide +kernel
theorem dX12_person_49 : decode cX12_person 49 = .ok (.iastore, 1) := by decide +kernel
theorem dX12_person_50 : decode cX12_person 50 = .ok (.aload_n 0, 1) := by decide +kernel
theorem dX12_person_51 : decode cX12_person 51 = .ok (.getfield 9, 3) := by decide +kernel
theorem dX12_person_54 : decode cX12_person 54 = .ok (.bipush 12, 2) := by decide +kernel
theorem dX12_person_56 : decode cX12_person 56 = .ok (.iconst 2, 1) := by decide +kernel
theorem dX12_person_57 : decode cX12_person 57 = .ok (.iload_n 3, 1) := by decide +kernel
theorem dX12_person_58 : decode cX12_person 58 = .ok (.imul, 1) := by decide +kernel
theorem dX12_person_59 : decode cX12_person 59 = .ok (.iadd, 1) := by decide +kernel
theorem dX12_person_60 : decode cX12_person 60 = .ok (.iconst 1, 1) := by decide +kernel
theorem dX12_person_61 : decode cX12_person 61 = .ok (.iadd, 1) := by decide +kernel
theorem dX12_person_62 : decode cX12_person 62 = .ok (.iload_n 2, 1) := by decide +kernel
theorem dX12_person_63 : decode cX12_person 63 = .ok (.iastore, 1) := by decide +kernel
theorem dX12_person_64 : decode cX12_person 64 = .ok (.aload_n 0, 1) := by decide +kernel
theorem dX12_person_65 : decode cX12_person 65 = .ok (.getfield 9, 3) := by decide +kernel
theorem dX12_person_68 : decode cX12_person 68 = .ok (.iconst 4, 1) := by decide +kernel
theorem dX12_person_69 : decode cX12_person 69 = .ok (.dup2, 1) := by decide +kernel
theorem dX12_person_70 : decode cX12_person 70 = .ok (.iaload, 1) := by decide +kernel
theorem dX12_person_71 : decode cX12_person 71 = .ok (.iconst 1, 1) := by decide +kernel
theorem dX12_person_72 : decode cX12_person 72 = .ok (.iadd, 1) := by decide +kernel
theorem dX12_person_73 : decode cX12_person 73 = .ok (.iastore, 1) := by decide +kernel
theorem dX12_person_74 : decode cX12_person 74 = .ok (.iload_n 3, 1) := by decide +kernel
theorem dX12_person_75 : decode cX12_person 75 = .ok (.ireturn, 1) := by decide +kernel
theorem dX12_person_35 : decode cX12_person 35 = .ok (.bipush (-2), 2) := by decide +kernel
theorem dX12_person_37 : decode cX12_person 37 = .ok (.ireturn, 1) := by decide +kernel
theorem dX12_person_20 : decode cX12_person 20 = .ok (.iconst (-1), 1) := by decide +kernel
theorem dX12_person_21 : decode cX12_person 21 = .ok (.ireturn, 1) := by decide +kernel
theorem dX12_paper__0 : decode cX12_paper_ 0 = .ok (.aload_n 0, 1) := by decide +kernel
theorem dX12_paper__1 : decode cX12_paper_ 1 = .ok (.iload_n 1, 1) := by decide +kernel
theorem dX12_paper__2 : decode cX12_paper_ 2 = .ok (.iconst 4, 1) := by decide +kernel
theorem dX12_paper__3 : decode cX12_paper_ 3 = .ok (.invokevirtual 120, 3) := by decide +kernel
theorem dX12_paper__6 : decode cX12_paper_ 6 = .ok (.ifCond .eq 40, 3) := by decide +kernel
theorem dX12_paper__9 : decode cX12_paper_ 9 = .ok (.iload_n 2, 1) := by decide +kernel
theorem dX12_paper__10 : decode cX12_paper_ 10 = .ok (.ifCond .lt 36, 3) := by decide +kernel
theorem dX12_paper__46 : decode cX12_paper_ 46 = .ok (.iconst (-1), 1) := by decide +kernel
theorem dX12_paper__47 : decode cX12_paper_ 47 = .ok (.ireturn, 1) := by decide +kernel
theorem dX12_paper__13 : decode cX12_paper_ 13 = .ok (.iload_n 2, 1) := by decide +kernel
theorem dX12_paper__14 : decode cX12_paper_ 14 = .ok (.iconst 1, 1) := by decide +kernel
theorem dX12_paper__15 : decode cX12_paper_ 15 = .ok (.aload_n 0, 1) := by decide +kernel
theorem dX12_paper__16 : decode cX12_paper_ 16 = .ok (.getfield 9, 3) := by decide +kernel
theorem dX12_paper__19 : decode cX12_paper_ 19 = .ok (.iconst 4, 1) := by decide +kernel
theorem dX12_paper__20 : decode cX12_paper_ 20 = .ok (.iaload, 1) := by decide +kernel
theorem dX12_paper__21 : decode cX12_paper_ 21 = .ok (.ishl, 1) := by decide +kernel
theorem dX12_paper__22 : decode cX12_paper_ 22 = .ok (.if_icmp .ge 24, 3) := by decide +kernel
theorem dX12_paper__25 : decode cX12_paper_ 25 = .ok (.iload_n 3, 1) := by decide +kernel
theorem dX12_paper__26 : decode cX12_paper_ 26 = .ok (.iconst 0, 1) := by decide +kernel
theorem dX12_paper__27 : decode cX12_paper_ 27 = .ok (.sipush 255, 3) := by decide +kernel
theorem dX12_paper__30 : decode cX12_paper_ 30 = .ok (.invokestatic 84, 3) := by decide +kernel
theorem dX12_paper__33 : decode cX12_paper_ 33 = .ok (.ifCond .eq 13, 3) := by decide +kernel
theorem dX12_paper__36 : decode cX12_paper_ 36 = .ok (.iload 4, 2) := by decide +kernel
theorem dX12_paper__38 : decode cX12_paper_ 38 = .ok (.iconst 0, 1) := by decide +kernel
theorem dX12_paper__39 : decode cX12_paper_ 39 = .ok (.iconst 3, 1) := by decide +kernel
theorem dX12_paper__40 : decode cX12_paper_ 40 = .ok (.invokestatic 84, 3) := by decide +kernel
theorem dX12_paper__43 : decode cX12_paper_ 43 = .ok (.ifCond .ne 5, 3) := by decide +kernel
theorem dX12_paper__48 : decode cX12_paper_ 48 = .ok (.aload_n 0, 1) := by decide +kernel
theorem dX12_paper__49 : decode cX12_paper_ 49 = .ok (.getfield 9, 3) := by decide +kernel
theorem dX12_paper__52 : decode cX12_paper_ 52 = .ok (.iconst 5, 1) := by decide +kernel
theorem dX12_paper__53 : decode cX12_paper_ 53 = .ok (.iaload, 1) := by decide +kernel
theorem dX12_paper__54 : decode cX12_paper_ 54 = .ok (.istore 5, 2) := by decide +kernel
theorem dX12_paper__56 : decode cX12_paper_ 56 = .ok (.iload 5, 2) := by decide +kernel
theorem dX12_paper__58 : decode cX12_paper_ 58 = .ok (.bipush 12, 2) := by decide +kernel
theorem dX12_paper__60 : decode cX12_paper_ 60 = .ok (.if_icmp .ne 6, 3) := by decide +kernel
theorem dX12_paper__66 : decode cX12_paper_ 66 = .ok (.bipush 32, 2) := by decide +kernel
theorem dX12_paper__68 : decode cX12_paper_ 68 = .ok (.bipush 6, 2) := by decide +kernel
theorem dX12_paper__70 : decode cX12_paper_ 70 = .ok (.iload 5, 2) := by decide +kernel
theorem dX12_paper__72 : decode cX12_paper_ 72 = .ok (.imul, 1) := by decide +kernel
theorem dX12_paper__73 : decode cX12_paper_ 73 = .ok (.iadd, 1) := by decide +kernel
theorem dX12_paper__74 : decode cX12_paper_ 74 = .ok (.istore 6, 2) := by decide +kernel
theorem dX12_paper__76 : decode cX12_paper_ 76 = .ok (.aload_n 0, 1) := by decide +kernel
theorem dX12_paper__77 : decode cX12_paper_ 77 = .ok (.getfield 9, 3) := by decide +kernel
theorem dX12_paper__80 : decode cX12_paper_ 80 = .ok (.iload 6, 2) := by decide +kernel
theorem dX12_paper__82 : decode cX12_paper_ 82 = .ok (.iconst 0, 1) := by decide +kernel
theorem dX12_paper__83 : decode cX12_paper_ 83 = .ok (.iadd, 1) := by decide +kernel
theorem dX12_paper__84 : decode cX12_paper_ 84 = .ok (.iload_n 1, 1) := by decide +kernel
theorem dX12_paper__85 : decode cX12_paper_ 85 = .ok (.iastore, 1) := by decide +kernel
theorem dX12_paper__86 : decode cX12_paper_ 86 = .ok (.aload_n 0, 1) := by decide +kernel
theorem dX12_paper__87 : decode cX12_paper_ 87 = .ok (.getfield 9, 3) := by decide +kernel
theorem dX12_paper__90 : decode cX12_paper_ 90 = .ok (.iload 6, 2) := by decide +kernel
theorem dX12_paper__92 : decode cX12_paper_ 92 = .ok (.iconst 1, 1) := by decide +kernel
theorem dX12_paper__93 : decode cX12_paper_ 93 = .ok (.iadd, 1) := by decide +kernel
theorem dX12_paper__94 : decode cX12_paper_ 94 = .ok (.iload_n 2, 1) := by decide +kernel
theorem dX12_paper__95 : decode cX12_paper_ 95 = .ok (.iastore, 1) := by decide +kernel
theorem dX12_paper__96 : decode cX12_paper_ 96 = .ok (.aload_n 0, 1) := by decide +kernel
theorem dX12_paper__97 : decode cX12_paper_ 97 = .ok (.getfield 9, 3) := by decide +kernel
theorem dX12_paper__100 : decode cX12_paper_ 100 = .ok (.iload 6, 2) := by decide +kernel
theorem dX12_paper__102 : decode cX12_paper_ 102 = .ok (.iconst 2, 1) := by decide +kernel
theorem dX12_paper__103 : decode cX12_paper_ 103 = .ok (.iadd, 1) := by decide +kernel
theorem dX12_paper__104 : decode cX12_paper_ 104 = .ok (.iload_n 3, 1) := by decide +kernel
theorem dX12_paper__105 : decode cX12_paper_ 105 = .ok (.iastore, 1) := by decide +kernel
theorem dX12_paper__106 : decode cX12_paper_ 106 = .ok (.aload_n 0, 1) := by decide +kernel
theorem dX12_paper__107 : decode cX12_paper_ 107 = .ok (.getfield 9, 3) := by decide +kernel
theorem dX12_paper__110 : decode cX12_paper_ 110 = .ok (.iload 6, 2) := by decide +kernel
theorem dX12_paper__112 : decode cX12_paper_ 112 = .ok (.iconst 3, 1) := by decide +kernel
theorem dX12_paper__113 : decode cX12_paper_ 113 = .ok (.iadd, 1) := by decide +kernel
theorem dX12_paper__114 : decode cX12_paper_ 114 = .ok (.iload 4, 2) := by decide +kernel
theorem dX12_paper__116 : decode cX12_paper_ 116 = .ok (.iastore, 1) := by decide +kernel
theorem dX12_paper__117 : decode cX12_paper_ 117 = .ok (.aload_n 0, 1) := by decide +kernel
theorem dX12_paper__118 : decode cX12_paper_ 118 = .ok (.getfield 9, 3) := by decide +kernel
theorem dX12_paper__121 : decode cX12_paper_ 121 = .ok (.iload 6, 2) := by decide +kernel
theorem dX12_paper__123 : decode cX12_paper_ 123 = .ok (.iconst 4, 1) := by decide +kernel
theorem dX12_paper__124 : decode cX12_paper_ 124 = .ok (.iadd, 1) := by decide +kernel
theorem dX12_paper__125 : decode cX12_paper_ 125 = .ok (.aload_n 0, 1) := by decide +kernel
theorem dX12_paper__126 : decode cX12_paper_ 126 = .ok (.getfield 9, 3) := by decide +kernel
theorem dX12_paper__129 : decode cX12_paper_ 129 = .ok (.iconst 0, 1) := by decide +kernel
theorem dX12_paper__130 : decode cX12_paper_ 130 = .ok (.iaload, 1) := by decide +kernel
theorem dX12_paper__131 : decode cX12_paper_ 131 = .ok (.iastore, 1) := by decide +kernel
theorem dX12_paper__132 : decode cX12_paper_ 132 = .ok (.aload_n 0, 1) := by decide +kernel
theorem dX12_paper__133 : decode cX12_paper_ 133 = .ok (.getfield 9, 3) := by decide +kernel
theorem dX12_paper__136 : decode cX12_paper_ 136 = .ok (.iload 6, 2) := by decide +kernel
theorem dX12_paper__138 : decode cX12_paper_ 138 = .ok (.iconst 5, 1) := by decide +kernel
theorem dX12_paper__139 : decode cX12_paper_ 139 = .ok (.iadd, 1) := by decide +kernel
theorem dX12_paper__140 : decode cX12_paper_ 140 = .ok (.iconst (-1), 1) := by decide +kernel
theorem dX12_paper__141 : decode cX12_paper_ 141 = .ok (.iastore, 1) := by decide +kernel
theorem dX12_paper__142 : decode cX12_paper_ 142 = .ok (.aload_n 0, 1) := by decide +kernel
theorem dX12_paper__143 : decode cX12_paper_ 143 = .ok (.getfield 9, 3) := by decide +kernel
theorem dX12_paper__146 : decode cX12_paper_ 146 = .ok (.iconst 5, 1) := by decide +kernel
theorem dX12_paper__147 : decode cX12_paper_ 147 = .ok (.dup2, 1) := by decide +kernel
theorem dX12_paper__148 : decode cX12_paper_ 148 = .ok (.iaload, 1) := by decide +kernel
theorem dX12_paper__149 : decode cX12_paper_ 149 = .ok (.iconst 1, 1) := by decide +kernel
theorem dX12_paper__150 : decode cX12_paper_ 150 = .ok (.iadd, 1) := by decide +kernel
theorem dX12_paper__151 : decode cX12_paper_ 151 = .ok (.iastore, 1) := by decide +kernel
theorem dX12_paper__152 : decode cX12_paper_ 152 = .ok (.iload 5, 2) := by decide +kernel
theorem dX12_paper__154 : decode cX12_paper_ 154 = .ok (.ireturn, 1) := by decide +kernel
theorem dX12_paper__63 : decode cX12_paper_ 63 = .ok (.bipush (-2), 2) := by decide +kernel
theorem dX12_paper__65 : decode cX12_paper_ 65 = .ok (.ireturn, 1) := by decide +kernel
theorem dX12_lose_0 : decode cX12_lose 0 = .ok (.aload_n 0, 1) := by decide +kernel
theorem dX12_lose_1 : decode cX12_lose 1 = .ok (.iload_n 1, 1) := by decide +kernel
theorem dX12_lose_2 : decode cX12_lose 2 = .ok (.iconst 5, 1) := by decide +kernel
theorem dX12_lose_3 : decode cX12_lose 3 = .ok (.invokevirtual 120, 3) := by decide +kernel
theorem dX12_lose_6 : decode cX12_lose 6 = .ok (.ifCond .ne 5, 3) := by decide +kernel
theorem dX12_lose_11 : decode cX12_lose 11 = .ok (.aload_n 0, 1) := by decide +kernel
theorem dX12_lose_12 : decode cX12_lose 12 = .ok (.iload_n 1, 1) := by decide +kernel
theorem dX12_lose_13 : decode cX12_lose 13 = .ok (.iconst 5, 1) := by decide +kernel
theorem dX12_lose_14 : decode cX12_lose 14 = .ok (.invokevirtual 88, 3) := by decide +kernel
theorem dX12_lose_17 : decode cX12_lose 17 = .ok (.ifCond .lt 6, 3) := by decide +kernel
theorem dX12_lose_23 : decode cX12_lose 23 = .ok (.aload_n 0, 1) := by decide +kernel
theorem dX12_lose_24 : decode cX12_lose 24 = .ok (.getfield 9, 3) := by decide +kernel
theorem dX12_lose_27 : decode cX12_lose 27 = .ok (.bipush 32, 2) := by decide +kernel
theorem dX12_lose_29 : decode cX12_lose 29 = .ok (.bipush 6, 2) := by decide +kernel
theorem dX12_lose_31 : decode cX12_lose 31 = .ok (.iload_n 1, 1) := by decide +kernel
theorem dX12_lose_32 : decode cX12_lose 32 = .ok (.imul, 1) := by decide +kernel
theorem dX12_lose_33 : decode cX12_lose 33 = .ok (.iadd, 1) := by decide +kernel
theorem dX12_lose_34 : decode cX12_lose 34 = .ok (.iconst 5, 1) := by decide +kernel
theorem dX12_lose_35 : decode cX12_lose 35 = .ok (.iadd, 1) := by decide +kernel
theorem dX12_lose_36 : decode cX12_lose 36 = .ok (.aload_n 0, 1) := by decide +kernel
theorem dX12_lose_37 : decode cX12_lose 37 = .ok (.getfield 9, 3) := by decide +kernel
theorem dX12_lose_40 : decode cX12_lose 40 = .ok (.iconst 0, 1) := by decide +kernel
theorem dX12_lose_41 : decode cX12_lose 41 = .ok (.iaload, 1) := by decide +kernel
theorem dX12_lose_42 : decode cX12_lose 42 = .ok (.iastore, 1) := by decide +kernel
theorem dX12_lose_43 : decode cX12_lose 43 = .ok (.iconst 1, 1) := by decide +kernel
theorem dX12_lose_44 : decode cX12_lose 44 = .ok (.ireturn, 1) := by decide +kernel
theorem dX12_lose_20 : decode cX12_lose 20 = .ok (.bipush (-4), 2) := by decide +kernel
theorem dX12_lose_22 : decode cX12_lose 22 = .ok (.ireturn, 1) := by decide +kernel
theorem dX12_lose_9 : decode cX12_lose 9 = .ok (.iconst (-1), 1) := by decide +kernel
theorem dX12_lose_10 : decode cX12_lose 10 = .ok (.ireturn, 1) := by decide +kernel
theorem dX12_stamped_0 : decode cX12_stamped 0 = .ok (.bipush 104, 2) := by decide +kernel
theorem dX12_stamped_2 : decode cX12_stamped 2 = .ok (.iconst 3, 1) := by decide +kernel
theorem dX12_stamped_3 : decode cX12_stamped 3 = .ok (.aload_n 0, 1) := by decide +kernel
theorem dX12_stamped_4 : decode cX12_stamped 4 = .ok (.getfield 9, 3) := by decide +kernel
theorem dX12_stamped_7 : decode cX12_stamped 7 = .ok (.bipush 6, 2) := by decide +kernel
theorem dX12_stamped_9 : decode cX12_stamped 9 = .ok (.iaload, 1) := by decide +kernel
theorem dX12_stamped_10 : decode cX12_stamped 10 = .ok (.imul, 1) := by decide +kernel
theorem dX12_stamped_11 : decode cX12_stamped 11 = .ok (.iadd, 1) := by decide +kernel
theorem dX12_stamped_12 : decode cX12_stamped 12 = .ok (.istore 4, 2) := by decide +kernel
theorem dX12_stamped_14 : decode cX12_stamped 14 = .ok (.aload_n 0, 1) := by decide +kernel
theorem dX12_stamped_15 : decode cX12_stamped 15 = .ok (.getfield 9, 3) := by decide +kernel
theorem dX12_stamped_18 : decode cX12_stamped 18 = .ok (.iload 4, 2) := by decide +kernel
theorem dX12_stamped_20 : decode cX12_stamped 20 = .ok (.iload_n 1, 1) := by decide +kernel
theorem dX12_stamped_21 : decode cX12_stamped 21 = .ok (.iastore, 1) := by decide +kernel
theorem dX12_stamped_22 : decode cX12_stamped 22 = .ok (.aload_n 0, 1) := by decide +kernel
theorem dX12_stamped_23 : decode cX12_stamped 23 = .ok (.getfield 9, 3) := by decide +kernel
theorem dX12_stamped_26 : decode cX12_stamped 26 = .ok (.iload 4, 2) := by decide +kernel
theorem dX12_stamped_28 : decode cX12_stamped 28 = .ok (.iconst 1, 1) := by decide +kernel
theorem dX12_stamped_29 : decode cX12_stamped 29 = .ok (.iadd, 1) := by decide +kernel
theorem dX12_stamped_30 : decode cX12_stamped 30 = .ok (.iload_n 2, 1) := by decide +kernel
theorem dX12_stamped_31 : decode cX12_stamped 31 = .ok (.iastore, 1) := by decide +kernel
theorem dX12_stamped_32 : decode cX12_stamped 32 = .ok (.aload_n 0, 1) := by decide +kernel
theorem dX12_stamped_33 : decode cX12_stamped 33 = .ok (.getfield 9, 3) := by decide +kernel
theorem dX12_stamped_36 : decode cX12_stamped 36 = .ok (.iload 4, 2) := by decide +kernel
theorem dX12_stamped_38 : decode cX12_stamped 38 = .ok (.iconst 2, 1) := by decide +kernel
theorem dX12_stamped_39 : decode cX12_stamped 39 = .ok (.iadd, 1) := by decide +kernel
theorem dX12_stamped_40 : decode cX12_stamped 40 = .ok (.iload_n 3, 1) := by decide +kernel
theorem dX12_stamped_41 : decode cX12_stamped 41 = .ok (.iastore, 1) := by decide +kernel
theorem dX12_stamped_42 : decode cX12_stamped 42 = .ok (.aload_n 0, 1) := by decide +kernel
theorem dX12_stamped_43 : decode cX12_stamped 43 = .ok (.getfield 9, 3) := by decide +kernel
theorem dX12_stamped_46 : decode cX12_stamped 46 = .ok (.bipush 6, 2) := by decide +kernel
theorem dX12_stamped_48 : decode cX12_stamped 48 = .ok (.dup2, 1) := by decide +kernel
theorem dX12_stamped_49 : decode cX12_stamped 49 = .ok (.iaload, 1) := by decide +kernel
theorem dX12_stamped_50 : decode cX12_stamped 50 = .ok (.iconst 1, 1) := by decide +kernel
theorem dX12_stamped_51 : decode cX12_stamped 51 = .ok (.iadd, 1) := by decide +kernel
theorem dX12_stamped_52 : decode cX12_stamped 52 = .ok (.iastore, 1) := by decide +kernel
theorem dX12_stamped_53 : decode cX12_stamped 53 = .ok (.return_, 1) := by decide +kernel
theorem dX12_stamp_0 : decode cX12_stamp 0 = .ok (.aload_n 0, 1) := by decide +kernel
theorem dX12_stamp_1 : decode cX12_stamp 1 = .ok (.iload_n 1, 1) := by decide +kernel
theorem dX12_stamp_2 : decode cX12_stamp 2 = .ok (.iconst 5, 1) := by decide +kernel
theorem dX12_stamp_3 : decode cX12_stamp 3 = .ok (.invokevirtual 120, 3) := by decide +kernel
theorem dX12_stamp_6 : decode cX12_stamp 6 = .ok (.ifCond .eq 23, 3) := by decide +kernel
theorem dX12_stamp_9 : decode cX12_stamp 9 = .ok (.iload_n 2, 1) := by decide +kernel
theorem dX12_stamp_10 : decode cX12_stamp 10 = .ok (.iconst 0, 1) := by decide +kernel
theorem dX12_stamp_11 : decode cX12_stamp 11 = .ok (.iconst 5, 1) := by decide +kernel
theorem dX12_stamp_12 : decode cX12_stamp 12 = .ok (.invokestatic 84, 3) := by decide +kernel
theorem dX12_stamp_15 : decode cX12_stamp 15 = .ok (.ifCond .eq 14, 3) := by decide +kernel
theorem dX12_stamp_18 : decode cX12_stamp 18 = .ok (.iload_n 3, 1) := by decide +kernel
theorem dX12_stamp_19 : decode cX12_stamp 19 = .ok (.iconst 0, 1) := by decide +kernel
theorem dX12_stamp_20 : decode cX12_stamp 20 = .ok (.sipush 999, 3) := by decide +kernel
theorem dX12_stamp_23 : decode cX12_stamp 23 = .ok (.invokestatic 84, 3) := by decide +kernel
theorem dX12_stamp_26 : decode cX12_stamp 26 = .ok (.ifCond .ne 5, 3) := by decide +kernel
theorem dX12_stamp_31 : decode cX12_stamp 31 = .ok (.aload_n 0, 1) := by decide +kernel
theorem dX12_stamp_32 : decode cX12_stamp 32 = .ok (.getfield 9, 3) := by decide +kernel
theorem dX12_stamp_35 : decode cX12_stamp 35 = .ok (.bipush 6, 2) := by decide +kernel
theorem dX12_stamp_37 : decode cX12_stamp 37 = .ok (.iaload, 1) := by decide +kernel
theorem dX12_stamp_38 : decode cX12_stamp 38 = .ok (.bipush 24, 2) := by decide +kernel
theorem dX12_stamp_40 : decode cX12_stamp 40 = .ok (.if_icmp .ne 6, 3) := by decide +kernel
theorem dX12_stamp_46 : decode cX12_stamp 46 = .ok (.aload_n 0, 1) := by decide +kernel
theorem dX12_stamp_47 : decode cX12_stamp 47 = .ok (.iload_n 1, 1) := by decide +kernel
theorem dX12_stamp_48 : decode cX12_stamp 48 = .ok (.iload_n 2, 1) := by decide +kernel
theorem dX12_stamp_49 : decode cX12_stamp 49 = .ok (.iload_n 3, 1) := by decide +kernel
theorem dX12_stamp_50 : decode cX12_stamp 50 = .ok (.invokevirtual 133, 3) := by decide +kernel
theorem m_1144 : Cond.code yX12_stamped cX12_stamped 5 none ∈ BW := iB_BW61 _ (List.mem_of_getElem? (i := 12) rfl)
theorem m_1142 : Cond.methodLink RX12 133 yX12_stamped ∈ BW := iB_BW61 _ (List.mem_of_getElem? (i := 10) rfl)
theorem m_1143 : Cond.instanceMethod yX12_stamped ∈ BW := iB_BW61 _ (List.mem_of_getElem? (i := 11) rfl)
theorem m_58 : Cond.selects RX12 yX12_stamped yX12_stamped ∈ BW := iB_BW2 _ (List.mem_of_getElem? (i := 18) rfl)
theorem si_X12_133 : SV RX12 RX12 133 yX12_stamped cX12_stamped 5 none 3 := ⟨⟨m_1142, m_1143, m_58, m_115, m_1144⟩, rfl, nK_RX12.1, nK_RX12.2, pd_4⟩
theorem dX12_stamp_53 : decode cX12_stamp 53 = .ok (.aload_n 0, 1) := by decide +kernel
theorem dX12_stamp_54 : decode cX12_stamp 54 = .ok (.getfield 9, 3) := by decide +kernel
theorem dX12_stamp_57 : decode cX12_stamp 57 = .ok (.bipush 6, 2) := by decide +kernel
theorem dX12_stamp_59 : decode cX12_stamp 59 = .ok (.iaload, 1) := by decide +kernel
theorem dX12_stamp_60 : decode cX12_stamp 60 = .ok (.iconst 1, 1) := by decide +kernel
theorem dX12_stamp_61 : decode cX12_stamp 61 = .ok (.isub, 1) := by decide +kernel
theorem dX12_stamp_62 : decode cX12_stamp 62 = .ok (.ireturn, 1) := by decide +kernel
theorem dX12_stamp_43 : decode cX12_stamp 43 = .ok (.bipush (-2), 2) := by decide +kernel
theorem dX12_stamp_45 : decode cX12_stamp 45 = .ok (.ireturn, 1) := by decide +kernel
theorem dX12_stamp_29 : decode cX12_stamp 29 = .ok (.iconst (-1), 1) := by decide +kernel
theorem dX12_stamp_30 : decode cX12_stamp 30 = .ok (.ireturn, 1) := by decide +kernel
theorem dX12_saying__0 : decode cX12_saying_ 0 = .ok (.aload_n 0, 1) := by decide +kernel
theorem dX12_saying__1 : decode cX12_saying_ 1 = .ok (.iload_n 1, 1) := by decide +kernel
theorem dX12_saying__2 : decode cX12_saying_ 2 = .ok (.iconst 4, 1) := by decide +kernel
theorem dX12_saying__3 : decode cX12_saying_ 3 = .ok (.invokevirtual 120, 3) := by decide +kernel
theorem dX12_saying__6 : decode cX12_saying_ 6 = .ok (.ifCond .eq 45, 3) := by decide +kernel
theorem dX12_saying__9 : decode cX12_saying_ 9 = .ok (.aload_n 0, 1) := by decide +kernel
theorem dX12_saying__10 : decode cX12_saying_ 10 = .ok (.iload_n 2, 1) := by decide +kernel
theorem dX12_saying__11 : decode cX12_saying_ 11 = .ok (.iconst 4, 1) := by decide +kernel
theorem dX12_saying__12 : decode cX12_saying_ 12 = .ok (.invokevirtual 120, 3) := by decide +kernel
theorem dX12_saying__15 : decode cX12_saying_ 15 = .ok (.ifCond .eq 36, 3) := by decide +kernel
theorem dX12_saying__18 : decode cX12_saying_ 18 = .ok (.aload_n 0, 1) := by decide +kernel
theorem dX12_saying__19 : decode cX12_saying_ 19 = .ok (.iload_n 3, 1) := by decide +kernel
theorem dX12_saying__20 : decode cX12_saying_ 20 = .ok (.iconst 5, 1) := by decide +kernel
theorem dX12_saying__21 : decode cX12_saying_ 21 = .ok (.invokevirtual 120, 3) := by decide +kernel
theorem dX12_saying__24 : decode cX12_saying_ 24 = .ok (.ifCond .eq 27, 3) := by decide +kernel
theorem dX12_saying__27 : decode cX12_saying_ 27 = .ok (.iload 4, 2) := by decide +kernel
theorem dX12_saying__29 : decode cX12_saying_ 29 = .ok (.iconst 1, 1) := by decide +kernel
theorem dX12_saying__30 : decode cX12_saying_ 30 = .ok (.sipush 9999, 3) := by decide +kernel
theorem dX12_saying__33 : decode cX12_saying_ 33 = .ok (.invokestatic 84, 3) := by decide +kernel
theorem dX12_saying__36 : decode cX12_saying_ 36 = .ok (.ifCond .eq 15, 3) := by decide +kernel
theorem dX12_saying__39 : decode cX12_saying_ 39 = .ok (.iload 4, 2) := by decide +kernel
theorem dX12_saying__41 : decode cX12_saying_ 41 = .ok (.bipush 10, 2) := by decide +kernel
theorem dX12_saying__43 : decode cX12_saying_ 43 = .ok (.irem, 1) := by decide +kernel
theorem dX12_saying__44 : decode cX12_saying_ 44 = .ok (.ifCond .le 7, 3) := by decide +kernel
theorem dX12_saying__51 : decode cX12_saying_ 51 = .ok (.iconst 0, 1) := by decide +kernel
theorem dX12_saying__52 : decode cX12_saying_ 52 = .ok (.istore 7, 2) := by decide +kernel
theorem dX12_saying__54 : decode cX12_saying_ 54 = .ok (.iload 7, 2) := by decide +kernel
theorem dX12_saying__56 : decode cX12_saying_ 56 = .ok (.ifCond .eq 20, 3) := by decide +kernel
theorem dX12_saying__76 : decode cX12_saying_ 76 = .ok (.iconst (-1), 1) := by decide +kernel
theorem dX12_saying__77 : decode cX12_saying_ 77 = .ok (.ireturn, 1) := by decide +kernel
theorem dX12_saying__47 : decode cX12_saying_ 47 = .ok (.iconst 1, 1) := by decide +kernel
theorem dX12_saying__48 : decode cX12_saying_ 48 = .ok (.goto 4, 3) := by decide +kernel
theorem dX12_saying__59 : decode cX12_saying_ 59 = .ok (.iload 6, 2) := by decide +kernel
theorem dX12_saying__61 : decode cX12_saying_ 61 = .ok (.iconst (-1), 1) := by decide +kernel
theorem dX12_saying__62 : decode cX12_saying_ 62 = .ok (.if_icmp .eq 16, 3) := by decide +kernel
theorem dX12_saying__78 : decode cX12_saying_ 78 = .ok (.aload_n 0, 1) := by decide +kernel
theorem dX12_saying__79 : decode cX12_saying_ 79 = .ok (.getfield 9, 3) := by decide +kernel
theorem dX12_saying__82 : decode cX12_saying_ 82 = .ok (.bipush 8, 2) := by decide +kernel
theorem dX12_saying__84 : decode cX12_saying_ 84 = .ok (.iaload, 1) := by decide +kernel
theorem dX12_saying__85 : decode cX12_saying_ 85 = .ok (.istore 8, 2) := by decide +kernel
theorem dX12_saying__87 : decode cX12_saying_ 87 = .ok (.iload 8, 2) := by decide +kernel
theorem dX12_saying__89 : decode cX12_saying_ 89 = .ok (.bipush 16, 2) := by decide +kernel
theorem dX12_saying__91 : decode cX12_saying_ 91 = .ok (.if_icmp .ne 6, 3) := by decide +kernel
theorem dX12_saying__97 : decode cX12_saying_ 97 = .ok (.sipush 1424, 3) := by decide +kernel
theorem dX12_saying__100 : decode cX12_saying_ 100 = .ok (.bipush 8, 2) := by decide +kernel
theorem dX12_saying__102 : decode cX12_saying_ 102 = .ok (.iload 8, 2) := by decide +kernel
theorem dX12_saying__104 : decode cX12_saying_ 104 = .ok (.imul, 1) := by decide +kernel
theorem dX12_saying__105 : decode cX12_saying_ 105 = .ok (.iadd, 1) := by decide +kernel
theorem dX12_saying__106 : decode cX12_saying_ 106 = .ok (.istore 9, 2) := by decide +kernel
theorem dX12_saying__108 : decode cX12_saying_ 108 = .ok (.aload_n 0, 1) := by decide +kernel
theorem dX12_saying__109 : decode cX12_saying_ 109 = .ok (.getfield 9, 3) := by decide +kernel
theorem dX12_saying__112 : decode cX12_saying_ 112 = .ok (.iload 9, 2) := by decide +kernel
theorem dX12_saying__114 : decode cX12_saying_ 114 = .ok (.iconst 0, 1) := by decide +kernel
theorem dX12_saying__115 : decode cX12_saying_ 115 = .ok (.iadd, 1) := by decide +kernel
theorem dX12_saying__116 : decode cX12_saying_ 116 = .ok (.iload_n 1, 1) := by decide +kernel
theorem dX12_saying__117 : decode cX12_saying_ 117 = .ok (.iastore, 1) := by decide +kernel
theorem dX12_saying__118 : decode cX12_saying_ 118 = .ok (.aload_n 0, 1) := by decide +kernel
theorem dX12_saying__119 : decode cX12_saying_ 119 = .ok (.getfield 9, 3) := by decide +kernel
theorem dX12_saying__122 : decode cX12_saying_ 122 = .ok (.iload 9, 2) := by decide +kernel
theorem dX12_saying__124 : decode cX12_saying_ 124 = .ok (.iconst 1, 1) := by decide +kernel
theorem dX12_saying__125 : decode cX12_saying_ 125 = .ok (.iadd, 1) := by decide +kernel
theorem dX12_saying__126 : decode cX12_saying_ 126 = .ok (.iload_n 2, 1) := by decide +kernel
theorem dX12_saying__127 : decode cX12_saying_ 127 = .ok (.iastore, 1) := by decide +kernel
theorem dX12_saying__128 : decode cX12_saying_ 128 = .ok (.aload_n 0, 1) := by decide +kernel
theorem dX12_saying__129 : decode cX12_saying_ 129 = .ok (.getfield 9, 3) := by decide +kernel
theorem dX12_saying__132 : decode cX12_saying_ 132 = .ok (.iload 9, 2) := by decide +kernel
theorem dX12_saying__134 : decode cX12_saying_ 134 = .ok (.iconst 2, 1) := by decide +kernel
theorem dX12_saying__135 : decode cX12_saying_ 135 = .ok (.iadd, 1) := by decide +kernel
theorem dX12_saying__136 : decode cX12_saying_ 136 = .ok (.iload_n 3, 1) := by decide +kernel
theorem dX12_saying__137 : decode cX12_saying_ 137 = .ok (.iastore, 1) := by decide +kernel
theorem dX12_saying__138 : decode cX12_saying_ 138 = .ok (.aload_n 0, 1) := by decide +kernel
theorem dX12_saying__139 : decode cX12_saying_ 139 = .ok (.getfield 9, 3) := by decide +kernel
theorem dX12_saying__142 : decode cX12_saying_ 142 = .ok (.iload 9, 2) := by decide +kernel
theorem dX12_saying__144 : decode cX12_saying_ 144 = .ok (.iconst 3, 1) := by decide +kernel
theorem dX12_saying__145 : decode cX12_saying_ 145 = .ok (.iadd, 1) := by decide +kernel
theorem dX12_saying__146 : decode cX12_saying_ 146 = .ok (.iload 4, 2) := by decide +kernel
theorem dX12_saying__148 : decode cX12_saying_ 148 = .ok (.bipush 10, 2) := by decide +kernel
theorem dX12_saying__150 : decode cX12_saying_ 150 = .ok (.idiv, 1) := by decide +kernel
theorem dX12_saying__151 : decode cX12_saying_ 151 = .ok (.iastore, 1) := by decide +kernel
theorem dX12_saying__152 : decode cX12_saying_ 152 = .ok (.aload_n 0, 1) := by decide +kernel
theorem dX12_saying__153 : decode cX12_saying_ 153 = .ok (.getfield 9, 3) := by decide +kernel
theorem dX12_saying__156 : decode cX12_saying_ 156 = .ok (.iload 9, 2) := by decide +kernel
theorem dX12_saying__158 : decode cX12_saying_ 158 = .ok (.iconst 4, 1) := by decide +kernel
theorem dX12_saying__159 : decode cX12_saying_ 159 = .ok (.iadd, 1) := by decide +kernel
theorem dX12_saying__160 : decode cX12_saying_ 160 = .ok (.iload 4, 2) := by decide +kernel
theorem dX12_saying__162 : decode cX12_saying_ 162 = .ok (.bipush 10, 2) := by decide +kernel
theorem dX12_saying__164 : decode cX12_saying_ 164 = .ok (.irem, 1) := by decide +kernel
theorem dX12_saying__165 : decode cX12_saying_ 165 = .ok (.iastore, 1) := by decide +kernel
theorem dX12_saying__166 : decode cX12_saying_ 166 = .ok (.aload_n 0, 1) := by decide +kernel
theorem dX12_saying__167 : decode cX12_saying_ 167 = .ok (.getfield 9, 3) := by decide +kernel
theorem dX12_saying__170 : decode cX12_saying_ 170 = .ok (.iload 9, 2) := by decide +kernel
theorem dX12_saying__172 : decode cX12_saying_ 172 = .ok (.iconst 5, 1) := by decide +kernel
theorem dX12_saying__173 : decode cX12_saying_ 173 = .ok (.iadd, 1) := by decide +kernel
theorem dX12_saying__174 : decode cX12_saying_ 174 = .ok (.iload 5, 2) := by decide +kernel
theorem dX12_saying__176 : decode cX12_saying_ 176 = .ok (.ifCond .eq 7, 3) := by decide +kernel
theorem dX12_saying__183 : decode cX12_saying_ 183 = .ok (.iconst 0, 1) := by decide +kernel
theorem dX12_saying__184 : decode cX12_saying_ 184 = .ok (.iastore, 1) := by decide +kernel
theorem dX12_saying__185 : decode cX12_saying_ 185 = .ok (.aload_n 0, 1) := by decide +kernel
theorem dX12_saying__186 : decode cX12_saying_ 186 = .ok (.getfield 9, 3) := by decide +kernel
theorem dX12_saying__189 : decode cX12_saying_ 189 = .ok (.iload 9, 2) := by decide +kernel
theorem dX12_saying__191 : decode cX12_saying_ 191 = .ok (.bipush 6, 2) := by decide +kernel
theorem dX12_saying__193 : decode cX12_saying_ 193 = .ok (.iadd, 1) := by decide +kernel
theorem dX12_saying__194 : decode cX12_saying_ 194 = .ok (.iload 6, 2) := by decide +kernel
theorem dX12_saying__196 : decode cX12_saying_ 196 = .ok (.iastore, 1) := by decide +kernel
theorem dX12_saying__197 : decode cX12_saying_ 197 = .ok (.aload_n 0, 1) := by decide +kernel
theorem dX12_saying__198 : decode cX12_saying_ 198 = .ok (.getfield 9, 3) := by decide +kernel
theorem dX12_saying__201 : decode cX12_saying_ 201 = .ok (.iload 9, 2) := by decide +kernel
theorem dX12_saying__203 : decode cX12_saying_ 203 = .ok (.bipush 7, 2) := by decide +kernel
theorem dX12_saying__205 : decode cX12_saying_ 205 = .ok (.iadd, 1) := by decide +kernel
theorem dX12_saying__206 : decode cX12_saying_ 206 = .ok (.aload_n 0, 1) := by decide +kernel
theorem dX12_saying__207 : decode cX12_saying_ 207 = .ok (.getfield 9, 3) := by decide +kernel
theorem dX12_saying__210 : decode cX12_saying_ 210 = .ok (.iconst 0, 1) := by decide +kernel
theorem dX12_saying__211 : decode cX12_saying_ 211 = .ok (.iaload, 1) := by decide +kernel
theorem dX12_saying__212 : decode cX12_saying_ 212 = .ok (.iastore, 1) := by decide +kernel
theorem dX12_saying__213 : decode cX12_saying_ 213 = .ok (.aload_n 0, 1) := by decide +kernel
theorem dX12_saying__214 : decode cX12_saying_ 214 = .ok (.getfield 9, 3) := by decide +kernel
theorem dX12_saying__217 : decode cX12_saying_ 217 = .ok (.bipush 8, 2) := by decide +kernel
theorem dX12_saying__219 : decode cX12_saying_ 219 = .ok (.dup2, 1) := by decide +kernel
theorem dX12_saying__220 : decode cX12_saying_ 220 = .ok (.iaload, 1) := by decide +kernel
theorem dX12_saying__221 : decode cX12_saying_ 221 = .ok (.iconst 1, 1) := by decide +kernel
theorem dX12_saying__222 : decode cX12_saying_ 222 = .ok (.iadd, 1) := by decide +kernel
theorem dX12_saying__223 : decode cX12_saying_ 223 = .ok (.iastore, 1) := by decide +kernel
theorem dX12_saying__224 : decode cX12_saying_ 224 = .ok (.iload 8, 2) := by decide +kernel
theorem dX12_saying__226 : decode cX12_saying_ 226 = .ok (.ireturn, 1) := by decide +kernel
theorem dX12_saying__179 : decode cX12_saying_ 179 = .ok (.iconst 1, 1) := by decide +kernel
theorem dX12_saying__180 : decode cX12_saying_ 180 = .ok (.goto 4, 3) := by decide +kernel
theorem dX12_saying__94 : decode cX12_saying_ 94 = .ok (.bipush (-2), 2) := by decide +kernel
theorem dX12_saying__96 : decode cX12_saying_ 96 = .ok (.ireturn, 1) := by decide +kernel
theorem dX12_saying__65 : decode cX12_saying_ 65 = .ok (.aload_n 0, 1) := by decide +kernel
theorem dX12_saying__66 : decode cX12_saying_ 66 = .ok (.iload 6, 2) := by decide +kernel
theorem dX12_saying__68 : decode cX12_saying_ 68 = .ok (.bipush 8, 2) := by decide +kernel
theorem dX12_saying__70 : decode cX12_saying_ 70 = .ok (.invokevirtual 120, 3) := by decide +kernel
theorem dX12_saying__73 : decode cX12_saying_ 73 = .ok (.ifCond .ne 5, 3) := by decide +kernel
theorem dX12_finding_0 : decode cX12_finding 0 = .ok (.aload_n 0, 1) := by decide +kernel
theorem dX12_finding_1 : decode cX12_finding 1 = .ok (.iload_n 1, 1) := by decide +kernel
theorem dX12_finding_2 : decode cX12_finding 2 = .ok (.iconst 4, 1) := by decide +kernel
theorem dX12_finding_3 : decode cX12_finding 3 = .ok (.invokevirtual 120, 3) := by decide +kernel
theorem dX12_finding_6 : decode cX12_finding 6 = .ok (.ifCond .eq 34, 3) := by decide +kernel
theorem dX12_finding_9 : decode cX12_finding 9 = .ok (.iload_n 2, 1) := by decide +kernel
theorem dX12_finding_10 : decode cX12_finding 10 = .ok (.iconst 0, 1) := by decide +kernel
theorem dX12_finding_11 : decode cX12_finding 11 = .ok (.bipush 7, 2) := by decide +kernel
theorem dX12_finding_13 : decode cX12_finding 13 = .ok (.invokestatic 84, 3) := by decide +kernel
theorem dX12_finding_16 : decode cX12_finding 16 = .ok (.ifCond .eq 24, 3) := by decide +kernel
theorem dX12_finding_19 : decode cX12_finding 19 = .ok (.iload_n 3, 1) := by decide +kernel
theorem dX12_finding_20 : decode cX12_finding 20 = .ok (.iconst 0, 1) := by decide +kernel
theorem dX12_finding_21 : decode cX12_finding 21 = .ok (.sipush 999, 3) := by decide +kernel
theorem dX12_finding_24 : decode cX12_finding 24 = .ok (.invokestatic 84, 3) := by decide +kernel
theorem dX12_finding_27 : decode cX12_finding 27 = .ok (.ifCond .eq 13, 3) := by decide +kernel
theorem dX12_finding_30 : decode cX12_finding 30 = .ok (.iload 4, 2) := by decide +kernel
theorem dX12_finding_32 : decode cX12_finding 32 = .ok (.iconst 0, 1) := by decide +kernel
theorem dX12_finding_33 : decode cX12_finding 33 = .ok (.iconst 2, 1) := by decide +kernel
theorem dX12_finding_34 : decode cX12_finding 34 = .ok (.invokestatic 84, 3) := by decide +kernel
theorem dX12_finding_37 : decode cX12_finding 37 = .ok (.ifCond .ne 5, 3) := by decide +kernel
theorem dX12_finding_42 : decode cX12_finding 42 = .ok (.aload_n 0, 1) := by decide +kernel
theorem dX12_finding_43 : decode cX12_finding 43 = .ok (.getfield 9, 3) := by decide +kernel
theorem dX12_finding_46 : decode cX12_finding 46 = .ok (.bipush 9, 2) := by decide +kernel
theorem dX12_finding_48 : decode cX12_finding 48 = .ok (.iaload, 1) := by decide +kernel
theorem dX12_finding_49 : decode cX12_finding 49 = .ok (.istore 5, 2) := by decide +kernel
theorem dX12_finding_51 : decode cX12_finding 51 = .ok (.iload 5, 2) := by decide +kernel
theorem dX12_finding_53 : decode cX12_finding 53 = .ok (.bipush 12, 2) := by decide +kernel
theorem dX12_finding_55 : decode cX12_finding 55 = .ok (.if_icmp .ne 6, 3) := by decide +kernel
theorem dX12_finding_61 : decode cX12_finding 61 = .ok (.sipush 1552, 3) := by decide +kernel
theorem dX12_finding_64 : decode cX12_finding 64 = .ok (.iconst 4, 1) := by decide +kernel
theorem dX12_finding_65 : decode cX12_finding 65 = .ok (.iload 5, 2) := by decide +kernel
theorem dX12_finding_67 : decode cX12_finding 67 = .ok (.imul, 1) := by decide +kernel
theorem dX12_finding_68 : decode cX12_finding 68 = .ok (.iadd, 1) := by decide +kernel
theorem dX12_finding_69 : decode cX12_finding 69 = .ok (.istore 6, 2) := by decide +kernel
theorem dX12_finding_71 : decode cX12_finding 71 = .ok (.aload_n 0, 1) := by decide +kernel
theorem dX12_finding_72 : decode cX12_finding 72 = .ok (.getfield 9, 3) := by decide +kernel
theorem dX12_finding_75 : decode cX12_finding 75 = .ok (.iload 6, 2) := by decide +kernel
theorem dX12_finding_77 : decode cX12_finding 77 = .ok (.iconst 0, 1) := by decide +kernel
theorem dX12_finding_78 : decode cX12_finding 78 = .ok (.iadd, 1) := by decide +kernel
theorem dX12_finding_79 : decode cX12_finding 79 = .ok (.iload_n 1, 1) := by decide +kernel
theorem dX12_finding_80 : decode cX12_finding 80 = .ok (.iastore, 1) := by decide +kernel
theorem dX12_finding_81 : decode cX12_finding 81 = .ok (.aload_n 0, 1) := by decide +kernel
theorem dX12_finding_82 : decode cX12_finding 82 = .ok (.getfield 9, 3) := by decide +kernel
theorem dX12_finding_85 : decode cX12_finding 85 = .ok (.iload 6, 2) := by decide +kernel
theorem dX12_finding_87 : decode cX12_finding 87 = .ok (.iconst 1, 1) := by decide +kernel
theorem dX12_finding_88 : decode cX12_finding 88 = .ok (.iadd, 1) := by decide +kernel
theorem dX12_finding_89 : decode cX12_finding 89 = .ok (.iload_n 2, 1) := by decide +kernel
theorem dX12_finding_90 : decode cX12_finding 90 = .ok (.iastore, 1) := by decide +kernel
theorem dX12_finding_91 : decode cX12_finding 91 = .ok (.aload_n 0, 1) := by decide +kernel
theorem dX12_finding_92 : decode cX12_finding 92 = .ok (.getfield 9, 3) := by decide +kernel
theorem dX12_finding_95 : decode cX12_finding 95 = .ok (.iload 6, 2) := by decide +kernel
theorem dX12_finding_97 : decode cX12_finding 97 = .ok (.iconst 2, 1) := by decide +kernel
theorem dX12_finding_98 : decode cX12_finding 98 = .ok (.iadd, 1) := by decide +kernel
theorem dX12_finding_99 : decode cX12_finding 99 = .ok (.iload_n 3, 1) := by decide +kernel
theorem dX12_finding_100 : decode cX12_finding 100 = .ok (.iastore, 1) := by decide +kernel
theorem dX12_finding_101 : decode cX12_finding 101 = .ok (.aload_n 0, 1) := by decide +kernel
theorem dX12_finding_102 : decode cX12_finding 102 = .ok (.getfield 9, 3) := by decide +kernel
theorem dX12_finding_105 : decode cX12_finding 105 = .ok (.iload 6, 2) := by decide +kernel
theorem dX12_finding_107 : decode cX12_finding 107 = .ok (.iconst 3, 1) := by decide +kernel
theorem dX12_finding_108 : decode cX12_finding 108 = .ok (.iadd, 1) := by decide +kernel
theorem dX12_finding_109 : decode cX12_finding 109 = .ok (.iload 4, 2) := by decide +kernel
theorem dX12_finding_111 : decode cX12_finding 111 = .ok (.iastore, 1) := by decide +kernel
theorem dX12_finding_112 : decode cX12_finding 112 = .ok (.aload_n 0, 1) := by decide +kernel
theorem dX12_finding_113 : decode cX12_finding 113 = .ok (.getfield 9, 3) := by decide +kernel
theorem dX12_finding_116 : decode cX12_finding 116 = .ok (.bipush 9, 2) := by decide +kernel
theorem dX12_finding_118 : decode cX12_finding 118 = .ok (.dup2, 1) := by decide +kernel
theorem dX12_finding_119 : decode cX12_finding 119 = .ok (.iaload, 1) := by decide +kernel
theorem dX12_finding_120 : decode cX12_finding 120 = .ok (.iconst 1, 1) := by decide +kernel
theorem dX12_finding_121 : decode cX12_finding 121 = .ok (.iadd, 1) := by decide +kernel
theorem dX12_finding_122 : decode cX12_finding 122 = .ok (.iastore, 1) := by decide +kernel
theorem dX12_finding_123 : decode cX12_finding 123 = .ok (.iload 5, 2) := by decide +kernel
theorem dX12_finding_125 : decode cX12_finding 125 = .ok (.ireturn, 1) := by decide +kernel
theorem dX12_finding_58 : decode cX12_finding 58 = .ok (.bipush (-2), 2) := by decide +kernel
theorem dX12_finding_60 : decode cX12_finding 60 = .ok (.ireturn, 1) := by decide +kernel
theorem dX12_finding_40 : decode cX12_finding 40 = .ok (.iconst (-1), 1) := by decide +kernel
theorem dX12_finding_41 : decode cX12_finding 41 = .ok (.ireturn, 1) := by decide +kernel
theorem dX12_warn_0 : decode cX12_warn 0 = .ok (.aload_n 0, 1) := by decide +kernel
theorem dX12_warn_1 : decode cX12_warn 1 = .ok (.iload_n 1, 1) := by decide +kernel
theorem dX12_warn_2 : decode cX12_warn 2 = .ok (.iconst 4, 1) := by decide +kernel
theorem dX12_warn_3 : decode cX12_warn 3 = .ok (.invokevirtual 120, 3) := by decide +kernel
theorem dX12_warn_6 : decode cX12_warn 6 = .ok (.ifCond .eq 12, 3) := by decide +kernel
theorem dX12_warn_9 : decode cX12_warn 9 = .ok (.aload_n 0, 1) := by decide +kernel
theorem dX12_warn_10 : decode cX12_warn 10 = .ok (.iload_n 2, 1) := by decide +kernel
theorem dX12_warn_11 : decode cX12_warn 11 = .ok (.iconst 5, 1) := by decide +kernel
theorem dX12_warn_12 : decode cX12_warn 12 = .ok (.invokevirtual 120, 3) := by decide +kernel
theorem dX12_warn_15 : decode cX12_warn 15 = .ok (.ifCond .ne 5, 3) := by decide +kernel
theorem dX12_warn_20 : decode cX12_warn 20 = .ok (.aload_n 0, 1) := by decide +kernel
theorem dX12_warn_21 : decode cX12_warn 21 = .ok (.getfield 9, 3) := by decide +kernel
theorem dX12_warn_24 : decode cX12_warn 24 = .ok (.bipush 10, 2) := by decide +kernel
theorem dX12_warn_26 : decode cX12_warn 26 = .ok (.iaload, 1) := by decide +kernel
theorem dX12_warn_27 : decode cX12_warn 27 = .ok (.istore_n 3, 1) := by decide +kernel
theorem dX12_warn_28 : decode cX12_warn 28 = .ok (.iload_n 3, 1) := by decide +kernel
theorem dX12_warn_29 : decode cX12_warn 29 = .ok (.bipush 16, 2) := by decide +kernel
theorem dX12_warn_31 : decode cX12_warn 31 = .ok (.if_icmp .ne 6, 3) := by decide +kernel
theorem dX12_warn_37 : decode cX12_warn 37 = .ok (.aload_n 0, 1) := by decide +kernel
theorem dX12_warn_38 : decode cX12_warn 38 = .ok (.getfield 9, 3) := by decide +kernel
theorem dX12_warn_41 : decode cX12_warn 41 = .ok (.sipush 1600, 3) := by decide +kernel
theorem dX12_warn_44 : decode cX12_warn 44 = .ok (.iconst 3, 1) := by decide +kernel
theorem dX12_warn_45 : decode cX12_warn 45 = .ok (.iload_n 3, 1) := by decide +kernel
theorem dX12_warn_46 : decode cX12_warn 46 = .ok (.imul, 1) := by decide +kernel
theorem dX12_warn_47 : decode cX12_warn 47 = .ok (.iadd, 1) := by decide +kernel
theorem dX12_warn_48 : decode cX12_warn 48 = .ok (.iload_n 1, 1) := by decide +kernel
theorem dX12_warn_49 : decode cX12_warn 49 = .ok (.iastore, 1) := by decide +kernel
theorem dX12_warn_50 : decode cX12_warn 50 = .ok (.aload_n 0, 1) := by decide +kernel
theorem dX12_warn_51 : decode cX12_warn 51 = .ok (.getfield 9, 3) := by decide +kernel
theorem dX12_warn_54 : decode cX12_warn 54 = .ok (.sipush 1600, 3) := by decide +kernel
theorem dX12_warn_57 : decode cX12_warn 57 = .ok (.iconst 3, 1) := by decide +kernel
theorem dX12_warn_58 : decode cX12_warn 58 = .ok (.iload_n 3, 1) := by decide +kernel
theorem dX12_warn_59 : decode cX12_warn 59 = .ok (.imul, 1) := by decide +kernel
theorem dX12_warn_60 : decode cX12_warn 60 = .ok (.iadd, 1) := by decide +kernel
theorem dX12_warn_61 : decode cX12_warn 61 = .ok (.iconst 1, 1) := by decide +kernel
theorem dX12_warn_62 : decode cX12_warn 62 = .ok (.iadd, 1) := by decide +kernel
theorem dX12_warn_63 : decode cX12_warn 63 = .ok (.iload_n 2, 1) := by decide +kernel
theorem dX12_warn_64 : decode cX12_warn 64 = .ok (.iastore, 1) := by decide +kernel
theorem dX12_warn_65 : decode cX12_warn 65 = .ok (.aload_n 0, 1) := by decide +kernel
theorem dX12_warn_66 : decode cX12_warn 66 = .ok (.getfield 9, 3) := by decide +kernel
theorem dX12_warn_69 : decode cX12_warn 69 = .ok (.sipush 1600, 3) := by decide +kernel
theorem dX12_warn_72 : decode cX12_warn 72 = .ok (.iconst 3, 1) := by decide +kernel
theorem dX12_warn_73 : decode cX12_warn 73 = .ok (.iload_n 3, 1) := by decide +kernel
theorem dX12_warn_74 : decode cX12_warn 74 = .ok (.imul, 1) := by decide +kernel
theorem dX12_warn_75 : decode cX12_warn 75 = .ok (.iadd, 1) := by decide +kernel
theorem dX12_warn_76 : decode cX12_warn 76 = .ok (.iconst 2, 1) := by decide +kernel
theorem dX12_warn_77 : decode cX12_warn 77 = .ok (.iadd, 1) := by decide +kernel
theorem dX12_warn_78 : decode cX12_warn 78 = .ok (.aload_n 0, 1) := by decide +kernel
theorem dX12_warn_79 : decode cX12_warn 79 = .ok (.getfield 9, 3) := by decide +kernel
theorem dX12_warn_82 : decode cX12_warn 82 = .ok (.iconst 0, 1) := by decide +kernel
theorem dX12_warn_83 : decode cX12_warn 83 = .ok (.iaload, 1) := by decide +kernel
theorem dX12_warn_84 : decode cX12_warn 84 = .ok (.iastore, 1) := by decide +kernel
theorem dX12_warn_85 : decode cX12_warn 85 = .ok (.aload_n 0, 1) := by decide +kernel
theorem dX12_warn_86 : decode cX12_warn 86 = .ok (.getfield 9, 3) := by decide +kernel
theorem dX12_warn_89 : decode cX12_warn 89 = .ok (.bipush 10, 2) := by decide +kernel
theorem dX12_warn_91 : decode cX12_warn 91 = .ok (.dup2, 1) := by decide +kernel
theorem dX12_warn_92 : decode cX12_warn 92 = .ok (.iaload, 1) := by decide +kernel
theorem dX12_warn_93 : decode cX12_warn 93 = .ok (.iconst 1, 1) := by decide +kernel
theorem dX12_warn_94 : decode cX12_warn 94 = .ok (.iadd, 1) := by decide +kernel
theorem dX12_warn_95 : decode cX12_warn 95 = .ok (.iastore, 1) := by decide +kernel
theorem dX12_warn_96 : decode cX12_warn 96 = .ok (.iload_n 3, 1) := by decide +kernel
theorem dX12_warn_97 : decode cX12_warn 97 = .ok (.ireturn, 1) := by decide +kernel
theorem dX12_warn_34 : decode cX12_warn 34 = .ok (.bipush (-2), 2) := by decide +kernel
theorem dX12_warn_36 : decode cX12_warn 36 = .ok (.ireturn, 1) := by decide +kernel
theorem dX12_warn_18 : decode cX12_warn 18 = .ok (.iconst (-1), 1) := by decide +kernel
theorem dX12_warn_19 : decode cX12_warn 19 = .ok (.ireturn, 1) := by decide +kernel
theorem dX12_question_0 : decode cX12_question 0 = .ok (.iload_n 1, 1) := by decide +kernel
theorem dX12_question_1 : decode cX12_question 1 = .ok (.iconst 1, 1) := by decide +kernel
theorem dX12_question_2 : decode cX12_question 2 = .ok (.bipush 9, 2) := by decide +kernel
theorem dX12_question_4 : decode cX12_question 4 = .ok (.invokestatic 84, 3) := by decide +kernel
theorem dX12_question_7 : decode cX12_question 7 = .ok (.ifCond .eq 14, 3) := by decide +kernel
theorem dX12_question_10 : decode cX12_question 10 = .ok (.iload_n 2, 1) := by decide +kernel
theorem dX12_question_11 : decode cX12_question 11 = .ok (.iconst 0, 1) := by decide +kernel
theorem dX12_question_12 : decode cX12_question 12 = .ok (.sipush 255, 3) := by decide +kernel
theorem dX12_question_15 : decode cX12_question 15 = .ok (.invokestatic 84, 3) := by decide +kernel
theorem dX12_question_18 : decode cX12_question 18 = .ok (.ifCond .ne 5, 3) := by decide +kernel
theorem dX12_question_23 : decode cX12_question 23 = .ok (.aload_n 0, 1) := by decide +kernel
theorem dX12_question_24 : decode cX12_question 24 = .ok (.getfield 9, 3) := by decide +kernel
theorem dX12_question_27 : decode cX12_question 27 = .ok (.bipush 11, 2) := by decide +kernel
theorem dX12_question_29 : decode cX12_question 29 = .ok (.iaload, 1) := by decide +kernel
theorem dX12_question_30 : decode cX12_question 30 = .ok (.istore_n 3, 1) := by decide +kernel
theorem dX12_question_31 : decode cX12_question 31 = .ok (.iload_n 3, 1) := by decide +kernel
theorem dX12_question_32 : decode cX12_question 32 = .ok (.bipush 7, 2) := by decide +kernel
theorem dX12_question_34 : decode cX12_question 34 = .ok (.if_icmp .ne 6, 3) := by decide +kernel
theorem dX12_question_40 : decode cX12_question 40 = .ok (.aload_n 0, 1) := by decide +kernel
theorem dX12_question_41 : decode cX12_question 41 = .ok (.getfield 9, 3) := by decide +kernel
theorem dX12_question_44 : decode cX12_question 44 = .ok (.sipush 1648, 3) := by decide +kernel
theorem dX12_question_47 : decode cX12_question 47 = .ok (.iconst 2, 1) := by decide +kernel
theorem dX12_question_48 : decode cX12_question 48 = .ok (.iload_n 3, 1) := by decide +kernel
theorem dX12_question_49 : decode cX12_question 49 = .ok (.imul, 1) := by decide +kernel
theorem dX12_question_50 : decode cX12_question 50 = .ok (.iadd, 1) := by decide +kernel
theorem dX12_question_51 : decode cX12_question 51 = .ok (.iload_n 1, 1) := by decide +kernel
theorem dX12_question_52 : decode cX12_question 52 = .ok (.iastore, 1) := by decide +kernel
theorem dX12_question_53 : decode cX12_question 53 = .ok (.aload_n 0, 1) := by decide +kernel
theorem dX12_question_54 : decode cX12_question 54 = .ok (.getfield 9, 3) := by decide +kernel
theorem dX12_question_57 : decode cX12_question 57 = .ok (.sipush 1648, 3) := by decide +kernel
theorem dX12_question_60 : decode cX12_question 60 = .ok (.iconst 2, 1) := by decide +kernel
theorem dX12_question_61 : decode cX12_question 61 = .ok (.iload_n 3, 1) := by decide +kernel
theorem dX12_question_62 : decode cX12_question 62 = .ok (.imul, 1) := by decide +kernel
theorem dX12_question_63 : decode cX12_question 63 = .ok (.iadd, 1) := by decide +kernel
theorem dX12_question_64 : decode cX12_question 64 = .ok (.iconst 1, 1) := by decide +kernel
theorem dX12_question_65 : decode cX12_question 65 = .ok (.iadd, 1) := by decide +kernel
theorem dX12_question_66 : decode cX12_question 66 = .ok (.iload_n 2, 1) := by decide +kernel
theorem dX12_question_67 : decode cX12_question 67 = .ok (.iastore, 1) := by decide +kernel
theorem dX12_question_68 : decode cX12_question 68 = .ok (.aload_n 0, 1) := by decide +kernel
theorem dX12_question_69 : decode cX12_question 69 = .ok (.getfield 9, 3) := by decide +kernel
theorem dX12_question_72 : decode cX12_question 72 = .ok (.bipush 11, 2) := by decide +kernel
theorem dX12_question_74 : decode cX12_question 74 = .ok (.dup2, 1) := by decide +kernel
theorem dX12_question_75 : decode cX12_question 75 = .ok (.iaload, 1) := by decide +kernel
theorem dX12_question_76 : decode cX12_question 76 = .ok (.iconst 1, 1) := by decide +kernel
theorem dX12_question_77 : decode cX12_question 77 = .ok (.iadd, 1) := by decide +kernel
theorem dX12_question_78 : decode cX12_question 78 = .ok (.iastore, 1) := by decide +kernel
theorem dX12_question_79 : decode cX12_question 79 = .ok (.iload_n 3, 1) := by decide +kernel
theorem dX12_question_80 : decode cX12_question 80 = .ok (.ireturn, 1) := by decide +kernel
theorem dX12_question_37 : decode cX12_question 37 = .ok (.bipush (-2), 2) := by decide +kernel
theorem dX12_question_39 : decode cX12_question 39 = .ok (.ireturn, 1) := by decide +kernel
theorem dX12_question_21 : decode cX12_question 21 = .ok (.iconst (-1), 1) := by decide +kernel
theorem dX12_question_22 : decode cX12_question 22 = .ok (.ireturn, 1) := by decide +kernel
end WR
theorem CSQ.cg {f g fp gp : Nat → Int32} {td vd vl : Int32} {s kp : Nat} (hs : ∀ i, i < 128 → g i = f i) (hp : ∀ i, i < 72 → gp i = fp i) (hx : Hs (f (s * 8 + 2)) kp) (hkp : kp ≤ 12) (h16 : s < 16) : CSQ g gp td vd vl s ↔ CSQ f fp td vd vl s := by
  unfold CSQ
  rw [hs (s * 8 + 7) (by omega), hs (s * 8 + 6) (by omega), hs (s * 8 + 2) (by omega)]
  obtain ⟨j, hj, e⟩ := Hs_nat (by omega) hx
  rw [e, nI_clamp (n := j) (by omega), SEE.cg hp (p := j) (by omega)]
theorem PEF.cg {x1 x2 td vd vl : Int32} {kn kp ks : Nat} {fn gn fp gp fs gs : Nat → Int32} (hn : ∀ i, i < 20 → gn i = fn i) (hp : ∀ i, i < 72 → gp i = fp i) (hs : ∀ i, i < 128 → gs i = fs i) (hkn : kn ≤ 10) (hkp : kp ≤ 12) (hks : ks ≤ 16) (hsp : SPI fs ks kp) : ifc (Hs x1 kn) (ifc (x2 = 0) (fn (x1.toNatClampNeg * 2 + 0)) (ifc (x2 = 1) (fn (x1.toNatClampNeg * 2 + 1)) (ifc (x2 = 2) (CNT (fun p9 => SEE fp td vd vl p9 ∧ HB (fp (p9 * 6 + 1)) x1) kp) (ifc (x2 = 3) (CNT (fun p9 => SEE fp td vd vl p9 ∧ fp (p9 * 6 + 0) = x1) kp) (ifc (x2 = 4) (CNT (fun s9 => fs (s9 * 8 + 0) = x1 ∧ CSQ fs fp td vd vl s9) ks) ((-1))))))) (-1) = ifc (Hs x1 kn) (ifc (x2 = 0) (gn (x1.toNatClampNeg * 2 + 0)) (ifc (x2 = 1) (gn (x1.toNatClampNeg * 2 + 1)) (ifc (x2 = 2) (CNT (fun p9 => SEE gp td vd vl p9 ∧ HB (gp (p9 * 6 + 1)) x1) kp) (ifc (x2 = 3) (CNT (fun p9 => SEE gp td vd vl p9 ∧ gp (p9 * 6 + 0) = x1) kp) (ifc (x2 = 4) (CNT (fun s9 => gs (s9 * 8 + 0) = x1 ∧ CSQ gs gp td vd vl s9) ks) ((-1))))))) (-1) := by
  have e2 : CNT (fun p9 => SEE gp td vd vl p9 ∧ HB (gp (p9 * 6 + 1)) x1) kp = CNT (fun p9 => SEE fp td vd vl p9 ∧ HB (fp (p9 * 6 + 1)) x1) kp := CNT.cg kp (fun k hk => by rw [SEE.cg hp (p := k) (by omega), hp (k * 6 + 1) (by omega)])
  have e3 : CNT (fun p9 => SEE gp td vd vl p9 ∧ gp (p9 * 6 + 0) = x1) kp = CNT (fun p9 => SEE fp td vd vl p9 ∧ fp (p9 * 6 + 0) = x1) kp := CNT.cg kp (fun k hk => by rw [SEE.cg hp (p := k) (by omega), hp (k * 6 + 0) (by omega)])
  have e4 : CNT (fun s9 => gs (s9 * 8 + 0) = x1 ∧ CSQ gs gp td vd vl s9) ks = CNT (fun s9 => fs (s9 * 8 + 0) = x1 ∧ CSQ fs fp td vd vl s9) ks := CNT.cg ks (fun k hk => by rw [hs (k * 8 + 0) (by omega), CSQ.cg hs hp (hsp k hk) hkp (by omega)])
  rw [e2, e3, e4]
  refine ifc_cg (fun h1 => ?_)
  obtain ⟨j, hj, rfl⟩ := Hs_nat (by omega) h1
  rw [nI_clamp (n := j) (by omega), hn (j * 2 + 0) (by omega), hn (j * 2 + 1) (by omega)]
theorem POF.cg {x1 x2 td vd vl : Int32} {kp kst : Nat} {fp gp fst gst : Nat → Int32} (hp : ∀ i, i < 72 → gp i = fp i) (ht : ∀ i, i < 72 → gst i = fst i) (hkp : kp ≤ 12) (hkt : kst ≤ 24) : ifc (Hs x1 kp) (ifc (x2 = 0) (fp (x1.toNatClampNeg * 6 + 0)) (ifc (x2 = 1) (fp (x1.toNatClampNeg * 6 + 1)) (ifc (x2 = 2) (fp (x1.toNatClampNeg * 6 + 2)) (ifc (x2 = 3) (fp (x1.toNatClampNeg * 6 + 3)) (ifc (x2 = 4) (fp (x1.toNatClampNeg * 6 + 4)) (ifc (x2 = 5) (CNT (fun s9 => fst (s9 * 3 + 0) = x1) kst) (ifc (x2 = 6) (ifc (SEE fp td vd vl x1.toNatClampNeg) 1 0) ((-1))))))))) (-1) = ifc (Hs x1 kp) (ifc (x2 = 0) (gp (x1.toNatClampNeg * 6 + 0)) (ifc (x2 = 1) (gp (x1.toNatClampNeg * 6 + 1)) (ifc (x2 = 2) (gp (x1.toNatClampNeg * 6 + 2)) (ifc (x2 = 3) (gp (x1.toNatClampNeg * 6 + 3)) (ifc (x2 = 4) (gp (x1.toNatClampNeg * 6 + 4)) (ifc (x2 = 5) (CNT (fun s9 => gst (s9 * 3 + 0) = x1) kst) (ifc (x2 = 6) (ifc (SEE gp td vd vl x1.toNatClampNeg) 1 0) ((-1))))))))) (-1) := by
  have e5 : CNT (fun s9 => gst (s9 * 3 + 0) = x1) kst = CNT (fun s9 => fst (s9 * 3 + 0) = x1) kst := CNT.cg kst (fun k hk => by rw [ht (k * 3 + 0) (by omega)])
  rw [e5]
  refine ifc_cg (fun h1 => ?_)
  obtain ⟨j, hj, rfl⟩ := Hs_nat (by omega) h1
  rw [nI_clamp (n := j) (by omega), hp (j * 6 + 0) (by omega), hp (j * 6 + 1) (by omega), hp (j * 6 + 2) (by omega), hp (j * 6 + 3) (by omega), hp (j * 6 + 4) (by omega), SEE.cg hp (p := j) (by omega)]
section WR
variable {p : Program} {l : Launch} {e : Env} {R : Room} {s : State} {m : MethodId} {args : Array Value} {below : List Frame} {meth : Method} {c : Code} {H : Heap} {locs : List Loc} {cells slots : Nat} {Q : State → Prop}
variable {pc : Nat} {ls : Array Slot} {rest : List Value} {G : GG} {ws : va_W} {A : Nat → Prop} {y0 : MethodName} {b0 : ByteArray} {mL0 : Nat} {rt0 : Option FieldType} {a : Nat} {H0 : Heap}
theorem dX12_personOf_0 : decode cX12_personOf 0 = .ok (.aload_n 0, 1) := by decide +kernel
theorem dX12_personOf_1 : decode cX12_personOf 1 = .ok (.iload_n 1, 1) := by decide +kernel
theorem dX12_personOf_2 : decode cX12_personOf 2 = .ok (.iconst 4, 1) := by decide +kernel
theorem dX12_personOf_3 : decode cX12_personOf 3 = .ok (.invokevirtual 120, 3) := by decide +kernel
theorem dX12_personOf_6 : decode cX12_personOf 6 = .ok (.ifCond .eq 12, 3) := by decide +kernel
theorem dX12_personOf_9 : decode cX12_personOf 9 = .ok (.iload_n 2, 1) := by decide +kernel
theorem dX12_personOf_10 : decode cX12_personOf 10 = .ok (.iconst 0, 1) := by decide +kernel
theorem dX12_personOf_11 : decode cX12_personOf 11 = .ok (.iconst 4, 1) := by decide +kernel
theorem dX12_personOf_12 : decode cX12_personOf 12 = .ok (.invokestatic 84, 3) := by decide +kernel
theorem dX12_personOf_15 : decode cX12_personOf 15 = .ok (.ifCond .ne 5, 3) := by decide +kernel
theorem dX12_personOf_20 : decode cX12_personOf 20 = .ok (.iload_n 2, 1) := by decide +kernel
theorem dX12_personOf_21 : decode cX12_personOf 21 = .ok (.iconst 2, 1) := by decide +kernel
theorem dX12_personOf_22 : decode cX12_personOf 22 = .ok (.if_icmp .ge 19, 3) := by decide +kernel
theorem dX12_personOf_25 : decode cX12_personOf 25 = .ok (.aload_n 0, 1) := by decide +kernel
theorem dX12_personOf_26 : decode cX12_personOf 26 = .ok (.getfield 9, 3) := by decide +kernel
theorem dX12_personOf_29 : decode cX12_personOf 29 = .ok (.bipush 12, 2) := by decide +kernel
theorem dX12_personOf_31 : decode cX12_personOf 31 = .ok (.iconst 2, 1) := by decide +kernel
theorem dX12_personOf_32 : decode cX12_personOf 32 = .ok (.iload_n 1, 1) := by decide +kernel
theorem dX12_personOf_33 : decode cX12_personOf 33 = .ok (.imul, 1) := by decide +kernel
theorem dX12_personOf_34 : decode cX12_personOf 34 = .ok (.iadd, 1) := by decide +kernel
theorem dX12_personOf_35 : decode cX12_personOf 35 = .ok (.iload_n 2, 1) := by decide +kernel
theorem dX12_personOf_36 : decode cX12_personOf 36 = .ok (.iadd, 1) := by decide +kernel
theorem dX12_personOf_37 : decode cX12_personOf 37 = .ok (.iaload, 1) := by decide +kernel
theorem dX12_personOf_38 : decode cX12_personOf 38 = .ok (.goto 31, 3) := by decide +kernel
theorem dX12_personOf_69 : decode cX12_personOf 69 = .ok (.ireturn, 1) := by decide +kernel
theorem dX12_personOf_41 : decode cX12_personOf 41 = .ok (.iload_n 2, 1) := by decide +kernel
theorem dX12_personOf_42 : decode cX12_personOf 42 = .ok (.iconst 4, 1) := by decide +kernel
theorem dX12_personOf_43 : decode cX12_personOf 43 = .ok (.if_icmp .ge 21, 3) := by decide +kernel
theorem dX12_personOf_46 : decode cX12_personOf 46 = .ok (.aload_n 0, 1) := by decide +kernel
theorem dX12_personOf_47 : decode cX12_personOf 47 = .ok (.iload_n 1, 1) := by decide +kernel
theorem dX12_personOf_48 : decode cX12_personOf 48 = .ok (.iload_n 2, 1) := by decide +kernel
theorem dX12_personOf_49 : decode cX12_personOf 49 = .ok (.iconst 3, 1) := by decide +kernel
theorem dX12_personOf_50 : decode cX12_personOf 50 = .ok (.if_icmp .ne 7, 3) := by decide +kernel
theorem dX12_personOf_57 : decode cX12_personOf 57 = .ok (.iconst 0, 1) := by decide +kernel
theorem dX12_personOf_58 : decode cX12_personOf 58 = .ok (.invokevirtual 123, 3) := by decide +kernel
theorem dX12_personOf_61 : decode cX12_personOf 61 = .ok (.goto 8, 3) := by decide +kernel
theorem dX12_personOf_53 : decode cX12_personOf 53 = .ok (.iconst 1, 1) := by decide +kernel
theorem dX12_personOf_54 : decode cX12_personOf 54 = .ok (.goto 4, 3) := by decide +kernel
theorem dX12_personOf_64 : decode cX12_personOf 64 = .ok (.aload_n 0, 1) := by decide +kernel
theorem dX12_personOf_65 : decode cX12_personOf 65 = .ok (.iload_n 1, 1) := by decide +kernel
theorem dX12_personOf_66 : decode cX12_personOf 66 = .ok (.invokevirtual 127, 3) := by decide +kernel
theorem dX12_personOf_18 : decode cX12_personOf 18 = .ok (.iconst (-1), 1) := by decide +kernel
theorem dX12_personOf_19 : decode cX12_personOf 19 = .ok (.ireturn, 1) := by decide +kernel
theorem dX12_paperOf_0 : decode cX12_paperOf 0 = .ok (.aload_n 0, 1) := by decide +kernel
theorem dX12_paperOf_1 : decode cX12_paperOf 1 = .ok (.iload_n 1, 1) := by decide +kernel
theorem dX12_paperOf_2 : decode cX12_paperOf 2 = .ok (.iconst 5, 1) := by decide +kernel
theorem dX12_paperOf_3 : decode cX12_paperOf 3 = .ok (.invokevirtual 120, 3) := by decide +kernel
theorem dX12_paperOf_6 : decode cX12_paperOf 6 = .ok (.ifCond .eq 13, 3) := by decide +kernel
theorem dX12_paperOf_9 : decode cX12_paperOf 9 = .ok (.iload_n 2, 1) := by decide +kernel
theorem dX12_paperOf_10 : decode cX12_paperOf 10 = .ok (.iconst 0, 1) := by decide +kernel
theorem dX12_paperOf_11 : decode cX12_paperOf 11 = .ok (.bipush 6, 2) := by decide +kernel
theorem dX12_paperOf_13 : decode cX12_paperOf 13 = .ok (.invokestatic 84, 3) := by decide +kernel
theorem dX12_paperOf_16 : decode cX12_paperOf 16 = .ok (.ifCond .ne 5, 3) := by decide +kernel
theorem dX12_paperOf_21 : decode cX12_paperOf 21 = .ok (.iload_n 2, 1) := by decide +kernel
theorem dX12_paperOf_22 : decode cX12_paperOf 22 = .ok (.iconst 5, 1) := by decide +kernel
theorem dX12_paperOf_23 : decode cX12_paperOf 23 = .ok (.if_icmp .ge 12, 3) := by decide +kernel
theorem dX12_paperOf_26 : decode cX12_paperOf 26 = .ok (.aload_n 0, 1) := by decide +kernel
theorem dX12_paperOf_27 : decode cX12_paperOf 27 = .ok (.iload_n 1, 1) := by decide +kernel
theorem dX12_paperOf_28 : decode cX12_paperOf 28 = .ok (.iload_n 2, 1) := by decide +kernel
theorem dX12_paperOf_29 : decode cX12_paperOf 29 = .ok (.invokevirtual 88, 3) := by decide +kernel
theorem dX12_paperOf_32 : decode cX12_paperOf 32 = .ok (.goto 29, 3) := by decide +kernel
theorem dX12_paperOf_61 : decode cX12_paperOf 61 = .ok (.ireturn, 1) := by decide +kernel
theorem dX12_paperOf_35 : decode cX12_paperOf 35 = .ok (.iload_n 2, 1) := by decide +kernel
theorem dX12_paperOf_36 : decode cX12_paperOf 36 = .ok (.iconst 5, 1) := by decide +kernel
theorem dX12_paperOf_37 : decode cX12_paperOf 37 = .ok (.if_icmp .ne 11, 3) := by decide +kernel
theorem dX12_paperOf_40 : decode cX12_paperOf 40 = .ok (.aload_n 0, 1) := by decide +kernel
theorem dX12_paperOf_41 : decode cX12_paperOf 41 = .ok (.iload_n 1, 1) := by decide +kernel
theorem dX12_paperOf_42 : decode cX12_paperOf 42 = .ok (.invokevirtual 130, 3) := by decide +kernel
theorem dX12_paperOf_45 : decode cX12_paperOf 45 = .ok (.goto 16, 3) := by decide +kernel
theorem dX12_paperOf_48 : decode cX12_paperOf 48 = .ok (.aload_n 0, 1) := by decide +kernel
theorem dX12_paperOf_49 : decode cX12_paperOf 49 = .ok (.iload_n 1, 1) := by decide +kernel
theorem dX12_paperOf_50 : decode cX12_paperOf 50 = .ok (.invokevirtual 103, 3) := by decide +kernel
theorem dX12_paperOf_53 : decode cX12_paperOf 53 = .ok (.ifCond .eq 7, 3) := by decide +kernel
theorem dX12_paperOf_56 : decode cX12_paperOf 56 = .ok (.iconst 1, 1) := by decide +kernel
theorem dX12_paperOf_57 : decode cX12_paperOf 57 = .ok (.goto 4, 3) := by decide +kernel
theorem dX12_paperOf_60 : decode cX12_paperOf 60 = .ok (.iconst 0, 1) := by decide +kernel
theorem dX12_paperOf_19 : decode cX12_paperOf 19 = .ok (.iconst (-1), 1) := by decide +kernel
theorem dX12_paperOf_20 : decode cX12_paperOf 20 = .ok (.ireturn, 1) := by decide +kernel
theorem dX12_line_0 : decode cX12_line 0 = .ok (.aload_n 0, 1) := by decide +kernel
theorem dX12_line_1 : decode cX12_line 1 = .ok (.iload_n 1, 1) := by decide +kernel
theorem dX12_line_2 : decode cX12_line 2 = .ok (.bipush 7, 2) := by decide +kernel
theorem dX12_line_4 : decode cX12_line 4 = .ok (.invokevirtual 120, 3) := by decide +kernel
theorem dX12_line_7 : decode cX12_line 7 = .ok (.ifCond .eq 27, 3) := by decide +kernel
theorem dX12_line_10 : decode cX12_line 10 = .ok (.iload_n 2, 1) := by decide +kernel
theorem dX12_line_11 : decode cX12_line 11 = .ok (.iconst 0, 1) := by decide +kernel
theorem dX12_line_12 : decode cX12_line 12 = .ok (.aload_n 0, 1) := by decide +kernel
theorem dX12_line_13 : decode cX12_line 13 = .ok (.iload_n 1, 1) := by decide +kernel
theorem dX12_line_14 : decode cX12_line 14 = .ok (.invokevirtual 183, 3) := by decide +kernel
theorem dX12_line_17 : decode cX12_line 17 = .ok (.iconst 1, 1) := by decide +kernel
theorem dX12_line_18 : decode cX12_line 18 = .ok (.isub, 1) := by decide +kernel
theorem dX12_line_19 : decode cX12_line 19 = .ok (.invokestatic 84, 3) := by decide +kernel
theorem dX12_line_22 : decode cX12_line 22 = .ok (.ifCond .eq 12, 3) := by decide +kernel
theorem dX12_line_25 : decode cX12_line 25 = .ok (.iload_n 3, 1) := by decide +kernel
theorem dX12_line_26 : decode cX12_line 26 = .ok (.iconst 0, 1) := by decide +kernel
theorem dX12_line_27 : decode cX12_line 27 = .ok (.iconst 4, 1) := by decide +kernel
theorem dX12_line_28 : decode cX12_line 28 = .ok (.invokestatic 84, 3) := by decide +kernel
theorem dX12_line_31 : decode cX12_line 31 = .ok (.ifCond .ne 6, 3) := by decide +kernel
theorem dX12_line_37 : decode cX12_line 37 = .ok (.iload_n 3, 1) := by decide +kernel
theorem dX12_line_38 : decode cX12_line 38 = .ok (.iconst 4, 1) := by decide +kernel
theorem dX12_line_39 : decode cX12_line 39 = .ok (.if_icmp .ge 13, 3) := by decide +kernel
theorem dX12_line_52 : decode cX12_line 52 = .ok (.aload_n 0, 1) := by decide +kernel
theorem dX12_line_53 : decode cX12_line 53 = .ok (.iload_n 1, 1) := by decide +kernel
theorem dX12_line_54 : decode cX12_line 54 = .ok (.iload_n 2, 1) := by decide +kernel
theorem dX12_line_55 : decode cX12_line 55 = .ok (.iconst 5, 1) := by decide +kernel
theorem dX12_line_56 : decode cX12_line 56 = .ok (.invokevirtual 193, 3) := by decide +kernel
theorem dX12_line_59 : decode cX12_line 59 = .ok (.aload_n 0, 1) := by decide +kernel
theorem dX12_line_60 : decode cX12_line 60 = .ok (.iload_n 1, 1) := by decide +kernel
theorem dX12_line_61 : decode cX12_line 61 = .ok (.iload_n 2, 1) := by decide +kernel
theorem dX12_line_62 : decode cX12_line 62 = .ok (.iconst 4, 1) := by decide +kernel
theorem dX12_line_63 : decode cX12_line 63 = .ok (.invokevirtual 193, 3) := by decide +kernel
theorem dX12_line_66 : decode cX12_line 66 = .ok (.if_icmp .le 7, 3) := by decide +kernel
theorem dX12_line_73 : decode cX12_line 73 = .ok (.iconst 0, 1) := by decide +kernel
theorem dX12_line_74 : decode cX12_line 74 = .ok (.ireturn, 1) := by decide +kernel
theorem dX12_line_69 : decode cX12_line 69 = .ok (.iconst 1, 1) := by decide +kernel
theorem dX12_line_70 : decode cX12_line 70 = .ok (.goto 4, 3) := by decide +kernel
theorem dX12_line_42 : decode cX12_line 42 = .ok (.aload_n 0, 1) := by decide +kernel
theorem dX12_line_43 : decode cX12_line 43 = .ok (.iload_n 1, 1) := by decide +kernel
theorem dX12_line_44 : decode cX12_line 44 = .ok (.iload_n 2, 1) := by decide +kernel
theorem dX12_line_45 : decode cX12_line 45 = .ok (.iload_n 3, 1) := by decide +kernel
theorem dX12_line_46 : decode cX12_line 46 = .ok (.invokevirtual 193, 3) := by decide +kernel
theorem dX12_line_49 : decode cX12_line 49 = .ok (.goto 25, 3) := by decide +kernel
theorem dX12_line_34 : decode cX12_line 34 = .ok (.bipush (-9), 2) := by decide +kernel
theorem dX12_line_36 : decode cX12_line 36 = .ok (.ireturn, 1) := by decide +kernel
theorem dX12_isAgainst_0 : decode cX12_isAgainst 0 = .ok (.aload_n 0, 1) := by decide +kernel
theorem dX12_isAgainst_1 : decode cX12_isAgainst 1 = .ok (.iload_n 2, 1) := by decide +kernel
theorem dX12_isAgainst_2 : decode cX12_isAgainst 2 = .ok (.iconst 5, 1) := by decide +kernel
theorem dX12_isAgainst_3 : decode cX12_isAgainst 3 = .ok (.invokevirtual 114, 3) := by decide +kernel
theorem dX12_isAgainst_6 : decode cX12_isAgainst 6 = .ok (.iconst 1, 1) := by decide +kernel
theorem dX12_isAgainst_7 : decode cX12_isAgainst 7 = .ok (.if_icmp .ne 21, 3) := by decide +kernel
theorem dX12_isAgainst_28 : decode cX12_isAgainst 28 = .ok (.aload_n 0, 1) := by decide +kernel
theorem dX12_isAgainst_29 : decode cX12_isAgainst 29 = .ok (.iload_n 2, 1) := by decide +kernel
theorem dX12_isAgainst_30 : decode cX12_isAgainst 30 = .ok (.iconst 3, 1) := by decide +kernel
theorem dX12_isAgainst_31 : decode cX12_isAgainst 31 = .ok (.invokevirtual 114, 3) := by decide +kernel
theorem dX12_isAgainst_34 : decode cX12_isAgainst 34 = .ok (.iload_n 1, 1) := by decide +kernel
theorem dX12_isAgainst_35 : decode cX12_isAgainst 35 = .ok (.if_icmp .lt 7, 3) := by decide +kernel
theorem dX12_isAgainst_42 : decode cX12_isAgainst 42 = .ok (.iconst 0, 1) := by decide +kernel
theorem dX12_isAgainst_43 : decode cX12_isAgainst 43 = .ok (.ireturn, 1) := by decide +kernel
theorem dX12_isAgainst_38 : decode cX12_isAgainst 38 = .ok (.iconst 1, 1) := by decide +kernel
theorem dX12_isAgainst_39 : decode cX12_isAgainst 39 = .ok (.goto 4, 3) := by decide +kernel
theorem dX12_isAgainst_10 : decode cX12_isAgainst 10 = .ok (.aload_n 0, 1) := by decide +kernel
theorem dX12_isAgainst_11 : decode cX12_isAgainst 11 = .ok (.iload_n 2, 1) := by decide +kernel
theorem dX12_isAgainst_12 : decode cX12_isAgainst 12 = .ok (.iconst 3, 1) := by decide +kernel
theorem dX12_isAgainst_13 : decode cX12_isAgainst 13 = .ok (.invokevirtual 114, 3) := by decide +kernel
theorem dX12_isAgainst_16 : decode cX12_isAgainst 16 = .ok (.iload_n 1, 1) := by decide +kernel
theorem dX12_isAgainst_17 : decode cX12_isAgainst 17 = .ok (.if_icmp .ge 7, 3) := by decide +kernel
theorem dX12_isAgainst_24 : decode cX12_isAgainst 24 = .ok (.iconst 0, 1) := by decide +kernel
theorem dX12_isAgainst_25 : decode cX12_isAgainst 25 = .ok (.goto 18, 3) := by decide +kernel
theorem dX12_isAgainst_20 : decode cX12_isAgainst 20 = .ok (.iconst 1, 1) := by decide +kernel
theorem dX12_isAgainst_21 : decode cX12_isAgainst 21 = .ok (.goto 22, 3) := by decide +kernel
theorem dX12_findHours_0 : decode cX12_findHours 0 = .ok (.aload_n 0, 1) := by decide +kernel
theorem dX12_findHours_1 : decode cX12_findHours 1 = .ok (.iload_n 1, 1) := by decide +kernel
theorem dX12_findHours_2 : decode cX12_findHours 2 = .ok (.iload_n 2, 1) := by decide +kernel
theorem dX12_findHours_3 : decode cX12_findHours 3 = .ok (.iload_n 3, 1) := by decide +kernel
theorem dX12_findHours_4 : decode cX12_findHours 4 = .ok (.invokevirtual 171, 3) := by decide +kernel
theorem dX12_findHours_7 : decode cX12_findHours 7 = .ok (.ifCond .ne 15, 3) := by decide +kernel
theorem dX12_findHours_22 : decode cX12_findHours 22 = .ok (.return_, 1) := by decide +kernel
theorem dX12_findHours_10 : decode cX12_findHours 10 = .ok (.aload_n 0, 1) := by decide +kernel
theorem dX12_findHours_11 : decode cX12_findHours 11 = .ok (.iconst 0, 1) := by decide +kernel
theorem dX12_findHours_12 : decode cX12_findHours 12 = .ok (.putfield 161, 3) := by decide +kernel
theorem dX12_findHours_15 : decode cX12_findHours 15 = .ok (.aload_n 0, 1) := by decide +kernel
theorem dX12_findHours_16 : decode cX12_findHours 16 = .ok (.sipush 1000, 3) := by decide +kernel
theorem dX12_findHours_19 : decode cX12_findHours 19 = .ok (.putfield 164, 3) := by decide +kernel
theorem dX12_quarrel_0 : decode cX12_quarrel 0 = .ok (.aload_n 0, 1) := by decide +kernel
theorem dX12_quarrel_1 : decode cX12_quarrel 1 = .ok (.iload_n 1, 1) := by decide +kernel
theorem dX12_quarrel_2 : decode cX12_quarrel 2 = .ok (.iconst 4, 1) := by decide +kernel
theorem dX12_quarrel_3 : decode cX12_quarrel 3 = .ok (.invokevirtual 120, 3) := by decide +kernel
theorem dX12_quarrel_6 : decode cX12_quarrel 6 = .ok (.ifCond .eq 21, 3) := by decide +kernel
theorem dX12_quarrel_9 : decode cX12_quarrel 9 = .ok (.aload_n 0, 1) := by decide +kernel
theorem dX12_quarrel_10 : decode cX12_quarrel 10 = .ok (.iload_n 2, 1) := by decide +kernel
theorem dX12_quarrel_11 : decode cX12_quarrel 11 = .ok (.iconst 5, 1) := by decide +kernel
theorem dX12_quarrel_12 : decode cX12_quarrel 12 = .ok (.invokevirtual 120, 3) := by decide +kernel
theorem dX12_quarrel_15 : decode cX12_quarrel 15 = .ok (.ifCond .eq 12, 3) := by decide +kernel
theorem dX12_quarrel_18 : decode cX12_quarrel 18 = .ok (.iload_n 3, 1) := by decide +kernel
theorem dX12_quarrel_19 : decode cX12_quarrel 19 = .ok (.iconst 0, 1) := by decide +kernel
theorem dX12_quarrel_20 : decode cX12_quarrel 20 = .ok (.iconst 1, 1) := by decide +kernel
theorem dX12_quarrel_21 : decode cX12_quarrel 21 = .ok (.invokestatic 84, 3) := by decide +kernel
theorem dX12_quarrel_24 : decode cX12_quarrel 24 = .ok (.ifCond .ne 5, 3) := by decide +kernel
theorem dX12_quarrel_29 : decode cX12_quarrel 29 = .ok (.aload_n 0, 1) := by decide +kernel
theorem dX12_quarrel_30 : decode cX12_quarrel 30 = .ok (.iload_n 2, 1) := by decide +kernel
theorem dX12_quarrel_31 : decode cX12_quarrel 31 = .ok (.invokevirtual 103, 3) := by decide +kernel
theorem dX12_quarrel_34 : decode cX12_quarrel 34 = .ok (.ifCond .ne 6, 3) := by decide +kernel
theorem dX12_quarrel_40 : decode cX12_quarrel 40 = .ok (.aload_n 0, 1) := by decide +kernel
theorem dX12_quarrel_41 : decode cX12_quarrel 41 = .ok (.iload_n 2, 1) := by decide +kernel
theorem dX12_quarrel_42 : decode cX12_quarrel 42 = .ok (.iload_n 1, 1) := by decide +kernel
theorem dX12_quarrel_43 : decode cX12_quarrel 43 = .ok (.aload_n 0, 1) := by decide +kernel
theorem dX12_quarrel_44 : decode cX12_quarrel 44 = .ok (.invokevirtual 148, 3) := by decide +kernel
theorem dX12_quarrel_47 : decode cX12_quarrel 47 = .ok (.invokevirtual 298, 3) := by decide +kernel
theorem m_1291 : Cond.code yX12_findHours cX12_findHours 4 none ∈ BW := iB_BW68 _ (List.mem_of_getElem? (i := 19) rfl)
theorem pd_31 : (parseMethodDescriptor "(IIZ)V").map (fun d => d.parameters.length) = some 3 := by decide +kernel
theorem m_1289 : Cond.methodLink RX12 298 yX12_findHours ∈ BW := iB_BW68 _ (List.mem_of_getElem? (i := 17) rfl)
theorem m_1290 : Cond.instanceMethod yX12_findHours ∈ BW := iB_BW68 _ (List.mem_of_getElem? (i := 18) rfl)
theorem m_88 : Cond.selects RX12 yX12_findHours yX12_findHours ∈ BW := iB_BW4 _ (List.mem_of_getElem? (i := 8) rfl)
theorem si_X12_298 : SV RX12 RX12 298 yX12_findHours cX12_findHours 4 none 3 := ⟨⟨m_1289, m_1290, m_88, m_115, m_1291⟩, rfl, nK_RX12.1, nK_RX12.2, pd_31⟩
theorem dX12_quarrel_50 : decode cX12_quarrel 50 = .ok (.aload_n 0, 1) := by decide +kernel
theorem dX12_quarrel_51 : decode cX12_quarrel 51 = .ok (.getfield 161, 3) := by decide +kernel
theorem dX12_quarrel_54 : decode cX12_quarrel 54 = .ok (.istore 4, 2) := by decide +kernel
theorem dX12_quarrel_56 : decode cX12_quarrel 56 = .ok (.iconst (-1), 1) := by decide +kernel
theorem dX12_quarrel_57 : decode cX12_quarrel 57 = .ok (.istore 5, 2) := by decide +kernel
theorem dX12_quarrel_59 : decode cX12_quarrel 59 = .ok (.aload_n 0, 1) := by decide +kernel
theorem dX12_quarrel_60 : decode cX12_quarrel 60 = .ok (.getfield 161, 3) := by decide +kernel
theorem dX12_quarrel_63 : decode cX12_quarrel 63 = .ok (.istore 6, 2) := by decide +kernel
theorem dX12_quarrel_65 : decode cX12_quarrel 65 = .ok (.iload 6, 2) := by decide +kernel
theorem dX12_quarrel_67 : decode cX12_quarrel 67 = .ok (.aload_n 0, 1) := by decide +kernel
theorem dX12_quarrel_68 : decode cX12_quarrel 68 = .ok (.getfield 164, 3) := by decide +kernel
theorem dX12_quarrel_71 : decode cX12_quarrel 71 = .ok (.if_icmp .gt 123, 3) := by decide +kernel
theorem dX12_quarrel_194 : decode cX12_quarrel 194 = .ok (.iload_n 3, 1) := by decide +kernel
theorem dX12_quarrel_195 : decode cX12_quarrel 195 = .ok (.ifCond .ne 8, 3) := by decide +kernel
theorem dX12_quarrel_203 : decode cX12_quarrel 203 = .ok (.sipush 1000, 3) := by decide +kernel
theorem dX12_quarrel_206 : decode cX12_quarrel 206 = .ok (.iload 4, 2) := by decide +kernel
theorem dX12_quarrel_208 : decode cX12_quarrel 208 = .ok (.iadd, 1) := by decide +kernel
theorem dX12_quarrel_209 : decode cX12_quarrel 209 = .ok (.ireturn, 1) := by decide +kernel
theorem dX12_quarrel_198 : decode cX12_quarrel 198 = .ok (.iload 5, 2) := by decide +kernel
theorem dX12_quarrel_200 : decode cX12_quarrel 200 = .ok (.goto 9, 3) := by decide +kernel
theorem dX12_quarrel_74 : decode cX12_quarrel 74 = .ok (.iconst 0, 1) := by decide +kernel
theorem dX12_quarrel_75 : decode cX12_quarrel 75 = .ok (.istore 7, 2) := by decide +kernel
theorem dX12_quarrel_77 : decode cX12_quarrel 77 = .ok (.iconst 0, 1) := by decide +kernel
theorem dX12_quarrel_78 : decode cX12_quarrel 78 = .ok (.istore 8, 2) := by decide +kernel
theorem dX12_quarrel_80 : decode cX12_quarrel 80 = .ok (.iload 8, 2) := by decide +kernel
theorem dX12_quarrel_82 : decode cX12_quarrel 82 = .ok (.aload_n 0, 1) := by decide +kernel
theorem dX12_quarrel_83 : decode cX12_quarrel 83 = .ok (.getfield 9, 3) := by decide +kernel
theorem dX12_quarrel_86 : decode cX12_quarrel 86 = .ok (.bipush 8, 2) := by decide +kernel
theorem dX12_quarrel_88 : decode cX12_quarrel 88 = .ok (.iaload, 1) := by decide +kernel
theorem dX12_quarrel_89 : decode cX12_quarrel 89 = .ok (.if_icmp .ge 79, 3) := by decide +kernel
theorem dX12_quarrel_168 : decode cX12_quarrel 168 = .ok (.iload 5, 2) := by decide +kernel
theorem dX12_quarrel_170 : decode cX12_quarrel 170 = .ok (.ifCond .lt 10, 3) := by decide +kernel
theorem dX12_quarrel_180 : decode cX12_quarrel 180 = .ok (.iload 7, 2) := by decide +kernel
theorem dX12_quarrel_182 : decode cX12_quarrel 182 = .ok (.istore 5, 2) := by decide +kernel
theorem dX12_quarrel_184 : decode cX12_quarrel 184 = .ok (.iload 6, 2) := by decide +kernel
theorem dX12_quarrel_186 : decode cX12_quarrel 186 = .ok (.istore 4, 2) := by decide +kernel
theorem dX12_quarrel_188 : decode cX12_quarrel 188 = .ok (.iinc 6 1, 3) := by decide +kernel
theorem dX12_quarrel_191 : decode cX12_quarrel 191 = .ok (.goto (-126), 3) := by decide +kernel
theorem dX12_quarrel_173 : decode cX12_quarrel 173 = .ok (.iload 7, 2) := by decide +kernel
theorem dX12_quarrel_175 : decode cX12_quarrel 175 = .ok (.iload 5, 2) := by decide +kernel
theorem dX12_quarrel_177 : decode cX12_quarrel 177 = .ok (.if_icmp .ge 11, 3) := by decide +kernel
theorem dX12_quarrel_92 : decode cX12_quarrel 92 = .ok (.aload_n 0, 1) := by decide +kernel
theorem dX12_quarrel_93 : decode cX12_quarrel 93 = .ok (.iload 8, 2) := by decide +kernel
theorem dX12_quarrel_95 : decode cX12_quarrel 95 = .ok (.invokevirtual 117, 3) := by decide +kernel
theorem dX12_quarrel_98 : decode cX12_quarrel 98 = .ok (.ifCond .eq 29, 3) := by decide +kernel
theorem dX12_quarrel_101 : decode cX12_quarrel 101 = .ok (.aload_n 0, 1) := by decide +kernel
theorem dX12_quarrel_102 : decode cX12_quarrel 102 = .ok (.iload 8, 2) := by decide +kernel
theorem dX12_quarrel_104 : decode cX12_quarrel 104 = .ok (.iconst 1, 1) := by decide +kernel
theorem dX12_quarrel_105 : decode cX12_quarrel 105 = .ok (.invokevirtual 114, 3) := by decide +kernel
theorem dX12_quarrel_108 : decode cX12_quarrel 108 = .ok (.iload_n 1, 1) := by decide +kernel
theorem dX12_quarrel_109 : decode cX12_quarrel 109 = .ok (.if_icmp .ne 18, 3) := by decide +kernel
theorem dX12_quarrel_127 : decode cX12_quarrel 127 = .ok (.iconst 0, 1) := by decide +kernel
theorem dX12_quarrel_128 : decode cX12_quarrel 128 = .ok (.istore 9, 2) := by decide +kernel
theorem dX12_quarrel_130 : decode cX12_quarrel 130 = .ok (.iload 7, 2) := by decide +kernel
theorem dX12_quarrel_132 : decode cX12_quarrel 132 = .ok (.iload 9, 2) := by decide +kernel
theorem dX12_quarrel_134 : decode cX12_quarrel 134 = .ok (.ifCond .eq 24, 3) := by decide +kernel
theorem dX12_quarrel_158 : decode cX12_quarrel 158 = .ok (.iconst 0, 1) := by decide +kernel
theorem dX12_quarrel_159 : decode cX12_quarrel 159 = .ok (.iadd, 1) := by decide +kernel
theorem dX12_quarrel_160 : decode cX12_quarrel 160 = .ok (.istore 7, 2) := by decide +kernel
theorem dX12_quarrel_162 : decode cX12_quarrel 162 = .ok (.iinc 8 1, 3) := by decide +kernel
theorem dX12_quarrel_165 : decode cX12_quarrel 165 = .ok (.goto (-85), 3) := by decide +kernel
theorem dX12_quarrel_112 : decode cX12_quarrel 112 = .ok (.aload_n 0, 1) := by decide +kernel
theorem dX12_quarrel_113 : decode cX12_quarrel 113 = .ok (.iload 8, 2) := by decide +kernel
theorem dX12_quarrel_115 : decode cX12_quarrel 115 = .ok (.iconst 2, 1) := by decide +kernel
theorem dX12_quarrel_116 : decode cX12_quarrel 116 = .ok (.invokevirtual 114, 3) := by decide +kernel
theorem dX12_quarrel_119 : decode cX12_quarrel 119 = .ok (.iload_n 2, 1) := by decide +kernel
theorem dX12_quarrel_120 : decode cX12_quarrel 120 = .ok (.if_icmp .ne 7, 3) := by decide +kernel
theorem dX12_quarrel_123 : decode cX12_quarrel 123 = .ok (.iconst 1, 1) := by decide +kernel
theorem dX12_quarrel_124 : decode cX12_quarrel 124 = .ok (.goto 4, 3) := by decide +kernel
theorem dX12_quarrel_137 : decode cX12_quarrel 137 = .ok (.aload_n 0, 1) := by decide +kernel
theorem dX12_quarrel_138 : decode cX12_quarrel 138 = .ok (.iload 6, 2) := by decide +kernel
theorem dX12_quarrel_140 : decode cX12_quarrel 140 = .ok (.iload 8, 2) := by decide +kernel
theorem dX12_quarrel_142 : decode cX12_quarrel 142 = .ok (.invokevirtual 302, 3) := by decide +kernel
theorem m_1294 : Cond.code yX12_isAgainst cX12_isAgainst 3 (some .boolean) ∈ BW := iB_BW69 _ (List.mem_of_getElem? (i := 2) rfl)
theorem m_1292 : Cond.methodLink RX12 302 yX12_isAgainst ∈ BW := iB_BW69 _ (List.mem_of_getElem? (i := 0) rfl)
theorem m_1293 : Cond.instanceMethod yX12_isAgainst ∈ BW := iB_BW69 _ (List.mem_of_getElem? (i := 1) rfl)
theorem m_89 : Cond.selects RX12 yX12_isAgainst yX12_isAgainst ∈ BW := iB_BW4 _ (List.mem_of_getElem? (i := 9) rfl)
theorem si_X12_302 : SV RX12 RX12 302 yX12_isAgainst cX12_isAgainst 3 (some .boolean) 2 := ⟨⟨m_1292, m_1293, m_89, m_115, m_1294⟩, rfl, nK_RX12.1, nK_RX12.2, pd_3⟩
theorem dX12_quarrel_145 : decode cX12_quarrel 145 = .ok (.ifCond .eq 13, 3) := by decide +kernel
theorem dX12_quarrel_148 : decode cX12_quarrel 148 = .ok (.aload_n 0, 1) := by decide +kernel
theorem dX12_quarrel_149 : decode cX12_quarrel 149 = .ok (.iload 8, 2) := by decide +kernel
theorem dX12_quarrel_151 : decode cX12_quarrel 151 = .ok (.iconst 4, 1) := by decide +kernel
theorem dX12_quarrel_152 : decode cX12_quarrel 152 = .ok (.invokevirtual 114, 3) := by decide +kernel
theorem dX12_quarrel_155 : decode cX12_quarrel 155 = .ok (.goto 4, 3) := by decide +kernel
theorem dX12_quarrel_37 : decode cX12_quarrel 37 = .ok (.bipush (-3), 2) := by decide +kernel
theorem dX12_quarrel_39 : decode cX12_quarrel 39 = .ok (.ireturn, 1) := by decide +kernel
theorem dX12_quarrel_27 : decode cX12_quarrel 27 = .ok (.iconst (-1), 1) := by decide +kernel
theorem dX12_quarrel_28 : decode cX12_quarrel 28 = .ok (.ireturn, 1) := by decide +kernel
theorem dX12_impossible_0 : decode cX12_impossible 0 = .ok (.aload_n 0, 1) := by decide +kernel
theorem dX12_impossible_1 : decode cX12_impossible 1 = .ok (.invokevirtual 148, 3) := by decide +kernel
theorem dX12_impossible_4 : decode cX12_impossible 4 = .ok (.istore_n 1, 1) := by decide +kernel
theorem dX12_impossible_5 : decode cX12_impossible 5 = .ok (.iconst 0, 1) := by decide +kernel
theorem dX12_impossible_6 : decode cX12_impossible 6 = .ok (.istore_n 2, 1) := by decide +kernel
theorem dX12_impossible_7 : decode cX12_impossible 7 = .ok (.iconst 0, 1) := by decide +kernel
theorem dX12_impossible_8 : decode cX12_impossible 8 = .ok (.istore_n 3, 1) := by decide +kernel
theorem dX12_impossible_9 : decode cX12_impossible 9 = .ok (.iload_n 3, 1) := by decide +kernel
theorem dX12_impossible_10 : decode cX12_impossible 10 = .ok (.aload_n 0, 1) := by decide +kernel
theorem dX12_impossible_11 : decode cX12_impossible 11 = .ok (.getfield 9, 3) := by decide +kernel
theorem dX12_impossible_14 : decode cX12_impossible 14 = .ok (.bipush 8, 2) := by decide +kernel
theorem dX12_impossible_16 : decode cX12_impossible 16 = .ok (.iaload, 1) := by decide +kernel
theorem dX12_impossible_17 : decode cX12_impossible 17 = .ok (.if_icmp .ge 87, 3) := by decide +kernel
theorem dX12_impossible_104 : decode cX12_impossible 104 = .ok (.iload_n 2, 1) := by decide +kernel
theorem dX12_impossible_105 : decode cX12_impossible 105 = .ok (.ireturn, 1) := by decide +kernel
theorem dX12_impossible_20 : decode cX12_impossible 20 = .ok (.aload_n 0, 1) := by decide +kernel
theorem dX12_impossible_21 : decode cX12_impossible 21 = .ok (.iload_n 3, 1) := by decide +kernel
theorem dX12_impossible_22 : decode cX12_impossible 22 = .ok (.invokevirtual 117, 3) := by decide +kernel
theorem dX12_impossible_25 : decode cX12_impossible 25 = .ok (.ifCond .eq 73, 3) := by decide +kernel
theorem dX12_impossible_28 : decode cX12_impossible 28 = .ok (.aload_n 0, 1) := by decide +kernel
theorem dX12_impossible_29 : decode cX12_impossible 29 = .ok (.aload_n 0, 1) := by decide +kernel
theorem dX12_impossible_30 : decode cX12_impossible 30 = .ok (.iload_n 3, 1) := by decide +kernel
theorem dX12_impossible_31 : decode cX12_impossible 31 = .ok (.iconst 2, 1) := by decide +kernel
theorem dX12_impossible_32 : decode cX12_impossible 32 = .ok (.invokevirtual 114, 3) := by decide +kernel
theorem dX12_impossible_35 : decode cX12_impossible 35 = .ok (.aload_n 0, 1) := by decide +kernel
theorem dX12_impossible_36 : decode cX12_impossible 36 = .ok (.iload_n 3, 1) := by decide +kernel
theorem dX12_impossible_37 : decode cX12_impossible 37 = .ok (.iconst 1, 1) := by decide +kernel
theorem dX12_impossible_38 : decode cX12_impossible 38 = .ok (.invokevirtual 114, 3) := by decide +kernel
theorem dX12_impossible_41 : decode cX12_impossible 41 = .ok (.iload_n 1, 1) := by decide +kernel
theorem dX12_impossible_42 : decode cX12_impossible 42 = .ok (.invokevirtual 298, 3) := by decide +kernel
theorem dX12_impossible_45 : decode cX12_impossible 45 = .ok (.iconst 1, 1) := by decide +kernel
theorem dX12_impossible_46 : decode cX12_impossible 46 = .ok (.istore 4, 2) := by decide +kernel
theorem dX12_impossible_48 : decode cX12_impossible 48 = .ok (.aload_n 0, 1) := by decide +kernel
theorem dX12_impossible_49 : decode cX12_impossible 49 = .ok (.getfield 161, 3) := by decide +kernel
theorem dX12_impossible_52 : decode cX12_impossible 52 = .ok (.istore 5, 2) := by decide +kernel
theorem dX12_impossible_54 : decode cX12_impossible 54 = .ok (.iload 5, 2) := by decide +kernel
theorem dX12_impossible_56 : decode cX12_impossible 56 = .ok (.aload_n 0, 1) := by decide +kernel
theorem dX12_impossible_57 : decode cX12_impossible 57 = .ok (.getfield 164, 3) := by decide +kernel
theorem dX12_impossible_60 : decode cX12_impossible 60 = .ok (.if_icmp .gt 23, 3) := by decide +kernel
theorem dX12_impossible_83 : decode cX12_impossible 83 = .ok (.iload_n 2, 1) := by decide +kernel
theorem dX12_impossible_84 : decode cX12_impossible 84 = .ok (.iload 4, 2) := by decide +kernel
theorem dX12_impossible_86 : decode cX12_impossible 86 = .ok (.ifCond .eq 9, 3) := by decide +kernel
theorem dX12_impossible_95 : decode cX12_impossible 95 = .ok (.iconst 0, 1) := by decide +kernel
theorem dX12_impossible_96 : decode cX12_impossible 96 = .ok (.ior, 1) := by decide +kernel
theorem dX12_impossible_97 : decode cX12_impossible 97 = .ok (.istore_n 2, 1) := by decide +kernel
theorem dX12_impossible_98 : decode cX12_impossible 98 = .ok (.iinc 3 1, 3) := by decide +kernel
theorem dX12_impossible_101 : decode cX12_impossible 101 = .ok (.goto (-92), 3) := by decide +kernel
theorem dX12_impossible_89 : decode cX12_impossible 89 = .ok (.iconst 1, 1) := by decide +kernel
theorem dX12_impossible_90 : decode cX12_impossible 90 = .ok (.iload_n 3, 1) := by decide +kernel
theorem dX12_impossible_91 : decode cX12_impossible 91 = .ok (.ishl, 1) := by decide +kernel
theorem dX12_impossible_92 : decode cX12_impossible 92 = .ok (.goto 4, 3) := by decide +kernel
theorem dX12_impossible_63 : decode cX12_impossible 63 = .ok (.iload 4, 2) := by decide +kernel
theorem dX12_impossible_65 : decode cX12_impossible 65 = .ok (.ifCond .eq 18, 3) := by decide +kernel
theorem dX12_impossible_68 : decode cX12_impossible 68 = .ok (.aload_n 0, 1) := by decide +kernel
theorem dX12_impossible_69 : decode cX12_impossible 69 = .ok (.iload 5, 2) := by decide +kernel
theorem dX12_impossible_71 : decode cX12_impossible 71 = .ok (.iload_n 3, 1) := by decide +kernel
theorem dX12_impossible_72 : decode cX12_impossible 72 = .ok (.invokevirtual 302, 3) := by decide +kernel
theorem dX12_impossible_75 : decode cX12_impossible 75 = .ok (.istore 4, 2) := by decide +kernel
theorem dX12_impossible_77 : decode cX12_impossible 77 = .ok (.iinc 5 1, 3) := by decide +kernel
theorem dX12_impossible_80 : decode cX12_impossible 80 = .ok (.goto (-26), 3) := by decide +kernel
end WR
theorem rm_4_1_5 {mc ms : Nat} : 1 + 1 ≤ (RM 4 mc ms).frames ∧ 8 + (5 + 11) + 40 * 1 ≤ (RM 4 mc ms).locals := ⟨by show 1 + 1 ≤ 4; decide, by show 8 + (5 + 11) + 40 * 1 ≤ 40 * 4; decide⟩
def K_w_days (l : Launch) (G : GG) (h0 : Nat) (x1 : Int32) (nw : Nat) (nk : Nat) (mhasKept : Int32) (nt : Nat) (mtaped : Int32) (nr : Nat) (mrowMany : Int32) (mroundOf : Int32) (mroundFrom : Int32) (mouts : Int32) (nm : Nat) (mfromHour : Int32) (mtoHour : Int32) (ns : Nat) (mfrom : Int32) (mto : Int32) (msort : Int32) (misFault : Int32) (mdeep : Int32) (mcoded : Int32) (mlines : Int32) (nl : Nat) (nc : Nat) (nF : Nat) (np : Nat) (ntr : Nat) (nb : Nat) (mbestCost : Int32) (nso : Nat) (nsi : Nat) (nit : Nat) (nsh : Nat) (nsf : Nat) (nss : Nat) (nrc : Nat) (mtraced : Int32) (mdealer : Int32) (mnumber : Int32) (mwhose : Int32) (msize : Int32) (misParted : Int32) (fnw : Nat → Int32) : Prop := MI l G yX12_days cX12_days 2 (some .int) 2 0 0 [.ref h0, .int x1] [(h0, oX12 nw nk mhasKept nt mtaped nr mrowMany mroundOf mroundFrom mouts nm mfromHour mtoHour ns mfrom mto msort misFault mdeep mcoded mlines nl nc nF np ntr nb mbestCost nso nsi nit nsh nsf nss nrc mtraced mdealer mnumber mwhose msize misParted), (nw, iA G 1662 fnw)] (fun (r : Int32) (u : (Nat → Int32)) => (r = ifc (Wi x1 1 99) (ifc (fnw 0 + x1 ≤ 499) (fnw 0 + x1) (-4)) (-1)) ∧ (NI u ∧ VI u ∧ u 0 = ifc (Wi x1 1 99) (ifc (fnw 0 + x1 ≤ 499) (fnw 0 + x1) (fnw 0)) (fnw 0) ∧ u 1 = fnw 1 ∧ u 2 = fnw 2 ∧ u 3 = fnw 3 ∧ u 4 = fnw 4 ∧ u 5 = fnw 5 ∧ u 6 = fnw 6 ∧ u 8 = fnw 8 ∧ u 9 = fnw 9 ∧ u 10 = fnw 10 ∧ u 11 = fnw 11 ∧ FRO u fnw 0 0)) (fun u : (Nat → Int32) => [(h0, oX12 nw nk mhasKept nt mtaped nr mrowMany mroundOf mroundFrom mouts nm mfromHour mtoHour ns mfrom mto msort misFault mdeep mcoded mlines nl nc nF np ntr nb mbestCost nso nsi nit nsh nsf nss nrc mtraced mdealer mnumber mwhose msize misParted), (nw, iA G 1662 u)])
set_option maxHeartbeats 4000000 in
set_option maxRecDepth 100000 in
theorem w_days (l : Launch) (G : GG) (h0 : Nat) (x1 : Int32) (nw : Nat) (nk : Nat) (mhasKept : Int32) (nt : Nat) (mtaped : Int32) (nr : Nat) (mrowMany : Int32) (mroundOf : Int32) (mroundFrom : Int32) (mouts : Int32) (nm : Nat) (mfromHour : Int32) (mtoHour : Int32) (ns : Nat) (mfrom : Int32) (mto : Int32) (msort : Int32) (misFault : Int32) (mdeep : Int32) (mcoded : Int32) (mlines : Int32) (nl : Nat) (nc : Nat) (nF : Nat) (np : Nat) (ntr : Nat) (nb : Nat) (mbestCost : Int32) (nso : Nat) (nsi : Nat) (nit : Nat) (nsh : Nat) (nsf : Nat) (nss : Nat) (nrc : Nat) (mtraced : Int32) (mdealer : Int32) (mnumber : Int32) (mwhose : Int32) (msize : Int32) (misParted : Int32) (fnw : Nat → Int32) (hN : NI fnw) (hV : VI fnw) : K_w_days l G h0 x1 nw nk mhasKept nt mtaped nr mrowMany mroundOf mroundFrom mouts nm mfromHour mtoHour ns mfrom mto msort misFault mdeep mcoded mlines nl nc nF np ntr nb mbestCost nso nsi nit nsh nsf nss nrc mtraced mdealer mnumber mwhose msize misParted fnw := by
  refine MI.start (by decide +kernel) (Nat.le_of_ble_eq_true rfl) ?_
  intro p e s m below meth c A ls hC hK hP hD hS hA hl
  refine absQ (fun Q0 hQ0 => ?_)
  have hl : lv_has ls 2 [(0, .ref h0), (1, .int x1)] := hl
  refine Kan8 hC (fun hx hb hr hml hB hown hlocks hnm => ?_)
  refine lv_iload_n hx hb dX12_days_0 rfl (lv_at1 hl) ?_
  refine lv_iconst (v := 1) hx hb dX12_days_1 (by decide) ?_
  refine lv_bipush (v := 99) hx hb dX12_days_2 (by decide) ?_
  refine pS hC hK hl (m_within l G x1 1 99) si_X12_84 rfl rfl (Nat.le_of_ble_eq_true rfl) rm_2_1_3 ⟨by first | exact Nat.le_of_ble_eq_true rfl | exact Nat.zero_le _, by first | exact Nat.le_of_ble_eq_true rfl | exact Nat.zero_le _⟩ dX12_days_4 (Kors (Keqa fun a5397 => ?_) (Keqa fun a5397 => ?_))
  · refine lv_if_ne (tgt := 12) hx hb dX12_days_7 (by decide) (fun _ => ?_) (fun c9 => absurd c9 (by decide))
    refine lv_aload_n hx hb dX12_days_12 rfl (lv_at0 hl) ?_
    refine gf_X12_9 hC rfl hK hP 0 rfl rfl dX12_days_13 ?_
    refine lv_iconst (v := 0) hx hb dX12_days_16 (by decide) ?_
    refine ald hC hK hP 1 rfl (vin (by decide +kernel)) (k := 0) (by decide +kernel) (v := fnw 0) (rfl) dX12_days_17 ?_
    refine lv_iload_n hx hb dX12_days_18 rfl (lv_at1 hl) ?_
    refine lv_iadd hx hb dX12_days_19 ?_
    refine lv_sipush (v := 499) hx hb dX12_days_20 (by decide) ?_
    refine lv_icmp_le (tgt := 29) hx hb dX12_days_23 (by decide) (fun c_23_5398 => ?_) (fun c_23_5398 => ?_)
    · refine lv_aload_n hx hb dX12_days_29 rfl (lv_at0 hl) ?_
      refine gf_X12_9 hC rfl hK hP 0 rfl rfl dX12_days_30 ?_
      refine lv_iconst (v := 0) hx hb dX12_days_33 (by decide) ?_
      refine lv_dup2_11 hx hb dX12_days_34 rfl rfl ?_
      refine ald hC hK hP 1 rfl (vin (by decide +kernel)) (k := 0) (by decide +kernel) (v := fnw 0) (rfl) dX12_days_35 ?_
      refine lv_iload_n hx hb dX12_days_36 rfl (lv_at1 hl) ?_
      refine lv_iadd hx hb dX12_days_37 ?_
      refine ast hC hK hP hD hS 1 (ws' := [(h0, oX12 nw nk mhasKept nt mtaped nr mrowMany mroundOf mroundFrom mouts nm mfromHour mtoHour ns mfrom mto msort misFault mdeep mcoded mlines nl nc nF np ntr nb mbestCost nso nsi nit nsh nsf nss nrc mtraced mdealer mnumber mwhose msize misParted), (nw, iA G 1662 (upd fnw 0 ((fnw 0) + x1)))]) rfl (vin (by decide +kernel)) (k := 0) (by decide +kernel) (rfl) dX12_days_38 (fun H locs hP hD hS => ?_)
      refine lv_aload_n hx hb dX12_days_39 rfl (lv_at0 hl) ?_
      refine gf_X12_9 hC rfl hK hP 0 rfl rfl dX12_days_40 ?_
      refine lv_iconst (v := 0) hx hb dX12_days_43 (by decide) ?_
      refine ald hC hK hP 1 rfl (vin (by decide +kernel)) (k := 0) (by decide +kernel) (v := (fnw 0) + x1) (rfl) dX12_days_44 ?_
      exact toQ hQ0 (RI (v := (fnw 0) + x1) hC hP hD hS [0, 1] (upd fnw 0 ((fnw 0) + x1)) rfl rfl (by decide) (⟨(by first | rfl | (simp only [ifc_t hN, ifc_t hV, ifc_t a5397, ifc_t c_23_5398]; done) | (simp only [ifc_t hN, ifc_t hV, ifc_t a5397, ifc_t c_23_5398]; rfl)), ⟨(hN).setA (bnd_low (by omega)), (hV).set (by omega), (show _ = ((fnw 0) + x1) from upd_eq rfl).trans (by first | rfl | (simp only [ifc_t hN, ifc_t hV, ifc_t a5397, ifc_t c_23_5398]; done) | (simp only [ifc_t hN, ifc_t hV, ifc_t a5397, ifc_t c_23_5398]; rfl)), upd_ne (by omega), upd_ne (by omega), upd_ne (by omega), upd_ne (by omega), upd_ne (by omega), upd_ne (by omega), upd_ne (by omega), upd_ne (by omega), upd_ne (by omega), upd_ne (by omega), (FRO.rf).set (by omega)⟩⟩) rfl dX12_days_45)
    · refine lv_bipush (v := (-4)) hx hb dX12_days_26 (by decide) ?_
      exact toQ hQ0 (RI (v := (-4)) hC hP hD hS [0, 1] fnw rfl rfl (by decide) (⟨(by first | rfl | (simp only [ifc_t hN, ifc_t hV, ifc_t a5397, ifc_f c_23_5398]; done) | (simp only [ifc_t hN, ifc_t hV, ifc_t a5397, ifc_f c_23_5398]; rfl)), ⟨hN, hV, (rfl).trans ((by first | rfl | (simp only [ifc_t hN, ifc_t hV, ifc_t a5397, ifc_f c_23_5398]; done) | (simp only [ifc_t hN, ifc_t hV, ifc_t a5397, ifc_f c_23_5398]; rfl))), rfl, rfl, rfl, rfl, rfl, rfl, rfl, rfl, rfl, rfl, FRO.rf⟩⟩) rfl dX12_days_28)
  · refine lv_if_ne (tgt := 12) hx hb dX12_days_7 (by decide) (fun c9 => absurd (by decide) c9) (fun _ => ?_)
    refine lv_iconst (v := (-1)) hx hb dX12_days_10 (by decide) ?_
    exact toQ hQ0 (RI (v := (-1)) hC hP hD hS [0, 1] fnw rfl rfl (by decide) (⟨(by first | rfl | (simp only [ifc_t hN, ifc_t hV, ifc_f a5397]; done) | (simp only [ifc_t hN, ifc_t hV, ifc_f a5397]; rfl)), ⟨hN, hV, (rfl).trans ((by first | rfl | (simp only [ifc_t hN, ifc_t hV, ifc_f a5397]; done) | (simp only [ifc_t hN, ifc_t hV, ifc_f a5397]; rfl))), rfl, rfl, rfl, rfl, rfl, rfl, rfl, rfl, rfl, rfl, FRO.rf⟩⟩) rfl dX12_days_11)
def K_w_gap (l : Launch) (G : GG) (h0 : Nat) (x1 : Int32) (nw : Nat) (nk : Nat) (mhasKept : Int32) (nt : Nat) (mtaped : Int32) (nr : Nat) (mrowMany : Int32) (mroundOf : Int32) (mroundFrom : Int32) (mouts : Int32) (nm : Nat) (mfromHour : Int32) (mtoHour : Int32) (ns : Nat) (mfrom : Int32) (mto : Int32) (msort : Int32) (misFault : Int32) (mdeep : Int32) (mcoded : Int32) (mlines : Int32) (nl : Nat) (nc : Nat) (nF : Nat) (np : Nat) (ntr : Nat) (nb : Nat) (mbestCost : Int32) (nso : Nat) (nsi : Nat) (nit : Nat) (nsh : Nat) (nsf : Nat) (nss : Nat) (nrc : Nat) (mtraced : Int32) (mdealer : Int32) (mnumber : Int32) (mwhose : Int32) (msize : Int32) (misParted : Int32) (fnw : Nat → Int32) : Prop := MI l G yX12_gap cX12_gap 3 (some .int) 2 0 0 [.ref h0, .int x1] [(h0, oX12 nw nk mhasKept nt mtaped nr mrowMany mroundOf mroundFrom mouts nm mfromHour mtoHour ns mfrom mto msort misFault mdeep mcoded mlines nl nc nF np ntr nb mbestCost nso nsi nit nsh nsf nss nrc mtraced mdealer mnumber mwhose msize misParted), (nw, iA G 1662 fnw)] (fun (r : Int32) (u : (Nat → Int32)) => (r = ifc (Wi x1 0 99) (fnw 3) (-1)) ∧ (NI u ∧ VI u ∧ u 0 = fnw 0 ∧ u 1 = fnw 1 ∧ u 2 = fnw 2 ∧ u 3 = ifc (Wi x1 0 99) x1 (fnw 3) ∧ u 4 = fnw 4 ∧ u 5 = fnw 5 ∧ u 6 = fnw 6 ∧ u 8 = fnw 8 ∧ u 9 = fnw 9 ∧ u 10 = fnw 10 ∧ u 11 = fnw 11 ∧ FRO u fnw 0 0)) (fun u : (Nat → Int32) => [(h0, oX12 nw nk mhasKept nt mtaped nr mrowMany mroundOf mroundFrom mouts nm mfromHour mtoHour ns mfrom mto msort misFault mdeep mcoded mlines nl nc nF np ntr nb mbestCost nso nsi nit nsh nsf nss nrc mtraced mdealer mnumber mwhose msize misParted), (nw, iA G 1662 u)])
set_option maxHeartbeats 4000000 in
set_option maxRecDepth 100000 in
theorem w_gap (l : Launch) (G : GG) (h0 : Nat) (x1 : Int32) (nw : Nat) (nk : Nat) (mhasKept : Int32) (nt : Nat) (mtaped : Int32) (nr : Nat) (mrowMany : Int32) (mroundOf : Int32) (mroundFrom : Int32) (mouts : Int32) (nm : Nat) (mfromHour : Int32) (mtoHour : Int32) (ns : Nat) (mfrom : Int32) (mto : Int32) (msort : Int32) (misFault : Int32) (mdeep : Int32) (mcoded : Int32) (mlines : Int32) (nl : Nat) (nc : Nat) (nF : Nat) (np : Nat) (ntr : Nat) (nb : Nat) (mbestCost : Int32) (nso : Nat) (nsi : Nat) (nit : Nat) (nsh : Nat) (nsf : Nat) (nss : Nat) (nrc : Nat) (mtraced : Int32) (mdealer : Int32) (mnumber : Int32) (mwhose : Int32) (msize : Int32) (misParted : Int32) (fnw : Nat → Int32) (hN : NI fnw) (hV : VI fnw) : K_w_gap l G h0 x1 nw nk mhasKept nt mtaped nr mrowMany mroundOf mroundFrom mouts nm mfromHour mtoHour ns mfrom mto msort misFault mdeep mcoded mlines nl nc nF np ntr nb mbestCost nso nsi nit nsh nsf nss nrc mtraced mdealer mnumber mwhose msize misParted fnw := by
  refine MI.start (by decide +kernel) (Nat.le_of_ble_eq_true rfl) ?_
  intro p e s m below meth c A ls hC hK hP hD hS hA hl
  refine absQ (fun Q0 hQ0 => ?_)
  have hl : lv_has ls 3 [(0, .ref h0), (1, .int x1)] := hl
  refine Kan8 hC (fun hx hb hr hml hB hown hlocks hnm => ?_)
  refine lv_iload_n hx hb dX12_gap_0 rfl (lv_at1 hl) ?_
  refine lv_iconst (v := 0) hx hb dX12_gap_1 (by decide) ?_
  refine lv_bipush (v := 99) hx hb dX12_gap_2 (by decide) ?_
  refine pS hC hK hl (m_within l G x1 0 99) si_X12_84 rfl rfl (Nat.le_of_ble_eq_true rfl) rm_2_1_3 ⟨by first | exact Nat.le_of_ble_eq_true rfl | exact Nat.zero_le _, by first | exact Nat.le_of_ble_eq_true rfl | exact Nat.zero_le _⟩ dX12_gap_4 (Kors (Keqa fun a5400 => ?_) (Keqa fun a5400 => ?_))
  · refine lv_if_ne (tgt := 12) hx hb dX12_gap_7 (by decide) (fun _ => ?_) (fun c9 => absurd c9 (by decide))
    refine lv_aload_n hx hb dX12_gap_12 rfl (lv_at0 hl) ?_
    refine gf_X12_9 hC rfl hK hP 0 rfl rfl dX12_gap_13 ?_
    refine lv_iconst (v := 3) hx hb dX12_gap_16 (by decide) ?_
    refine ald hC hK hP 1 rfl (vin (by decide +kernel)) (k := 3) (by decide +kernel) (v := fnw 3) (rfl) dX12_gap_17 ?_
    refine lv_istore_n (lv' := [(2, .int (fnw 3)), (0, .ref h0), (1, .int x1)]) hx hb dX12_gap_18 rfl hl (by decide) rfl (fun ls hl => ?_)
    refine lv_aload_n hx hb dX12_gap_19 rfl (lv_at1 hl) ?_
    refine gf_X12_9 hC rfl hK hP 0 rfl rfl dX12_gap_20 ?_
    refine lv_iconst (v := 3) hx hb dX12_gap_23 (by decide) ?_
    refine lv_iload_n hx hb dX12_gap_24 rfl (lv_at2 hl) ?_
    refine ast hC hK hP hD hS 1 (ws' := [(h0, oX12 nw nk mhasKept nt mtaped nr mrowMany mroundOf mroundFrom mouts nm mfromHour mtoHour ns mfrom mto msort misFault mdeep mcoded mlines nl nc nF np ntr nb mbestCost nso nsi nit nsh nsf nss nrc mtraced mdealer mnumber mwhose msize misParted), (nw, iA G 1662 (upd fnw 3 x1))]) rfl (vin (by decide +kernel)) (k := 3) (by decide +kernel) (rfl) dX12_gap_25 (fun H locs hP hD hS => ?_)
    refine lv_iload_n hx hb dX12_gap_26 rfl (lv_at0 hl) ?_
    exact toQ hQ0 (RI (v := fnw 3) hC hP hD hS [0, 1] (upd fnw 3 x1) rfl rfl (by decide) (⟨(by first | rfl | (simp only [ifc_t hN, ifc_t hV, ifc_t a5400]; done) | (simp only [ifc_t hN, ifc_t hV, ifc_t a5400]; rfl)), ⟨(hN).setA (bnd_low (by omega)), (hV).set (by omega), upd_ne (by omega), upd_ne (by omega), upd_ne (by omega), (show _ = x1 from upd_eq rfl).trans (by first | rfl | (simp only [ifc_t hN, ifc_t hV, ifc_t a5400]; done) | (simp only [ifc_t hN, ifc_t hV, ifc_t a5400]; rfl)), upd_ne (by omega), upd_ne (by omega), upd_ne (by omega), upd_ne (by omega), upd_ne (by omega), upd_ne (by omega), upd_ne (by omega), (FRO.rf).set (by omega)⟩⟩) rfl dX12_gap_27)
  · refine lv_if_ne (tgt := 12) hx hb dX12_gap_7 (by decide) (fun c9 => absurd (by decide) c9) (fun _ => ?_)
    refine lv_iconst (v := (-1)) hx hb dX12_gap_10 (by decide) ?_
    exact toQ hQ0 (RI (v := (-1)) hC hP hD hS [0, 1] fnw rfl rfl (by decide) (⟨(by first | rfl | (simp only [ifc_t hN, ifc_t hV, ifc_f a5400]; done) | (simp only [ifc_t hN, ifc_t hV, ifc_f a5400]; rfl)), ⟨hN, hV, rfl, rfl, rfl, (rfl).trans ((by first | rfl | (simp only [ifc_t hN, ifc_t hV, ifc_f a5400]; done) | (simp only [ifc_t hN, ifc_t hV, ifc_f a5400]; rfl))), rfl, rfl, rfl, rfl, rfl, rfl, rfl, FRO.rf⟩⟩) rfl dX12_gap_11)
def K_m_has0 (l : Launch) (G : GG) (jk : Nat) : Prop := MP l G yX12_has cX12_has 2 (some .boolean) 1 [.int 0, .int (nI jk)] [] (fun r : Int32 => r = 0)
set_option maxHeartbeats 4000000 in
set_option maxRecDepth 100000 in
theorem m_has0 (l : Launch) (G : GG) (jk : Nat) (hjk : jk < 16) : K_m_has0 l G jk := by
  refine MP.start (by decide +kernel) (Nat.le_of_ble_eq_true rfl) ?_
  intro p e s m below meth c ls hC hK hP hD hl
  refine absQ (fun Q0 hQ0 => ?_)
  have hl : lv_has ls 2 [(0, .int 0), (1, .int (nI jk))] := hl
  refine Kan8 hC (fun hx hb hr hml hB hown hlocks hnm => ?_)
  refine lv_iload_n hx hb dX12_has_0 rfl (lv_at0 hl) ?_
  refine lv_iload_n hx hb dX12_has_1 rfl (lv_at1 hl) ?_
  refine lv_ishr hx hb dX12_has_2 ?_
  refine lv_iconst (v := 1) hx hb dX12_has_3 (by decide) ?_
  refine lv_iand hx hb dX12_has_4 ?_
  refine lv_iconst (v := 1) hx hb dX12_has_5 (by decide) ?_
  refine lv_icmp_ne (tgt := 13) hx hb dX12_has_6 (by decide) (fun _ => ?_) (fun c9 => absurd c9 (has0 ⟨jk, hjk⟩))
  refine lv_iconst (v := 0) hx hb dX12_has_13 (by decide) ?_
  exact toQ hQ0 (RP (v := 0) hC (rfl) (by decide +kernel) dX12_has_14)
def K_m_dayX (l : Launch) (G : GG) (h0 : Nat) (nw : Nat) (nk : Nat) (mhasKept : Int32) (nt : Nat) (mtaped : Int32) (nr : Nat) (mrowMany : Int32) (mroundOf : Int32) (mroundFrom : Int32) (mouts : Int32) (nm : Nat) (mfromHour : Int32) (mtoHour : Int32) (ns : Nat) (mfrom : Int32) (mto : Int32) (msort : Int32) (misFault : Int32) (mdeep : Int32) (mcoded : Int32) (mlines : Int32) (nl : Nat) (nc : Nat) (nF : Nat) (np : Nat) (ntr : Nat) (nb : Nat) (mbestCost : Int32) (nso : Nat) (nsi : Nat) (nit : Nat) (nsh : Nat) (nsf : Nat) (nss : Nat) (nrc : Nat) (mtraced : Int32) (mdealer : Int32) (mnumber : Int32) (mwhose : Int32) (msize : Int32) (misParted : Int32) (fnw : Nat → Int32) : Prop := MP l G yX12_day cX12_day 1 (some .int) 1 [.ref h0] [(h0, oX12 nw nk mhasKept nt mtaped nr mrowMany mroundOf mroundFrom mouts nm mfromHour mtoHour ns mfrom mto msort misFault mdeep mcoded mlines nl nc nF np ntr nb mbestCost nso nsi nit nsh nsf nss nrc mtraced mdealer mnumber mwhose msize misParted), (nw, iA G 1662 fnw)] (fun r : Int32 => r = (DAYV (fnw 0) (fnw 1)))
set_option maxHeartbeats 4000000 in
set_option maxRecDepth 100000 in
theorem m_dayX (l : Launch) (G : GG) (h0 : Nat) (nw : Nat) (nk : Nat) (mhasKept : Int32) (nt : Nat) (mtaped : Int32) (nr : Nat) (mrowMany : Int32) (mroundOf : Int32) (mroundFrom : Int32) (mouts : Int32) (nm : Nat) (mfromHour : Int32) (mtoHour : Int32) (ns : Nat) (mfrom : Int32) (mto : Int32) (msort : Int32) (misFault : Int32) (mdeep : Int32) (mcoded : Int32) (mlines : Int32) (nl : Nat) (nc : Nat) (nF : Nat) (np : Nat) (ntr : Nat) (nb : Nat) (mbestCost : Int32) (nso : Nat) (nsi : Nat) (nit : Nat) (nsh : Nat) (nsf : Nat) (nss : Nat) (nrc : Nat) (mtraced : Int32) (mdealer : Int32) (mnumber : Int32) (mwhose : Int32) (msize : Int32) (misParted : Int32) (fnw : Nat → Int32) : K_m_dayX l G h0 nw nk mhasKept nt mtaped nr mrowMany mroundOf mroundFrom mouts nm mfromHour mtoHour ns mfrom mto msort misFault mdeep mcoded mlines nl nc nF np ntr nb mbestCost nso nsi nit nsh nsf nss nrc mtraced mdealer mnumber mwhose msize misParted fnw := by
  refine MP.start (by decide +kernel) (Nat.le_of_ble_eq_true rfl) ?_
  intro p e s m below meth c ls hC hK hP hD hl
  refine absQ (fun Q0 hQ0 => ?_)
  have hl : lv_has ls 1 [(0, .ref h0)] := hl
  refine Kan8 hC (fun hx hb hr hml hB hown hlocks hnm => ?_)
  refine lv_aload_n hx hb dX12_day_0 rfl (lv_at0 hl) ?_
  refine gf_X12_9 hC rfl hK hP 0 rfl rfl dX12_day_1 ?_
  refine lv_iconst (v := 1) hx hb dX12_day_4 (by decide) ?_
  refine ald hC hK hP 1 rfl (vin (by decide +kernel)) (k := 1) (by decide +kernel) (v := fnw 1) (rfl) dX12_day_5 ?_
  refine lv_if_ge (tgt := 18) hx hb dX12_day_6 (by decide) (fun c_6_5401 => ?_) (fun c_6_5401 => ?_)
  · refine lv_aload_n hx hb dX12_day_18 rfl (lv_at0 hl) ?_
    refine gf_X12_9 hC rfl hK hP 0 rfl rfl dX12_day_19 ?_
    refine lv_iconst (v := 1) hx hb dX12_day_22 (by decide) ?_
    refine ald hC hK hP 1 rfl (vin (by decide +kernel)) (k := 1) (by decide +kernel) (v := fnw 1) (rfl) dX12_day_23 ?_
    exact toQ hQ0 (RP (v := fnw 1) hC ((ifc_f (Int32.not_lt.mpr c_6_5401)).symm) rfl dX12_day_24)
  · refine lv_aload_n hx hb dX12_day_9 rfl (lv_at0 hl) ?_
    refine gf_X12_9 hC rfl hK hP 0 rfl rfl dX12_day_10 ?_
    refine lv_iconst (v := 0) hx hb dX12_day_13 (by decide) ?_
    refine ald hC hK hP 1 rfl (vin (by decide +kernel)) (k := 0) (by decide +kernel) (v := fnw 0) (rfl) dX12_day_14 ?_
    refine lv_goto (tgt := 24) hx hb dX12_day_15 (by decide) ?_
    exact toQ hQ0 (RP (v := fnw 0) hC ((ifc_t (Int32.not_le.mp c_6_5401)).symm) rfl dX12_day_24)
def K_m_isInX (l : Launch) (G : GG) (h0 : Nat) (jp : Nat) (nw : Nat) (nk : Nat) (mhasKept : Int32) (nt : Nat) (mtaped : Int32) (nr : Nat) (mrowMany : Int32) (mroundOf : Int32) (mroundFrom : Int32) (nm : Nat) (mfromHour : Int32) (mtoHour : Int32) (ns : Nat) (mfrom : Int32) (mto : Int32) (msort : Int32) (misFault : Int32) (mdeep : Int32) (mcoded : Int32) (mlines : Int32) (nl : Nat) (nc : Nat) (nF : Nat) (np : Nat) (ntr : Nat) (nb : Nat) (mbestCost : Int32) (nso : Nat) (nsi : Nat) (nit : Nat) (nsh : Nat) (nsf : Nat) (nss : Nat) (nrc : Nat) (mtraced : Int32) (mdealer : Int32) (mnumber : Int32) (mwhose : Int32) (msize : Int32) (misParted : Int32) (fnw : Nat → Int32) : Prop := MP l G yX12_isIn cX12_isIn 3 (some .boolean) 2 [.ref h0, .int (nI jp)] [(h0, oX12 nw nk mhasKept nt mtaped nr mrowMany mroundOf mroundFrom 0 nm mfromHour mtoHour ns mfrom mto msort misFault mdeep mcoded mlines nl nc nF np ntr nb mbestCost nso nsi nit nsh nsf nss nrc mtraced mdealer mnumber mwhose msize misParted), (nw, iA G 1662 fnw)] (fun r : Int32 => (r = 1 ∧ SEE (shf fnw 32) (fnw 0) (fnw 1) (fnw 2) jp) ∨ (r = 0 ∧ ¬ SEE (shf fnw 32) (fnw 0) (fnw 1) (fnw 2) jp))
set_option maxHeartbeats 4000000 in
set_option maxRecDepth 100000 in
theorem m_isInX (l : Launch) (G : GG) (h0 : Nat) (jp : Nat) (nw : Nat) (nk : Nat) (mhasKept : Int32) (nt : Nat) (mtaped : Int32) (nr : Nat) (mrowMany : Int32) (mroundOf : Int32) (mroundFrom : Int32) (nm : Nat) (mfromHour : Int32) (mtoHour : Int32) (ns : Nat) (mfrom : Int32) (mto : Int32) (msort : Int32) (misFault : Int32) (mdeep : Int32) (mcoded : Int32) (mlines : Int32) (nl : Nat) (nc : Nat) (nF : Nat) (np : Nat) (ntr : Nat) (nb : Nat) (mbestCost : Int32) (nso : Nat) (nsi : Nat) (nit : Nat) (nsh : Nat) (nsf : Nat) (nss : Nat) (nrc : Nat) (mtraced : Int32) (mdealer : Int32) (mnumber : Int32) (mwhose : Int32) (msize : Int32) (misParted : Int32) (fnw : Nat → Int32) (hjp : jp < 12) : K_m_isInX l G h0 jp nw nk mhasKept nt mtaped nr mrowMany mroundOf mroundFrom nm mfromHour mtoHour ns mfrom mto msort misFault mdeep mcoded mlines nl nc nF np ntr nb mbestCost nso nsi nit nsh nsf nss nrc mtraced mdealer mnumber mwhose msize misParted fnw := by
  refine MP.start (by decide +kernel) (Nat.le_of_ble_eq_true rfl) ?_
  intro p e s m below meth c ls hC hK hP hD hl
  refine absQ (fun Q0 hQ0 => ?_)
  have hl : lv_has ls 3 [(0, .ref h0), (1, .int (nI jp))] := hl
  refine Kan8 hC (fun hx hb hr hml hB hown hlocks hnm => ?_)
  have hq3 : fnw (32 + 6 * jp + 3) = shf fnw 32 (jp * 6 + 3) := congrArg fnw (by omega)
  have hq4 : fnw (32 + 6 * jp + 4) = shf fnw 32 (jp * 6 + 4) := congrArg fnw (by omega)
  have hq5 : fnw (32 + 6 * jp + 5) = shf fnw 32 (jp * 6 + 5) := congrArg fnw (by omega)
  refine lv_aload_n hx hb dX12_isIn_0 rfl (lv_at0 hl) ?_
  refine lv_iload_n hx hb dX12_isIn_1 rfl (lv_at1 hl) ?_
  refine lv_iconst (v := 5) hx hb dX12_isIn_2 (by decide) ?_
  refine pV hC hK hl hP hD (m_paper l G h0 jp 5 nw nk mhasKept nt mtaped nr mrowMany mroundOf mroundFrom 0 nm mfromHour mtoHour ns mfrom mto msort misFault mdeep mcoded mlines nl nc nF np ntr nb mbestCost nso nsi nit nsh nsf nss nrc mtraced mdealer mnumber mwhose msize misParted fnw (hjp) (by omega)) si_X12_88 [0, 1] sm_0_1 fm_0_1 nd_0_1 rfl rfl rfl rfl rfl (Nat.le_of_ble_eq_true rfl) rm_2_1_3 ⟨by first | exact Nat.le_of_ble_eq_true rfl | exact Nat.zero_le _, by first | exact Nat.le_of_ble_eq_true rfl | exact Nat.zero_le _⟩ dX12_isIn_3 (Keqr ?_)
  refine lv_if_lt (tgt := 26) hx hb dX12_isIn_6 (by decide) (fun c_6_5404 => ?_) (fun c_6_5404 => ?_)
  · refine lv_iconst (v := 0) hx hb dX12_isIn_26 (by decide) ?_
    refine lv_istore_n (lv' := [(2, .int 0), (0, .ref h0), (1, .int (nI jp))]) hx hb dX12_isIn_27 rfl hl (by decide) rfl (fun ls hl => ?_)
    refine lv_aload_n hx hb dX12_isIn_28 rfl (lv_at1 hl) ?_
    refine lv_iload_n hx hb dX12_isIn_29 rfl (lv_at2 hl) ?_
    refine lv_iconst (v := 4) hx hb dX12_isIn_30 (by decide) ?_
    refine pV hC hK hl hP hD (m_paper l G h0 jp 4 nw nk mhasKept nt mtaped nr mrowMany mroundOf mroundFrom 0 nm mfromHour mtoHour ns mfrom mto msort misFault mdeep mcoded mlines nl nc nF np ntr nb mbestCost nso nsi nit nsh nsf nss nrc mtraced mdealer mnumber mwhose msize misParted fnw (hjp) (by omega)) si_X12_88 [0, 1] sm_0_1 fm_0_1 nd_0_1 rfl rfl rfl rfl rfl (Nat.le_of_ble_eq_true rfl) rm_2_1_3 ⟨by first | exact Nat.le_of_ble_eq_true rfl | exact Nat.zero_le _, by first | exact Nat.le_of_ble_eq_true rfl | exact Nat.zero_le _⟩ dX12_isIn_31 (Keqr ?_)
    refine lv_aload_n hx hb dX12_isIn_34 rfl (lv_at1 hl) ?_
    refine pV hC hK hl hP hD (m_dayX l G h0 nw nk mhasKept nt mtaped nr mrowMany mroundOf mroundFrom 0 nm mfromHour mtoHour ns mfrom mto msort misFault mdeep mcoded mlines nl nc nF np ntr nb mbestCost nso nsi nit nsh nsf nss nrc mtraced mdealer mnumber mwhose msize misParted fnw) si_X12_92 [0, 1] sm_0_1 fm_0_1 nd_0_1 rfl rfl rfl rfl rfl (Nat.le_of_ble_eq_true rfl) rm_2_1_1 ⟨by first | exact Nat.le_of_ble_eq_true rfl | exact Nat.zero_le _, by first | exact Nat.le_of_ble_eq_true rfl | exact Nat.zero_le _⟩ dX12_isIn_35 (Keqr ?_)
    refine lv_icmp_gt (tgt := 75) hx hb dX12_isIn_38 (by decide) (fun c_38_5409 => ?_) (fun c_38_5409 => ?_)
    · refine lv_iconst (v := 0) hx hb dX12_isIn_75 (by decide) ?_
      exact toQ hQ0 (RP (v := 0) hC (Or.inr ⟨rfl, (fun h9 => Int32.not_le.mpr (hq4 ▸ c_38_5409) h9.1)⟩) (by decide +kernel) dX12_isIn_76)
    · refine lv_aload_n hx hb dX12_isIn_41 rfl (lv_at1 hl) ?_
      refine lv_iload_n hx hb dX12_isIn_42 rfl (lv_at2 hl) ?_
      refine lv_iconst (v := 3) hx hb dX12_isIn_43 (by decide) ?_
      refine pV hC hK hl hP hD (m_paper l G h0 jp 3 nw nk mhasKept nt mtaped nr mrowMany mroundOf mroundFrom 0 nm mfromHour mtoHour ns mfrom mto msort misFault mdeep mcoded mlines nl nc nF np ntr nb mbestCost nso nsi nit nsh nsf nss nrc mtraced mdealer mnumber mwhose msize misParted fnw (hjp) (by omega)) si_X12_88 [0, 1] sm_0_1 fm_0_1 nd_0_1 rfl rfl rfl rfl rfl (Nat.le_of_ble_eq_true rfl) rm_2_1_3 ⟨by first | exact Nat.le_of_ble_eq_true rfl | exact Nat.zero_le _, by first | exact Nat.le_of_ble_eq_true rfl | exact Nat.zero_le _⟩ dX12_isIn_44 (Keqr ?_)
      refine lv_aload_n hx hb dX12_isIn_47 rfl (lv_at1 hl) ?_
      refine gf_X12_9 hC rfl hK hP 0 rfl rfl dX12_isIn_48 ?_
      refine lv_iconst (v := 2) hx hb dX12_isIn_51 (by decide) ?_
      refine ald hC hK hP 1 rfl (vin (by decide +kernel)) (k := 2) (by decide +kernel) (v := fnw 2) (rfl) dX12_isIn_52 ?_
      refine lv_icmp_gt (tgt := 75) hx hb dX12_isIn_53 (by decide) (fun c_53_5412 => ?_) (fun c_53_5412 => ?_)
      · refine lv_iconst (v := 0) hx hb dX12_isIn_75 (by decide) ?_
        exact toQ hQ0 (RP (v := 0) hC (Or.inr ⟨rfl, (fun h9 => Int32.not_le.mpr (hq3 ▸ c_53_5412) h9.2.1)⟩) (by decide +kernel) dX12_isIn_76)
      · refine lv_iload_n hx hb dX12_isIn_56 rfl (lv_at0 hl) ?_
        refine lv_if_ne (tgt := 75) hx hb dX12_isIn_57 (by decide) (fun c9 => absurd (by decide) c9) (fun _ => ?_)
        refine lv_aload_n hx hb dX12_isIn_60 rfl (lv_at1 hl) ?_
        refine gf_X12_96 hC rfl hK hP 0 rfl rfl dX12_isIn_61 ?_
        refine lv_iload_n hx hb dX12_isIn_64 rfl (lv_at2 hl) ?_
        refine pS hC hK hl (m_has0 l G jp (by omega)) si_X12_99 rfl rfl (Nat.le_of_ble_eq_true rfl) rm_2_1_2 ⟨by first | exact Nat.le_of_ble_eq_true rfl | exact Nat.zero_le _, by first | exact Nat.le_of_ble_eq_true rfl | exact Nat.zero_le _⟩ dX12_isIn_65 (Keqr ?_)
        refine lv_if_ne (tgt := 75) hx hb dX12_isIn_68 (by decide) (fun c9 => absurd (by decide) c9) (fun _ => ?_)
        refine lv_iconst (v := 1) hx hb dX12_isIn_71 (by decide) ?_
        refine lv_goto (tgt := 76) hx hb dX12_isIn_72 (by decide) ?_
        exact toQ hQ0 (RP (v := 1) hC (Or.inl ⟨rfl, ⟨Int32.not_lt.mp (hq4 ▸ c_38_5409), Int32.not_lt.mp (hq3 ▸ c_53_5412), (fun h9 => Int32.not_le.mpr (hq5 ▸ c_6_5404) h9.1)⟩⟩) (by decide +kernel) dX12_isIn_76)
  · refine lv_aload_n hx hb dX12_isIn_9 rfl (lv_at0 hl) ?_
    refine lv_iload_n hx hb dX12_isIn_10 rfl (lv_at1 hl) ?_
    refine lv_iconst (v := 5) hx hb dX12_isIn_11 (by decide) ?_
    refine pV hC hK hl hP hD (m_paper l G h0 jp 5 nw nk mhasKept nt mtaped nr mrowMany mroundOf mroundFrom 0 nm mfromHour mtoHour ns mfrom mto msort misFault mdeep mcoded mlines nl nc nF np ntr nb mbestCost nso nsi nit nsh nsf nss nrc mtraced mdealer mnumber mwhose msize misParted fnw (hjp) (by omega)) si_X12_88 [0, 1] sm_0_1 fm_0_1 nd_0_1 rfl rfl rfl rfl rfl (Nat.le_of_ble_eq_true rfl) rm_2_1_3 ⟨by first | exact Nat.le_of_ble_eq_true rfl | exact Nat.zero_le _, by first | exact Nat.le_of_ble_eq_true rfl | exact Nat.zero_le _⟩ dX12_isIn_12 (Keqr ?_)
    refine lv_aload_n hx hb dX12_isIn_15 rfl (lv_at0 hl) ?_
    refine pV hC hK hl hP hD (m_dayX l G h0 nw nk mhasKept nt mtaped nr mrowMany mroundOf mroundFrom 0 nm mfromHour mtoHour ns mfrom mto msort misFault mdeep mcoded mlines nl nc nF np ntr nb mbestCost nso nsi nit nsh nsf nss nrc mtraced mdealer mnumber mwhose msize misParted fnw) si_X12_92 [0, 1] sm_0_1 fm_0_1 nd_0_1 rfl rfl rfl rfl rfl (Nat.le_of_ble_eq_true rfl) rm_2_1_1 ⟨by first | exact Nat.le_of_ble_eq_true rfl | exact Nat.zero_le _, by first | exact Nat.le_of_ble_eq_true rfl | exact Nat.zero_le _⟩ dX12_isIn_16 (Keqr ?_)
    refine lv_icmp_gt (tgt := 26) hx hb dX12_isIn_19 (by decide) (fun c_19_5419 => ?_) (fun c_19_5419 => ?_)
    · refine lv_iconst (v := 0) hx hb dX12_isIn_26 (by decide) ?_
      refine lv_istore_n (lv' := [(2, .int 0), (0, .ref h0), (1, .int (nI jp))]) hx hb dX12_isIn_27 rfl hl (by decide) rfl (fun ls hl => ?_)
      refine lv_aload_n hx hb dX12_isIn_28 rfl (lv_at1 hl) ?_
      refine lv_iload_n hx hb dX12_isIn_29 rfl (lv_at2 hl) ?_
      refine lv_iconst (v := 4) hx hb dX12_isIn_30 (by decide) ?_
      refine pV hC hK hl hP hD (m_paper l G h0 jp 4 nw nk mhasKept nt mtaped nr mrowMany mroundOf mroundFrom 0 nm mfromHour mtoHour ns mfrom mto msort misFault mdeep mcoded mlines nl nc nF np ntr nb mbestCost nso nsi nit nsh nsf nss nrc mtraced mdealer mnumber mwhose msize misParted fnw (hjp) (by omega)) si_X12_88 [0, 1] sm_0_1 fm_0_1 nd_0_1 rfl rfl rfl rfl rfl (Nat.le_of_ble_eq_true rfl) rm_2_1_3 ⟨by first | exact Nat.le_of_ble_eq_true rfl | exact Nat.zero_le _, by first | exact Nat.le_of_ble_eq_true rfl | exact Nat.zero_le _⟩ dX12_isIn_31 (Keqr ?_)
      refine lv_aload_n hx hb dX12_isIn_34 rfl (lv_at1 hl) ?_
      refine pV hC hK hl hP hD (m_dayX l G h0 nw nk mhasKept nt mtaped nr mrowMany mroundOf mroundFrom 0 nm mfromHour mtoHour ns mfrom mto msort misFault mdeep mcoded mlines nl nc nF np ntr nb mbestCost nso nsi nit nsh nsf nss nrc mtraced mdealer mnumber mwhose msize misParted fnw) si_X12_92 [0, 1] sm_0_1 fm_0_1 nd_0_1 rfl rfl rfl rfl rfl (Nat.le_of_ble_eq_true rfl) rm_2_1_1 ⟨by first | exact Nat.le_of_ble_eq_true rfl | exact Nat.zero_le _, by first | exact Nat.le_of_ble_eq_true rfl | exact Nat.zero_le _⟩ dX12_isIn_35 (Keqr ?_)
      refine lv_icmp_gt (tgt := 75) hx hb dX12_isIn_38 (by decide) (fun c_38_5424 => ?_) (fun c_38_5424 => ?_)
      · refine lv_iconst (v := 0) hx hb dX12_isIn_75 (by decide) ?_
        exact toQ hQ0 (RP (v := 0) hC (Or.inr ⟨rfl, (fun h9 => Int32.not_le.mpr (hq4 ▸ c_38_5424) h9.1)⟩) (by decide +kernel) dX12_isIn_76)
      · refine lv_aload_n hx hb dX12_isIn_41 rfl (lv_at1 hl) ?_
        refine lv_iload_n hx hb dX12_isIn_42 rfl (lv_at2 hl) ?_
        refine lv_iconst (v := 3) hx hb dX12_isIn_43 (by decide) ?_
        refine pV hC hK hl hP hD (m_paper l G h0 jp 3 nw nk mhasKept nt mtaped nr mrowMany mroundOf mroundFrom 0 nm mfromHour mtoHour ns mfrom mto msort misFault mdeep mcoded mlines nl nc nF np ntr nb mbestCost nso nsi nit nsh nsf nss nrc mtraced mdealer mnumber mwhose msize misParted fnw (hjp) (by omega)) si_X12_88 [0, 1] sm_0_1 fm_0_1 nd_0_1 rfl rfl rfl rfl rfl (Nat.le_of_ble_eq_true rfl) rm_2_1_3 ⟨by first | exact Nat.le_of_ble_eq_true rfl | exact Nat.zero_le _, by first | exact Nat.le_of_ble_eq_true rfl | exact Nat.zero_le _⟩ dX12_isIn_44 (Keqr ?_)
        refine lv_aload_n hx hb dX12_isIn_47 rfl (lv_at1 hl) ?_
        refine gf_X12_9 hC rfl hK hP 0 rfl rfl dX12_isIn_48 ?_
        refine lv_iconst (v := 2) hx hb dX12_isIn_51 (by decide) ?_
        refine ald hC hK hP 1 rfl (vin (by decide +kernel)) (k := 2) (by decide +kernel) (v := fnw 2) (rfl) dX12_isIn_52 ?_
        refine lv_icmp_gt (tgt := 75) hx hb dX12_isIn_53 (by decide) (fun c_53_5427 => ?_) (fun c_53_5427 => ?_)
        · refine lv_iconst (v := 0) hx hb dX12_isIn_75 (by decide) ?_
          exact toQ hQ0 (RP (v := 0) hC (Or.inr ⟨rfl, (fun h9 => Int32.not_le.mpr (hq3 ▸ c_53_5427) h9.2.1)⟩) (by decide +kernel) dX12_isIn_76)
        · refine lv_iload_n hx hb dX12_isIn_56 rfl (lv_at0 hl) ?_
          refine lv_if_ne (tgt := 75) hx hb dX12_isIn_57 (by decide) (fun c9 => absurd (by decide) c9) (fun _ => ?_)
          refine lv_aload_n hx hb dX12_isIn_60 rfl (lv_at1 hl) ?_
          refine gf_X12_96 hC rfl hK hP 0 rfl rfl dX12_isIn_61 ?_
          refine lv_iload_n hx hb dX12_isIn_64 rfl (lv_at2 hl) ?_
          refine pS hC hK hl (m_has0 l G jp (by omega)) si_X12_99 rfl rfl (Nat.le_of_ble_eq_true rfl) rm_2_1_2 ⟨by first | exact Nat.le_of_ble_eq_true rfl | exact Nat.zero_le _, by first | exact Nat.le_of_ble_eq_true rfl | exact Nat.zero_le _⟩ dX12_isIn_65 (Keqr ?_)
          refine lv_if_ne (tgt := 75) hx hb dX12_isIn_68 (by decide) (fun c9 => absurd (by decide) c9) (fun _ => ?_)
          refine lv_iconst (v := 1) hx hb dX12_isIn_71 (by decide) ?_
          refine lv_goto (tgt := 76) hx hb dX12_isIn_72 (by decide) ?_
          exact toQ hQ0 (RP (v := 1) hC (Or.inl ⟨rfl, ⟨Int32.not_lt.mp (hq4 ▸ c_38_5424), Int32.not_lt.mp (hq3 ▸ c_53_5427), (fun h9 => Int32.not_le.mpr (hq5 ▸ c_19_5419) h9.2)⟩⟩) (by decide +kernel) dX12_isIn_76)
    · refine lv_iconst (v := 1) hx hb dX12_isIn_22 (by decide) ?_
      refine lv_goto (tgt := 27) hx hb dX12_isIn_23 (by decide) ?_
      refine lv_istore_n (lv' := [(2, .int 1), (0, .ref h0), (1, .int (nI jp))]) hx hb dX12_isIn_27 rfl hl (by decide) rfl (fun ls hl => ?_)
      refine lv_aload_n hx hb dX12_isIn_28 rfl (lv_at1 hl) ?_
      refine lv_iload_n hx hb dX12_isIn_29 rfl (lv_at2 hl) ?_
      refine lv_iconst (v := 4) hx hb dX12_isIn_30 (by decide) ?_
      refine pV hC hK hl hP hD (m_paper l G h0 jp 4 nw nk mhasKept nt mtaped nr mrowMany mroundOf mroundFrom 0 nm mfromHour mtoHour ns mfrom mto msort misFault mdeep mcoded mlines nl nc nF np ntr nb mbestCost nso nsi nit nsh nsf nss nrc mtraced mdealer mnumber mwhose msize misParted fnw (hjp) (by omega)) si_X12_88 [0, 1] sm_0_1 fm_0_1 nd_0_1 rfl rfl rfl rfl rfl (Nat.le_of_ble_eq_true rfl) rm_2_1_3 ⟨by first | exact Nat.le_of_ble_eq_true rfl | exact Nat.zero_le _, by first | exact Nat.le_of_ble_eq_true rfl | exact Nat.zero_le _⟩ dX12_isIn_31 (Keqr ?_)
      refine lv_aload_n hx hb dX12_isIn_34 rfl (lv_at1 hl) ?_
      refine pV hC hK hl hP hD (m_dayX l G h0 nw nk mhasKept nt mtaped nr mrowMany mroundOf mroundFrom 0 nm mfromHour mtoHour ns mfrom mto msort misFault mdeep mcoded mlines nl nc nF np ntr nb mbestCost nso nsi nit nsh nsf nss nrc mtraced mdealer mnumber mwhose msize misParted fnw) si_X12_92 [0, 1] sm_0_1 fm_0_1 nd_0_1 rfl rfl rfl rfl rfl (Nat.le_of_ble_eq_true rfl) rm_2_1_1 ⟨by first | exact Nat.le_of_ble_eq_true rfl | exact Nat.zero_le _, by first | exact Nat.le_of_ble_eq_true rfl | exact Nat.zero_le _⟩ dX12_isIn_35 (Keqr ?_)
      refine lv_icmp_gt (tgt := 75) hx hb dX12_isIn_38 (by decide) (fun c_38_5434 => ?_) (fun c_38_5434 => ?_)
      · refine lv_iconst (v := 0) hx hb dX12_isIn_75 (by decide) ?_
        exact toQ hQ0 (RP (v := 0) hC (Or.inr ⟨rfl, (fun h9 => Int32.not_le.mpr (hq4 ▸ c_38_5434) h9.1)⟩) (by decide +kernel) dX12_isIn_76)
      · refine lv_aload_n hx hb dX12_isIn_41 rfl (lv_at1 hl) ?_
        refine lv_iload_n hx hb dX12_isIn_42 rfl (lv_at2 hl) ?_
        refine lv_iconst (v := 3) hx hb dX12_isIn_43 (by decide) ?_
        refine pV hC hK hl hP hD (m_paper l G h0 jp 3 nw nk mhasKept nt mtaped nr mrowMany mroundOf mroundFrom 0 nm mfromHour mtoHour ns mfrom mto msort misFault mdeep mcoded mlines nl nc nF np ntr nb mbestCost nso nsi nit nsh nsf nss nrc mtraced mdealer mnumber mwhose msize misParted fnw (hjp) (by omega)) si_X12_88 [0, 1] sm_0_1 fm_0_1 nd_0_1 rfl rfl rfl rfl rfl (Nat.le_of_ble_eq_true rfl) rm_2_1_3 ⟨by first | exact Nat.le_of_ble_eq_true rfl | exact Nat.zero_le _, by first | exact Nat.le_of_ble_eq_true rfl | exact Nat.zero_le _⟩ dX12_isIn_44 (Keqr ?_)
        refine lv_aload_n hx hb dX12_isIn_47 rfl (lv_at1 hl) ?_
        refine gf_X12_9 hC rfl hK hP 0 rfl rfl dX12_isIn_48 ?_
        refine lv_iconst (v := 2) hx hb dX12_isIn_51 (by decide) ?_
        refine ald hC hK hP 1 rfl (vin (by decide +kernel)) (k := 2) (by decide +kernel) (v := fnw 2) (rfl) dX12_isIn_52 ?_
        refine lv_icmp_gt (tgt := 75) hx hb dX12_isIn_53 (by decide) (fun c_53_5437 => ?_) (fun c_53_5437 => ?_)
        · refine lv_iconst (v := 0) hx hb dX12_isIn_75 (by decide) ?_
          exact toQ hQ0 (RP (v := 0) hC (Or.inr ⟨rfl, (fun h9 => Int32.not_le.mpr (hq3 ▸ c_53_5437) h9.2.1)⟩) (by decide +kernel) dX12_isIn_76)
        · refine lv_iload_n hx hb dX12_isIn_56 rfl (lv_at0 hl) ?_
          refine lv_if_ne (tgt := 75) hx hb dX12_isIn_57 (by decide) (fun _ => ?_) (fun c9 => absurd c9 (by decide))
          refine lv_iconst (v := 0) hx hb dX12_isIn_75 (by decide) ?_
          exact toQ hQ0 (RP (v := 0) hC (Or.inr ⟨rfl, (fun h9 => h9.2.2 ⟨Int32.not_lt.mp (hq5 ▸ c_6_5404), Int32.not_lt.mp (hq5 ▸ c_19_5419)⟩)⟩) (by decide +kernel) dX12_isIn_76)
def K_m_bitsX (l : Launch) (G : GG) (se : Int32) : Prop := MP l G yX12_bits cX12_bits 3 (some .int) 1 [.int se] [] (fun r : Int32 => r = (BSUM se 16))
set_option maxHeartbeats 4000000 in
set_option maxRecDepth 100000 in
theorem m_bitsX (l : Launch) (G : GG) (se : Int32) : K_m_bitsX l G se := by
  refine MP.start (by decide +kernel) (Nat.le_of_ble_eq_true rfl) ?_
  intro p e s m below meth c ls hC hK hP hD hl
  refine absQ (fun Q0 hQ0 => ?_)
  have hl : lv_has ls 3 [(0, .int se)] := hl
  refine Kan8 hC (fun hx hb hr hml hB hown hlocks hnm => ?_)
  refine lv_iconst (v := 0) hx hb dX12_bits_0 (by decide) ?_
  refine lv_istore_n (lv' := [(1, .int 0), (0, .int se)]) hx hb dX12_bits_1 rfl hl (by decide) rfl (fun ls hl => ?_)
  refine lv_iconst (v := 0) hx hb dX12_bits_2 (by decide) ?_
  refine lv_istore_n (lv' := [(2, .int 0), (1, .int 0), (0, .int se)]) hx hb dX12_bits_3 rfl hl (by decide) rfl (fun ls hl => ?_)
  have keyP : ∀ (nP kP : Nat) (nn : Int32) (ls : Array Slot), kP + nP = 16 → (nn = BSUM se kP) → lv_has ls 3 [(2, .int (nI kP)), (1, .int nn), (0, .int se)] → W p l e (RM 1 0 0) s m ([.int se] : List Value).toArray below meth c s.heap [] 0 0 Q0 (F0 m 4 ls []) := by
    intro nP
    induction nP with
    | zero =>
      intro kP nn ls hkP hnn hl
      obtain rfl : 16 = kP := by omega
      have hl : lv_has ls 3 [(2, .int 16), (1, .int nn), (0, .int se)] := hl
      refine lv_iload_n hx hb dX12_bits_4 rfl (lv_at0 hl) ?_
      refine lv_bipush (v := 16) hx hb dX12_bits_5 (by decide) ?_
      refine lv_icmp_ge (tgt := 24) hx hb dX12_bits_7 (by decide) (fun _ => ?_) (fun c9 => absurd (by decide) c9)
      refine lv_iload_n hx hb dX12_bits_24 rfl (lv_at1 hl) ?_
      exact toQ hQ0 (RP (v := nn) hC (hnn) rfl dX12_bits_25)
    | succ nP ihP =>
      intro kP nn ls hkP hnn hl
      refine lv_iload_n hx hb dX12_bits_4 rfl (lv_at0 hl) ?_
      refine lv_bipush (v := 16) hx hb dX12_bits_5 (by decide) ?_
      refine lv_icmp_ge (tgt := 24) hx hb dX12_bits_7 (by decide) (fun c9 => absurd c9 (nI_ge (a := kP) (b := 16) (by omega) (by omega))) (fun _ => ?_)
      refine lv_iload_n hx hb dX12_bits_10 rfl (lv_at1 hl) ?_
      refine lv_iload_n hx hb dX12_bits_11 rfl (lv_at2 hl) ?_
      refine lv_iload_n hx hb dX12_bits_12 rfl (lv_at0 hl) ?_
      refine lv_ishr hx hb dX12_bits_13 ?_
      refine lv_iconst (v := 1) hx hb dX12_bits_14 (by decide) ?_
      refine lv_iand hx hb dX12_bits_15 ?_
      refine lv_iadd hx hb dX12_bits_16 ?_
      refine lv_istore_n (lv' := [(1, .int (nn + ((se >>> ((nI kP) &&& 31)) &&& 1))), (2, .int (nI kP)), (0, .int se)]) hx hb dX12_bits_17 rfl hl (by decide) rfl (fun ls hl => ?_)
      refine lv_iinc (v := nI (kP + 1)) (lv' := [(2, .int (nI (kP + 1))), (1, .int (nn + ((se >>> ((nI kP) &&& 31)) &&& 1))), (0, .int se)]) hx hb dX12_bits_18 hl (k := 1) rfl (nI_1 _) (by decide) rfl (fun ls hl => ?_)
      refine lv_goto (tgt := 4) hx hb dX12_bits_21 (by decide) ?_
      exact ihP (kP + 1) (nn + ((se >>> ((nI kP) &&& 31)) &&& 1)) _ (by omega) (by first | assumption | exact Or.inl rfl | exact Or.inr rfl | exact rfl | exact hnn ▸ rfl) (lv_sub hl [0, 1, 2] rfl)
  exact keyP 16 0 0 _ (by omega) (by first | assumption | exact Or.inl rfl | exact Or.inr rfl | exact rfl | exact hnn ▸ rfl) (lv_sub hl [0, 1, 2] rfl)
def K_m_inViewX (l : Launch) (G : GG) (kq : Nat) (h0 : Nat) (nw : Nat) (nk : Nat) (mhasKept : Int32) (nt : Nat) (mtaped : Int32) (nr : Nat) (mrowMany : Int32) (mroundOf : Int32) (mroundFrom : Int32) (nm : Nat) (mfromHour : Int32) (mtoHour : Int32) (ns : Nat) (mfrom : Int32) (mto : Int32) (msort : Int32) (misFault : Int32) (mdeep : Int32) (mcoded : Int32) (mlines : Int32) (nl : Nat) (nc : Nat) (nF : Nat) (np : Nat) (ntr : Nat) (nb : Nat) (mbestCost : Int32) (nso : Nat) (nsi : Nat) (nit : Nat) (nsh : Nat) (nsf : Nat) (nss : Nat) (nrc : Nat) (mtraced : Int32) (mdealer : Int32) (mnumber : Int32) (mwhose : Int32) (msize : Int32) (misParted : Int32) (fnw : Nat → Int32) : Prop := MP l G yX12_inView cX12_inView 3 (some .int) 3 [.ref h0] [(h0, oX12 nw nk mhasKept nt mtaped nr mrowMany mroundOf mroundFrom 0 nm mfromHour mtoHour ns mfrom mto msort misFault mdeep mcoded mlines nl nc nF np ntr nb mbestCost nso nsi nit nsh nsf nss nrc mtraced mdealer mnumber mwhose msize misParted), (nw, iA G 1662 fnw)] (fun r : Int32 => r = (IVW (shf fnw 32) (fnw 0) (fnw 1) (fnw 2) kq))
set_option maxHeartbeats 4000000 in
set_option maxRecDepth 100000 in
theorem m_inViewX (l : Launch) (G : GG) (kq : Nat) (h0 : Nat) (nw : Nat) (nk : Nat) (mhasKept : Int32) (nt : Nat) (mtaped : Int32) (nr : Nat) (mrowMany : Int32) (mroundOf : Int32) (mroundFrom : Int32) (nm : Nat) (mfromHour : Int32) (mtoHour : Int32) (ns : Nat) (mfrom : Int32) (mto : Int32) (msort : Int32) (misFault : Int32) (mdeep : Int32) (mcoded : Int32) (mlines : Int32) (nl : Nat) (nc : Nat) (nF : Nat) (np : Nat) (ntr : Nat) (nb : Nat) (mbestCost : Int32) (nso : Nat) (nsi : Nat) (nit : Nat) (nsh : Nat) (nsf : Nat) (nss : Nat) (nrc : Nat) (mtraced : Int32) (mdealer : Int32) (mnumber : Int32) (mwhose : Int32) (msize : Int32) (misParted : Int32) (fnw : Nat → Int32) (ekq : fnw 5 = nI kq) (hkq : kq ≤ 12) : K_m_inViewX l G kq h0 nw nk mhasKept nt mtaped nr mrowMany mroundOf mroundFrom nm mfromHour mtoHour ns mfrom mto msort misFault mdeep mcoded mlines nl nc nF np ntr nb mbestCost nso nsi nit nsh nsf nss nrc mtraced mdealer mnumber mwhose msize misParted fnw := by
  refine MP.start (by decide +kernel) (Nat.le_of_ble_eq_true rfl) ?_
  intro p e s m below meth c ls hC hK hP hD hl
  refine absQ (fun Q0 hQ0 => ?_)
  have hl : lv_has ls 3 [(0, .ref h0)] := hl
  refine Kan8 hC (fun hx hb hr hml hB hown hlocks hnm => ?_)
  refine lv_iconst (v := 0) hx hb dX12_inView_0 (by decide) ?_
  refine lv_istore_n (lv' := [(1, .int 0), (0, .ref h0)]) hx hb dX12_inView_1 rfl hl (by decide) rfl (fun ls hl => ?_)
  refine lv_iconst (v := 0) hx hb dX12_inView_2 (by decide) ?_
  refine lv_istore_n (lv' := [(2, .int 0), (1, .int 0), (0, .ref h0)]) hx hb dX12_inView_3 rfl hl (by decide) rfl (fun ls hl => ?_)
  have keyP : ∀ (nP kP : Nat) (se : Int32) (ls : Array Slot), kP + nP = kq → (se = IVW (shf fnw 32) (fnw 0) (fnw 1) (fnw 2) kP) → lv_has ls 3 [(2, .int (nI kP)), (1, .int se), (0, .ref h0)] → W p l e (RM 3 0 0) s m ([.ref h0] : List Value).toArray below meth c s.heap [] 0 0 Q0 (F0 m 4 ls []) := by
    intro nP
    induction nP with
    | zero =>
      intro kP se ls hkP hse hl
      obtain rfl : kq = kP := by omega
      have hl : lv_has ls 3 [(2, .int (nI kq)), (1, .int se), (0, .ref h0)] := hl
      refine lv_iload_n hx hb dX12_inView_4 rfl (lv_at0 hl) ?_
      refine lv_aload_n hx hb dX12_inView_5 rfl (lv_at2 hl) ?_
      refine gf_X12_9 hC rfl hK hP 0 rfl rfl dX12_inView_6 ?_
      refine lv_iconst (v := 5) hx hb dX12_inView_9 (by decide) ?_
      refine ald hC hK hP 1 rfl (vin (by decide +kernel)) (k := 5) (by decide +kernel) (v := nI kq) (ekq) dX12_inView_10 ?_
      refine lv_icmp_ge (tgt := 38) hx hb dX12_inView_11 (by decide) (fun _ => ?_) (fun c9 => absurd (Int32.le_refl _) c9)
      refine lv_iload_n hx hb dX12_inView_38 rfl (lv_at1 hl) ?_
      exact toQ hQ0 (RP (v := se) hC (hse) rfl dX12_inView_39)
    | succ nP ihP =>
      intro kP se ls hkP hse hl
      refine lv_iload_n hx hb dX12_inView_4 rfl (lv_at0 hl) ?_
      refine lv_aload_n hx hb dX12_inView_5 rfl (lv_at2 hl) ?_
      refine gf_X12_9 hC rfl hK hP 0 rfl rfl dX12_inView_6 ?_
      refine lv_iconst (v := 5) hx hb dX12_inView_9 (by decide) ?_
      refine ald hC hK hP 1 rfl (vin (by decide +kernel)) (k := 5) (by decide +kernel) (v := nI kq) (ekq) dX12_inView_10 ?_
      refine lv_icmp_ge (tgt := 38) hx hb dX12_inView_11 (by decide) (fun c9 => absurd c9 (nI_ge (a := kP) (b := kq) (by omega) (by omega))) (fun _ => ?_)
      refine lv_iload_n hx hb dX12_inView_14 rfl (lv_at1 hl) ?_
      refine lv_aload_n hx hb dX12_inView_15 rfl (lv_at2 hl) ?_
      refine lv_iload_n hx hb dX12_inView_16 rfl (lv_at0 hl) ?_
      refine pV hC hK hl hP hD (m_isInX l G h0 kP nw nk mhasKept nt mtaped nr mrowMany mroundOf mroundFrom nm mfromHour mtoHour ns mfrom mto msort misFault mdeep mcoded mlines nl nc nF np ntr nb mbestCost nso nsi nit nsh nsf nss nrc mtraced mdealer mnumber mwhose msize misParted fnw (by omega)) si_X12_103 [0, 1] sm_0_1 fm_0_1 nd_0_1 rfl rfl rfl rfl rfl (Nat.le_of_ble_eq_true rfl) rm_3_2_3 ⟨by first | exact Nat.le_of_ble_eq_true rfl | exact Nat.zero_le _, by first | exact Nat.le_of_ble_eq_true rfl | exact Nat.zero_le _⟩ dX12_inView_17 (Kors (Keqa fun a5439 => ?_) (Keqa fun a5439 => ?_))
      · refine lv_if_eq (tgt := 29) hx hb dX12_inView_20 (by decide) (fun c9 => absurd c9 (by decide)) (fun _ => ?_)
        refine lv_iconst (v := 1) hx hb dX12_inView_23 (by decide) ?_
        refine lv_iload_n hx hb dX12_inView_24 rfl (lv_at0 hl) ?_
        refine lv_ishl hx hb dX12_inView_25 ?_
        refine lv_goto (tgt := 30) hx hb dX12_inView_26 (by decide) ?_
        refine lv_ior hx hb dX12_inView_30 ?_
        refine lv_istore_n (lv' := [(1, .int (se ||| (1 <<< ((nI kP) &&& 31)))), (2, .int (nI kP)), (0, .ref h0)]) hx hb dX12_inView_31 rfl hl (by decide) rfl (fun ls hl => ?_)
        refine lv_iinc (v := nI (kP + 1)) (lv' := [(2, .int (nI (kP + 1))), (1, .int (se ||| (1 <<< ((nI kP) &&& 31)))), (0, .ref h0)]) hx hb dX12_inView_32 hl (k := 1) rfl (nI_1 _) (by decide) rfl (fun ls hl => ?_)
        refine lv_goto (tgt := 4) hx hb dX12_inView_35 (by decide) ?_
        have hst9 : se ||| (1 <<< ((nI kP) &&& 31)) = IVW (shf fnw 32) (fnw 0) (fnw 1) (fnw 2) (kP + 1) := (congrArg (fun z9 => z9 ||| 1 <<< (nI kP &&& 31)) hse).trans (ifc_t a5439).symm
        exact ihP (kP + 1) (se ||| (1 <<< ((nI kP) &&& 31))) _ (by omega) (by first | assumption | exact Or.inl rfl | exact Or.inr rfl | exact rfl) (lv_sub hl [0, 1, 2] rfl)
      · refine lv_if_eq (tgt := 29) hx hb dX12_inView_20 (by decide) (fun _ => ?_) (fun c9 => absurd (by decide) c9)
        refine lv_iconst (v := 0) hx hb dX12_inView_29 (by decide) ?_
        refine lv_ior hx hb dX12_inView_30 ?_
        refine lv_istore_n (lv' := [(1, .int (se ||| 0)), (2, .int (nI kP)), (0, .ref h0)]) hx hb dX12_inView_31 rfl hl (by decide) rfl (fun ls hl => ?_)
        refine lv_iinc (v := nI (kP + 1)) (lv' := [(2, .int (nI (kP + 1))), (1, .int (se ||| 0)), (0, .ref h0)]) hx hb dX12_inView_32 hl (k := 1) rfl (nI_1 _) (by decide) rfl (fun ls hl => ?_)
        refine lv_goto (tgt := 4) hx hb dX12_inView_35 (by decide) ?_
        have hst9 : se ||| 0 = IVW (shf fnw 32) (fnw 0) (fnw 1) (fnw 2) (kP + 1) := (Int32.or_zero).trans (hse.trans (ifc_f a5439).symm)
        exact ihP (kP + 1) (se ||| 0) _ (by omega) (by first | assumption | exact Or.inl rfl | exact Or.inr rfl | exact rfl) (lv_sub hl [0, 1, 2] rfl)
  exact keyP kq 0 0 _ (by omega) (by first | assumption | exact Or.inl rfl | exact Or.inr rfl | exact rfl) (lv_sub hl [0, 1, 2] rfl)
def K_w_view (l : Launch) (G : GG) (kq : Nat) (h0 : Nat) (x1 : Int32) (x2 : Int32) (nw : Nat) (nk : Nat) (mhasKept : Int32) (nt : Nat) (mtaped : Int32) (nr : Nat) (mrowMany : Int32) (mroundOf : Int32) (mroundFrom : Int32) (nm : Nat) (mfromHour : Int32) (mtoHour : Int32) (ns : Nat) (mfrom : Int32) (mto : Int32) (msort : Int32) (misFault : Int32) (mdeep : Int32) (mcoded : Int32) (mlines : Int32) (nl : Nat) (nc : Nat) (nF : Nat) (np : Nat) (ntr : Nat) (nb : Nat) (mbestCost : Int32) (nso : Nat) (nsi : Nat) (nit : Nat) (nsh : Nat) (nsf : Nat) (nss : Nat) (nrc : Nat) (mtraced : Int32) (mdealer : Int32) (mnumber : Int32) (mwhose : Int32) (msize : Int32) (misParted : Int32) (fnw : Nat → Int32) : Prop := MI l G yX12_view cX12_view 3 (some .int) 5 0 0 [.ref h0, .int x1, .int x2] [(h0, oX12 nw nk mhasKept nt mtaped nr mrowMany mroundOf mroundFrom 0 nm mfromHour mtoHour ns mfrom mto msort misFault mdeep mcoded mlines nl nc nF np ntr nb mbestCost nso nsi nit nsh nsf nss nrc mtraced mdealer mnumber mwhose msize misParted), (nw, iA G 1662 fnw)] (fun (r : Int32) (u : (Nat → Int32)) => (r = ifc (Wi x1 (-1) 499) (ifc (Wi x2 0 3) (BSUM (IVW (shf fnw 32) (fnw 0) x1 x2 kq) 16) (-1)) (-1)) ∧ (NI u ∧ VI u ∧ u 0 = fnw 0 ∧ u 1 = ifc (Wi x1 (-1) 499) (ifc (Wi x2 0 3) x1 (fnw 1)) (fnw 1) ∧ u 2 = ifc (Wi x1 (-1) 499) (ifc (Wi x2 0 3) x2 (fnw 2)) (fnw 2) ∧ u 3 = fnw 3 ∧ u 4 = fnw 4 ∧ u 5 = fnw 5 ∧ u 6 = fnw 6 ∧ u 8 = fnw 8 ∧ u 9 = fnw 9 ∧ u 10 = fnw 10 ∧ u 11 = fnw 11 ∧ FRO u fnw 0 0)) (fun u : (Nat → Int32) => [(h0, oX12 nw nk mhasKept nt mtaped nr mrowMany mroundOf mroundFrom 0 nm mfromHour mtoHour ns mfrom mto msort misFault mdeep mcoded mlines nl nc nF np ntr nb mbestCost nso nsi nit nsh nsf nss nrc mtraced mdealer mnumber mwhose msize misParted), (nw, iA G 1662 u)])
set_option maxHeartbeats 4000000 in
set_option maxRecDepth 100000 in
theorem w_view (l : Launch) (G : GG) (kq : Nat) (h0 : Nat) (x1 : Int32) (x2 : Int32) (nw : Nat) (nk : Nat) (mhasKept : Int32) (nt : Nat) (mtaped : Int32) (nr : Nat) (mrowMany : Int32) (mroundOf : Int32) (mroundFrom : Int32) (nm : Nat) (mfromHour : Int32) (mtoHour : Int32) (ns : Nat) (mfrom : Int32) (mto : Int32) (msort : Int32) (misFault : Int32) (mdeep : Int32) (mcoded : Int32) (mlines : Int32) (nl : Nat) (nc : Nat) (nF : Nat) (np : Nat) (ntr : Nat) (nb : Nat) (mbestCost : Int32) (nso : Nat) (nsi : Nat) (nit : Nat) (nsh : Nat) (nsf : Nat) (nss : Nat) (nrc : Nat) (mtraced : Int32) (mdealer : Int32) (mnumber : Int32) (mwhose : Int32) (msize : Int32) (misParted : Int32) (fnw : Nat → Int32) (ekq : fnw 5 = nI kq) (hkq : kq ≤ 12) (hN : NI fnw) (hV : VI fnw) : K_w_view l G kq h0 x1 x2 nw nk mhasKept nt mtaped nr mrowMany mroundOf mroundFrom nm mfromHour mtoHour ns mfrom mto msort misFault mdeep mcoded mlines nl nc nF np ntr nb mbestCost nso nsi nit nsh nsf nss nrc mtraced mdealer mnumber mwhose msize misParted fnw := by
  refine MI.start (by decide +kernel) (Nat.le_of_ble_eq_true rfl) ?_
  intro p e s m below meth c A ls hC hK hP hD hS hA hl
  refine absQ (fun Q0 hQ0 => ?_)
  have hl : lv_has ls 3 [(0, .ref h0), (1, .int x1), (2, .int x2)] := hl
  refine Kan8 hC (fun hx hb hr hml hB hown hlocks hnm => ?_)
  refine lv_iload_n hx hb dX12_view_0 rfl (lv_at1 hl) ?_
  refine lv_iconst (v := (-1)) hx hb dX12_view_1 (by decide) ?_
  refine lv_sipush (v := 499) hx hb dX12_view_2 (by decide) ?_
  refine pS hC hK hl (m_within l G x1 (-1) 499) si_X12_84 rfl rfl (Nat.le_of_ble_eq_true rfl) rm_5_1_3 ⟨by first | exact Nat.le_of_ble_eq_true rfl | exact Nat.zero_le _, by first | exact Nat.le_of_ble_eq_true rfl | exact Nat.zero_le _⟩ dX12_view_5 (Kors (Keqa fun a5441 => ?_) (Keqa fun a5441 => ?_))
  · refine lv_if_eq (tgt := 20) hx hb dX12_view_8 (by decide) (fun c9 => absurd c9 (by decide)) (fun _ => ?_)
    refine lv_iload_n hx hb dX12_view_11 rfl (lv_at2 hl) ?_
    refine lv_iconst (v := 0) hx hb dX12_view_12 (by decide) ?_
    refine lv_iconst (v := 3) hx hb dX12_view_13 (by decide) ?_
    refine pS hC hK hl (m_within l G x2 0 3) si_X12_84 rfl rfl (Nat.le_of_ble_eq_true rfl) rm_5_1_3 ⟨by first | exact Nat.le_of_ble_eq_true rfl | exact Nat.zero_le _, by first | exact Nat.le_of_ble_eq_true rfl | exact Nat.zero_le _⟩ dX12_view_14 (Kors (Keqa fun a5443 => ?_) (Keqa fun a5443 => ?_))
    · refine lv_if_ne (tgt := 22) hx hb dX12_view_17 (by decide) (fun _ => ?_) (fun c9 => absurd c9 (by decide))
      refine lv_aload_n hx hb dX12_view_22 rfl (lv_at0 hl) ?_
      refine gf_X12_9 hC rfl hK hP 0 rfl rfl dX12_view_23 ?_
      refine lv_iconst (v := 1) hx hb dX12_view_26 (by decide) ?_
      refine lv_iload_n hx hb dX12_view_27 rfl (lv_at1 hl) ?_
      refine ast hC hK hP hD hS 1 (ws' := [(h0, oX12 nw nk mhasKept nt mtaped nr mrowMany mroundOf mroundFrom 0 nm mfromHour mtoHour ns mfrom mto msort misFault mdeep mcoded mlines nl nc nF np ntr nb mbestCost nso nsi nit nsh nsf nss nrc mtraced mdealer mnumber mwhose msize misParted), (nw, iA G 1662 (upd fnw 1 x1))]) rfl (vin (by decide +kernel)) (k := 1) (by decide +kernel) (rfl) dX12_view_28 (fun H locs hP hD hS => ?_)
      refine lv_aload_n hx hb dX12_view_29 rfl (lv_at0 hl) ?_
      refine gf_X12_9 hC rfl hK hP 0 rfl rfl dX12_view_30 ?_
      refine lv_iconst (v := 2) hx hb dX12_view_33 (by decide) ?_
      refine lv_iload_n hx hb dX12_view_34 rfl (lv_at2 hl) ?_
      refine ast hC hK hP hD hS 1 (ws' := [(h0, oX12 nw nk mhasKept nt mtaped nr mrowMany mroundOf mroundFrom 0 nm mfromHour mtoHour ns mfrom mto msort misFault mdeep mcoded mlines nl nc nF np ntr nb mbestCost nso nsi nit nsh nsf nss nrc mtraced mdealer mnumber mwhose msize misParted), (nw, iA G 1662 (upd (upd fnw 1 x1) 2 x2))]) rfl (vin (by decide +kernel)) (k := 2) (by decide +kernel) (rfl) dX12_view_35 (fun H locs hP hD hS => ?_)
      have hN2 : NI (upd (upd fnw 1 x1) 2 x2) := ((hN).setA (bnd_low (by omega))).setA (bnd_low (by omega))
      have ekq2 : (upd (upd fnw 1 x1) 2 x2) 5 = nI kq := (upd_ne (by omega)).trans ((upd_ne (by omega)).trans ekq)
      refine lv_aload_n hx hb dX12_view_36 rfl (lv_at0 hl) ?_
      refine pV hC hK hl hP hD (m_inViewX l G kq h0 nw nk mhasKept nt mtaped nr mrowMany mroundOf mroundFrom nm mfromHour mtoHour ns mfrom mto msort misFault mdeep mcoded mlines nl nc nF np ntr nb mbestCost nso nsi nit nsh nsf nss nrc mtraced mdealer mnumber mwhose msize misParted (upd (upd fnw 1 x1) 2 x2) (ekq2) (hkq)) si_X12_107 [0, 1] sm_0_1 fm_0_1 nd_0_1 rfl rfl rfl rfl rfl (Nat.le_of_ble_eq_true rfl) rm_5_3_3 ⟨by first | exact Nat.le_of_ble_eq_true rfl | exact Nat.zero_le _, by first | exact Nat.le_of_ble_eq_true rfl | exact Nat.zero_le _⟩ dX12_view_37 (Keqr ?_)
      refine pS hC hK hl (m_bitsX l G (IVW (shf (upd (upd fnw 1 x1) 2 x2) 32) ((upd (upd fnw 1 x1) 2 x2) 0) ((upd (upd fnw 1 x1) 2 x2) 1) ((upd (upd fnw 1 x1) 2 x2) 2) kq)) si_X12_110 rfl rfl (Nat.le_of_ble_eq_true rfl) rm_5_1_3 ⟨by first | exact Nat.le_of_ble_eq_true rfl | exact Nat.zero_le _, by first | exact Nat.le_of_ble_eq_true rfl | exact Nat.zero_le _⟩ dX12_view_40 (Keqr ?_)
      exact toQ hQ0 (RI (v := (BSUM (IVW (shf (upd (upd fnw 1 x1) 2 x2) 32) ((upd (upd fnw 1 x1) 2 x2) 0) ((upd (upd fnw 1 x1) 2 x2) 1) ((upd (upd fnw 1 x1) 2 x2) 2) kq) 16)) hC hP hD hS [0, 1] (upd (upd fnw 1 x1) 2 x2) rfl rfl (by decide) (⟨(by first | rfl | (simp only [ifc_t ekq, ifc_t hkq, ifc_t hN, ifc_t hV, ifc_t a5441, ifc_t a5443, ifc_t hN2, ifc_t ekq2]; done) | (simp only [ifc_t ekq, ifc_t hkq, ifc_t hN, ifc_t hV, ifc_t a5441, ifc_t a5443, ifc_t hN2, ifc_t ekq2]; exact congrArg (fun z9 => BSUM (IVW z9 (fnw 0) x1 x2 kq) 16) ((sho (by omega)).trans (sho (by omega))))), ⟨((hN).setA (bnd_low (by omega))).setA (bnd_low (by omega)), ((hV).set (by omega)).set (by omega), (upd_ne (by omega)).trans (upd_ne (by omega)), (show _ = x1 from (upd_ne (by omega)).trans (upd_eq rfl)).trans (by first | rfl | (simp only [ifc_t ekq, ifc_t hkq, ifc_t hN, ifc_t hV, ifc_t a5441, ifc_t a5443, ifc_t hN2, ifc_t ekq2]; done) | (simp only [ifc_t ekq, ifc_t hkq, ifc_t hN, ifc_t hV, ifc_t a5441, ifc_t a5443, ifc_t hN2, ifc_t ekq2]; rfl)), (show _ = x2 from upd_eq rfl).trans (by first | rfl | (simp only [ifc_t ekq, ifc_t hkq, ifc_t hN, ifc_t hV, ifc_t a5441, ifc_t a5443, ifc_t hN2, ifc_t ekq2]; done) | (simp only [ifc_t ekq, ifc_t hkq, ifc_t hN, ifc_t hV, ifc_t a5441, ifc_t a5443, ifc_t hN2, ifc_t ekq2]; rfl)), (upd_ne (by omega)).trans (upd_ne (by omega)), (upd_ne (by omega)).trans (upd_ne (by omega)), (upd_ne (by omega)).trans (upd_ne (by omega)), (upd_ne (by omega)).trans (upd_ne (by omega)), (upd_ne (by omega)).trans (upd_ne (by omega)), (upd_ne (by omega)).trans (upd_ne (by omega)), (upd_ne (by omega)).trans (upd_ne (by omega)), (upd_ne (by omega)).trans (upd_ne (by omega)), ((FRO.rf).set (by omega)).set (by omega)⟩⟩) rfl dX12_view_43)
    · refine lv_if_ne (tgt := 22) hx hb dX12_view_17 (by decide) (fun c9 => absurd (by decide) c9) (fun _ => ?_)
      refine lv_iconst (v := (-1)) hx hb dX12_view_20 (by decide) ?_
      exact toQ hQ0 (RI (v := (-1)) hC hP hD hS [0, 1] fnw rfl rfl (by decide) (⟨(by first | rfl | (simp only [ifc_t ekq, ifc_t hkq, ifc_t hN, ifc_t hV, ifc_t a5441, ifc_f a5443]; done) | (simp only [ifc_t ekq, ifc_t hkq, ifc_t hN, ifc_t hV, ifc_t a5441, ifc_f a5443]; exact congrArg (fun z9 => BSUM (IVW z9 (fnw 0) x1 x2 kq) 16) ((sho (by omega)).trans (sho (by omega))))), ⟨hN, hV, rfl, (rfl).trans ((by first | rfl | (simp only [ifc_t ekq, ifc_t hkq, ifc_t hN, ifc_t hV, ifc_t a5441, ifc_f a5443]; done) | (simp only [ifc_t ekq, ifc_t hkq, ifc_t hN, ifc_t hV, ifc_t a5441, ifc_f a5443]; rfl))), (rfl).trans ((by first | rfl | (simp only [ifc_t ekq, ifc_t hkq, ifc_t hN, ifc_t hV, ifc_t a5441, ifc_f a5443]; done) | (simp only [ifc_t ekq, ifc_t hkq, ifc_t hN, ifc_t hV, ifc_t a5441, ifc_f a5443]; rfl))), rfl, rfl, rfl, rfl, rfl, rfl, rfl, rfl, FRO.rf⟩⟩) rfl dX12_view_21)
  · refine lv_if_eq (tgt := 20) hx hb dX12_view_8 (by decide) (fun _ => ?_) (fun c9 => absurd (by decide) c9)
    refine lv_iconst (v := (-1)) hx hb dX12_view_20 (by decide) ?_
    exact toQ hQ0 (RI (v := (-1)) hC hP hD hS [0, 1] fnw rfl rfl (by decide) (⟨(by first | rfl | (simp only [ifc_t ekq, ifc_t hkq, ifc_t hN, ifc_t hV, ifc_f a5441]; done) | (simp only [ifc_t ekq, ifc_t hkq, ifc_t hN, ifc_t hV, ifc_f a5441]; exact congrArg (fun z9 => BSUM (IVW z9 (fnw 0) x1 x2 kq) 16) ((sho (by omega)).trans (sho (by omega))))), ⟨hN, hV, rfl, (rfl).trans ((by first | rfl | (simp only [ifc_t ekq, ifc_t hkq, ifc_t hN, ifc_t hV, ifc_f a5441]; done) | (simp only [ifc_t ekq, ifc_t hkq, ifc_t hN, ifc_t hV, ifc_f a5441]; rfl))), (rfl).trans ((by first | rfl | (simp only [ifc_t ekq, ifc_t hkq, ifc_t hN, ifc_t hV, ifc_f a5441]; done) | (simp only [ifc_t ekq, ifc_t hkq, ifc_t hN, ifc_t hV, ifc_f a5441]; rfl))), rfl, rfl, rfl, rfl, rfl, rfl, rfl, rfl, FRO.rf⟩⟩) rfl dX12_view_21)
def K_w_person (l : Launch) (G : GG) (kp : Nat) (h0 : Nat) (x1 : Int32) (x2 : Int32) (nw : Nat) (nk : Nat) (mhasKept : Int32) (nt : Nat) (mtaped : Int32) (nr : Nat) (mrowMany : Int32) (mroundOf : Int32) (mroundFrom : Int32) (mouts : Int32) (nm : Nat) (mfromHour : Int32) (mtoHour : Int32) (ns : Nat) (mfrom : Int32) (mto : Int32) (msort : Int32) (misFault : Int32) (mdeep : Int32) (mcoded : Int32) (mlines : Int32) (nl : Nat) (nc : Nat) (nF : Nat) (np : Nat) (ntr : Nat) (nb : Nat) (mbestCost : Int32) (nso : Nat) (nsi : Nat) (nit : Nat) (nsh : Nat) (nsf : Nat) (nss : Nat) (nrc : Nat) (mtraced : Int32) (mdealer : Int32) (mnumber : Int32) (mwhose : Int32) (msize : Int32) (misParted : Int32) (fnw : Nat → Int32) : Prop := MI l G yX12_person cX12_person 4 (some .int) 2 0 0 [.ref h0, .int x1, .int x2] [(h0, oX12 nw nk mhasKept nt mtaped nr mrowMany mroundOf mroundFrom mouts nm mfromHour mtoHour ns mfrom mto msort misFault mdeep mcoded mlines nl nc nF np ntr nb mbestCost nso nsi nit nsh nsf nss nrc mtraced mdealer mnumber mwhose msize misParted), (nw, iA G 1662 fnw)] (fun (r : Int32) (u : (Nat → Int32)) => (r = ifc (Wi x1 0 9) (ifc (Wi x2 0 48) (ifc (nI kp = 10) (-2) (nI kp)) (-1)) (-1)) ∧ (NI u ∧ VI u ∧ u 0 = fnw 0 ∧ u 1 = fnw 1 ∧ u 2 = fnw 2 ∧ u 3 = fnw 3 ∧ u 4 = ifc (Wi x1 0 9) (ifc (Wi x2 0 48) (ifc (nI kp = 10) (nI kp) (nI (kp + 1))) (nI kp)) (nI kp) ∧ u 5 = fnw 5 ∧ u 6 = fnw 6 ∧ u 8 = fnw 8 ∧ u 9 = fnw 9 ∧ u 10 = fnw 10 ∧ u 11 = fnw 11 ∧ FRO u fnw 12 32 ∧ ∀ i : Nat, i < 20 → u (12 + i) = ifc (Wi x1 0 9) (ifc (Wi x2 0 48) (ifc (nI kp = 10) (fnw (12 + i)) (rowu (shf fnw 12) (kp * 2) [x1, x2] i)) (fnw (12 + i))) (fnw (12 + i)))) (fun u : (Nat → Int32) => [(h0, oX12 nw nk mhasKept nt mtaped nr mrowMany mroundOf mroundFrom mouts nm mfromHour mtoHour ns mfrom mto msort misFault mdeep mcoded mlines nl nc nF np ntr nb mbestCost nso nsi nit nsh nsf nss nrc mtraced mdealer mnumber mwhose msize misParted), (nw, iA G 1662 u)])
set_option maxHeartbeats 4000000 in
set_option maxRecDepth 100000 in
theorem w_person (l : Launch) (G : GG) (kp : Nat) (h0 : Nat) (x1 : Int32) (x2 : Int32) (nw : Nat) (nk : Nat) (mhasKept : Int32) (nt : Nat) (mtaped : Int32) (nr : Nat) (mrowMany : Int32) (mroundOf : Int32) (mroundFrom : Int32) (mouts : Int32) (nm : Nat) (mfromHour : Int32) (mtoHour : Int32) (ns : Nat) (mfrom : Int32) (mto : Int32) (msort : Int32) (misFault : Int32) (mdeep : Int32) (mcoded : Int32) (mlines : Int32) (nl : Nat) (nc : Nat) (nF : Nat) (np : Nat) (ntr : Nat) (nb : Nat) (mbestCost : Int32) (nso : Nat) (nsi : Nat) (nit : Nat) (nsh : Nat) (nsf : Nat) (nss : Nat) (nrc : Nat) (mtraced : Int32) (mdealer : Int32) (mnumber : Int32) (mwhose : Int32) (msize : Int32) (misParted : Int32) (fnw : Nat → Int32) (ekp : fnw 4 = nI kp) (hkp : kp ≤ 10) (hN : NI fnw) (hV : VI fnw) : K_w_person l G kp h0 x1 x2 nw nk mhasKept nt mtaped nr mrowMany mroundOf mroundFrom mouts nm mfromHour mtoHour ns mfrom mto msort misFault mdeep mcoded mlines nl nc nF np ntr nb mbestCost nso nsi nit nsh nsf nss nrc mtraced mdealer mnumber mwhose msize misParted fnw := by
  refine MI.start (by decide +kernel) (Nat.le_of_ble_eq_true rfl) ?_
  intro p e s m below meth c A ls hC hK hP hD hS hA hl
  refine absQ (fun Q0 hQ0 => ?_)
  have hl : lv_has ls 4 [(0, .ref h0), (1, .int x1), (2, .int x2)] := hl
  refine Kan8 hC (fun hx hb hr hml hB hown hlocks hnm => ?_)
  refine lv_iload_n hx hb dX12_person_0 rfl (lv_at1 hl) ?_
  refine lv_iconst (v := 0) hx hb dX12_person_1 (by decide) ?_
  refine lv_bipush (v := 9) hx hb dX12_person_2 (by decide) ?_
  refine pS hC hK hl (m_within l G x1 0 9) si_X12_84 rfl rfl (Nat.le_of_ble_eq_true rfl) rm_2_1_3 ⟨by first | exact Nat.le_of_ble_eq_true rfl | exact Nat.zero_le _, by first | exact Nat.le_of_ble_eq_true rfl | exact Nat.zero_le _⟩ dX12_person_4 (Kors (Keqa fun a5449 => ?_) (Keqa fun a5449 => ?_))
  · refine lv_if_eq (tgt := 20) hx hb dX12_person_7 (by decide) (fun c9 => absurd c9 (by decide)) (fun _ => ?_)
    refine lv_iload_n hx hb dX12_person_10 rfl (lv_at2 hl) ?_
    refine lv_iconst (v := 0) hx hb dX12_person_11 (by decide) ?_
    refine lv_bipush (v := 48) hx hb dX12_person_12 (by decide) ?_
    refine pS hC hK hl (m_within l G x2 0 48) si_X12_84 rfl rfl (Nat.le_of_ble_eq_true rfl) rm_2_1_3 ⟨by first | exact Nat.le_of_ble_eq_true rfl | exact Nat.zero_le _, by first | exact Nat.le_of_ble_eq_true rfl | exact Nat.zero_le _⟩ dX12_person_14 (Kors (Keqa fun a5451 => ?_) (Keqa fun a5451 => ?_))
    · refine lv_if_ne (tgt := 22) hx hb dX12_person_17 (by decide) (fun _ => ?_) (fun c9 => absurd c9 (by decide))
      refine lv_aload_n hx hb dX12_person_22 rfl (lv_at0 hl) ?_
      refine gf_X12_9 hC rfl hK hP 0 rfl rfl dX12_person_23 ?_
      refine lv_iconst (v := 4) hx hb dX12_person_26 (by decide) ?_
      refine ald hC hK hP 1 rfl (vin (by decide +kernel)) (k := 4) (by decide +kernel) (v := nI kp) (ekp) dX12_person_27 ?_
      refine lv_istore_n (lv' := [(3, .int (nI kp)), (0, .ref h0), (1, .int x1), (2, .int x2)]) hx hb dX12_person_28 rfl hl (by decide) rfl (fun ls hl => ?_)
      refine lv_iload_n hx hb dX12_person_29 rfl (lv_at0 hl) ?_
      refine lv_bipush (v := 10) hx hb dX12_person_30 (by decide) ?_
      refine lv_icmp_ne (tgt := 38) hx hb dX12_person_32 (by decide) (fun c_32_5452 => ?_) (fun c_32_5452 => ?_)
      · have hfull9 := nI_neq (a := kp) (b := 10) (by omega) (by decide) c_32_5452
        obtain ⟨ja, hja, rfl⟩ := Wi_nat (N := 9) (by decide) a5449
        obtain ⟨jb, hjb, rfl⟩ := Wi_nat (N := 48) (by decide) a5451
        refine lv_aload_n hx hb dX12_person_38 rfl (lv_at1 hl) ?_
        refine gf_X12_9 hC rfl hK hP 0 rfl rfl dX12_person_39 ?_
        refine lv_bipush (v := 12) hx hb dX12_person_42 (by decide) ?_
        refine lv_iconst (v := 2) hx hb dX12_person_44 (by decide) ?_
        refine lv_iload_n hx hb dX12_person_45 rfl (lv_at0 hl) ?_
        refine lv_imul hx hb dX12_person_46 ?_
        refine eqi (x1 := nI (2 * kp)) (nI_mul 2 kp) ?_
        refine lv_iadd hx hb dX12_person_47 ?_
        refine eqi (x1 := nI (12 + 2 * kp)) (nI_add 12 (2 * kp)) ?_
        refine lv_iload_n hx hb dX12_person_48 rfl (lv_at2 hl) ?_
        refine astN hC hK hP hD hS 1 (ws' := [(h0, oX12 nw nk mhasKept nt mtaped nr mrowMany mroundOf mroundFrom mouts nm mfromHour mtoHour ns mfrom mto msort misFault mdeep mcoded mlines nl nc nF np ntr nb mbestCost nso nsi nit nsh nsf nss nrc mtraced mdealer mnumber mwhose msize misParted), (nw, iA G 1662 (upd fnw (12 + 2 * kp) (nI ja)))]) rfl (k := (12 + 2 * kp)) (by omega) (Nat.le_of_ble_eq_true rfl) (rfl) dX12_person_49 (fun H locs hP hD hS => ?_)
        refine lv_aload_n hx hb dX12_person_50 rfl (lv_at1 hl) ?_
        refine gf_X12_9 hC rfl hK hP 0 rfl rfl dX12_person_51 ?_
        refine lv_bipush (v := 12) hx hb dX12_person_54 (by decide) ?_
        refine lv_iconst (v := 2) hx hb dX12_person_56 (by decide) ?_
        refine lv_iload_n hx hb dX12_person_57 rfl (lv_at0 hl) ?_
        refine lv_imul hx hb dX12_person_58 ?_
        refine eqi (x1 := nI (2 * kp)) (nI_mul 2 kp) ?_
        refine lv_iadd hx hb dX12_person_59 ?_
        refine eqi (x1 := nI (12 + 2 * kp)) (nI_add 12 (2 * kp)) ?_
        refine lv_iconst (v := 1) hx hb dX12_person_60 (by decide) ?_
        refine lv_iadd hx hb dX12_person_61 ?_
        refine eqi (x1 := nI (12 + 2 * kp + 1)) (nI_add (12 + 2 * kp) 1) ?_
        refine lv_iload_n hx hb dX12_person_62 rfl (lv_at3 hl) ?_
        refine astN hC hK hP hD hS 1 (ws' := [(h0, oX12 nw nk mhasKept nt mtaped nr mrowMany mroundOf mroundFrom mouts nm mfromHour mtoHour ns mfrom mto msort misFault mdeep mcoded mlines nl nc nF np ntr nb mbestCost nso nsi nit nsh nsf nss nrc mtraced mdealer mnumber mwhose msize misParted), (nw, iA G 1662 (upd (upd fnw (12 + 2 * kp) (nI ja)) (12 + 2 * kp + 1) (nI jb)))]) rfl (k := (12 + 2 * kp + 1)) (by omega) (Nat.le_of_ble_eq_true rfl) (rfl) dX12_person_63 (fun H locs hP hD hS => ?_)
        refine lv_aload_n hx hb dX12_person_64 rfl (lv_at1 hl) ?_
        refine gf_X12_9 hC rfl hK hP 0 rfl rfl dX12_person_65 ?_
        refine lv_iconst (v := 4) hx hb dX12_person_68 (by decide) ?_
        refine lv_dup2_11 hx hb dX12_person_69 rfl rfl ?_
        refine ald hC hK hP 1 rfl (vin (by decide +kernel)) (k := 4) (by decide +kernel) (v := nI kp) ((upd_ne (by omega)).trans ((upd_ne (by omega)).trans (ekp))) dX12_person_70 ?_
        refine lv_iconst (v := 1) hx hb dX12_person_71 (by decide) ?_
        refine lv_iadd hx hb dX12_person_72 ?_
        refine eqi (x1 := nI (kp + 1)) (nI_add kp 1) ?_
        refine ast hC hK hP hD hS 1 (ws' := [(h0, oX12 nw nk mhasKept nt mtaped nr mrowMany mroundOf mroundFrom mouts nm mfromHour mtoHour ns mfrom mto msort misFault mdeep mcoded mlines nl nc nF np ntr nb mbestCost nso nsi nit nsh nsf nss nrc mtraced mdealer mnumber mwhose msize misParted), (nw, iA G 1662 (upd (upd (upd fnw (12 + 2 * kp) (nI ja)) (12 + 2 * kp + 1) (nI jb)) 4 (nI (kp + 1))))]) rfl (vin (by decide +kernel)) (k := 4) (by decide +kernel) (rfl) dX12_person_73 (fun H locs hP hD hS => ?_)
        refine lv_iload_n hx hb dX12_person_74 rfl (lv_at0 hl) ?_
        have tu5453 : shf (upd (upd (upd fnw (12 + 2 * kp) (nI ja)) (12 + 2 * kp + 1) (nI jb)) 4 (nI (kp + 1))) 12 = rowu (shf fnw 12) (kp * 2) [(nI ja), (nI jb)] := by rw [sho (by omega), shu (j := kp * 2 + 1) (by omega), shu (j := kp * 2 + 0) (by omega)]; rfl
        exact toQ hQ0 (RI (v := nI kp) hC hP hD hS [0, 1] (upd (upd (upd fnw (12 + 2 * kp) (nI ja)) (12 + 2 * kp + 1) (nI jb)) 4 (nI (kp + 1))) rfl rfl (by decide) (⟨(by first | rfl | (simp only [ifc_t ekp, ifc_t hkp, ifc_t hN, ifc_t hV, ifc_t a5449, ifc_t a5451, ifc_f c_32_5452]; done) | (simp only [ifc_t ekp, ifc_t hkp, ifc_t hN, ifc_t hV, ifc_t a5449, ifc_t a5451, ifc_f c_32_5452]; rfl)), ⟨(((hN).setN (B := 48) (bnd_per (by omega) (by omega)) (by omega) (by decide)).setN (B := 48) (bnd_per (by omega) (by omega)) (by omega) (by decide)).setN (B := 10) (show bnd 4 = (0, ((10 : Nat) : Int)) from by decide +kernel) (by omega) (by decide), (((hV).set (by omega)).set (by omega)).set (by omega), (upd_ne (by omega)).trans ((upd_ne (by omega)).trans (upd_ne (by omega))), (upd_ne (by omega)).trans ((upd_ne (by omega)).trans (upd_ne (by omega))), (upd_ne (by omega)).trans ((upd_ne (by omega)).trans (upd_ne (by omega))), (upd_ne (by omega)).trans ((upd_ne (by omega)).trans (upd_ne (by omega))), (show _ = (nI (kp + 1)) from upd_eq rfl).trans (by first | rfl | (simp only [ifc_t ekp, ifc_t hkp, ifc_t hN, ifc_t hV, ifc_t a5449, ifc_t a5451, ifc_f c_32_5452]; done) | (simp only [ifc_t ekp, ifc_t hkp, ifc_t hN, ifc_t hV, ifc_t a5449, ifc_t a5451, ifc_f c_32_5452]; rfl)), (upd_ne (by omega)).trans ((upd_ne (by omega)).trans (upd_ne (by omega))), (upd_ne (by omega)).trans ((upd_ne (by omega)).trans (upd_ne (by omega))), (upd_ne (by omega)).trans ((upd_ne (by omega)).trans (upd_ne (by omega))), (upd_ne (by omega)).trans ((upd_ne (by omega)).trans (upd_ne (by omega))), (upd_ne (by omega)).trans ((upd_ne (by omega)).trans (upd_ne (by omega))), (upd_ne (by omega)).trans ((upd_ne (by omega)).trans (upd_ne (by omega))), (((FRO.rf).set (by omega)).set (by omega)).set (by omega), (fun i hi9 => by simp only [ifc_t ekp, ifc_t hkp, ifc_t hN, ifc_t hV, ifc_t a5449, ifc_t a5451, ifc_f c_32_5452]; exact (congrFun tu5453 i).trans (by first | rfl | (simp only [SCX]; done)))⟩⟩) rfl dX12_person_75)
      · refine lv_bipush (v := (-2)) hx hb dX12_person_35 (by decide) ?_
        exact toQ hQ0 (RI (v := (-2)) hC hP hD hS [0, 1] fnw rfl rfl (by decide) (⟨(by first | rfl | (simp only [ifc_t ekp, ifc_t hkp, ifc_t hN, ifc_t hV, ifc_t a5449, ifc_t a5451, ifc_t c_32_5452]; done) | (simp only [ifc_t ekp, ifc_t hkp, ifc_t hN, ifc_t hV, ifc_t a5449, ifc_t a5451, ifc_t c_32_5452]; rfl)), ⟨hN, hV, rfl, rfl, rfl, rfl, (rfl).trans ((ekp).trans (by first | rfl | (simp only [ifc_t ekp, ifc_t hkp, ifc_t hN, ifc_t hV, ifc_t a5449, ifc_t a5451, ifc_t c_32_5452]; done) | (simp only [ifc_t ekp, ifc_t hkp, ifc_t hN, ifc_t hV, ifc_t a5449, ifc_t a5451, ifc_t c_32_5452]; rfl))), rfl, rfl, rfl, rfl, rfl, rfl, FRO.rf, (fun i hi9 => by first | rfl | (simp only [ifc_t ekp, ifc_t hkp, ifc_t hN, ifc_t hV, ifc_t a5449, ifc_t a5451, ifc_t c_32_5452]; done))⟩⟩) rfl dX12_person_37)
    · refine lv_if_ne (tgt := 22) hx hb dX12_person_17 (by decide) (fun c9 => absurd (by decide) c9) (fun _ => ?_)
      refine lv_iconst (v := (-1)) hx hb dX12_person_20 (by decide) ?_
      exact toQ hQ0 (RI (v := (-1)) hC hP hD hS [0, 1] fnw rfl rfl (by decide) (⟨(by first | rfl | (simp only [ifc_t ekp, ifc_t hkp, ifc_t hN, ifc_t hV, ifc_t a5449, ifc_f a5451]; done) | (simp only [ifc_t ekp, ifc_t hkp, ifc_t hN, ifc_t hV, ifc_t a5449, ifc_f a5451]; rfl)), ⟨hN, hV, rfl, rfl, rfl, rfl, (rfl).trans ((ekp).trans (by first | rfl | (simp only [ifc_t ekp, ifc_t hkp, ifc_t hN, ifc_t hV, ifc_t a5449, ifc_f a5451]; done) | (simp only [ifc_t ekp, ifc_t hkp, ifc_t hN, ifc_t hV, ifc_t a5449, ifc_f a5451]; rfl))), rfl, rfl, rfl, rfl, rfl, rfl, FRO.rf, (fun i hi9 => by first | rfl | (simp only [ifc_t ekp, ifc_t hkp, ifc_t hN, ifc_t hV, ifc_t a5449, ifc_f a5451]; done))⟩⟩) rfl dX12_person_21)
  · refine lv_if_eq (tgt := 20) hx hb dX12_person_7 (by decide) (fun _ => ?_) (fun c9 => absurd (by decide) c9)
    refine lv_iconst (v := (-1)) hx hb dX12_person_20 (by decide) ?_
    exact toQ hQ0 (RI (v := (-1)) hC hP hD hS [0, 1] fnw rfl rfl (by decide) (⟨(by first | rfl | (simp only [ifc_t ekp, ifc_t hkp, ifc_t hN, ifc_t hV, ifc_f a5449]; done) | (simp only [ifc_t ekp, ifc_t hkp, ifc_t hN, ifc_t hV, ifc_f a5449]; rfl)), ⟨hN, hV, rfl, rfl, rfl, rfl, (rfl).trans ((ekp).trans (by first | rfl | (simp only [ifc_t ekp, ifc_t hkp, ifc_t hN, ifc_t hV, ifc_f a5449]; done) | (simp only [ifc_t ekp, ifc_t hkp, ifc_t hN, ifc_t hV, ifc_f a5449]; rfl))), rfl, rfl, rfl, rfl, rfl, rfl, FRO.rf, (fun i hi9 => by first | rfl | (simp only [ifc_t ekp, ifc_t hkp, ifc_t hN, ifc_t hV, ifc_f a5449]; done))⟩⟩) rfl dX12_person_21)
def K_w_paper (l : Launch) (G : GG) (kp : Nat) (kq : Nat) (h0 : Nat) (x1 : Int32) (x2 : Int32) (x3 : Int32) (x4 : Int32) (nw : Nat) (nk : Nat) (mhasKept : Int32) (nt : Nat) (mtaped : Int32) (nr : Nat) (mrowMany : Int32) (mroundOf : Int32) (mroundFrom : Int32) (mouts : Int32) (nm : Nat) (mfromHour : Int32) (mtoHour : Int32) (ns : Nat) (mfrom : Int32) (mto : Int32) (msort : Int32) (misFault : Int32) (mdeep : Int32) (mcoded : Int32) (mlines : Int32) (nl : Nat) (nc : Nat) (nF : Nat) (np : Nat) (ntr : Nat) (nb : Nat) (mbestCost : Int32) (nso : Nat) (nsi : Nat) (nit : Nat) (nsh : Nat) (nsf : Nat) (nss : Nat) (nrc : Nat) (mtraced : Int32) (mdealer : Int32) (mnumber : Int32) (mwhose : Int32) (msize : Int32) (misParted : Int32) (fnw : Nat → Int32) : Prop := MI l G yX12_paper_ cX12_paper_ 7 (some .int) 3 0 0 [.ref h0, .int x1, .int x2, .int x3, .int x4] [(h0, oX12 nw nk mhasKept nt mtaped nr mrowMany mroundOf mroundFrom mouts nm mfromHour mtoHour ns mfrom mto msort misFault mdeep mcoded mlines nl nc nF np ntr nb mbestCost nso nsi nit nsh nsf nss nrc mtraced mdealer mnumber mwhose msize misParted), (nw, iA G 1662 fnw)] (fun (r : Int32) (u : (Nat → Int32)) => (r = ifc (Hs x1 kp) (ifc (HA kp x2) (ifc (Wi x3 0 255) (ifc (Wi x4 0 3) (ifc (nI kq = 12) (-2) (nI kq)) (-1)) (-1)) (-1)) (-1)) ∧ (NI u ∧ VI u ∧ u 0 = fnw 0 ∧ u 1 = fnw 1 ∧ u 2 = fnw 2 ∧ u 3 = fnw 3 ∧ u 4 = fnw 4 ∧ u 5 = ifc (Hs x1 kp) (ifc (HA kp x2) (ifc (Wi x3 0 255) (ifc (Wi x4 0 3) (ifc (nI kq = 12) (nI kq) (nI (kq + 1))) (nI kq)) (nI kq)) (nI kq)) (nI kq) ∧ u 6 = fnw 6 ∧ u 8 = fnw 8 ∧ u 9 = fnw 9 ∧ u 10 = fnw 10 ∧ u 11 = fnw 11 ∧ FRO u fnw 32 104 ∧ ∀ i : Nat, i < 72 → u (32 + i) = ifc (Hs x1 kp) (ifc (HA kp x2) (ifc (Wi x3 0 255) (ifc (Wi x4 0 3) (ifc (nI kq = 12) (fnw (32 + i)) (rowu (shf fnw 32) (kq * 6) [x1, x2, x3, x4, fnw 0, (-1)] i)) (fnw (32 + i))) (fnw (32 + i))) (fnw (32 + i))) (fnw (32 + i)))) (fun u : (Nat → Int32) => [(h0, oX12 nw nk mhasKept nt mtaped nr mrowMany mroundOf mroundFrom mouts nm mfromHour mtoHour ns mfrom mto msort misFault mdeep mcoded mlines nl nc nF np ntr nb mbestCost nso nsi nit nsh nsf nss nrc mtraced mdealer mnumber mwhose msize misParted), (nw, iA G 1662 u)])
set_option maxHeartbeats 4000000 in
set_option maxRecDepth 100000 in
theorem w_paper (l : Launch) (G : GG) (kp : Nat) (kq : Nat) (h0 : Nat) (x1 : Int32) (x2 : Int32) (x3 : Int32) (x4 : Int32) (nw : Nat) (nk : Nat) (mhasKept : Int32) (nt : Nat) (mtaped : Int32) (nr : Nat) (mrowMany : Int32) (mroundOf : Int32) (mroundFrom : Int32) (mouts : Int32) (nm : Nat) (mfromHour : Int32) (mtoHour : Int32) (ns : Nat) (mfrom : Int32) (mto : Int32) (msort : Int32) (misFault : Int32) (mdeep : Int32) (mcoded : Int32) (mlines : Int32) (nl : Nat) (nc : Nat) (nF : Nat) (np : Nat) (ntr : Nat) (nb : Nat) (mbestCost : Int32) (nso : Nat) (nsi : Nat) (nit : Nat) (nsh : Nat) (nsf : Nat) (nss : Nat) (nrc : Nat) (mtraced : Int32) (mdealer : Int32) (mnumber : Int32) (mwhose : Int32) (msize : Int32) (misParted : Int32) (fnw : Nat → Int32) (ekp : fnw 4 = nI kp) (hkp : kp ≤ 10) (ekq : fnw 5 = nI kq) (hkq : kq ≤ 12) (hN : NI fnw) (hV : VI fnw) : K_w_paper l G kp kq h0 x1 x2 x3 x4 nw nk mhasKept nt mtaped nr mrowMany mroundOf mroundFrom mouts nm mfromHour mtoHour ns mfrom mto msort misFault mdeep mcoded mlines nl nc nF np ntr nb mbestCost nso nsi nit nsh nsf nss nrc mtraced mdealer mnumber mwhose msize misParted fnw := by
  refine MI.start (by decide +kernel) (Nat.le_of_ble_eq_true rfl) ?_
  intro p e s m below meth c A ls hC hK hP hD hS hA hl
  refine absQ (fun Q0 hQ0 => ?_)
  have hl : lv_has ls 7 [(0, .ref h0), (1, .int x1), (2, .int x2), (3, .int x3), (4, .int x4)] := hl
  refine Kan8 hC (fun hx hb hr hml hB hown hlocks hnm => ?_)
  refine lv_aload_n hx hb dX12_paper__0 rfl (lv_at0 hl) ?_
  refine lv_iload_n hx hb dX12_paper__1 rfl (lv_at1 hl) ?_
  refine lv_iconst (v := 4) hx hb dX12_paper__2 (by decide) ?_
  refine pV hC hK hl hP hD (m_is l G kp h0 x1 4 nw nk mhasKept nt mtaped nr mrowMany mroundOf mroundFrom mouts nm mfromHour mtoHour ns mfrom mto msort misFault mdeep mcoded mlines nl nc nF np ntr nb mbestCost nso nsi nit nsh nsf nss nrc mtraced mdealer mnumber mwhose msize misParted fnw (by omega) (ekp) (by omega)) si_X12_120 [0, 1] sm_0_1 fm_0_1 nd_0_1 rfl rfl rfl rfl rfl (Nat.le_of_ble_eq_true rfl) rm_3_2_3 ⟨by first | exact Nat.le_of_ble_eq_true rfl | exact Nat.zero_le _, by first | exact Nat.le_of_ble_eq_true rfl | exact Nat.zero_le _⟩ dX12_paper__3 (Kors (Keqa fun a5455 => ?_) (Keqa fun a5455 => ?_))
  · refine lv_if_eq (tgt := 46) hx hb dX12_paper__6 (by decide) (fun c9 => absurd c9 (by decide)) (fun _ => ?_)
    refine lv_iload_n hx hb dX12_paper__9 rfl (lv_at2 hl) ?_
    refine lv_if_lt (tgt := 46) hx hb dX12_paper__10 (by decide) (fun c_10_5456 => ?_) (fun c_10_5456 => ?_)
    · refine lv_iconst (v := (-1)) hx hb dX12_paper__46 (by decide) ?_
      exact toQ hQ0 (RI (v := (-1)) hC hP hD hS [0, 1] fnw rfl rfl (by decide) (⟨(by first | rfl | (simp only [ifc_t ekp, ifc_t hkp, ifc_t ekq, ifc_t hkq, ifc_t hN, ifc_t hV, ifc_t a5455, ifc_t c_10_5456, ifc_f (q := HA kp x2) (fun h9 => h9.1 c_10_5456)]; done) | (simp only [ifc_t ekp, ifc_t hkp, ifc_t ekq, ifc_t hkq, ifc_t hN, ifc_t hV, ifc_t a5455, ifc_t c_10_5456, ifc_f (q := HA kp x2) (fun h9 => h9.1 c_10_5456)]; rfl)), ⟨hN, hV, rfl, rfl, rfl, rfl, rfl, (rfl).trans ((ekq).trans (by first | rfl | (simp only [ifc_t ekp, ifc_t hkp, ifc_t ekq, ifc_t hkq, ifc_t hN, ifc_t hV, ifc_t a5455, ifc_t c_10_5456, ifc_f (q := HA kp x2) (fun h9 => h9.1 c_10_5456)]; done) | (simp only [ifc_t ekp, ifc_t hkp, ifc_t ekq, ifc_t hkq, ifc_t hN, ifc_t hV, ifc_t a5455, ifc_t c_10_5456, ifc_f (q := HA kp x2) (fun h9 => h9.1 c_10_5456)]; rfl))), rfl, rfl, rfl, rfl, rfl, FRO.rf, (fun i hi9 => by first | rfl | (simp only [ifc_t ekp, ifc_t hkp, ifc_t ekq, ifc_t hkq, ifc_t hN, ifc_t hV, ifc_t a5455, ifc_t c_10_5456, ifc_f (q := HA kp x2) (fun h9 => h9.1 c_10_5456)]; done))⟩⟩) rfl dX12_paper__47)
    · refine lv_iload_n hx hb dX12_paper__13 rfl (lv_at2 hl) ?_
      refine lv_iconst (v := 1) hx hb dX12_paper__14 (by decide) ?_
      refine lv_aload_n hx hb dX12_paper__15 rfl (lv_at0 hl) ?_
      refine gf_X12_9 hC rfl hK hP 0 rfl rfl dX12_paper__16 ?_
      refine lv_iconst (v := 4) hx hb dX12_paper__19 (by decide) ?_
      refine ald hC hK hP 1 rfl (vin (by decide +kernel)) (k := 4) (by decide +kernel) (v := nI kp) (ekp) dX12_paper__20 ?_
      refine lv_ishl hx hb dX12_paper__21 ?_
      refine lv_icmp_ge (tgt := 46) hx hb dX12_paper__22 (by decide) (fun c_22_5457 => ?_) (fun c_22_5457 => ?_)
      · refine lv_iconst (v := (-1)) hx hb dX12_paper__46 (by decide) ?_
        exact toQ hQ0 (RI (v := (-1)) hC hP hD hS [0, 1] fnw rfl rfl (by decide) (⟨(by first | rfl | (simp only [ifc_t ekp, ifc_t hkp, ifc_t ekq, ifc_t hkq, ifc_t hN, ifc_t hV, ifc_t a5455, ifc_f c_10_5456, ifc_t c_22_5457, ifc_f (q := HA kp x2) (fun h9 => Int32.not_le.mpr h9.2 c_22_5457)]; done) | (simp only [ifc_t ekp, ifc_t hkp, ifc_t ekq, ifc_t hkq, ifc_t hN, ifc_t hV, ifc_t a5455, ifc_f c_10_5456, ifc_t c_22_5457, ifc_f (q := HA kp x2) (fun h9 => Int32.not_le.mpr h9.2 c_22_5457)]; rfl)), ⟨hN, hV, rfl, rfl, rfl, rfl, rfl, (rfl).trans ((ekq).trans (by first | rfl | (simp only [ifc_t ekp, ifc_t hkp, ifc_t ekq, ifc_t hkq, ifc_t hN, ifc_t hV, ifc_t a5455, ifc_f c_10_5456, ifc_t c_22_5457, ifc_f (q := HA kp x2) (fun h9 => Int32.not_le.mpr h9.2 c_22_5457)]; done) | (simp only [ifc_t ekp, ifc_t hkp, ifc_t ekq, ifc_t hkq, ifc_t hN, ifc_t hV, ifc_t a5455, ifc_f c_10_5456, ifc_t c_22_5457, ifc_f (q := HA kp x2) (fun h9 => Int32.not_le.mpr h9.2 c_22_5457)]; rfl))), rfl, rfl, rfl, rfl, rfl, FRO.rf, (fun i hi9 => by first | rfl | (simp only [ifc_t ekp, ifc_t hkp, ifc_t ekq, ifc_t hkq, ifc_t hN, ifc_t hV, ifc_t a5455, ifc_f c_10_5456, ifc_t c_22_5457, ifc_f (q := HA kp x2) (fun h9 => Int32.not_le.mpr h9.2 c_22_5457)]; done))⟩⟩) rfl dX12_paper__47)
      · refine lv_iload_n hx hb dX12_paper__25 rfl (lv_at3 hl) ?_
        refine lv_iconst (v := 0) hx hb dX12_paper__26 (by decide) ?_
        refine lv_sipush (v := 255) hx hb dX12_paper__27 (by decide) ?_
        refine pS hC hK hl (m_within l G x3 0 255) si_X12_84 rfl rfl (Nat.le_of_ble_eq_true rfl) rm_3_1_3 ⟨by first | exact Nat.le_of_ble_eq_true rfl | exact Nat.zero_le _, by first | exact Nat.le_of_ble_eq_true rfl | exact Nat.zero_le _⟩ dX12_paper__30 (Kors (Keqa fun a5459 => ?_) (Keqa fun a5459 => ?_))
        · refine lv_if_eq (tgt := 46) hx hb dX12_paper__33 (by decide) (fun c9 => absurd c9 (by decide)) (fun _ => ?_)
          refine lv_iload hx hb dX12_paper__36 (lv_at4 hl) ?_
          refine lv_iconst (v := 0) hx hb dX12_paper__38 (by decide) ?_
          refine lv_iconst (v := 3) hx hb dX12_paper__39 (by decide) ?_
          refine pS hC hK hl (m_within l G x4 0 3) si_X12_84 rfl rfl (Nat.le_of_ble_eq_true rfl) rm_3_1_3 ⟨by first | exact Nat.le_of_ble_eq_true rfl | exact Nat.zero_le _, by first | exact Nat.le_of_ble_eq_true rfl | exact Nat.zero_le _⟩ dX12_paper__40 (Kors (Keqa fun a5461 => ?_) (Keqa fun a5461 => ?_))
          · refine lv_if_ne (tgt := 48) hx hb dX12_paper__43 (by decide) (fun _ => ?_) (fun c9 => absurd c9 (by decide))
            refine lv_aload_n hx hb dX12_paper__48 rfl (lv_at0 hl) ?_
            refine gf_X12_9 hC rfl hK hP 0 rfl rfl dX12_paper__49 ?_
            refine lv_iconst (v := 5) hx hb dX12_paper__52 (by decide) ?_
            refine ald hC hK hP 1 rfl (vin (by decide +kernel)) (k := 5) (by decide +kernel) (v := nI kq) (ekq) dX12_paper__53 ?_
            refine lv_istore (lv' := [(5, .int (nI kq)), (0, .ref h0), (1, .int x1), (2, .int x2), (3, .int x3), (4, .int x4)]) hx hb dX12_paper__54 hl (by decide) rfl (fun ls hl => ?_)
            refine lv_iload hx hb dX12_paper__56 (lv_at0 hl) ?_
            refine lv_bipush (v := 12) hx hb dX12_paper__58 (by decide) ?_
            refine lv_icmp_ne (tgt := 66) hx hb dX12_paper__60 (by decide) (fun c_60_5462 => ?_) (fun c_60_5462 => ?_)
            · have hfull9 := nI_neq (a := kq) (b := 12) (by omega) (by decide) c_60_5462
              refine lv_bipush (v := 32) hx hb dX12_paper__66 (by decide) ?_
              refine lv_bipush (v := 6) hx hb dX12_paper__68 (by decide) ?_
              refine lv_iload hx hb dX12_paper__70 (lv_at0 hl) ?_
              refine lv_imul hx hb dX12_paper__72 ?_
              refine eqi (x1 := nI (6 * kq)) (nI_mul 6 kq) ?_
              refine lv_iadd hx hb dX12_paper__73 ?_
              refine eqi (x1 := nI (32 + 6 * kq)) (nI_add 32 (6 * kq)) ?_
              refine lv_istore (lv' := [(6, .int (nI (32 + 6 * kq))), (5, .int (nI kq)), (0, .ref h0), (1, .int x1), (2, .int x2), (3, .int x3), (4, .int x4)]) hx hb dX12_paper__74 hl (by decide) rfl (fun ls hl => ?_)
              refine lv_aload_n hx hb dX12_paper__76 rfl (lv_at2 hl) ?_
              refine gf_X12_9 hC rfl hK hP 0 rfl rfl dX12_paper__77 ?_
              refine lv_iload hx hb dX12_paper__80 (lv_at0 hl) ?_
              refine lv_iconst (v := 0) hx hb dX12_paper__82 (by decide) ?_
              refine lv_iadd hx hb dX12_paper__83 ?_
              refine eqi (x1 := nI (32 + 6 * kq + 0)) (nI_add (32 + 6 * kq) 0) ?_
              refine lv_iload_n hx hb dX12_paper__84 rfl (lv_at3 hl) ?_
              refine astN hC hK hP hD hS 1 (ws' := [(h0, oX12 nw nk mhasKept nt mtaped nr mrowMany mroundOf mroundFrom mouts nm mfromHour mtoHour ns mfrom mto msort misFault mdeep mcoded mlines nl nc nF np ntr nb mbestCost nso nsi nit nsh nsf nss nrc mtraced mdealer mnumber mwhose msize misParted), (nw, iA G 1662 (upd fnw (32 + 6 * kq + 0) x1))]) rfl (k := (32 + 6 * kq + 0)) (by omega) (Nat.le_of_ble_eq_true rfl) (rfl) dX12_paper__85 (fun H locs hP hD hS => ?_)
              refine lv_aload_n hx hb dX12_paper__86 rfl (lv_at2 hl) ?_
              refine gf_X12_9 hC rfl hK hP 0 rfl rfl dX12_paper__87 ?_
              refine lv_iload hx hb dX12_paper__90 (lv_at0 hl) ?_
              refine lv_iconst (v := 1) hx hb dX12_paper__92 (by decide) ?_
              refine lv_iadd hx hb dX12_paper__93 ?_
              refine eqi (x1 := nI (32 + 6 * kq + 1)) (nI_add (32 + 6 * kq) 1) ?_
              refine lv_iload_n hx hb dX12_paper__94 rfl (lv_at4 hl) ?_
              refine astN hC hK hP hD hS 1 (ws' := [(h0, oX12 nw nk mhasKept nt mtaped nr mrowMany mroundOf mroundFrom mouts nm mfromHour mtoHour ns mfrom mto msort misFault mdeep mcoded mlines nl nc nF np ntr nb mbestCost nso nsi nit nsh nsf nss nrc mtraced mdealer mnumber mwhose msize misParted), (nw, iA G 1662 (upd (upd fnw (32 + 6 * kq + 0) x1) (32 + 6 * kq + 1) x2))]) rfl (k := (32 + 6 * kq + 1)) (by omega) (Nat.le_of_ble_eq_true rfl) (rfl) dX12_paper__95 (fun H locs hP hD hS => ?_)
              refine lv_aload_n hx hb dX12_paper__96 rfl (lv_at2 hl) ?_
              refine gf_X12_9 hC rfl hK hP 0 rfl rfl dX12_paper__97 ?_
              refine lv_iload hx hb dX12_paper__100 (lv_at0 hl) ?_
              refine lv_iconst (v := 2) hx hb dX12_paper__102 (by decide) ?_
              refine lv_iadd hx hb dX12_paper__103 ?_
              refine eqi (x1 := nI (32 + 6 * kq + 2)) (nI_add (32 + 6 * kq) 2) ?_
              refine lv_iload_n hx hb dX12_paper__104 rfl (lv_at5 hl) ?_
              refine astN hC hK hP hD hS 1 (ws' := [(h0, oX12 nw nk mhasKept nt mtaped nr mrowMany mroundOf mroundFrom mouts nm mfromHour mtoHour ns mfrom mto msort misFault mdeep mcoded mlines nl nc nF np ntr nb mbestCost nso nsi nit nsh nsf nss nrc mtraced mdealer mnumber mwhose msize misParted), (nw, iA G 1662 (upd (upd (upd fnw (32 + 6 * kq + 0) x1) (32 + 6 * kq + 1) x2) (32 + 6 * kq + 2) x3))]) rfl (k := (32 + 6 * kq + 2)) (by omega) (Nat.le_of_ble_eq_true rfl) (rfl) dX12_paper__105 (fun H locs hP hD hS => ?_)
              refine lv_aload_n hx hb dX12_paper__106 rfl (lv_at2 hl) ?_
              refine gf_X12_9 hC rfl hK hP 0 rfl rfl dX12_paper__107 ?_
              refine lv_iload hx hb dX12_paper__110 (lv_at0 hl) ?_
              refine lv_iconst (v := 3) hx hb dX12_paper__112 (by decide) ?_
              refine lv_iadd hx hb dX12_paper__113 ?_
              refine eqi (x1 := nI (32 + 6 * kq + 3)) (nI_add (32 + 6 * kq) 3) ?_
              refine lv_iload hx hb dX12_paper__114 (lv_at6 hl) ?_
              refine astN hC hK hP hD hS 1 (ws' := [(h0, oX12 nw nk mhasKept nt mtaped nr mrowMany mroundOf mroundFrom mouts nm mfromHour mtoHour ns mfrom mto msort misFault mdeep mcoded mlines nl nc nF np ntr nb mbestCost nso nsi nit nsh nsf nss nrc mtraced mdealer mnumber mwhose msize misParted), (nw, iA G 1662 (upd (upd (upd (upd fnw (32 + 6 * kq + 0) x1) (32 + 6 * kq + 1) x2) (32 + 6 * kq + 2) x3) (32 + 6 * kq + 3) x4))]) rfl (k := (32 + 6 * kq + 3)) (by omega) (Nat.le_of_ble_eq_true rfl) (rfl) dX12_paper__116 (fun H locs hP hD hS => ?_)
              refine lv_aload_n hx hb dX12_paper__117 rfl (lv_at2 hl) ?_
              refine gf_X12_9 hC rfl hK hP 0 rfl rfl dX12_paper__118 ?_
              refine lv_iload hx hb dX12_paper__121 (lv_at0 hl) ?_
              refine lv_iconst (v := 4) hx hb dX12_paper__123 (by decide) ?_
              refine lv_iadd hx hb dX12_paper__124 ?_
              refine eqi (x1 := nI (32 + 6 * kq + 4)) (nI_add (32 + 6 * kq) 4) ?_
              refine lv_aload_n hx hb dX12_paper__125 rfl (lv_at2 hl) ?_
              refine gf_X12_9 hC rfl hK hP 0 rfl rfl dX12_paper__126 ?_
              refine lv_iconst (v := 0) hx hb dX12_paper__129 (by decide) ?_
              refine ald hC hK hP 1 rfl (vin (by decide +kernel)) (k := 0) (by decide +kernel) (v := fnw 0) ((upd_ne (by omega)).trans ((upd_ne (by omega)).trans ((upd_ne (by omega)).trans ((upd_ne (by omega)).trans (rfl))))) dX12_paper__130 ?_
              refine astN hC hK hP hD hS 1 (ws' := [(h0, oX12 nw nk mhasKept nt mtaped nr mrowMany mroundOf mroundFrom mouts nm mfromHour mtoHour ns mfrom mto msort misFault mdeep mcoded mlines nl nc nF np ntr nb mbestCost nso nsi nit nsh nsf nss nrc mtraced mdealer mnumber mwhose msize misParted), (nw, iA G 1662 (upd (upd (upd (upd (upd fnw (32 + 6 * kq + 0) x1) (32 + 6 * kq + 1) x2) (32 + 6 * kq + 2) x3) (32 + 6 * kq + 3) x4) (32 + 6 * kq + 4) (fnw 0)))]) rfl (k := (32 + 6 * kq + 4)) (by omega) (Nat.le_of_ble_eq_true rfl) (rfl) dX12_paper__131 (fun H locs hP hD hS => ?_)
              refine lv_aload_n hx hb dX12_paper__132 rfl (lv_at2 hl) ?_
              refine gf_X12_9 hC rfl hK hP 0 rfl rfl dX12_paper__133 ?_
              refine lv_iload hx hb dX12_paper__136 (lv_at0 hl) ?_
              refine lv_iconst (v := 5) hx hb dX12_paper__138 (by decide) ?_
              refine lv_iadd hx hb dX12_paper__139 ?_
              refine eqi (x1 := nI (32 + 6 * kq + 5)) (nI_add (32 + 6 * kq) 5) ?_
              refine lv_iconst (v := (-1)) hx hb dX12_paper__140 (by decide) ?_
              refine astN hC hK hP hD hS 1 (ws' := [(h0, oX12 nw nk mhasKept nt mtaped nr mrowMany mroundOf mroundFrom mouts nm mfromHour mtoHour ns mfrom mto msort misFault mdeep mcoded mlines nl nc nF np ntr nb mbestCost nso nsi nit nsh nsf nss nrc mtraced mdealer mnumber mwhose msize misParted), (nw, iA G 1662 (upd (upd (upd (upd (upd (upd fnw (32 + 6 * kq + 0) x1) (32 + 6 * kq + 1) x2) (32 + 6 * kq + 2) x3) (32 + 6 * kq + 3) x4) (32 + 6 * kq + 4) (fnw 0)) (32 + 6 * kq + 5) (-1)))]) rfl (k := (32 + 6 * kq + 5)) (by omega) (Nat.le_of_ble_eq_true rfl) (rfl) dX12_paper__141 (fun H locs hP hD hS => ?_)
              refine lv_aload_n hx hb dX12_paper__142 rfl (lv_at2 hl) ?_
              refine gf_X12_9 hC rfl hK hP 0 rfl rfl dX12_paper__143 ?_
              refine lv_iconst (v := 5) hx hb dX12_paper__146 (by decide) ?_
              refine lv_dup2_11 hx hb dX12_paper__147 rfl rfl ?_
              refine ald hC hK hP 1 rfl (vin (by decide +kernel)) (k := 5) (by decide +kernel) (v := nI kq) ((upd_ne (by omega)).trans ((upd_ne (by omega)).trans ((upd_ne (by omega)).trans ((upd_ne (by omega)).trans ((upd_ne (by omega)).trans ((upd_ne (by omega)).trans (ekq))))))) dX12_paper__148 ?_
              refine lv_iconst (v := 1) hx hb dX12_paper__149 (by decide) ?_
              refine lv_iadd hx hb dX12_paper__150 ?_
              refine eqi (x1 := nI (kq + 1)) (nI_add kq 1) ?_
              refine ast hC hK hP hD hS 1 (ws' := [(h0, oX12 nw nk mhasKept nt mtaped nr mrowMany mroundOf mroundFrom mouts nm mfromHour mtoHour ns mfrom mto msort misFault mdeep mcoded mlines nl nc nF np ntr nb mbestCost nso nsi nit nsh nsf nss nrc mtraced mdealer mnumber mwhose msize misParted), (nw, iA G 1662 (upd (upd (upd (upd (upd (upd (upd fnw (32 + 6 * kq + 0) x1) (32 + 6 * kq + 1) x2) (32 + 6 * kq + 2) x3) (32 + 6 * kq + 3) x4) (32 + 6 * kq + 4) (fnw 0)) (32 + 6 * kq + 5) (-1)) 5 (nI (kq + 1))))]) rfl (vin (by decide +kernel)) (k := 5) (by decide +kernel) (rfl) dX12_paper__151 (fun H locs hP hD hS => ?_)
              refine lv_iload hx hb dX12_paper__152 (lv_at1 hl) ?_
              have tu5463 : shf (upd (upd (upd (upd (upd (upd (upd fnw (32 + 6 * kq + 0) x1) (32 + 6 * kq + 1) x2) (32 + 6 * kq + 2) x3) (32 + 6 * kq + 3) x4) (32 + 6 * kq + 4) (fnw 0)) (32 + 6 * kq + 5) (-1)) 5 (nI (kq + 1))) 32 = rowu (shf fnw 32) (kq * 6) [x1, x2, x3, x4, (fnw 0), (-1)] := by rw [sho (by omega), shu (j := kq * 6 + 5) (by omega), shu (j := kq * 6 + 4) (by omega), shu (j := kq * 6 + 3) (by omega), shu (j := kq * 6 + 2) (by omega), shu (j := kq * 6 + 1) (by omega), shu (j := kq * 6 + 0) (by omega)]; rfl
              exact toQ hQ0 (RI (v := nI kq) hC hP hD hS [0, 1] (upd (upd (upd (upd (upd (upd (upd fnw (32 + 6 * kq + 0) x1) (32 + 6 * kq + 1) x2) (32 + 6 * kq + 2) x3) (32 + 6 * kq + 3) x4) (32 + 6 * kq + 4) (fnw 0)) (32 + 6 * kq + 5) (-1)) 5 (nI (kq + 1))) rfl rfl (by decide) (⟨(by first | rfl | (simp only [ifc_t ekp, ifc_t hkp, ifc_t ekq, ifc_t hkq, ifc_t hN, ifc_t hV, ifc_t a5455, ifc_f c_10_5456, ifc_f c_22_5457, ifc_t a5459, ifc_t a5461, ifc_f c_60_5462, ifc_t (q := HA kp x2) ⟨c_10_5456, Int32.not_le.mp c_22_5457⟩]; done) | (simp only [ifc_t ekp, ifc_t hkp, ifc_t ekq, ifc_t hkq, ifc_t hN, ifc_t hV, ifc_t a5455, ifc_f c_10_5456, ifc_f c_22_5457, ifc_t a5459, ifc_t a5461, ifc_f c_60_5462, ifc_t (q := HA kp x2) ⟨c_10_5456, Int32.not_le.mp c_22_5457⟩]; rfl)), ⟨(((((((hN).setA (bnd_pap (by omega) (by omega))).setA (bnd_pap (by omega) (by omega))).setA (bnd_pap (by omega) (by omega))).setA (bnd_pap (by omega) (by omega))).setA (bnd_pap (by omega) (by omega))).setA (bnd_pap (by omega) (by omega))).setN (B := 12) (show bnd 5 = (0, ((12 : Nat) : Int)) from by decide +kernel) (by omega) (by decide), (((((((hV).set (by omega)).set (by omega)).set (by omega)).set (by omega)).set (by omega)).set (by omega)).set (by omega), (upd_ne (by omega)).trans ((upd_ne (by omega)).trans ((upd_ne (by omega)).trans ((upd_ne (by omega)).trans ((upd_ne (by omega)).trans ((upd_ne (by omega)).trans (upd_ne (by omega))))))), (upd_ne (by omega)).trans ((upd_ne (by omega)).trans ((upd_ne (by omega)).trans ((upd_ne (by omega)).trans ((upd_ne (by omega)).trans ((upd_ne (by omega)).trans (upd_ne (by omega))))))), (upd_ne (by omega)).trans ((upd_ne (by omega)).trans ((upd_ne (by omega)).trans ((upd_ne (by omega)).trans ((upd_ne (by omega)).trans ((upd_ne (by omega)).trans (upd_ne (by omega))))))), (upd_ne (by omega)).trans ((upd_ne (by omega)).trans ((upd_ne (by omega)).trans ((upd_ne (by omega)).trans ((upd_ne (by omega)).trans ((upd_ne (by omega)).trans (upd_ne (by omega))))))), (upd_ne (by omega)).trans ((upd_ne (by omega)).trans ((upd_ne (by omega)).trans ((upd_ne (by omega)).trans ((upd_ne (by omega)).trans ((upd_ne (by omega)).trans (upd_ne (by omega))))))), (show _ = (nI (kq + 1)) from upd_eq rfl).trans (by first | rfl | (simp only [ifc_t ekp, ifc_t hkp, ifc_t ekq, ifc_t hkq, ifc_t hN, ifc_t hV, ifc_t a5455, ifc_f c_10_5456, ifc_f c_22_5457, ifc_t a5459, ifc_t a5461, ifc_f c_60_5462, ifc_t (q := HA kp x2) ⟨c_10_5456, Int32.not_le.mp c_22_5457⟩]; done) | (simp only [ifc_t ekp, ifc_t hkp, ifc_t ekq, ifc_t hkq, ifc_t hN, ifc_t hV, ifc_t a5455, ifc_f c_10_5456, ifc_f c_22_5457, ifc_t a5459, ifc_t a5461, ifc_f c_60_5462, ifc_t (q := HA kp x2) ⟨c_10_5456, Int32.not_le.mp c_22_5457⟩]; rfl)), (upd_ne (by omega)).trans ((upd_ne (by omega)).trans ((upd_ne (by omega)).trans ((upd_ne (by omega)).trans ((upd_ne (by omega)).trans ((upd_ne (by omega)).trans (upd_ne (by omega))))))), (upd_ne (by omega)).trans ((upd_ne (by omega)).trans ((upd_ne (by omega)).trans ((upd_ne (by omega)).trans ((upd_ne (by omega)).trans ((upd_ne (by omega)).trans (upd_ne (by omega))))))), (upd_ne (by omega)).trans ((upd_ne (by omega)).trans ((upd_ne (by omega)).trans ((upd_ne (by omega)).trans ((upd_ne (by omega)).trans ((upd_ne (by omega)).trans (upd_ne (by omega))))))), (upd_ne (by omega)).trans ((upd_ne (by omega)).trans ((upd_ne (by omega)).trans ((upd_ne (by omega)).trans ((upd_ne (by omega)).trans ((upd_ne (by omega)).trans (upd_ne (by omega))))))), (upd_ne (by omega)).trans ((upd_ne (by omega)).trans ((upd_ne (by omega)).trans ((upd_ne (by omega)).trans ((upd_ne (by omega)).trans ((upd_ne (by omega)).trans (upd_ne (by omega))))))), (((((((FRO.rf).set (by omega)).set (by omega)).set (by omega)).set (by omega)).set (by omega)).set (by omega)).set (by omega), (fun i hi9 => by simp only [ifc_t ekp, ifc_t hkp, ifc_t ekq, ifc_t hkq, ifc_t hN, ifc_t hV, ifc_t a5455, ifc_f c_10_5456, ifc_f c_22_5457, ifc_t a5459, ifc_t a5461, ifc_f c_60_5462, ifc_t (q := HA kp x2) ⟨c_10_5456, Int32.not_le.mp c_22_5457⟩]; exact (congrFun tu5463 i).trans (by first | rfl | (simp only [SCX]; done)))⟩⟩) rfl dX12_paper__154)
            · refine lv_bipush (v := (-2)) hx hb dX12_paper__63 (by decide) ?_
              exact toQ hQ0 (RI (v := (-2)) hC hP hD hS [0, 1] fnw rfl rfl (by decide) (⟨(by first | rfl | (simp only [ifc_t ekp, ifc_t hkp, ifc_t ekq, ifc_t hkq, ifc_t hN, ifc_t hV, ifc_t a5455, ifc_f c_10_5456, ifc_f c_22_5457, ifc_t a5459, ifc_t a5461, ifc_t c_60_5462, ifc_t (q := HA kp x2) ⟨c_10_5456, Int32.not_le.mp c_22_5457⟩]; done) | (simp only [ifc_t ekp, ifc_t hkp, ifc_t ekq, ifc_t hkq, ifc_t hN, ifc_t hV, ifc_t a5455, ifc_f c_10_5456, ifc_f c_22_5457, ifc_t a5459, ifc_t a5461, ifc_t c_60_5462, ifc_t (q := HA kp x2) ⟨c_10_5456, Int32.not_le.mp c_22_5457⟩]; rfl)), ⟨hN, hV, rfl, rfl, rfl, rfl, rfl, (rfl).trans ((ekq).trans (by first | rfl | (simp only [ifc_t ekp, ifc_t hkp, ifc_t ekq, ifc_t hkq, ifc_t hN, ifc_t hV, ifc_t a5455, ifc_f c_10_5456, ifc_f c_22_5457, ifc_t a5459, ifc_t a5461, ifc_t c_60_5462, ifc_t (q := HA kp x2) ⟨c_10_5456, Int32.not_le.mp c_22_5457⟩]; done) | (simp only [ifc_t ekp, ifc_t hkp, ifc_t ekq, ifc_t hkq, ifc_t hN, ifc_t hV, ifc_t a5455, ifc_f c_10_5456, ifc_f c_22_5457, ifc_t a5459, ifc_t a5461, ifc_t c_60_5462, ifc_t (q := HA kp x2) ⟨c_10_5456, Int32.not_le.mp c_22_5457⟩]; rfl))), rfl, rfl, rfl, rfl, rfl, FRO.rf, (fun i hi9 => by first | rfl | (simp only [ifc_t ekp, ifc_t hkp, ifc_t ekq, ifc_t hkq, ifc_t hN, ifc_t hV, ifc_t a5455, ifc_f c_10_5456, ifc_f c_22_5457, ifc_t a5459, ifc_t a5461, ifc_t c_60_5462, ifc_t (q := HA kp x2) ⟨c_10_5456, Int32.not_le.mp c_22_5457⟩]; done))⟩⟩) rfl dX12_paper__65)
          · refine lv_if_ne (tgt := 48) hx hb dX12_paper__43 (by decide) (fun c9 => absurd (by decide) c9) (fun _ => ?_)
            refine lv_iconst (v := (-1)) hx hb dX12_paper__46 (by decide) ?_
            exact toQ hQ0 (RI (v := (-1)) hC hP hD hS [0, 1] fnw rfl rfl (by decide) (⟨(by first | rfl | (simp only [ifc_t ekp, ifc_t hkp, ifc_t ekq, ifc_t hkq, ifc_t hN, ifc_t hV, ifc_t a5455, ifc_f c_10_5456, ifc_f c_22_5457, ifc_t a5459, ifc_f a5461, ifc_t (q := HA kp x2) ⟨c_10_5456, Int32.not_le.mp c_22_5457⟩]; done) | (simp only [ifc_t ekp, ifc_t hkp, ifc_t ekq, ifc_t hkq, ifc_t hN, ifc_t hV, ifc_t a5455, ifc_f c_10_5456, ifc_f c_22_5457, ifc_t a5459, ifc_f a5461, ifc_t (q := HA kp x2) ⟨c_10_5456, Int32.not_le.mp c_22_5457⟩]; rfl)), ⟨hN, hV, rfl, rfl, rfl, rfl, rfl, (rfl).trans ((ekq).trans (by first | rfl | (simp only [ifc_t ekp, ifc_t hkp, ifc_t ekq, ifc_t hkq, ifc_t hN, ifc_t hV, ifc_t a5455, ifc_f c_10_5456, ifc_f c_22_5457, ifc_t a5459, ifc_f a5461, ifc_t (q := HA kp x2) ⟨c_10_5456, Int32.not_le.mp c_22_5457⟩]; done) | (simp only [ifc_t ekp, ifc_t hkp, ifc_t ekq, ifc_t hkq, ifc_t hN, ifc_t hV, ifc_t a5455, ifc_f c_10_5456, ifc_f c_22_5457, ifc_t a5459, ifc_f a5461, ifc_t (q := HA kp x2) ⟨c_10_5456, Int32.not_le.mp c_22_5457⟩]; rfl))), rfl, rfl, rfl, rfl, rfl, FRO.rf, (fun i hi9 => by first | rfl | (simp only [ifc_t ekp, ifc_t hkp, ifc_t ekq, ifc_t hkq, ifc_t hN, ifc_t hV, ifc_t a5455, ifc_f c_10_5456, ifc_f c_22_5457, ifc_t a5459, ifc_f a5461, ifc_t (q := HA kp x2) ⟨c_10_5456, Int32.not_le.mp c_22_5457⟩]; done))⟩⟩) rfl dX12_paper__47)
        · refine lv_if_eq (tgt := 46) hx hb dX12_paper__33 (by decide) (fun _ => ?_) (fun c9 => absurd (by decide) c9)
          refine lv_iconst (v := (-1)) hx hb dX12_paper__46 (by decide) ?_
          exact toQ hQ0 (RI (v := (-1)) hC hP hD hS [0, 1] fnw rfl rfl (by decide) (⟨(by first | rfl | (simp only [ifc_t ekp, ifc_t hkp, ifc_t ekq, ifc_t hkq, ifc_t hN, ifc_t hV, ifc_t a5455, ifc_f c_10_5456, ifc_f c_22_5457, ifc_f a5459, ifc_t (q := HA kp x2) ⟨c_10_5456, Int32.not_le.mp c_22_5457⟩]; done) | (simp only [ifc_t ekp, ifc_t hkp, ifc_t ekq, ifc_t hkq, ifc_t hN, ifc_t hV, ifc_t a5455, ifc_f c_10_5456, ifc_f c_22_5457, ifc_f a5459, ifc_t (q := HA kp x2) ⟨c_10_5456, Int32.not_le.mp c_22_5457⟩]; rfl)), ⟨hN, hV, rfl, rfl, rfl, rfl, rfl, (rfl).trans ((ekq).trans (by first | rfl | (simp only [ifc_t ekp, ifc_t hkp, ifc_t ekq, ifc_t hkq, ifc_t hN, ifc_t hV, ifc_t a5455, ifc_f c_10_5456, ifc_f c_22_5457, ifc_f a5459, ifc_t (q := HA kp x2) ⟨c_10_5456, Int32.not_le.mp c_22_5457⟩]; done) | (simp only [ifc_t ekp, ifc_t hkp, ifc_t ekq, ifc_t hkq, ifc_t hN, ifc_t hV, ifc_t a5455, ifc_f c_10_5456, ifc_f c_22_5457, ifc_f a5459, ifc_t (q := HA kp x2) ⟨c_10_5456, Int32.not_le.mp c_22_5457⟩]; rfl))), rfl, rfl, rfl, rfl, rfl, FRO.rf, (fun i hi9 => by first | rfl | (simp only [ifc_t ekp, ifc_t hkp, ifc_t ekq, ifc_t hkq, ifc_t hN, ifc_t hV, ifc_t a5455, ifc_f c_10_5456, ifc_f c_22_5457, ifc_f a5459, ifc_t (q := HA kp x2) ⟨c_10_5456, Int32.not_le.mp c_22_5457⟩]; done))⟩⟩) rfl dX12_paper__47)
  · refine lv_if_eq (tgt := 46) hx hb dX12_paper__6 (by decide) (fun _ => ?_) (fun c9 => absurd (by decide) c9)
    refine lv_iconst (v := (-1)) hx hb dX12_paper__46 (by decide) ?_
    exact toQ hQ0 (RI (v := (-1)) hC hP hD hS [0, 1] fnw rfl rfl (by decide) (⟨(by first | rfl | (simp only [ifc_t ekp, ifc_t hkp, ifc_t ekq, ifc_t hkq, ifc_t hN, ifc_t hV, ifc_f a5455]; done) | (simp only [ifc_t ekp, ifc_t hkp, ifc_t ekq, ifc_t hkq, ifc_t hN, ifc_t hV, ifc_f a5455]; rfl)), ⟨hN, hV, rfl, rfl, rfl, rfl, rfl, (rfl).trans ((ekq).trans (by first | rfl | (simp only [ifc_t ekp, ifc_t hkp, ifc_t ekq, ifc_t hkq, ifc_t hN, ifc_t hV, ifc_f a5455]; done) | (simp only [ifc_t ekp, ifc_t hkp, ifc_t ekq, ifc_t hkq, ifc_t hN, ifc_t hV, ifc_f a5455]; rfl))), rfl, rfl, rfl, rfl, rfl, FRO.rf, (fun i hi9 => by first | rfl | (simp only [ifc_t ekp, ifc_t hkp, ifc_t ekq, ifc_t hkq, ifc_t hN, ifc_t hV, ifc_f a5455]; done))⟩⟩) rfl dX12_paper__47)
def K_w_lose (l : Launch) (G : GG) (kq : Nat) (h0 : Nat) (x1 : Int32) (nw : Nat) (nk : Nat) (mhasKept : Int32) (nt : Nat) (mtaped : Int32) (nr : Nat) (mrowMany : Int32) (mroundOf : Int32) (mroundFrom : Int32) (mouts : Int32) (nm : Nat) (mfromHour : Int32) (mtoHour : Int32) (ns : Nat) (mfrom : Int32) (mto : Int32) (msort : Int32) (misFault : Int32) (mdeep : Int32) (mcoded : Int32) (mlines : Int32) (nl : Nat) (nc : Nat) (nF : Nat) (np : Nat) (ntr : Nat) (nb : Nat) (mbestCost : Int32) (nso : Nat) (nsi : Nat) (nit : Nat) (nsh : Nat) (nsf : Nat) (nss : Nat) (nrc : Nat) (mtraced : Int32) (mdealer : Int32) (mnumber : Int32) (mwhose : Int32) (msize : Int32) (misParted : Int32) (fnw : Nat → Int32) : Prop := MI l G yX12_lose cX12_lose 2 (some .int) 3 0 0 [.ref h0, .int x1] [(h0, oX12 nw nk mhasKept nt mtaped nr mrowMany mroundOf mroundFrom mouts nm mfromHour mtoHour ns mfrom mto msort misFault mdeep mcoded mlines nl nc nF np ntr nb mbestCost nso nsi nit nsh nsf nss nrc mtraced mdealer mnumber mwhose msize misParted), (nw, iA G 1662 fnw)] (fun (r : Int32) (u : (Nat → Int32)) => (r = ifc (Hs x1 kq) (ifc (0 ≤ shf fnw 32 (x1.toNatClampNeg * 6 + 5)) (-4) 1) (-1)) ∧ (NI u ∧ VI u ∧ SCX u (fnw 0) (fnw 1) (fnw 2) (fnw 3) (fnw 4) (fnw 5) (fnw 6) (fnw 8) (fnw 9) (fnw 10) (fnw 11) ∧ FRO u fnw 32 104 ∧ ∀ i : Nat, i < 72 → u (32 + i) = ifc (Hs x1 kq) (ifc (0 ≤ shf fnw 32 (x1.toNatClampNeg * 6 + 5)) (fnw (32 + i)) (upd (shf fnw 32) (x1.toNatClampNeg * 6 + 5) (fnw 0) i)) (fnw (32 + i)))) (fun u : (Nat → Int32) => [(h0, oX12 nw nk mhasKept nt mtaped nr mrowMany mroundOf mroundFrom mouts nm mfromHour mtoHour ns mfrom mto msort misFault mdeep mcoded mlines nl nc nF np ntr nb mbestCost nso nsi nit nsh nsf nss nrc mtraced mdealer mnumber mwhose msize misParted), (nw, iA G 1662 u)])
set_option maxHeartbeats 4000000 in
set_option maxRecDepth 100000 in
theorem w_lose (l : Launch) (G : GG) (kq : Nat) (h0 : Nat) (x1 : Int32) (nw : Nat) (nk : Nat) (mhasKept : Int32) (nt : Nat) (mtaped : Int32) (nr : Nat) (mrowMany : Int32) (mroundOf : Int32) (mroundFrom : Int32) (mouts : Int32) (nm : Nat) (mfromHour : Int32) (mtoHour : Int32) (ns : Nat) (mfrom : Int32) (mto : Int32) (msort : Int32) (misFault : Int32) (mdeep : Int32) (mcoded : Int32) (mlines : Int32) (nl : Nat) (nc : Nat) (nF : Nat) (np : Nat) (ntr : Nat) (nb : Nat) (mbestCost : Int32) (nso : Nat) (nsi : Nat) (nit : Nat) (nsh : Nat) (nsf : Nat) (nss : Nat) (nrc : Nat) (mtraced : Int32) (mdealer : Int32) (mnumber : Int32) (mwhose : Int32) (msize : Int32) (misParted : Int32) (fnw : Nat → Int32) (ekq : fnw 5 = nI kq) (hkq : kq ≤ 12) (hN : NI fnw) (hV : VI fnw) : K_w_lose l G kq h0 x1 nw nk mhasKept nt mtaped nr mrowMany mroundOf mroundFrom mouts nm mfromHour mtoHour ns mfrom mto msort misFault mdeep mcoded mlines nl nc nF np ntr nb mbestCost nso nsi nit nsh nsf nss nrc mtraced mdealer mnumber mwhose msize misParted fnw := by
  refine MI.start (by decide +kernel) (Nat.le_of_ble_eq_true rfl) ?_
  intro p e s m below meth c A ls hC hK hP hD hS hA hl
  refine absQ (fun Q0 hQ0 => ?_)
  have hl : lv_has ls 2 [(0, .ref h0), (1, .int x1)] := hl
  refine Kan8 hC (fun hx hb hr hml hB hown hlocks hnm => ?_)
  refine lv_aload_n hx hb dX12_lose_0 rfl (lv_at0 hl) ?_
  refine lv_iload_n hx hb dX12_lose_1 rfl (lv_at1 hl) ?_
  refine lv_iconst (v := 5) hx hb dX12_lose_2 (by decide) ?_
  refine pV hC hK hl hP hD (m_is l G kq h0 x1 5 nw nk mhasKept nt mtaped nr mrowMany mroundOf mroundFrom mouts nm mfromHour mtoHour ns mfrom mto msort misFault mdeep mcoded mlines nl nc nF np ntr nb mbestCost nso nsi nit nsh nsf nss nrc mtraced mdealer mnumber mwhose msize misParted fnw (by omega) (ekq) (by omega)) si_X12_120 [0, 1] sm_0_1 fm_0_1 nd_0_1 rfl rfl rfl rfl rfl (Nat.le_of_ble_eq_true rfl) rm_3_2_3 ⟨by first | exact Nat.le_of_ble_eq_true rfl | exact Nat.zero_le _, by first | exact Nat.le_of_ble_eq_true rfl | exact Nat.zero_le _⟩ dX12_lose_3 (Kors (Keqa fun a5465 => ?_) (Keqa fun a5465 => ?_))
  · refine lv_if_ne (tgt := 11) hx hb dX12_lose_6 (by decide) (fun _ => ?_) (fun c9 => absurd c9 (by decide))
    obtain ⟨jp, hjp, rfl⟩ := Hs_nat (by omega) a5465
    have hsl9 : fnw (32 + 6 * jp + 5) = shf fnw 32 (jp * 6 + 5) := congrArg fnw (by omega)
    refine lv_aload_n hx hb dX12_lose_11 rfl (lv_at0 hl) ?_
    refine lv_iload_n hx hb dX12_lose_12 rfl (lv_at1 hl) ?_
    refine lv_iconst (v := 5) hx hb dX12_lose_13 (by decide) ?_
    refine pV hC hK hl hP hD (m_paper l G h0 jp 5 nw nk mhasKept nt mtaped nr mrowMany mroundOf mroundFrom mouts nm mfromHour mtoHour ns mfrom mto msort misFault mdeep mcoded mlines nl nc nF np ntr nb mbestCost nso nsi nit nsh nsf nss nrc mtraced mdealer mnumber mwhose msize misParted fnw (by omega) (by omega)) si_X12_88 [0, 1] sm_0_1 fm_0_1 nd_0_1 rfl rfl rfl rfl rfl (Nat.le_of_ble_eq_true rfl) rm_3_1_3 ⟨by first | exact Nat.le_of_ble_eq_true rfl | exact Nat.zero_le _, by first | exact Nat.le_of_ble_eq_true rfl | exact Nat.zero_le _⟩ dX12_lose_14 (Keqr ?_)
    refine lv_if_lt (tgt := 23) hx hb dX12_lose_17 (by decide) (fun c_17_5468 => ?_) (fun c_17_5468 => ?_)
    · refine lv_aload_n hx hb dX12_lose_23 rfl (lv_at0 hl) ?_
      refine gf_X12_9 hC rfl hK hP 0 rfl rfl dX12_lose_24 ?_
      refine lv_bipush (v := 32) hx hb dX12_lose_27 (by decide) ?_
      refine lv_bipush (v := 6) hx hb dX12_lose_29 (by decide) ?_
      refine lv_iload_n hx hb dX12_lose_31 rfl (lv_at1 hl) ?_
      refine lv_imul hx hb dX12_lose_32 ?_
      refine eqi (x1 := nI (6 * jp)) (nI_mul 6 jp) ?_
      refine lv_iadd hx hb dX12_lose_33 ?_
      refine eqi (x1 := nI (32 + 6 * jp)) (nI_add 32 (6 * jp)) ?_
      refine lv_iconst (v := 5) hx hb dX12_lose_34 (by decide) ?_
      refine lv_iadd hx hb dX12_lose_35 ?_
      refine eqi (x1 := nI (32 + 6 * jp + 5)) (nI_add (32 + 6 * jp) 5) ?_
      refine lv_aload_n hx hb dX12_lose_36 rfl (lv_at0 hl) ?_
      refine gf_X12_9 hC rfl hK hP 0 rfl rfl dX12_lose_37 ?_
      refine lv_iconst (v := 0) hx hb dX12_lose_40 (by decide) ?_
      refine ald hC hK hP 1 rfl (vin (by decide +kernel)) (k := 0) (by decide +kernel) (v := fnw 0) (rfl) dX12_lose_41 ?_
      refine astN hC hK hP hD hS 1 (ws' := [(h0, oX12 nw nk mhasKept nt mtaped nr mrowMany mroundOf mroundFrom mouts nm mfromHour mtoHour ns mfrom mto msort misFault mdeep mcoded mlines nl nc nF np ntr nb mbestCost nso nsi nit nsh nsf nss nrc mtraced mdealer mnumber mwhose msize misParted), (nw, iA G 1662 (upd fnw (32 + 6 * jp + 5) (fnw 0)))]) rfl (k := (32 + 6 * jp + 5)) (by omega) (Nat.le_of_ble_eq_true rfl) (rfl) dX12_lose_42 (fun H locs hP hD hS => ?_)
      refine lv_iconst (v := 1) hx hb dX12_lose_43 (by decide) ?_
      exact toQ hQ0 (RI (v := 1) hC hP hD hS [0, 1] (upd fnw (32 + 6 * jp + 5) (fnw 0)) rfl rfl (by decide) (⟨(by first | rfl | (simp only [nI_clamp (n := jp) (by omega), ifc_t ekq, ifc_t hkq, ifc_t hN, ifc_t hV, ifc_t a5465, ifc_f (q := 0 ≤ shf fnw 32 (jp * 6 + 5)) (Int32.not_le.mpr (hsl9 ▸ c_17_5468))]; done) | (simp only [nI_clamp (n := jp) (by omega), ifc_t ekq, ifc_t hkq, ifc_t hN, ifc_t hV, ifc_t a5465, ifc_f (q := 0 ≤ shf fnw 32 (jp * 6 + 5)) (Int32.not_le.mpr (hsl9 ▸ c_17_5468))]; rfl)), ⟨(hN).setA (bnd_pap (by omega) (by omega)), (hV).set (by omega), (SCX.rf).set (by omega), (FRO.rf).set (by omega), (fun i hi9 => by simp only [nI_clamp (n := jp) (by omega), ifc_t ekq, ifc_t hkq, ifc_t hN, ifc_t hV, ifc_t a5465, ifc_f (q := 0 ≤ shf fnw 32 (jp * 6 + 5)) (Int32.not_le.mpr (hsl9 ▸ c_17_5468))]; exact congrFun (shu (g := fnw) (base := 32) (j := jp * 6 + 5) (by omega)) i)⟩⟩) rfl dX12_lose_44)
    · refine lv_bipush (v := (-4)) hx hb dX12_lose_20 (by decide) ?_
      exact toQ hQ0 (RI (v := (-4)) hC hP hD hS [0, 1] fnw rfl rfl (by decide) (⟨(by first | rfl | (simp only [nI_clamp (n := jp) (by omega), ifc_t ekq, ifc_t hkq, ifc_t hN, ifc_t hV, ifc_t a5465, ifc_t (q := 0 ≤ shf fnw 32 (jp * 6 + 5)) (Int32.not_lt.mp (fun h9 => c_17_5468 (hsl9.symm ▸ h9)))]; done) | (simp only [nI_clamp (n := jp) (by omega), ifc_t ekq, ifc_t hkq, ifc_t hN, ifc_t hV, ifc_t a5465, ifc_t (q := 0 ≤ shf fnw 32 (jp * 6 + 5)) (Int32.not_lt.mp (fun h9 => c_17_5468 (hsl9.symm ▸ h9)))]; rfl)), ⟨hN, hV, SCX.rf, FRO.rf, (fun i hi9 => by first | rfl | (simp only [nI_clamp (n := jp) (by omega), ifc_t ekq, ifc_t hkq, ifc_t hN, ifc_t hV, ifc_t a5465, ifc_t (q := 0 ≤ shf fnw 32 (jp * 6 + 5)) (Int32.not_lt.mp (fun h9 => c_17_5468 (hsl9.symm ▸ h9)))]; done))⟩⟩) rfl dX12_lose_22)
  · refine lv_if_ne (tgt := 11) hx hb dX12_lose_6 (by decide) (fun c9 => absurd (by decide) c9) (fun _ => ?_)
    refine lv_iconst (v := (-1)) hx hb dX12_lose_9 (by decide) ?_
    exact toQ hQ0 (RI (v := (-1)) hC hP hD hS [0, 1] fnw rfl rfl (by decide) (⟨(by first | rfl | (simp only [ifc_t ekq, ifc_t hkq, ifc_t hN, ifc_t hV, ifc_f a5465]; done) | (simp only [ifc_t ekq, ifc_t hkq, ifc_t hN, ifc_t hV, ifc_f a5465]; rfl)), ⟨hN, hV, SCX.rf, FRO.rf, (fun i hi9 => by first | rfl | (simp only [ifc_t ekq, ifc_t hkq, ifc_t hN, ifc_t hV, ifc_f a5465]; done))⟩⟩) rfl dX12_lose_10)
def K_m_stamped (l : Launch) (G : GG) (k6 : Nat) (h0 : Nat) (jp : Nat) (jc : Nat) (jh : Nat) (nw : Nat) (nk : Nat) (mhasKept : Int32) (nt : Nat) (mtaped : Int32) (nr : Nat) (mrowMany : Int32) (mroundOf : Int32) (mroundFrom : Int32) (mouts : Int32) (nm : Nat) (mfromHour : Int32) (mtoHour : Int32) (ns : Nat) (mfrom : Int32) (mto : Int32) (msort : Int32) (misFault : Int32) (mdeep : Int32) (mcoded : Int32) (mlines : Int32) (nl : Nat) (nc : Nat) (nF : Nat) (np : Nat) (ntr : Nat) (nb : Nat) (mbestCost : Int32) (nso : Nat) (nsi : Nat) (nit : Nat) (nsh : Nat) (nsf : Nat) (nss : Nat) (nrc : Nat) (mtraced : Int32) (mdealer : Int32) (mnumber : Int32) (mwhose : Int32) (msize : Int32) (misParted : Int32) (fnw : Nat → Int32) : Prop := MV l G yX12_stamped cX12_stamped 5 1 0 0 [.ref h0, .int (nI jp), .int (nI jc), .int (nI jh)] [(h0, oX12 nw nk mhasKept nt mtaped nr mrowMany mroundOf mroundFrom mouts nm mfromHour mtoHour ns mfrom mto msort misFault mdeep mcoded mlines nl nc nF np ntr nb mbestCost nso nsi nit nsh nsf nss nrc mtraced mdealer mnumber mwhose msize misParted), (nw, iA G 1662 fnw)] (fun u : (Nat → Int32) => (NI u ∧ VI u ∧ SCX u (fnw 0) (fnw 1) (fnw 2) (fnw 3) (fnw 4) (fnw 5) (nI (k6 + 1)) (fnw 8) (fnw 9) (fnw 10) (fnw 11) ∧ FRO u fnw 104 176) ∧ u 6 = nI (k6 + 1) ∧ ∀ i : Nat, i < 72 → u (104 + i) = rowu (shf fnw 104) (k6 * 3) [nI jp, nI jc, nI jh] i) (fun u : (Nat → Int32) => [(h0, oX12 nw nk mhasKept nt mtaped nr mrowMany mroundOf mroundFrom mouts nm mfromHour mtoHour ns mfrom mto msort misFault mdeep mcoded mlines nl nc nF np ntr nb mbestCost nso nsi nit nsh nsf nss nrc mtraced mdealer mnumber mwhose msize misParted), (nw, iA G 1662 u)])
set_option maxHeartbeats 4000000 in
set_option maxRecDepth 100000 in
theorem m_stamped (l : Launch) (G : GG) (k6 : Nat) (h0 : Nat) (jp : Nat) (jc : Nat) (jh : Nat) (nw : Nat) (nk : Nat) (mhasKept : Int32) (nt : Nat) (mtaped : Int32) (nr : Nat) (mrowMany : Int32) (mroundOf : Int32) (mroundFrom : Int32) (mouts : Int32) (nm : Nat) (mfromHour : Int32) (mtoHour : Int32) (ns : Nat) (mfrom : Int32) (mto : Int32) (msort : Int32) (misFault : Int32) (mdeep : Int32) (mcoded : Int32) (mlines : Int32) (nl : Nat) (nc : Nat) (nF : Nat) (np : Nat) (ntr : Nat) (nb : Nat) (mbestCost : Int32) (nso : Nat) (nsi : Nat) (nit : Nat) (nsh : Nat) (nsf : Nat) (nss : Nat) (nrc : Nat) (mtraced : Int32) (mdealer : Int32) (mnumber : Int32) (mwhose : Int32) (msize : Int32) (misParted : Int32) (fnw : Nat → Int32) (e6 : fnw 6 = nI k6) (hk6 : k6 < 24) (hjp : jp < 12) (hjc : jc < 6) (hjh : jh < 1000) (hN : NI fnw) (hV : VI fnw) : K_m_stamped l G k6 h0 jp jc jh nw nk mhasKept nt mtaped nr mrowMany mroundOf mroundFrom mouts nm mfromHour mtoHour ns mfrom mto msort misFault mdeep mcoded mlines nl nc nF np ntr nb mbestCost nso nsi nit nsh nsf nss nrc mtraced mdealer mnumber mwhose msize misParted fnw := by
  refine MV.start (by decide +kernel) (Nat.le_of_ble_eq_true rfl) ?_
  intro p e s m below meth c A ls hC hK hP hD hS hA hl
  refine absQ (fun Q0 hQ0 => ?_)
  have hl : lv_has ls 5 [(0, .ref h0), (1, .int (nI jp)), (2, .int (nI jc)), (3, .int (nI jh))] := hl
  refine Kan8 hC (fun hx hb hr hml hB hown hlocks hnm => ?_)
  refine lv_bipush (v := 104) hx hb dX12_stamped_0 (by decide) ?_
  refine lv_iconst (v := 3) hx hb dX12_stamped_2 (by decide) ?_
  refine lv_aload_n hx hb dX12_stamped_3 rfl (lv_at0 hl) ?_
  refine gf_X12_9 hC rfl hK hP 0 rfl rfl dX12_stamped_4 ?_
  refine lv_bipush (v := 6) hx hb dX12_stamped_7 (by decide) ?_
  refine ald hC hK hP 1 rfl (vin (by decide +kernel)) (k := 6) (by decide +kernel) (v := nI k6) (e6) dX12_stamped_9 ?_
  refine lv_imul hx hb dX12_stamped_10 ?_
  refine eqi (x1 := nI (3 * k6)) (nI_mul 3 k6) ?_
  refine lv_iadd hx hb dX12_stamped_11 ?_
  refine eqi (x1 := nI (104 + 3 * k6)) (nI_add 104 (3 * k6)) ?_
  refine lv_istore (lv' := [(4, .int (nI (104 + 3 * k6))), (0, .ref h0), (1, .int (nI jp)), (2, .int (nI jc)), (3, .int (nI jh))]) hx hb dX12_stamped_12 hl (by decide) rfl (fun ls hl => ?_)
  refine lv_aload_n hx hb dX12_stamped_14 rfl (lv_at1 hl) ?_
  refine gf_X12_9 hC rfl hK hP 0 rfl rfl dX12_stamped_15 ?_
  refine lv_iload hx hb dX12_stamped_18 (lv_at0 hl) ?_
  refine lv_iload_n hx hb dX12_stamped_20 rfl (lv_at2 hl) ?_
  refine astN hC hK hP hD hS 1 (ws' := [(h0, oX12 nw nk mhasKept nt mtaped nr mrowMany mroundOf mroundFrom mouts nm mfromHour mtoHour ns mfrom mto msort misFault mdeep mcoded mlines nl nc nF np ntr nb mbestCost nso nsi nit nsh nsf nss nrc mtraced mdealer mnumber mwhose msize misParted), (nw, iA G 1662 (upd fnw (104 + 3 * k6) (nI jp)))]) rfl (k := (104 + 3 * k6)) (by omega) (Nat.le_of_ble_eq_true rfl) (rfl) dX12_stamped_21 (fun H locs hP hD hS => ?_)
  refine lv_aload_n hx hb dX12_stamped_22 rfl (lv_at1 hl) ?_
  refine gf_X12_9 hC rfl hK hP 0 rfl rfl dX12_stamped_23 ?_
  refine lv_iload hx hb dX12_stamped_26 (lv_at0 hl) ?_
  refine lv_iconst (v := 1) hx hb dX12_stamped_28 (by decide) ?_
  refine lv_iadd hx hb dX12_stamped_29 ?_
  refine eqi (x1 := nI (104 + 3 * k6 + 1)) (nI_add (104 + 3 * k6) 1) ?_
  refine lv_iload_n hx hb dX12_stamped_30 rfl (lv_at3 hl) ?_
  refine astN hC hK hP hD hS 1 (ws' := [(h0, oX12 nw nk mhasKept nt mtaped nr mrowMany mroundOf mroundFrom mouts nm mfromHour mtoHour ns mfrom mto msort misFault mdeep mcoded mlines nl nc nF np ntr nb mbestCost nso nsi nit nsh nsf nss nrc mtraced mdealer mnumber mwhose msize misParted), (nw, iA G 1662 (upd (upd fnw (104 + 3 * k6) (nI jp)) (104 + 3 * k6 + 1) (nI jc)))]) rfl (k := (104 + 3 * k6 + 1)) (by omega) (Nat.le_of_ble_eq_true rfl) (rfl) dX12_stamped_31 (fun H locs hP hD hS => ?_)
  refine lv_aload_n hx hb dX12_stamped_32 rfl (lv_at1 hl) ?_
  refine gf_X12_9 hC rfl hK hP 0 rfl rfl dX12_stamped_33 ?_
  refine lv_iload hx hb dX12_stamped_36 (lv_at0 hl) ?_
  refine lv_iconst (v := 2) hx hb dX12_stamped_38 (by decide) ?_
  refine lv_iadd hx hb dX12_stamped_39 ?_
  refine eqi (x1 := nI (104 + 3 * k6 + 2)) (nI_add (104 + 3 * k6) 2) ?_
  refine lv_iload_n hx hb dX12_stamped_40 rfl (lv_at4 hl) ?_
  refine astN hC hK hP hD hS 1 (ws' := [(h0, oX12 nw nk mhasKept nt mtaped nr mrowMany mroundOf mroundFrom mouts nm mfromHour mtoHour ns mfrom mto msort misFault mdeep mcoded mlines nl nc nF np ntr nb mbestCost nso nsi nit nsh nsf nss nrc mtraced mdealer mnumber mwhose msize misParted), (nw, iA G 1662 (upd (upd (upd fnw (104 + 3 * k6) (nI jp)) (104 + 3 * k6 + 1) (nI jc)) (104 + 3 * k6 + 2) (nI jh)))]) rfl (k := (104 + 3 * k6 + 2)) (by omega) (Nat.le_of_ble_eq_true rfl) (rfl) dX12_stamped_41 (fun H locs hP hD hS => ?_)
  refine lv_aload_n hx hb dX12_stamped_42 rfl (lv_at1 hl) ?_
  refine gf_X12_9 hC rfl hK hP 0 rfl rfl dX12_stamped_43 ?_
  refine lv_bipush (v := 6) hx hb dX12_stamped_46 (by decide) ?_
  refine lv_dup2_11 hx hb dX12_stamped_48 rfl rfl ?_
  refine ald hC hK hP 1 rfl (vin (by decide +kernel)) (k := 6) (by decide +kernel) (v := nI k6) ((upd_ne (by omega)).trans ((upd_ne (by omega)).trans ((upd_ne (by omega)).trans (e6)))) dX12_stamped_49 ?_
  refine lv_iconst (v := 1) hx hb dX12_stamped_50 (by decide) ?_
  refine lv_iadd hx hb dX12_stamped_51 ?_
  refine eqi (x1 := nI (k6 + 1)) (nI_add k6 1) ?_
  refine ast hC hK hP hD hS 1 (ws' := [(h0, oX12 nw nk mhasKept nt mtaped nr mrowMany mroundOf mroundFrom mouts nm mfromHour mtoHour ns mfrom mto msort misFault mdeep mcoded mlines nl nc nF np ntr nb mbestCost nso nsi nit nsh nsf nss nrc mtraced mdealer mnumber mwhose msize misParted), (nw, iA G 1662 (upd (upd (upd (upd fnw (104 + 3 * k6) (nI jp)) (104 + 3 * k6 + 1) (nI jc)) (104 + 3 * k6 + 2) (nI jh)) 6 (nI (k6 + 1))))]) rfl (vin (by decide +kernel)) (k := 6) (by decide +kernel) (rfl) dX12_stamped_52 (fun H locs hP hD hS => ?_)
  have tu5469 : shf (upd (upd (upd (upd fnw (104 + 3 * k6) (nI jp)) (104 + 3 * k6 + 1) (nI jc)) (104 + 3 * k6 + 2) (nI jh)) 6 (nI (k6 + 1))) 104 = rowu (shf fnw 104) (k6 * 3) [nI jp, nI jc, nI jh] := by rw [sho (by omega), shu (j := k6 * 3 + 2) (by omega), shu (j := k6 * 3 + 1) (by omega), shu (j := k6 * 3 + 0) (by omega)]; rfl
  exact toQ hQ0 (RV hC hP hD hS [0, 1] (upd (upd (upd (upd fnw (104 + 3 * k6) (nI jp)) (104 + 3 * k6 + 1) (nI jc)) (104 + 3 * k6 + 2) (nI jh)) 6 (nI (k6 + 1))) rfl rfl (by decide) (⟨⟨((((hN).setN (B := 11) (bnd_st0 rfl (by omega)) (by omega) (by decide)).setN (B := 5) (bnd_st1 rfl (by omega)) (by omega) (by decide)).setN (B := 999) (bnd_st2 rfl (by omega)) (by omega) (by decide)).setN (B := 24) (show bnd 6 = (0, ((24 : Nat) : Int)) from by decide +kernel) (by omega) (by decide), ((((hV).set (by omega)).set (by omega)).set (by omega)).set (by omega), (((SCX.rf.set (by omega)).set (by omega)).set (by omega)).st, ((((FRO.rf).set (by omega)).set (by omega)).set (by omega)).set (by omega)⟩, upd_eq rfl, fun i _ => congrFun tu5469 i⟩) dX12_stamped_53)
def K_w_stamp (l : Launch) (G : GG) (kq : Nat) (k6 : Nat) (h0 : Nat) (x1 : Int32) (x2 : Int32) (x3 : Int32) (nw : Nat) (nk : Nat) (mhasKept : Int32) (nt : Nat) (mtaped : Int32) (nr : Nat) (mrowMany : Int32) (mroundOf : Int32) (mroundFrom : Int32) (mouts : Int32) (nm : Nat) (mfromHour : Int32) (mtoHour : Int32) (ns : Nat) (mfrom : Int32) (mto : Int32) (msort : Int32) (misFault : Int32) (mdeep : Int32) (mcoded : Int32) (mlines : Int32) (nl : Nat) (nc : Nat) (nF : Nat) (np : Nat) (ntr : Nat) (nb : Nat) (mbestCost : Int32) (nso : Nat) (nsi : Nat) (nit : Nat) (nsh : Nat) (nsf : Nat) (nss : Nat) (nrc : Nat) (mtraced : Int32) (mdealer : Int32) (mnumber : Int32) (mwhose : Int32) (msize : Int32) (misParted : Int32) (fnw : Nat → Int32) : Prop := MI l G yX12_stamp cX12_stamp 4 (some .int) 4 0 0 [.ref h0, .int x1, .int x2, .int x3] [(h0, oX12 nw nk mhasKept nt mtaped nr mrowMany mroundOf mroundFrom mouts nm mfromHour mtoHour ns mfrom mto msort misFault mdeep mcoded mlines nl nc nF np ntr nb mbestCost nso nsi nit nsh nsf nss nrc mtraced mdealer mnumber mwhose msize misParted), (nw, iA G 1662 fnw)] (fun (r : Int32) (u : (Nat → Int32)) => (r = ifc (Hs x1 kq) (ifc (Wi x2 0 5) (ifc (Wi x3 0 999) (ifc (nI k6 = 24) (-2) (nI k6)) (-1)) (-1)) (-1)) ∧ (NI u ∧ VI u ∧ u 0 = fnw 0 ∧ u 1 = fnw 1 ∧ u 2 = fnw 2 ∧ u 3 = fnw 3 ∧ u 4 = fnw 4 ∧ u 5 = fnw 5 ∧ u 6 = ifc (Hs x1 kq) (ifc (Wi x2 0 5) (ifc (Wi x3 0 999) (ifc (nI k6 = 24) (nI k6) (nI (k6 + 1))) (nI k6)) (nI k6)) (nI k6) ∧ u 8 = fnw 8 ∧ u 9 = fnw 9 ∧ u 10 = fnw 10 ∧ u 11 = fnw 11 ∧ FRO u fnw 104 176 ∧ ∀ i : Nat, i < 72 → u (104 + i) = ifc (Hs x1 kq) (ifc (Wi x2 0 5) (ifc (Wi x3 0 999) (ifc (nI k6 = 24) (fnw (104 + i)) (rowu (shf fnw 104) (k6 * 3) [x1, x2, x3] i)) (fnw (104 + i))) (fnw (104 + i))) (fnw (104 + i)))) (fun u : (Nat → Int32) => [(h0, oX12 nw nk mhasKept nt mtaped nr mrowMany mroundOf mroundFrom mouts nm mfromHour mtoHour ns mfrom mto msort misFault mdeep mcoded mlines nl nc nF np ntr nb mbestCost nso nsi nit nsh nsf nss nrc mtraced mdealer mnumber mwhose msize misParted), (nw, iA G 1662 u)])
set_option maxHeartbeats 4000000 in
set_option maxRecDepth 100000 in
theorem w_stamp (l : Launch) (G : GG) (kq : Nat) (k6 : Nat) (h0 : Nat) (x1 : Int32) (x2 : Int32) (x3 : Int32) (nw : Nat) (nk : Nat) (mhasKept : Int32) (nt : Nat) (mtaped : Int32) (nr : Nat) (mrowMany : Int32) (mroundOf : Int32) (mroundFrom : Int32) (mouts : Int32) (nm : Nat) (mfromHour : Int32) (mtoHour : Int32) (ns : Nat) (mfrom : Int32) (mto : Int32) (msort : Int32) (misFault : Int32) (mdeep : Int32) (mcoded : Int32) (mlines : Int32) (nl : Nat) (nc : Nat) (nF : Nat) (np : Nat) (ntr : Nat) (nb : Nat) (mbestCost : Int32) (nso : Nat) (nsi : Nat) (nit : Nat) (nsh : Nat) (nsf : Nat) (nss : Nat) (nrc : Nat) (mtraced : Int32) (mdealer : Int32) (mnumber : Int32) (mwhose : Int32) (msize : Int32) (misParted : Int32) (fnw : Nat → Int32) (ekq : fnw 5 = nI kq) (hkq : kq ≤ 12) (ek6 : fnw 6 = nI k6) (hk6 : k6 ≤ 24) (hN : NI fnw) (hV : VI fnw) : K_w_stamp l G kq k6 h0 x1 x2 x3 nw nk mhasKept nt mtaped nr mrowMany mroundOf mroundFrom mouts nm mfromHour mtoHour ns mfrom mto msort misFault mdeep mcoded mlines nl nc nF np ntr nb mbestCost nso nsi nit nsh nsf nss nrc mtraced mdealer mnumber mwhose msize misParted fnw := by
  refine MI.start (by decide +kernel) (Nat.le_of_ble_eq_true rfl) ?_
  intro p e s m below meth c A ls hC hK hP hD hS hA hl
  refine absQ (fun Q0 hQ0 => ?_)
  have hl : lv_has ls 4 [(0, .ref h0), (1, .int x1), (2, .int x2), (3, .int x3)] := hl
  refine Kan8 hC (fun hx hb hr hml hB hown hlocks hnm => ?_)
  refine lv_aload_n hx hb dX12_stamp_0 rfl (lv_at0 hl) ?_
  refine lv_iload_n hx hb dX12_stamp_1 rfl (lv_at1 hl) ?_
  refine lv_iconst (v := 5) hx hb dX12_stamp_2 (by decide) ?_
  refine pV hC hK hl hP hD (m_is l G kq h0 x1 5 nw nk mhasKept nt mtaped nr mrowMany mroundOf mroundFrom mouts nm mfromHour mtoHour ns mfrom mto msort misFault mdeep mcoded mlines nl nc nF np ntr nb mbestCost nso nsi nit nsh nsf nss nrc mtraced mdealer mnumber mwhose msize misParted fnw (by omega) (ekq) (by omega)) si_X12_120 [0, 1] sm_0_1 fm_0_1 nd_0_1 rfl rfl rfl rfl rfl (Nat.le_of_ble_eq_true rfl) rm_4_2_3 ⟨by first | exact Nat.le_of_ble_eq_true rfl | exact Nat.zero_le _, by first | exact Nat.le_of_ble_eq_true rfl | exact Nat.zero_le _⟩ dX12_stamp_3 (Kors (Keqa fun a5471 => ?_) (Keqa fun a5471 => ?_))
  · refine lv_if_eq (tgt := 29) hx hb dX12_stamp_6 (by decide) (fun c9 => absurd c9 (by decide)) (fun _ => ?_)
    refine lv_iload_n hx hb dX12_stamp_9 rfl (lv_at2 hl) ?_
    refine lv_iconst (v := 0) hx hb dX12_stamp_10 (by decide) ?_
    refine lv_iconst (v := 5) hx hb dX12_stamp_11 (by decide) ?_
    refine pS hC hK hl (m_within l G x2 0 5) si_X12_84 rfl rfl (Nat.le_of_ble_eq_true rfl) rm_4_1_3 ⟨by first | exact Nat.le_of_ble_eq_true rfl | exact Nat.zero_le _, by first | exact Nat.le_of_ble_eq_true rfl | exact Nat.zero_le _⟩ dX12_stamp_12 (Kors (Keqa fun a5473 => ?_) (Keqa fun a5473 => ?_))
    · refine lv_if_eq (tgt := 29) hx hb dX12_stamp_15 (by decide) (fun c9 => absurd c9 (by decide)) (fun _ => ?_)
      refine lv_iload_n hx hb dX12_stamp_18 rfl (lv_at3 hl) ?_
      refine lv_iconst (v := 0) hx hb dX12_stamp_19 (by decide) ?_
      refine lv_sipush (v := 999) hx hb dX12_stamp_20 (by decide) ?_
      refine pS hC hK hl (m_within l G x3 0 999) si_X12_84 rfl rfl (Nat.le_of_ble_eq_true rfl) rm_4_1_3 ⟨by first | exact Nat.le_of_ble_eq_true rfl | exact Nat.zero_le _, by first | exact Nat.le_of_ble_eq_true rfl | exact Nat.zero_le _⟩ dX12_stamp_23 (Kors (Keqa fun a5475 => ?_) (Keqa fun a5475 => ?_))
      · refine lv_if_ne (tgt := 31) hx hb dX12_stamp_26 (by decide) (fun _ => ?_) (fun c9 => absurd c9 (by decide))
        refine lv_aload_n hx hb dX12_stamp_31 rfl (lv_at0 hl) ?_
        refine gf_X12_9 hC rfl hK hP 0 rfl rfl dX12_stamp_32 ?_
        refine lv_bipush (v := 6) hx hb dX12_stamp_35 (by decide) ?_
        refine ald hC hK hP 1 rfl (vin (by decide +kernel)) (k := 6) (by decide +kernel) (v := nI k6) (ek6) dX12_stamp_37 ?_
        refine lv_bipush (v := 24) hx hb dX12_stamp_38 (by decide) ?_
        refine lv_icmp_ne (tgt := 46) hx hb dX12_stamp_40 (by decide) (fun c_40_5476 => ?_) (fun c_40_5476 => ?_)
        · have hfull9 := nI_neq (a := k6) (b := 24) (by omega) (by decide) c_40_5476
          obtain ⟨jp, hjp, rfl⟩ := Hs_nat (by omega) a5471
          obtain ⟨jc, hjc, rfl⟩ := Wi_nat (N := 5) (by decide) a5473
          obtain ⟨jh, hjh, rfl⟩ := Wi_nat (N := 999) (by decide) a5475
          refine lv_aload_n hx hb dX12_stamp_46 rfl (lv_at0 hl) ?_
          refine lv_iload_n hx hb dX12_stamp_47 rfl (lv_at1 hl) ?_
          refine lv_iload_n hx hb dX12_stamp_48 rfl (lv_at2 hl) ?_
          refine lv_iload_n hx hb dX12_stamp_49 rfl (lv_at3 hl) ?_
          refine vV (wr := []) hC hK hl hP hD hS hA (m_stamped l G k6 h0 jp jc jh nw nk mhasKept nt mtaped nr mrowMany mroundOf mroundFrom mouts nm mfromHour mtoHour ns mfrom mto msort misFault mdeep mcoded mlines nl nc nF np ntr nb mbestCost nso nsi nit nsh nsf nss nrc mtraced mdealer mnumber mwhose msize misParted fnw (ek6) (by omega) (by omega) (by omega) (by omega) (hN) (hV)) si_X12_133 [0, 1] [] sm_0_1 fm_0_1 nd_0_1 rfl rfl (by decide) rfl rfl rfl rfl rfl (Nat.le_of_ble_eq_true rfl) rm_4_1_5 ⟨Nat.le_of_ble_eq_true rfl, Nat.le_of_ble_eq_true rfl⟩ dX12_stamp_50 (fun gnw5479 H locs hr5477 hP hD hS => ?_)
          try dsimp only at hr5477
          refine Kpdr (ws := [(h0, oX12 nw nk mhasKept nt mtaped nr mrowMany mroundOf mroundFrom mouts nm mfromHour mtoHour ns mfrom mto msort misFault mdeep mcoded mlines nl nc nF np ntr nb mbestCost nso nsi nit nsh nsf nss nrc mtraced mdealer mnumber mwhose msize misParted), (nw, iA G 1662 gnw5479)]) hP hD (fun hP hD => ?_)
          have w5480 := hr5477
          have hNV9 := w5480.1
          refine lv_aload_n hx hb dX12_stamp_53 rfl (lv_at0 hl) ?_
          refine gf_X12_9 hC rfl hK hP 0 rfl rfl dX12_stamp_54 ?_
          refine lv_bipush (v := 6) hx hb dX12_stamp_57 (by decide) ?_
          refine ald hC hK hP 1 rfl (vin (by decide +kernel)) (k := 6) (by decide +kernel) (v := nI (k6 + 1)) (w5480.2.1) dX12_stamp_59 ?_
          refine lv_iconst (v := 1) hx hb dX12_stamp_60 (by decide) ?_
          refine lv_isub hx hb dX12_stamp_61 ?_
          refine eqi (x1 := nI k6) (nI_sub1 _) ?_
          exact toQ hQ0 (RI (v := nI k6) hC hP hD hS [0, 1] gnw5479 rfl rfl (by decide) (⟨(by first | rfl | (simp only [ifc_t ekq, ifc_t hkq, ifc_t ek6, ifc_t hk6, ifc_t hN, ifc_t hV, ifc_t a5471, ifc_t a5473, ifc_t a5475, ifc_f c_40_5476]; done) | (simp only [ifc_t ekq, ifc_t hkq, ifc_t ek6, ifc_t hk6, ifc_t hN, ifc_t hV, ifc_t a5471, ifc_t a5473, ifc_t a5475, ifc_f c_40_5476]; rfl)), ⟨w5480.1.1, w5480.1.2.1, w5480.1.2.2.1.1, w5480.1.2.2.1.2.1, w5480.1.2.2.1.2.2.1, w5480.1.2.2.1.2.2.2.1, w5480.1.2.2.1.2.2.2.2.1, w5480.1.2.2.1.2.2.2.2.2.1, (w5480.1.2.2.1.2.2.2.2.2.2.1).trans (by first | rfl | (simp only [ifc_t ekq, ifc_t hkq, ifc_t ek6, ifc_t hk6, ifc_t hN, ifc_t hV, ifc_t a5471, ifc_t a5473, ifc_t a5475, ifc_f c_40_5476]; done)), w5480.1.2.2.1.2.2.2.2.2.2.2.1, w5480.1.2.2.1.2.2.2.2.2.2.2.2.1, w5480.1.2.2.1.2.2.2.2.2.2.2.2.2.1, w5480.1.2.2.1.2.2.2.2.2.2.2.2.2.2, w5480.1.2.2.2, fun i hi9 => (w5480.2.2 i hi9).trans (by first | rfl | (simp only [ifc_t ekq, ifc_t hkq, ifc_t ek6, ifc_t hk6, ifc_t hN, ifc_t hV, ifc_t a5471, ifc_t a5473, ifc_t a5475, ifc_f c_40_5476]; done))⟩⟩) rfl dX12_stamp_62)
        · refine lv_bipush (v := (-2)) hx hb dX12_stamp_43 (by decide) ?_
          exact toQ hQ0 (RI (v := (-2)) hC hP hD hS [0, 1] fnw rfl rfl (by decide) (⟨(by first | rfl | (simp only [ifc_t ekq, ifc_t hkq, ifc_t ek6, ifc_t hk6, ifc_t hN, ifc_t hV, ifc_t a5471, ifc_t a5473, ifc_t a5475, ifc_t c_40_5476]; done) | (simp only [ifc_t ekq, ifc_t hkq, ifc_t ek6, ifc_t hk6, ifc_t hN, ifc_t hV, ifc_t a5471, ifc_t a5473, ifc_t a5475, ifc_t c_40_5476]; rfl)), ⟨hN, hV, rfl, rfl, rfl, rfl, rfl, rfl, ek6.trans (by first | rfl | (simp only [ifc_t ekq, ifc_t hkq, ifc_t ek6, ifc_t hk6, ifc_t hN, ifc_t hV, ifc_t a5471, ifc_t a5473, ifc_t a5475, ifc_t c_40_5476]; done)), rfl, rfl, rfl, rfl, FRO.rf, fun i hi9 => (by first | rfl | (simp only [ifc_t ekq, ifc_t hkq, ifc_t ek6, ifc_t hk6, ifc_t hN, ifc_t hV, ifc_t a5471, ifc_t a5473, ifc_t a5475, ifc_t c_40_5476]; done))⟩⟩) rfl dX12_stamp_45)
      · refine lv_if_ne (tgt := 31) hx hb dX12_stamp_26 (by decide) (fun c9 => absurd (by decide) c9) (fun _ => ?_)
        refine lv_iconst (v := (-1)) hx hb dX12_stamp_29 (by decide) ?_
        exact toQ hQ0 (RI (v := (-1)) hC hP hD hS [0, 1] fnw rfl rfl (by decide) (⟨(by first | rfl | (simp only [ifc_t ekq, ifc_t hkq, ifc_t ek6, ifc_t hk6, ifc_t hN, ifc_t hV, ifc_t a5471, ifc_t a5473, ifc_f a5475]; done) | (simp only [ifc_t ekq, ifc_t hkq, ifc_t ek6, ifc_t hk6, ifc_t hN, ifc_t hV, ifc_t a5471, ifc_t a5473, ifc_f a5475]; rfl)), ⟨hN, hV, rfl, rfl, rfl, rfl, rfl, rfl, ek6.trans (by first | rfl | (simp only [ifc_t ekq, ifc_t hkq, ifc_t ek6, ifc_t hk6, ifc_t hN, ifc_t hV, ifc_t a5471, ifc_t a5473, ifc_f a5475]; done)), rfl, rfl, rfl, rfl, FRO.rf, fun i hi9 => (by first | rfl | (simp only [ifc_t ekq, ifc_t hkq, ifc_t ek6, ifc_t hk6, ifc_t hN, ifc_t hV, ifc_t a5471, ifc_t a5473, ifc_f a5475]; done))⟩⟩) rfl dX12_stamp_30)
    · refine lv_if_eq (tgt := 29) hx hb dX12_stamp_15 (by decide) (fun _ => ?_) (fun c9 => absurd (by decide) c9)
      refine lv_iconst (v := (-1)) hx hb dX12_stamp_29 (by decide) ?_
      exact toQ hQ0 (RI (v := (-1)) hC hP hD hS [0, 1] fnw rfl rfl (by decide) (⟨(by first | rfl | (simp only [ifc_t ekq, ifc_t hkq, ifc_t ek6, ifc_t hk6, ifc_t hN, ifc_t hV, ifc_t a5471, ifc_f a5473]; done) | (simp only [ifc_t ekq, ifc_t hkq, ifc_t ek6, ifc_t hk6, ifc_t hN, ifc_t hV, ifc_t a5471, ifc_f a5473]; rfl)), ⟨hN, hV, rfl, rfl, rfl, rfl, rfl, rfl, ek6.trans (by first | rfl | (simp only [ifc_t ekq, ifc_t hkq, ifc_t ek6, ifc_t hk6, ifc_t hN, ifc_t hV, ifc_t a5471, ifc_f a5473]; done)), rfl, rfl, rfl, rfl, FRO.rf, fun i hi9 => (by first | rfl | (simp only [ifc_t ekq, ifc_t hkq, ifc_t ek6, ifc_t hk6, ifc_t hN, ifc_t hV, ifc_t a5471, ifc_f a5473]; done))⟩⟩) rfl dX12_stamp_30)
  · refine lv_if_eq (tgt := 29) hx hb dX12_stamp_6 (by decide) (fun _ => ?_) (fun c9 => absurd (by decide) c9)
    refine lv_iconst (v := (-1)) hx hb dX12_stamp_29 (by decide) ?_
    exact toQ hQ0 (RI (v := (-1)) hC hP hD hS [0, 1] fnw rfl rfl (by decide) (⟨(by first | rfl | (simp only [ifc_t ekq, ifc_t hkq, ifc_t ek6, ifc_t hk6, ifc_t hN, ifc_t hV, ifc_f a5471]; done) | (simp only [ifc_t ekq, ifc_t hkq, ifc_t ek6, ifc_t hk6, ifc_t hN, ifc_t hV, ifc_f a5471]; rfl)), ⟨hN, hV, rfl, rfl, rfl, rfl, rfl, rfl, ek6.trans (by first | rfl | (simp only [ifc_t ekq, ifc_t hkq, ifc_t ek6, ifc_t hk6, ifc_t hN, ifc_t hV, ifc_f a5471]; done)), rfl, rfl, rfl, rfl, FRO.rf, fun i hi9 => (by first | rfl | (simp only [ifc_t ekq, ifc_t hkq, ifc_t ek6, ifc_t hk6, ifc_t hN, ifc_t hV, ifc_f a5471]; done))⟩⟩) rfl dX12_stamp_30)
def K_w_saying (l : Launch) (G : GG) (kp : Nat) (kq : Nat) (k8 : Nat) (h0 : Nat) (x1 : Int32) (x2 : Int32) (x3 : Int32) (x4 : Int32) (x5 : Int32) (x6 : Int32) (nw : Nat) (nk : Nat) (mhasKept : Int32) (nt : Nat) (mtaped : Int32) (nr : Nat) (mrowMany : Int32) (mroundOf : Int32) (mroundFrom : Int32) (mouts : Int32) (nm : Nat) (mfromHour : Int32) (mtoHour : Int32) (ns : Nat) (mfrom : Int32) (mto : Int32) (msort : Int32) (misFault : Int32) (mdeep : Int32) (mcoded : Int32) (mlines : Int32) (nl : Nat) (nc : Nat) (nF : Nat) (np : Nat) (ntr : Nat) (nb : Nat) (mbestCost : Int32) (nso : Nat) (nsi : Nat) (nit : Nat) (nsh : Nat) (nsf : Nat) (nss : Nat) (nrc : Nat) (mtraced : Int32) (mdealer : Int32) (mnumber : Int32) (mwhose : Int32) (msize : Int32) (misParted : Int32) (fnw : Nat → Int32) : Prop := MI l G yX12_saying_ cX12_saying_ 10 (some .int) 3 0 0 [.ref h0, .int x1, .int x2, .int x3, .int x4, .int x5, .int x6] [(h0, oX12 nw nk mhasKept nt mtaped nr mrowMany mroundOf mroundFrom mouts nm mfromHour mtoHour ns mfrom mto msort misFault mdeep mcoded mlines nl nc nF np ntr nb mbestCost nso nsi nit nsh nsf nss nrc mtraced mdealer mnumber mwhose msize misParted), (nw, iA G 1662 fnw)] (fun (r : Int32) (u : (Nat → Int32)) => (r = ifc (Hs x1 kp) (ifc (Hs x2 kp) (ifc (Hs x3 kq) (ifc (HOW x4) (ifc (TLK x6 k8) (ifc (nI k8 = 16) (-2) (nI k8)) (-1)) (-1)) (-1)) (-1)) (-1)) ∧ (NI u ∧ VI u ∧ u 0 = fnw 0 ∧ u 1 = fnw 1 ∧ u 2 = fnw 2 ∧ u 3 = fnw 3 ∧ u 4 = fnw 4 ∧ u 5 = fnw 5 ∧ u 6 = fnw 6 ∧ u 8 = ifc (Hs x1 kp) (ifc (Hs x2 kp) (ifc (Hs x3 kq) (ifc (HOW x4) (ifc (TLK x6 k8) (ifc (nI k8 = 16) (nI k8) (nI (k8 + 1))) (nI k8)) (nI k8)) (nI k8)) (nI k8)) (nI k8) ∧ u 9 = fnw 9 ∧ u 10 = fnw 10 ∧ u 11 = fnw 11 ∧ FRO u fnw 1424 1552 ∧ ∀ i : Nat, i < 128 → u (1424 + i) = ifc (Hs x1 kp) (ifc (Hs x2 kp) (ifc (Hs x3 kq) (ifc (HOW x4) (ifc (TLK x6 k8) (ifc (nI k8 = 16) (fnw (1424 + i)) (rowu (shf fnw 1424) (k8 * 8) [x1, x2, x3, x4 / 10, x4 - x4 / 10 * 10, ifc (x5 = 0) 0 1, x6, fnw 0] i)) (fnw (1424 + i))) (fnw (1424 + i))) (fnw (1424 + i))) (fnw (1424 + i))) (fnw (1424 + i)))) (fun u : (Nat → Int32) => [(h0, oX12 nw nk mhasKept nt mtaped nr mrowMany mroundOf mroundFrom mouts nm mfromHour mtoHour ns mfrom mto msort misFault mdeep mcoded mlines nl nc nF np ntr nb mbestCost nso nsi nit nsh nsf nss nrc mtraced mdealer mnumber mwhose msize misParted), (nw, iA G 1662 u)])
set_option maxHeartbeats 4000000 in
set_option maxRecDepth 100000 in
theorem w_saying (l : Launch) (G : GG) (kp : Nat) (kq : Nat) (k8 : Nat) (h0 : Nat) (x1 : Int32) (x2 : Int32) (x3 : Int32) (x4 : Int32) (x5 : Int32) (x6 : Int32) (nw : Nat) (nk : Nat) (mhasKept : Int32) (nt : Nat) (mtaped : Int32) (nr : Nat) (mrowMany : Int32) (mroundOf : Int32) (mroundFrom : Int32) (mouts : Int32) (nm : Nat) (mfromHour : Int32) (mtoHour : Int32) (ns : Nat) (mfrom : Int32) (mto : Int32) (msort : Int32) (misFault : Int32) (mdeep : Int32) (mcoded : Int32) (mlines : Int32) (nl : Nat) (nc : Nat) (nF : Nat) (np : Nat) (ntr : Nat) (nb : Nat) (mbestCost : Int32) (nso : Nat) (nsi : Nat) (nit : Nat) (nsh : Nat) (nsf : Nat) (nss : Nat) (nrc : Nat) (mtraced : Int32) (mdealer : Int32) (mnumber : Int32) (mwhose : Int32) (msize : Int32) (misParted : Int32) (fnw : Nat → Int32) (ekp : fnw 4 = nI kp) (hkp : kp ≤ 10) (ekq : fnw 5 = nI kq) (hkq : kq ≤ 12) (ek8 : fnw 8 = nI k8) (hk8 : k8 ≤ 16) (hN : NI fnw) (hV : VI fnw) : K_w_saying l G kp kq k8 h0 x1 x2 x3 x4 x5 x6 nw nk mhasKept nt mtaped nr mrowMany mroundOf mroundFrom mouts nm mfromHour mtoHour ns mfrom mto msort misFault mdeep mcoded mlines nl nc nF np ntr nb mbestCost nso nsi nit nsh nsf nss nrc mtraced mdealer mnumber mwhose msize misParted fnw := by
  refine MI.start (by decide +kernel) (Nat.le_of_ble_eq_true rfl) ?_
  intro p e s m below meth c A ls hC hK hP hD hS hA hl
  refine absQ (fun Q0 hQ0 => ?_)
  have hl : lv_has ls 10 [(0, .ref h0), (1, .int x1), (2, .int x2), (3, .int x3), (4, .int x4), (5, .int x5), (6, .int x6)] := hl
  refine Kan8 hC (fun hx hb hr hml hB hown hlocks hnm => ?_)
  refine lv_aload_n hx hb dX12_saying__0 rfl (lv_at0 hl) ?_
  refine lv_iload_n hx hb dX12_saying__1 rfl (lv_at1 hl) ?_
  refine lv_iconst (v := 4) hx hb dX12_saying__2 (by decide) ?_
  refine pV hC hK hl hP hD (m_is l G kp h0 x1 4 nw nk mhasKept nt mtaped nr mrowMany mroundOf mroundFrom mouts nm mfromHour mtoHour ns mfrom mto msort misFault mdeep mcoded mlines nl nc nF np ntr nb mbestCost nso nsi nit nsh nsf nss nrc mtraced mdealer mnumber mwhose msize misParted fnw (by omega) (ekp) (by omega)) si_X12_120 [0, 1] sm_0_1 fm_0_1 nd_0_1 rfl rfl rfl rfl rfl (Nat.le_of_ble_eq_true rfl) rm_3_2_3 ⟨by first | exact Nat.le_of_ble_eq_true rfl | exact Nat.zero_le _, by first | exact Nat.le_of_ble_eq_true rfl | exact Nat.zero_le _⟩ dX12_saying__3 (Kors (Keqa fun a5482 => ?_) (Keqa fun a5482 => ?_))
  · refine lv_if_eq (tgt := 51) hx hb dX12_saying__6 (by decide) (fun c9 => absurd c9 (by decide)) (fun _ => ?_)
    refine lv_aload_n hx hb dX12_saying__9 rfl (lv_at0 hl) ?_
    refine lv_iload_n hx hb dX12_saying__10 rfl (lv_at2 hl) ?_
    refine lv_iconst (v := 4) hx hb dX12_saying__11 (by decide) ?_
    refine pV hC hK hl hP hD (m_is l G kp h0 x2 4 nw nk mhasKept nt mtaped nr mrowMany mroundOf mroundFrom mouts nm mfromHour mtoHour ns mfrom mto msort misFault mdeep mcoded mlines nl nc nF np ntr nb mbestCost nso nsi nit nsh nsf nss nrc mtraced mdealer mnumber mwhose msize misParted fnw (by omega) (ekp) (by omega)) si_X12_120 [0, 1] sm_0_1 fm_0_1 nd_0_1 rfl rfl rfl rfl rfl (Nat.le_of_ble_eq_true rfl) rm_3_2_3 ⟨by first | exact Nat.le_of_ble_eq_true rfl | exact Nat.zero_le _, by first | exact Nat.le_of_ble_eq_true rfl | exact Nat.zero_le _⟩ dX12_saying__12 (Kors (Keqa fun a5484 => ?_) (Keqa fun a5484 => ?_))
    · refine lv_if_eq (tgt := 51) hx hb dX12_saying__15 (by decide) (fun c9 => absurd c9 (by decide)) (fun _ => ?_)
      refine lv_aload_n hx hb dX12_saying__18 rfl (lv_at0 hl) ?_
      refine lv_iload_n hx hb dX12_saying__19 rfl (lv_at3 hl) ?_
      refine lv_iconst (v := 5) hx hb dX12_saying__20 (by decide) ?_
      refine pV hC hK hl hP hD (m_is l G kq h0 x3 5 nw nk mhasKept nt mtaped nr mrowMany mroundOf mroundFrom mouts nm mfromHour mtoHour ns mfrom mto msort misFault mdeep mcoded mlines nl nc nF np ntr nb mbestCost nso nsi nit nsh nsf nss nrc mtraced mdealer mnumber mwhose msize misParted fnw (by omega) (ekq) (by omega)) si_X12_120 [0, 1] sm_0_1 fm_0_1 nd_0_1 rfl rfl rfl rfl rfl (Nat.le_of_ble_eq_true rfl) rm_3_2_3 ⟨by first | exact Nat.le_of_ble_eq_true rfl | exact Nat.zero_le _, by first | exact Nat.le_of_ble_eq_true rfl | exact Nat.zero_le _⟩ dX12_saying__21 (Kors (Keqa fun a5486 => ?_) (Keqa fun a5486 => ?_))
      · refine lv_if_eq (tgt := 51) hx hb dX12_saying__24 (by decide) (fun c9 => absurd c9 (by decide)) (fun _ => ?_)
        refine lv_iload hx hb dX12_saying__27 (lv_at4 hl) ?_
        refine lv_iconst (v := 1) hx hb dX12_saying__29 (by decide) ?_
        refine lv_sipush (v := 9999) hx hb dX12_saying__30 (by decide) ?_
        refine pS hC hK hl (m_within l G x4 1 9999) si_X12_84 rfl rfl (Nat.le_of_ble_eq_true rfl) rm_3_1_3 ⟨by first | exact Nat.le_of_ble_eq_true rfl | exact Nat.zero_le _, by first | exact Nat.le_of_ble_eq_true rfl | exact Nat.zero_le _⟩ dX12_saying__33 (Kors (Keqa fun a5488 => ?_) (Keqa fun a5488 => ?_))
        · refine lv_if_eq (tgt := 51) hx hb dX12_saying__36 (by decide) (fun c9 => absurd c9 (by decide)) (fun _ => ?_)
          refine lv_iload hx hb dX12_saying__39 (lv_at4 hl) ?_
          refine lv_bipush (v := 10) hx hb dX12_saying__41 (by decide) ?_
          refine lv_irem hx hb dX12_saying__43 (by decide) ?_
          refine lv_topi (fun x5489 ex5489 => ?_)
          refine lv_if_le (tgt := 51) hx hb dX12_saying__44 (by decide) (fun c_44_5490 => ?_) (fun c_44_5490 => ?_)
          · refine lv_iconst (v := 0) hx hb dX12_saying__51 (by decide) ?_
            refine lv_istore (lv' := [(7, .int 0), (0, .ref h0), (1, .int x1), (2, .int x2), (3, .int x3), (4, .int x4), (5, .int x5), (6, .int x6)]) hx hb dX12_saying__52 hl (by decide) rfl (fun ls hl => ?_)
            refine lv_iload hx hb dX12_saying__54 (lv_at0 hl) ?_
            refine lv_if_eq (tgt := 76) hx hb dX12_saying__56 (by decide) (fun _ => ?_) (fun c9 => absurd (by decide) c9)
            refine lv_iconst (v := (-1)) hx hb dX12_saying__76 (by decide) ?_
            exact toQ hQ0 (RI (v := (-1)) hC hP hD hS [0, 1] fnw rfl rfl (by decide) (⟨(by first | rfl | (simp only [ifc_t ekp, ifc_t hkp, ifc_t ekq, ifc_t hkq, ifc_t ek8, ifc_t hk8, ifc_t hN, ifc_t hV, ifc_t a5482, ifc_t a5484, ifc_t a5486, ifc_t a5488, ifc_t c_44_5490, ifc_f (fun h9 : HOW x4 => Int32.not_lt.mpr c_44_5490 (ex5489 ▸ h9.2))]; done) | (simp only [ifc_t ekp, ifc_t hkp, ifc_t ekq, ifc_t hkq, ifc_t ek8, ifc_t hk8, ifc_t hN, ifc_t hV, ifc_t a5482, ifc_t a5484, ifc_t a5486, ifc_t a5488, ifc_t c_44_5490, ifc_f (fun h9 : HOW x4 => Int32.not_lt.mpr c_44_5490 (ex5489 ▸ h9.2))]; rfl)), ⟨hN, hV, rfl, rfl, rfl, rfl, rfl, rfl, rfl, (rfl).trans ((ek8).trans (by first | rfl | (simp only [ifc_t ekp, ifc_t hkp, ifc_t ekq, ifc_t hkq, ifc_t ek8, ifc_t hk8, ifc_t hN, ifc_t hV, ifc_t a5482, ifc_t a5484, ifc_t a5486, ifc_t a5488, ifc_t c_44_5490, ifc_f (fun h9 : HOW x4 => Int32.not_lt.mpr c_44_5490 (ex5489 ▸ h9.2))]; done) | (simp only [ifc_t ekp, ifc_t hkp, ifc_t ekq, ifc_t hkq, ifc_t ek8, ifc_t hk8, ifc_t hN, ifc_t hV, ifc_t a5482, ifc_t a5484, ifc_t a5486, ifc_t a5488, ifc_t c_44_5490, ifc_f (fun h9 : HOW x4 => Int32.not_lt.mpr c_44_5490 (ex5489 ▸ h9.2))]; rfl))), rfl, rfl, rfl, FRO.rf, (fun i hi9 => by first | rfl | (simp only [ifc_t ekp, ifc_t hkp, ifc_t ekq, ifc_t hkq, ifc_t ek8, ifc_t hk8, ifc_t hN, ifc_t hV, ifc_t a5482, ifc_t a5484, ifc_t a5486, ifc_t a5488, ifc_t c_44_5490, ifc_f (fun h9 : HOW x4 => Int32.not_lt.mpr c_44_5490 (ex5489 ▸ h9.2))]; done))⟩⟩) rfl dX12_saying__77)
          · refine lv_iconst (v := 1) hx hb dX12_saying__47 (by decide) ?_
            refine lv_goto (tgt := 52) hx hb dX12_saying__48 (by decide) ?_
            refine lv_istore (lv' := [(7, .int 1), (0, .ref h0), (1, .int x1), (2, .int x2), (3, .int x3), (4, .int x4), (5, .int x5), (6, .int x6)]) hx hb dX12_saying__52 hl (by decide) rfl (fun ls hl => ?_)
            refine lv_iload hx hb dX12_saying__54 (lv_at0 hl) ?_
            refine lv_if_eq (tgt := 76) hx hb dX12_saying__56 (by decide) (fun c9 => absurd c9 (by decide)) (fun _ => ?_)
            refine lv_iload hx hb dX12_saying__59 (lv_at7 hl) ?_
            refine lv_iconst (v := (-1)) hx hb dX12_saying__61 (by decide) ?_
            refine lv_icmp_eq (tgt := 78) hx hb dX12_saying__62 (by decide) (fun c_62_5491 => ?_) (fun c_62_5491 => ?_)
            · refine lv_aload_n hx hb dX12_saying__78 rfl (lv_at1 hl) ?_
              refine gf_X12_9 hC rfl hK hP 0 rfl rfl dX12_saying__79 ?_
              refine lv_bipush (v := 8) hx hb dX12_saying__82 (by decide) ?_
              refine ald hC hK hP 1 rfl (vin (by decide +kernel)) (k := 8) (by decide +kernel) (v := nI k8) (ek8) dX12_saying__84 ?_
              refine lv_istore (lv' := [(8, .int (nI k8)), (7, .int 1), (0, .ref h0), (1, .int x1), (2, .int x2), (3, .int x3), (4, .int x4), (5, .int x5), (6, .int x6)]) hx hb dX12_saying__85 hl (by decide) rfl (fun ls hl => ?_)
              refine lv_iload hx hb dX12_saying__87 (lv_at0 hl) ?_
              refine lv_bipush (v := 16) hx hb dX12_saying__89 (by decide) ?_
              refine lv_icmp_ne (tgt := 97) hx hb dX12_saying__91 (by decide) (fun c_91_5492 => ?_) (fun c_91_5492 => ?_)
              · have hfull9 := nI_neq (a := k8) (b := 16) (by omega) (by decide) c_91_5492
                obtain ⟨jb, hjb, rfl⟩ := Hs_nat (by omega) a5484
                obtain ⟨jp, hjp, rfl⟩ := Hs_nat (by omega) a5486
                refine lv_sipush (v := 1424) hx hb dX12_saying__97 (by decide) ?_
                refine lv_bipush (v := 8) hx hb dX12_saying__100 (by decide) ?_
                refine lv_iload hx hb dX12_saying__102 (lv_at0 hl) ?_
                refine lv_imul hx hb dX12_saying__104 ?_
                refine eqi (x1 := nI (8 * k8)) (nI_mul 8 k8) ?_
                refine lv_iadd hx hb dX12_saying__105 ?_
                refine eqi (x1 := nI (1424 + 8 * k8)) (nI_add 1424 (8 * k8)) ?_
                refine lv_istore (lv' := [(9, .int (nI (1424 + 8 * k8))), (8, .int (nI k8)), (7, .int 1), (0, .ref h0), (1, .int x1), (2, .int (nI jb)), (3, .int (nI jp)), (4, .int x4), (5, .int x5), (6, .int x6)]) hx hb dX12_saying__106 hl (by decide) rfl (fun ls hl => ?_)
                refine lv_aload_n hx hb dX12_saying__108 rfl (lv_at3 hl) ?_
                refine gf_X12_9 hC rfl hK hP 0 rfl rfl dX12_saying__109 ?_
                refine lv_iload hx hb dX12_saying__112 (lv_at0 hl) ?_
                refine lv_iconst (v := 0) hx hb dX12_saying__114 (by decide) ?_
                refine lv_iadd hx hb dX12_saying__115 ?_
                refine eqi (x1 := nI (1424 + 8 * k8 + 0)) (nI_add (1424 + 8 * k8) 0) ?_
                refine lv_iload_n hx hb dX12_saying__116 rfl (lv_at4 hl) ?_
                refine astN hC hK hP hD hS 1 (ws' := [(h0, oX12 nw nk mhasKept nt mtaped nr mrowMany mroundOf mroundFrom mouts nm mfromHour mtoHour ns mfrom mto msort misFault mdeep mcoded mlines nl nc nF np ntr nb mbestCost nso nsi nit nsh nsf nss nrc mtraced mdealer mnumber mwhose msize misParted), (nw, iA G 1662 (upd fnw (1424 + 8 * k8 + 0) x1))]) rfl (k := (1424 + 8 * k8 + 0)) (by omega) (Nat.le_of_ble_eq_true rfl) (rfl) dX12_saying__117 (fun H locs hP hD hS => ?_)
                refine lv_aload_n hx hb dX12_saying__118 rfl (lv_at3 hl) ?_
                refine gf_X12_9 hC rfl hK hP 0 rfl rfl dX12_saying__119 ?_
                refine lv_iload hx hb dX12_saying__122 (lv_at0 hl) ?_
                refine lv_iconst (v := 1) hx hb dX12_saying__124 (by decide) ?_
                refine lv_iadd hx hb dX12_saying__125 ?_
                refine eqi (x1 := nI (1424 + 8 * k8 + 1)) (nI_add (1424 + 8 * k8) 1) ?_
                refine lv_iload_n hx hb dX12_saying__126 rfl (lv_at5 hl) ?_
                refine astN hC hK hP hD hS 1 (ws' := [(h0, oX12 nw nk mhasKept nt mtaped nr mrowMany mroundOf mroundFrom mouts nm mfromHour mtoHour ns mfrom mto msort misFault mdeep mcoded mlines nl nc nF np ntr nb mbestCost nso nsi nit nsh nsf nss nrc mtraced mdealer mnumber mwhose msize misParted), (nw, iA G 1662 (upd (upd fnw (1424 + 8 * k8 + 0) x1) (1424 + 8 * k8 + 1) (nI jb)))]) rfl (k := (1424 + 8 * k8 + 1)) (by omega) (Nat.le_of_ble_eq_true rfl) (rfl) dX12_saying__127 (fun H locs hP hD hS => ?_)
                refine lv_aload_n hx hb dX12_saying__128 rfl (lv_at3 hl) ?_
                refine gf_X12_9 hC rfl hK hP 0 rfl rfl dX12_saying__129 ?_
                refine lv_iload hx hb dX12_saying__132 (lv_at0 hl) ?_
                refine lv_iconst (v := 2) hx hb dX12_saying__134 (by decide) ?_
                refine lv_iadd hx hb dX12_saying__135 ?_
                refine eqi (x1 := nI (1424 + 8 * k8 + 2)) (nI_add (1424 + 8 * k8) 2) ?_
                refine lv_iload_n hx hb dX12_saying__136 rfl (lv_at6 hl) ?_
                refine astN hC hK hP hD hS 1 (ws' := [(h0, oX12 nw nk mhasKept nt mtaped nr mrowMany mroundOf mroundFrom mouts nm mfromHour mtoHour ns mfrom mto msort misFault mdeep mcoded mlines nl nc nF np ntr nb mbestCost nso nsi nit nsh nsf nss nrc mtraced mdealer mnumber mwhose msize misParted), (nw, iA G 1662 (upd (upd (upd fnw (1424 + 8 * k8 + 0) x1) (1424 + 8 * k8 + 1) (nI jb)) (1424 + 8 * k8 + 2) (nI jp)))]) rfl (k := (1424 + 8 * k8 + 2)) (by omega) (Nat.le_of_ble_eq_true rfl) (rfl) dX12_saying__137 (fun H locs hP hD hS => ?_)
                refine lv_aload_n hx hb dX12_saying__138 rfl (lv_at3 hl) ?_
                refine gf_X12_9 hC rfl hK hP 0 rfl rfl dX12_saying__139 ?_
                refine lv_iload hx hb dX12_saying__142 (lv_at0 hl) ?_
                refine lv_iconst (v := 3) hx hb dX12_saying__144 (by decide) ?_
                refine lv_iadd hx hb dX12_saying__145 ?_
                refine eqi (x1 := nI (1424 + 8 * k8 + 3)) (nI_add (1424 + 8 * k8) 3) ?_
                refine lv_iload hx hb dX12_saying__146 (lv_at7 hl) ?_
                refine lv_bipush (v := 10) hx hb dX12_saying__148 (by decide) ?_
                refine lv_idiv hx hb dX12_saying__150 (by decide) ?_
                refine lv_topi (fun x5493 ex5493 => ?_)
                refine astN hC hK hP hD hS 1 (ws' := [(h0, oX12 nw nk mhasKept nt mtaped nr mrowMany mroundOf mroundFrom mouts nm mfromHour mtoHour ns mfrom mto msort misFault mdeep mcoded mlines nl nc nF np ntr nb mbestCost nso nsi nit nsh nsf nss nrc mtraced mdealer mnumber mwhose msize misParted), (nw, iA G 1662 (upd (upd (upd (upd fnw (1424 + 8 * k8 + 0) x1) (1424 + 8 * k8 + 1) (nI jb)) (1424 + 8 * k8 + 2) (nI jp)) (1424 + 8 * k8 + 3) x5493))]) rfl (k := (1424 + 8 * k8 + 3)) (by omega) (Nat.le_of_ble_eq_true rfl) (rfl) dX12_saying__151 (fun H locs hP hD hS => ?_)
                refine lv_aload_n hx hb dX12_saying__152 rfl (lv_at3 hl) ?_
                refine gf_X12_9 hC rfl hK hP 0 rfl rfl dX12_saying__153 ?_
                refine lv_iload hx hb dX12_saying__156 (lv_at0 hl) ?_
                refine lv_iconst (v := 4) hx hb dX12_saying__158 (by decide) ?_
                refine lv_iadd hx hb dX12_saying__159 ?_
                refine eqi (x1 := nI (1424 + 8 * k8 + 4)) (nI_add (1424 + 8 * k8) 4) ?_
                refine lv_iload hx hb dX12_saying__160 (lv_at7 hl) ?_
                refine lv_bipush (v := 10) hx hb dX12_saying__162 (by decide) ?_
                refine lv_irem hx hb dX12_saying__164 (by decide) ?_
                refine lv_topi (fun x5494 ex5494 => ?_)
                refine astN hC hK hP hD hS 1 (ws' := [(h0, oX12 nw nk mhasKept nt mtaped nr mrowMany mroundOf mroundFrom mouts nm mfromHour mtoHour ns mfrom mto msort misFault mdeep mcoded mlines nl nc nF np ntr nb mbestCost nso nsi nit nsh nsf nss nrc mtraced mdealer mnumber mwhose msize misParted), (nw, iA G 1662 (upd (upd (upd (upd (upd fnw (1424 + 8 * k8 + 0) x1) (1424 + 8 * k8 + 1) (nI jb)) (1424 + 8 * k8 + 2) (nI jp)) (1424 + 8 * k8 + 3) x5493) (1424 + 8 * k8 + 4) x5494))]) rfl (k := (1424 + 8 * k8 + 4)) (by omega) (Nat.le_of_ble_eq_true rfl) (rfl) dX12_saying__165 (fun H locs hP hD hS => ?_)
                refine lv_aload_n hx hb dX12_saying__166 rfl (lv_at3 hl) ?_
                refine gf_X12_9 hC rfl hK hP 0 rfl rfl dX12_saying__167 ?_
                refine lv_iload hx hb dX12_saying__170 (lv_at0 hl) ?_
                refine lv_iconst (v := 5) hx hb dX12_saying__172 (by decide) ?_
                refine lv_iadd hx hb dX12_saying__173 ?_
                refine eqi (x1 := nI (1424 + 8 * k8 + 5)) (nI_add (1424 + 8 * k8) 5) ?_
                refine lv_iload hx hb dX12_saying__174 (lv_at8 hl) ?_
                refine lv_if_eq (tgt := 183) hx hb dX12_saying__176 (by decide) (fun c_176_5495 => ?_) (fun c_176_5495 => ?_)
                · refine lv_iconst (v := 0) hx hb dX12_saying__183 (by decide) ?_
                  refine astN hC hK hP hD hS 1 (ws' := [(h0, oX12 nw nk mhasKept nt mtaped nr mrowMany mroundOf mroundFrom mouts nm mfromHour mtoHour ns mfrom mto msort misFault mdeep mcoded mlines nl nc nF np ntr nb mbestCost nso nsi nit nsh nsf nss nrc mtraced mdealer mnumber mwhose msize misParted), (nw, iA G 1662 (upd (upd (upd (upd (upd (upd fnw (1424 + 8 * k8 + 0) x1) (1424 + 8 * k8 + 1) (nI jb)) (1424 + 8 * k8 + 2) (nI jp)) (1424 + 8 * k8 + 3) x5493) (1424 + 8 * k8 + 4) x5494) (1424 + 8 * k8 + 5) 0))]) rfl (k := (1424 + 8 * k8 + 5)) (by omega) (Nat.le_of_ble_eq_true rfl) (rfl) dX12_saying__184 (fun H locs hP hD hS => ?_)
                  refine lv_aload_n hx hb dX12_saying__185 rfl (lv_at3 hl) ?_
                  refine gf_X12_9 hC rfl hK hP 0 rfl rfl dX12_saying__186 ?_
                  refine lv_iload hx hb dX12_saying__189 (lv_at0 hl) ?_
                  refine lv_bipush (v := 6) hx hb dX12_saying__191 (by decide) ?_
                  refine lv_iadd hx hb dX12_saying__193 ?_
                  refine eqi (x1 := nI (1424 + 8 * k8 + 6)) (nI_add (1424 + 8 * k8) 6) ?_
                  refine lv_iload hx hb dX12_saying__194 (lv_at9 hl) ?_
                  refine astN hC hK hP hD hS 1 (ws' := [(h0, oX12 nw nk mhasKept nt mtaped nr mrowMany mroundOf mroundFrom mouts nm mfromHour mtoHour ns mfrom mto msort misFault mdeep mcoded mlines nl nc nF np ntr nb mbestCost nso nsi nit nsh nsf nss nrc mtraced mdealer mnumber mwhose msize misParted), (nw, iA G 1662 (upd (upd (upd (upd (upd (upd (upd fnw (1424 + 8 * k8 + 0) x1) (1424 + 8 * k8 + 1) (nI jb)) (1424 + 8 * k8 + 2) (nI jp)) (1424 + 8 * k8 + 3) x5493) (1424 + 8 * k8 + 4) x5494) (1424 + 8 * k8 + 5) 0) (1424 + 8 * k8 + 6) x6))]) rfl (k := (1424 + 8 * k8 + 6)) (by omega) (Nat.le_of_ble_eq_true rfl) (rfl) dX12_saying__196 (fun H locs hP hD hS => ?_)
                  refine lv_aload_n hx hb dX12_saying__197 rfl (lv_at3 hl) ?_
                  refine gf_X12_9 hC rfl hK hP 0 rfl rfl dX12_saying__198 ?_
                  refine lv_iload hx hb dX12_saying__201 (lv_at0 hl) ?_
                  refine lv_bipush (v := 7) hx hb dX12_saying__203 (by decide) ?_
                  refine lv_iadd hx hb dX12_saying__205 ?_
                  refine eqi (x1 := nI (1424 + 8 * k8 + 7)) (nI_add (1424 + 8 * k8) 7) ?_
                  refine lv_aload_n hx hb dX12_saying__206 rfl (lv_at3 hl) ?_
                  refine gf_X12_9 hC rfl hK hP 0 rfl rfl dX12_saying__207 ?_
                  refine lv_iconst (v := 0) hx hb dX12_saying__210 (by decide) ?_
                  refine ald hC hK hP 1 rfl (vin (by decide +kernel)) (k := 0) (by decide +kernel) (v := fnw 0) ((upd_ne (by omega)).trans ((upd_ne (by omega)).trans ((upd_ne (by omega)).trans ((upd_ne (by omega)).trans ((upd_ne (by omega)).trans ((upd_ne (by omega)).trans ((upd_ne (by omega)).trans (rfl)))))))) dX12_saying__211 ?_
                  refine astN hC hK hP hD hS 1 (ws' := [(h0, oX12 nw nk mhasKept nt mtaped nr mrowMany mroundOf mroundFrom mouts nm mfromHour mtoHour ns mfrom mto msort misFault mdeep mcoded mlines nl nc nF np ntr nb mbestCost nso nsi nit nsh nsf nss nrc mtraced mdealer mnumber mwhose msize misParted), (nw, iA G 1662 (upd (upd (upd (upd (upd (upd (upd (upd fnw (1424 + 8 * k8 + 0) x1) (1424 + 8 * k8 + 1) (nI jb)) (1424 + 8 * k8 + 2) (nI jp)) (1424 + 8 * k8 + 3) x5493) (1424 + 8 * k8 + 4) x5494) (1424 + 8 * k8 + 5) 0) (1424 + 8 * k8 + 6) x6) (1424 + 8 * k8 + 7) (fnw 0)))]) rfl (k := (1424 + 8 * k8 + 7)) (by omega) (Nat.le_of_ble_eq_true rfl) (rfl) dX12_saying__212 (fun H locs hP hD hS => ?_)
                  refine lv_aload_n hx hb dX12_saying__213 rfl (lv_at3 hl) ?_
                  refine gf_X12_9 hC rfl hK hP 0 rfl rfl dX12_saying__214 ?_
                  refine lv_bipush (v := 8) hx hb dX12_saying__217 (by decide) ?_
                  refine lv_dup2_11 hx hb dX12_saying__219 rfl rfl ?_
                  refine ald hC hK hP 1 rfl (vin (by decide +kernel)) (k := 8) (by decide +kernel) (v := nI k8) ((upd_ne (by omega)).trans ((upd_ne (by omega)).trans ((upd_ne (by omega)).trans ((upd_ne (by omega)).trans ((upd_ne (by omega)).trans ((upd_ne (by omega)).trans ((upd_ne (by omega)).trans ((upd_ne (by omega)).trans (ek8))))))))) dX12_saying__220 ?_
                  refine lv_iconst (v := 1) hx hb dX12_saying__221 (by decide) ?_
                  refine lv_iadd hx hb dX12_saying__222 ?_
                  refine eqi (x1 := nI (k8 + 1)) (nI_add k8 1) ?_
                  refine ast hC hK hP hD hS 1 (ws' := [(h0, oX12 nw nk mhasKept nt mtaped nr mrowMany mroundOf mroundFrom mouts nm mfromHour mtoHour ns mfrom mto msort misFault mdeep mcoded mlines nl nc nF np ntr nb mbestCost nso nsi nit nsh nsf nss nrc mtraced mdealer mnumber mwhose msize misParted), (nw, iA G 1662 (upd (upd (upd (upd (upd (upd (upd (upd (upd fnw (1424 + 8 * k8 + 0) x1) (1424 + 8 * k8 + 1) (nI jb)) (1424 + 8 * k8 + 2) (nI jp)) (1424 + 8 * k8 + 3) x5493) (1424 + 8 * k8 + 4) x5494) (1424 + 8 * k8 + 5) 0) (1424 + 8 * k8 + 6) x6) (1424 + 8 * k8 + 7) (fnw 0)) 8 (nI (k8 + 1))))]) rfl (vin (by decide +kernel)) (k := 8) (by decide +kernel) (rfl) dX12_saying__223 (fun H locs hP hD hS => ?_)
                  refine lv_iload hx hb dX12_saying__224 (lv_at1 hl) ?_
                  have tu5496 : shf (upd (upd (upd (upd (upd (upd (upd (upd (upd fnw (1424 + 8 * k8 + 0) x1) (1424 + 8 * k8 + 1) (nI jb)) (1424 + 8 * k8 + 2) (nI jp)) (1424 + 8 * k8 + 3) x5493) (1424 + 8 * k8 + 4) x5494) (1424 + 8 * k8 + 5) 0) (1424 + 8 * k8 + 6) x6) (1424 + 8 * k8 + 7) (fnw 0)) 8 (nI (k8 + 1))) 1424 = rowu (shf fnw 1424) (k8 * 8) [x1, (nI jb), (nI jp), x5493, x5494, 0, x6, (fnw 0)] := by rw [sho (by omega), shu (j := k8 * 8 + 7) (by omega), shu (j := k8 * 8 + 6) (by omega), shu (j := k8 * 8 + 5) (by omega), shu (j := k8 * 8 + 4) (by omega), shu (j := k8 * 8 + 3) (by omega), shu (j := k8 * 8 + 2) (by omega), shu (j := k8 * 8 + 1) (by omega), shu (j := k8 * 8 + 0) (by omega)]; rfl
                  exact toQ hQ0 (RI (v := nI k8) hC hP hD hS [0, 1] (upd (upd (upd (upd (upd (upd (upd (upd (upd fnw (1424 + 8 * k8 + 0) x1) (1424 + 8 * k8 + 1) (nI jb)) (1424 + 8 * k8 + 2) (nI jp)) (1424 + 8 * k8 + 3) x5493) (1424 + 8 * k8 + 4) x5494) (1424 + 8 * k8 + 5) 0) (1424 + 8 * k8 + 6) x6) (1424 + 8 * k8 + 7) (fnw 0)) 8 (nI (k8 + 1))) rfl rfl (by decide) (⟨(by first | rfl | (simp only [ifc_t ekp, ifc_t hkp, ifc_t ekq, ifc_t hkq, ifc_t ek8, ifc_t hk8, ifc_t hN, ifc_t hV, ifc_t a5482, ifc_t a5484, ifc_t a5486, ifc_t a5488, ifc_f c_44_5490, ifc_t c_62_5491, ifc_f c_91_5492, ifc_t c_176_5495, ifc_t (q := HOW x4) ⟨a5488, ex5489 ▸ Int32.not_le.mp c_44_5490⟩, ifc_t (q := TLK x6 k8) (Or.inl c_62_5491)]; done) | (simp only [ifc_t ekp, ifc_t hkp, ifc_t ekq, ifc_t hkq, ifc_t ek8, ifc_t hk8, ifc_t hN, ifc_t hV, ifc_t a5482, ifc_t a5484, ifc_t a5486, ifc_t a5488, ifc_f c_44_5490, ifc_t c_62_5491, ifc_f c_91_5492, ifc_t c_176_5495, ifc_t (q := HOW x4) ⟨a5488, ex5489 ▸ Int32.not_le.mp c_44_5490⟩, ifc_t (q := TLK x6 k8) (Or.inl c_62_5491)]; rfl)), ⟨(((((((((hN).setA (bnd_sayA (s := k8) (r := 0) (by omega) (by omega) (by decide) (by decide) (by decide))).setN (B := 9) (bnd_say1 (s := k8) rfl (by omega)) (by omega) (by decide)).setN (B := 11) (bnd_say2 (s := k8) rfl (by omega)) (by omega) (by decide)).setA (bnd_sayA (s := k8) (r := 3) (by omega) (by omega) (by decide) (by decide) (by decide))).setA (bnd_sayA (s := k8) (r := 4) (by omega) (by omega) (by decide) (by decide) (by decide))).setA (bnd_sayA (s := k8) (r := 5) (by omega) (by omega) (by decide) (by decide) (by decide))).setA (bnd_sayA (s := k8) (r := 6) (by omega) (by omega) (by decide) (by decide) (by decide))).setA (bnd_sayA (s := k8) (r := 7) (by omega) (by omega) (by decide) (by decide) (by decide))).setN (B := 16) (show bnd 8 = (0, ((16 : Nat) : Int)) from by decide +kernel) (by omega) (by decide), (((((((((hV).set (by omega)).set (by omega)).set (by omega)).set (by omega)).set (by omega)).set (by omega)).set (by omega)).set (by omega)).set (by omega), (upd_ne (by omega)).trans ((upd_ne (by omega)).trans ((upd_ne (by omega)).trans ((upd_ne (by omega)).trans ((upd_ne (by omega)).trans ((upd_ne (by omega)).trans ((upd_ne (by omega)).trans ((upd_ne (by omega)).trans (upd_ne (by omega))))))))), (upd_ne (by omega)).trans ((upd_ne (by omega)).trans ((upd_ne (by omega)).trans ((upd_ne (by omega)).trans ((upd_ne (by omega)).trans ((upd_ne (by omega)).trans ((upd_ne (by omega)).trans ((upd_ne (by omega)).trans (upd_ne (by omega))))))))), (upd_ne (by omega)).trans ((upd_ne (by omega)).trans ((upd_ne (by omega)).trans ((upd_ne (by omega)).trans ((upd_ne (by omega)).trans ((upd_ne (by omega)).trans ((upd_ne (by omega)).trans ((upd_ne (by omega)).trans (upd_ne (by omega))))))))), (upd_ne (by omega)).trans ((upd_ne (by omega)).trans ((upd_ne (by omega)).trans ((upd_ne (by omega)).trans ((upd_ne (by omega)).trans ((upd_ne (by omega)).trans ((upd_ne (by omega)).trans ((upd_ne (by omega)).trans (upd_ne (by omega))))))))), (upd_ne (by omega)).trans ((upd_ne (by omega)).trans ((upd_ne (by omega)).trans ((upd_ne (by omega)).trans ((upd_ne (by omega)).trans ((upd_ne (by omega)).trans ((upd_ne (by omega)).trans ((upd_ne (by omega)).trans (upd_ne (by omega))))))))), (upd_ne (by omega)).trans ((upd_ne (by omega)).trans ((upd_ne (by omega)).trans ((upd_ne (by omega)).trans ((upd_ne (by omega)).trans ((upd_ne (by omega)).trans ((upd_ne (by omega)).trans ((upd_ne (by omega)).trans (upd_ne (by omega))))))))), (upd_ne (by omega)).trans ((upd_ne (by omega)).trans ((upd_ne (by omega)).trans ((upd_ne (by omega)).trans ((upd_ne (by omega)).trans ((upd_ne (by omega)).trans ((upd_ne (by omega)).trans ((upd_ne (by omega)).trans (upd_ne (by omega))))))))), (show _ = (nI (k8 + 1)) from upd_eq rfl).trans (by first | rfl | (simp only [ifc_t ekp, ifc_t hkp, ifc_t ekq, ifc_t hkq, ifc_t ek8, ifc_t hk8, ifc_t hN, ifc_t hV, ifc_t a5482, ifc_t a5484, ifc_t a5486, ifc_t a5488, ifc_f c_44_5490, ifc_t c_62_5491, ifc_f c_91_5492, ifc_t c_176_5495, ifc_t (q := HOW x4) ⟨a5488, ex5489 ▸ Int32.not_le.mp c_44_5490⟩, ifc_t (q := TLK x6 k8) (Or.inl c_62_5491)]; done) | (simp only [ifc_t ekp, ifc_t hkp, ifc_t ekq, ifc_t hkq, ifc_t ek8, ifc_t hk8, ifc_t hN, ifc_t hV, ifc_t a5482, ifc_t a5484, ifc_t a5486, ifc_t a5488, ifc_f c_44_5490, ifc_t c_62_5491, ifc_f c_91_5492, ifc_t c_176_5495, ifc_t (q := HOW x4) ⟨a5488, ex5489 ▸ Int32.not_le.mp c_44_5490⟩, ifc_t (q := TLK x6 k8) (Or.inl c_62_5491)]; rfl)), (upd_ne (by omega)).trans ((upd_ne (by omega)).trans ((upd_ne (by omega)).trans ((upd_ne (by omega)).trans ((upd_ne (by omega)).trans ((upd_ne (by omega)).trans ((upd_ne (by omega)).trans ((upd_ne (by omega)).trans (upd_ne (by omega))))))))), (upd_ne (by omega)).trans ((upd_ne (by omega)).trans ((upd_ne (by omega)).trans ((upd_ne (by omega)).trans ((upd_ne (by omega)).trans ((upd_ne (by omega)).trans ((upd_ne (by omega)).trans ((upd_ne (by omega)).trans (upd_ne (by omega))))))))), (upd_ne (by omega)).trans ((upd_ne (by omega)).trans ((upd_ne (by omega)).trans ((upd_ne (by omega)).trans ((upd_ne (by omega)).trans ((upd_ne (by omega)).trans ((upd_ne (by omega)).trans ((upd_ne (by omega)).trans (upd_ne (by omega))))))))), (((((((((FRO.rf).set (by omega)).set (by omega)).set (by omega)).set (by omega)).set (by omega)).set (by omega)).set (by omega)).set (by omega)).set (by omega), (fun i hi9 => by simp only [ifc_t ekp, ifc_t hkp, ifc_t ekq, ifc_t hkq, ifc_t ek8, ifc_t hk8, ifc_t hN, ifc_t hV, ifc_t a5482, ifc_t a5484, ifc_t a5486, ifc_t a5488, ifc_f c_44_5490, ifc_t c_62_5491, ifc_f c_91_5492, ifc_t c_176_5495, ifc_t (q := HOW x4) ⟨a5488, ex5489 ▸ Int32.not_le.mp c_44_5490⟩, ifc_t (q := TLK x6 k8) (Or.inl c_62_5491)]; exact (congrFun tu5496 i).trans (by first | rfl | (simp only [ex5493, ex5494]; done)))⟩⟩) rfl dX12_saying__226)
                · refine lv_iconst (v := 1) hx hb dX12_saying__179 (by decide) ?_
                  refine lv_goto (tgt := 184) hx hb dX12_saying__180 (by decide) ?_
                  refine astN hC hK hP hD hS 1 (ws' := [(h0, oX12 nw nk mhasKept nt mtaped nr mrowMany mroundOf mroundFrom mouts nm mfromHour mtoHour ns mfrom mto msort misFault mdeep mcoded mlines nl nc nF np ntr nb mbestCost nso nsi nit nsh nsf nss nrc mtraced mdealer mnumber mwhose msize misParted), (nw, iA G 1662 (upd (upd (upd (upd (upd (upd fnw (1424 + 8 * k8 + 0) x1) (1424 + 8 * k8 + 1) (nI jb)) (1424 + 8 * k8 + 2) (nI jp)) (1424 + 8 * k8 + 3) x5493) (1424 + 8 * k8 + 4) x5494) (1424 + 8 * k8 + 5) 1))]) rfl (k := (1424 + 8 * k8 + 5)) (by omega) (Nat.le_of_ble_eq_true rfl) (rfl) dX12_saying__184 (fun H locs hP hD hS => ?_)
                  refine lv_aload_n hx hb dX12_saying__185 rfl (lv_at3 hl) ?_
                  refine gf_X12_9 hC rfl hK hP 0 rfl rfl dX12_saying__186 ?_
                  refine lv_iload hx hb dX12_saying__189 (lv_at0 hl) ?_
                  refine lv_bipush (v := 6) hx hb dX12_saying__191 (by decide) ?_
                  refine lv_iadd hx hb dX12_saying__193 ?_
                  refine eqi (x1 := nI (1424 + 8 * k8 + 6)) (nI_add (1424 + 8 * k8) 6) ?_
                  refine lv_iload hx hb dX12_saying__194 (lv_at9 hl) ?_
                  refine astN hC hK hP hD hS 1 (ws' := [(h0, oX12 nw nk mhasKept nt mtaped nr mrowMany mroundOf mroundFrom mouts nm mfromHour mtoHour ns mfrom mto msort misFault mdeep mcoded mlines nl nc nF np ntr nb mbestCost nso nsi nit nsh nsf nss nrc mtraced mdealer mnumber mwhose msize misParted), (nw, iA G 1662 (upd (upd (upd (upd (upd (upd (upd fnw (1424 + 8 * k8 + 0) x1) (1424 + 8 * k8 + 1) (nI jb)) (1424 + 8 * k8 + 2) (nI jp)) (1424 + 8 * k8 + 3) x5493) (1424 + 8 * k8 + 4) x5494) (1424 + 8 * k8 + 5) 1) (1424 + 8 * k8 + 6) x6))]) rfl (k := (1424 + 8 * k8 + 6)) (by omega) (Nat.le_of_ble_eq_true rfl) (rfl) dX12_saying__196 (fun H locs hP hD hS => ?_)
                  refine lv_aload_n hx hb dX12_saying__197 rfl (lv_at3 hl) ?_
                  refine gf_X12_9 hC rfl hK hP 0 rfl rfl dX12_saying__198 ?_
                  refine lv_iload hx hb dX12_saying__201 (lv_at0 hl) ?_
                  refine lv_bipush (v := 7) hx hb dX12_saying__203 (by decide) ?_
                  refine lv_iadd hx hb dX12_saying__205 ?_
                  refine eqi (x1 := nI (1424 + 8 * k8 + 7)) (nI_add (1424 + 8 * k8) 7) ?_
                  refine lv_aload_n hx hb dX12_saying__206 rfl (lv_at3 hl) ?_
                  refine gf_X12_9 hC rfl hK hP 0 rfl rfl dX12_saying__207 ?_
                  refine lv_iconst (v := 0) hx hb dX12_saying__210 (by decide) ?_
                  refine ald hC hK hP 1 rfl (vin (by decide +kernel)) (k := 0) (by decide +kernel) (v := fnw 0) ((upd_ne (by omega)).trans ((upd_ne (by omega)).trans ((upd_ne (by omega)).trans ((upd_ne (by omega)).trans ((upd_ne (by omega)).trans ((upd_ne (by omega)).trans ((upd_ne (by omega)).trans (rfl)))))))) dX12_saying__211 ?_
                  refine astN hC hK hP hD hS 1 (ws' := [(h0, oX12 nw nk mhasKept nt mtaped nr mrowMany mroundOf mroundFrom mouts nm mfromHour mtoHour ns mfrom mto msort misFault mdeep mcoded mlines nl nc nF np ntr nb mbestCost nso nsi nit nsh nsf nss nrc mtraced mdealer mnumber mwhose msize misParted), (nw, iA G 1662 (upd (upd (upd (upd (upd (upd (upd (upd fnw (1424 + 8 * k8 + 0) x1) (1424 + 8 * k8 + 1) (nI jb)) (1424 + 8 * k8 + 2) (nI jp)) (1424 + 8 * k8 + 3) x5493) (1424 + 8 * k8 + 4) x5494) (1424 + 8 * k8 + 5) 1) (1424 + 8 * k8 + 6) x6) (1424 + 8 * k8 + 7) (fnw 0)))]) rfl (k := (1424 + 8 * k8 + 7)) (by omega) (Nat.le_of_ble_eq_true rfl) (rfl) dX12_saying__212 (fun H locs hP hD hS => ?_)
                  refine lv_aload_n hx hb dX12_saying__213 rfl (lv_at3 hl) ?_
                  refine gf_X12_9 hC rfl hK hP 0 rfl rfl dX12_saying__214 ?_
                  refine lv_bipush (v := 8) hx hb dX12_saying__217 (by decide) ?_
                  refine lv_dup2_11 hx hb dX12_saying__219 rfl rfl ?_
                  refine ald hC hK hP 1 rfl (vin (by decide +kernel)) (k := 8) (by decide +kernel) (v := nI k8) ((upd_ne (by omega)).trans ((upd_ne (by omega)).trans ((upd_ne (by omega)).trans ((upd_ne (by omega)).trans ((upd_ne (by omega)).trans ((upd_ne (by omega)).trans ((upd_ne (by omega)).trans ((upd_ne (by omega)).trans (ek8))))))))) dX12_saying__220 ?_
                  refine lv_iconst (v := 1) hx hb dX12_saying__221 (by decide) ?_
                  refine lv_iadd hx hb dX12_saying__222 ?_
                  refine eqi (x1 := nI (k8 + 1)) (nI_add k8 1) ?_
                  refine ast hC hK hP hD hS 1 (ws' := [(h0, oX12 nw nk mhasKept nt mtaped nr mrowMany mroundOf mroundFrom mouts nm mfromHour mtoHour ns mfrom mto msort misFault mdeep mcoded mlines nl nc nF np ntr nb mbestCost nso nsi nit nsh nsf nss nrc mtraced mdealer mnumber mwhose msize misParted), (nw, iA G 1662 (upd (upd (upd (upd (upd (upd (upd (upd (upd fnw (1424 + 8 * k8 + 0) x1) (1424 + 8 * k8 + 1) (nI jb)) (1424 + 8 * k8 + 2) (nI jp)) (1424 + 8 * k8 + 3) x5493) (1424 + 8 * k8 + 4) x5494) (1424 + 8 * k8 + 5) 1) (1424 + 8 * k8 + 6) x6) (1424 + 8 * k8 + 7) (fnw 0)) 8 (nI (k8 + 1))))]) rfl (vin (by decide +kernel)) (k := 8) (by decide +kernel) (rfl) dX12_saying__223 (fun H locs hP hD hS => ?_)
                  refine lv_iload hx hb dX12_saying__224 (lv_at1 hl) ?_
                  have tu5497 : shf (upd (upd (upd (upd (upd (upd (upd (upd (upd fnw (1424 + 8 * k8 + 0) x1) (1424 + 8 * k8 + 1) (nI jb)) (1424 + 8 * k8 + 2) (nI jp)) (1424 + 8 * k8 + 3) x5493) (1424 + 8 * k8 + 4) x5494) (1424 + 8 * k8 + 5) 1) (1424 + 8 * k8 + 6) x6) (1424 + 8 * k8 + 7) (fnw 0)) 8 (nI (k8 + 1))) 1424 = rowu (shf fnw 1424) (k8 * 8) [x1, (nI jb), (nI jp), x5493, x5494, 1, x6, (fnw 0)] := by rw [sho (by omega), shu (j := k8 * 8 + 7) (by omega), shu (j := k8 * 8 + 6) (by omega), shu (j := k8 * 8 + 5) (by omega), shu (j := k8 * 8 + 4) (by omega), shu (j := k8 * 8 + 3) (by omega), shu (j := k8 * 8 + 2) (by omega), shu (j := k8 * 8 + 1) (by omega), shu (j := k8 * 8 + 0) (by omega)]; rfl
                  exact toQ hQ0 (RI (v := nI k8) hC hP hD hS [0, 1] (upd (upd (upd (upd (upd (upd (upd (upd (upd fnw (1424 + 8 * k8 + 0) x1) (1424 + 8 * k8 + 1) (nI jb)) (1424 + 8 * k8 + 2) (nI jp)) (1424 + 8 * k8 + 3) x5493) (1424 + 8 * k8 + 4) x5494) (1424 + 8 * k8 + 5) 1) (1424 + 8 * k8 + 6) x6) (1424 + 8 * k8 + 7) (fnw 0)) 8 (nI (k8 + 1))) rfl rfl (by decide) (⟨(by first | rfl | (simp only [ifc_t ekp, ifc_t hkp, ifc_t ekq, ifc_t hkq, ifc_t ek8, ifc_t hk8, ifc_t hN, ifc_t hV, ifc_t a5482, ifc_t a5484, ifc_t a5486, ifc_t a5488, ifc_f c_44_5490, ifc_t c_62_5491, ifc_f c_91_5492, ifc_f c_176_5495, ifc_t (q := HOW x4) ⟨a5488, ex5489 ▸ Int32.not_le.mp c_44_5490⟩, ifc_t (q := TLK x6 k8) (Or.inl c_62_5491)]; done) | (simp only [ifc_t ekp, ifc_t hkp, ifc_t ekq, ifc_t hkq, ifc_t ek8, ifc_t hk8, ifc_t hN, ifc_t hV, ifc_t a5482, ifc_t a5484, ifc_t a5486, ifc_t a5488, ifc_f c_44_5490, ifc_t c_62_5491, ifc_f c_91_5492, ifc_f c_176_5495, ifc_t (q := HOW x4) ⟨a5488, ex5489 ▸ Int32.not_le.mp c_44_5490⟩, ifc_t (q := TLK x6 k8) (Or.inl c_62_5491)]; rfl)), ⟨(((((((((hN).setA (bnd_sayA (s := k8) (r := 0) (by omega) (by omega) (by decide) (by decide) (by decide))).setN (B := 9) (bnd_say1 (s := k8) rfl (by omega)) (by omega) (by decide)).setN (B := 11) (bnd_say2 (s := k8) rfl (by omega)) (by omega) (by decide)).setA (bnd_sayA (s := k8) (r := 3) (by omega) (by omega) (by decide) (by decide) (by decide))).setA (bnd_sayA (s := k8) (r := 4) (by omega) (by omega) (by decide) (by decide) (by decide))).setA (bnd_sayA (s := k8) (r := 5) (by omega) (by omega) (by decide) (by decide) (by decide))).setA (bnd_sayA (s := k8) (r := 6) (by omega) (by omega) (by decide) (by decide) (by decide))).setA (bnd_sayA (s := k8) (r := 7) (by omega) (by omega) (by decide) (by decide) (by decide))).setN (B := 16) (show bnd 8 = (0, ((16 : Nat) : Int)) from by decide +kernel) (by omega) (by decide), (((((((((hV).set (by omega)).set (by omega)).set (by omega)).set (by omega)).set (by omega)).set (by omega)).set (by omega)).set (by omega)).set (by omega), (upd_ne (by omega)).trans ((upd_ne (by omega)).trans ((upd_ne (by omega)).trans ((upd_ne (by omega)).trans ((upd_ne (by omega)).trans ((upd_ne (by omega)).trans ((upd_ne (by omega)).trans ((upd_ne (by omega)).trans (upd_ne (by omega))))))))), (upd_ne (by omega)).trans ((upd_ne (by omega)).trans ((upd_ne (by omega)).trans ((upd_ne (by omega)).trans ((upd_ne (by omega)).trans ((upd_ne (by omega)).trans ((upd_ne (by omega)).trans ((upd_ne (by omega)).trans (upd_ne (by omega))))))))), (upd_ne (by omega)).trans ((upd_ne (by omega)).trans ((upd_ne (by omega)).trans ((upd_ne (by omega)).trans ((upd_ne (by omega)).trans ((upd_ne (by omega)).trans ((upd_ne (by omega)).trans ((upd_ne (by omega)).trans (upd_ne (by omega))))))))), (upd_ne (by omega)).trans ((upd_ne (by omega)).trans ((upd_ne (by omega)).trans ((upd_ne (by omega)).trans ((upd_ne (by omega)).trans ((upd_ne (by omega)).trans ((upd_ne (by omega)).trans ((upd_ne (by omega)).trans (upd_ne (by omega))))))))), (upd_ne (by omega)).trans ((upd_ne (by omega)).trans ((upd_ne (by omega)).trans ((upd_ne (by omega)).trans ((upd_ne (by omega)).trans ((upd_ne (by omega)).trans ((upd_ne (by omega)).trans ((upd_ne (by omega)).trans (upd_ne (by omega))))))))), (upd_ne (by omega)).trans ((upd_ne (by omega)).trans ((upd_ne (by omega)).trans ((upd_ne (by omega)).trans ((upd_ne (by omega)).trans ((upd_ne (by omega)).trans ((upd_ne (by omega)).trans ((upd_ne (by omega)).trans (upd_ne (by omega))))))))), (upd_ne (by omega)).trans ((upd_ne (by omega)).trans ((upd_ne (by omega)).trans ((upd_ne (by omega)).trans ((upd_ne (by omega)).trans ((upd_ne (by omega)).trans ((upd_ne (by omega)).trans ((upd_ne (by omega)).trans (upd_ne (by omega))))))))), (show _ = (nI (k8 + 1)) from upd_eq rfl).trans (by first | rfl | (simp only [ifc_t ekp, ifc_t hkp, ifc_t ekq, ifc_t hkq, ifc_t ek8, ifc_t hk8, ifc_t hN, ifc_t hV, ifc_t a5482, ifc_t a5484, ifc_t a5486, ifc_t a5488, ifc_f c_44_5490, ifc_t c_62_5491, ifc_f c_91_5492, ifc_f c_176_5495, ifc_t (q := HOW x4) ⟨a5488, ex5489 ▸ Int32.not_le.mp c_44_5490⟩, ifc_t (q := TLK x6 k8) (Or.inl c_62_5491)]; done) | (simp only [ifc_t ekp, ifc_t hkp, ifc_t ekq, ifc_t hkq, ifc_t ek8, ifc_t hk8, ifc_t hN, ifc_t hV, ifc_t a5482, ifc_t a5484, ifc_t a5486, ifc_t a5488, ifc_f c_44_5490, ifc_t c_62_5491, ifc_f c_91_5492, ifc_f c_176_5495, ifc_t (q := HOW x4) ⟨a5488, ex5489 ▸ Int32.not_le.mp c_44_5490⟩, ifc_t (q := TLK x6 k8) (Or.inl c_62_5491)]; rfl)), (upd_ne (by omega)).trans ((upd_ne (by omega)).trans ((upd_ne (by omega)).trans ((upd_ne (by omega)).trans ((upd_ne (by omega)).trans ((upd_ne (by omega)).trans ((upd_ne (by omega)).trans ((upd_ne (by omega)).trans (upd_ne (by omega))))))))), (upd_ne (by omega)).trans ((upd_ne (by omega)).trans ((upd_ne (by omega)).trans ((upd_ne (by omega)).trans ((upd_ne (by omega)).trans ((upd_ne (by omega)).trans ((upd_ne (by omega)).trans ((upd_ne (by omega)).trans (upd_ne (by omega))))))))), (upd_ne (by omega)).trans ((upd_ne (by omega)).trans ((upd_ne (by omega)).trans ((upd_ne (by omega)).trans ((upd_ne (by omega)).trans ((upd_ne (by omega)).trans ((upd_ne (by omega)).trans ((upd_ne (by omega)).trans (upd_ne (by omega))))))))), (((((((((FRO.rf).set (by omega)).set (by omega)).set (by omega)).set (by omega)).set (by omega)).set (by omega)).set (by omega)).set (by omega)).set (by omega), (fun i hi9 => by simp only [ifc_t ekp, ifc_t hkp, ifc_t ekq, ifc_t hkq, ifc_t ek8, ifc_t hk8, ifc_t hN, ifc_t hV, ifc_t a5482, ifc_t a5484, ifc_t a5486, ifc_t a5488, ifc_f c_44_5490, ifc_t c_62_5491, ifc_f c_91_5492, ifc_f c_176_5495, ifc_t (q := HOW x4) ⟨a5488, ex5489 ▸ Int32.not_le.mp c_44_5490⟩, ifc_t (q := TLK x6 k8) (Or.inl c_62_5491)]; exact (congrFun tu5497 i).trans (by first | rfl | (simp only [ex5493, ex5494]; done)))⟩⟩) rfl dX12_saying__226)
              · refine lv_bipush (v := (-2)) hx hb dX12_saying__94 (by decide) ?_
                exact toQ hQ0 (RI (v := (-2)) hC hP hD hS [0, 1] fnw rfl rfl (by decide) (⟨(by first | rfl | (simp only [ifc_t ekp, ifc_t hkp, ifc_t ekq, ifc_t hkq, ifc_t ek8, ifc_t hk8, ifc_t hN, ifc_t hV, ifc_t a5482, ifc_t a5484, ifc_t a5486, ifc_t a5488, ifc_f c_44_5490, ifc_t c_62_5491, ifc_t c_91_5492, ifc_t (q := HOW x4) ⟨a5488, ex5489 ▸ Int32.not_le.mp c_44_5490⟩, ifc_t (q := TLK x6 k8) (Or.inl c_62_5491)]; done) | (simp only [ifc_t ekp, ifc_t hkp, ifc_t ekq, ifc_t hkq, ifc_t ek8, ifc_t hk8, ifc_t hN, ifc_t hV, ifc_t a5482, ifc_t a5484, ifc_t a5486, ifc_t a5488, ifc_f c_44_5490, ifc_t c_62_5491, ifc_t c_91_5492, ifc_t (q := HOW x4) ⟨a5488, ex5489 ▸ Int32.not_le.mp c_44_5490⟩, ifc_t (q := TLK x6 k8) (Or.inl c_62_5491)]; rfl)), ⟨hN, hV, rfl, rfl, rfl, rfl, rfl, rfl, rfl, (rfl).trans ((ek8).trans (by first | rfl | (simp only [ifc_t ekp, ifc_t hkp, ifc_t ekq, ifc_t hkq, ifc_t ek8, ifc_t hk8, ifc_t hN, ifc_t hV, ifc_t a5482, ifc_t a5484, ifc_t a5486, ifc_t a5488, ifc_f c_44_5490, ifc_t c_62_5491, ifc_t c_91_5492, ifc_t (q := HOW x4) ⟨a5488, ex5489 ▸ Int32.not_le.mp c_44_5490⟩, ifc_t (q := TLK x6 k8) (Or.inl c_62_5491)]; done) | (simp only [ifc_t ekp, ifc_t hkp, ifc_t ekq, ifc_t hkq, ifc_t ek8, ifc_t hk8, ifc_t hN, ifc_t hV, ifc_t a5482, ifc_t a5484, ifc_t a5486, ifc_t a5488, ifc_f c_44_5490, ifc_t c_62_5491, ifc_t c_91_5492, ifc_t (q := HOW x4) ⟨a5488, ex5489 ▸ Int32.not_le.mp c_44_5490⟩, ifc_t (q := TLK x6 k8) (Or.inl c_62_5491)]; rfl))), rfl, rfl, rfl, FRO.rf, (fun i hi9 => by first | rfl | (simp only [ifc_t ekp, ifc_t hkp, ifc_t ekq, ifc_t hkq, ifc_t ek8, ifc_t hk8, ifc_t hN, ifc_t hV, ifc_t a5482, ifc_t a5484, ifc_t a5486, ifc_t a5488, ifc_f c_44_5490, ifc_t c_62_5491, ifc_t c_91_5492, ifc_t (q := HOW x4) ⟨a5488, ex5489 ▸ Int32.not_le.mp c_44_5490⟩, ifc_t (q := TLK x6 k8) (Or.inl c_62_5491)]; done))⟩⟩) rfl dX12_saying__96)
            · refine lv_aload_n hx hb dX12_saying__65 rfl (lv_at1 hl) ?_
              refine lv_iload hx hb dX12_saying__66 (lv_at7 hl) ?_
              refine lv_bipush (v := 8) hx hb dX12_saying__68 (by decide) ?_
              refine pV hC hK hl hP hD (m_is l G k8 h0 x6 8 nw nk mhasKept nt mtaped nr mrowMany mroundOf mroundFrom mouts nm mfromHour mtoHour ns mfrom mto msort misFault mdeep mcoded mlines nl nc nF np ntr nb mbestCost nso nsi nit nsh nsf nss nrc mtraced mdealer mnumber mwhose msize misParted fnw (by omega) (ek8) (by omega)) si_X12_120 [0, 1] sm_0_1 fm_0_1 nd_0_1 rfl rfl rfl rfl rfl (Nat.le_of_ble_eq_true rfl) rm_3_2_3 ⟨by first | exact Nat.le_of_ble_eq_true rfl | exact Nat.zero_le _, by first | exact Nat.le_of_ble_eq_true rfl | exact Nat.zero_le _⟩ dX12_saying__70 (Kors (Keqa fun a5499 => ?_) (Keqa fun a5499 => ?_))
              · refine lv_if_ne (tgt := 78) hx hb dX12_saying__73 (by decide) (fun _ => ?_) (fun c9 => absurd c9 (by decide))
                refine lv_aload_n hx hb dX12_saying__78 rfl (lv_at1 hl) ?_
                refine gf_X12_9 hC rfl hK hP 0 rfl rfl dX12_saying__79 ?_
                refine lv_bipush (v := 8) hx hb dX12_saying__82 (by decide) ?_
                refine ald hC hK hP 1 rfl (vin (by decide +kernel)) (k := 8) (by decide +kernel) (v := nI k8) (ek8) dX12_saying__84 ?_
                refine lv_istore (lv' := [(8, .int (nI k8)), (7, .int 1), (0, .ref h0), (1, .int x1), (2, .int x2), (3, .int x3), (4, .int x4), (5, .int x5), (6, .int x6)]) hx hb dX12_saying__85 hl (by decide) rfl (fun ls hl => ?_)
                refine lv_iload hx hb dX12_saying__87 (lv_at0 hl) ?_
                refine lv_bipush (v := 16) hx hb dX12_saying__89 (by decide) ?_
                refine lv_icmp_ne (tgt := 97) hx hb dX12_saying__91 (by decide) (fun c_91_5500 => ?_) (fun c_91_5500 => ?_)
                · have hfull9 := nI_neq (a := k8) (b := 16) (by omega) (by decide) c_91_5500
                  obtain ⟨jb, hjb, rfl⟩ := Hs_nat (by omega) a5484
                  obtain ⟨jp, hjp, rfl⟩ := Hs_nat (by omega) a5486
                  refine lv_sipush (v := 1424) hx hb dX12_saying__97 (by decide) ?_
                  refine lv_bipush (v := 8) hx hb dX12_saying__100 (by decide) ?_
                  refine lv_iload hx hb dX12_saying__102 (lv_at0 hl) ?_
                  refine lv_imul hx hb dX12_saying__104 ?_
                  refine eqi (x1 := nI (8 * k8)) (nI_mul 8 k8) ?_
                  refine lv_iadd hx hb dX12_saying__105 ?_
                  refine eqi (x1 := nI (1424 + 8 * k8)) (nI_add 1424 (8 * k8)) ?_
                  refine lv_istore (lv' := [(9, .int (nI (1424 + 8 * k8))), (8, .int (nI k8)), (7, .int 1), (0, .ref h0), (1, .int x1), (2, .int (nI jb)), (3, .int (nI jp)), (4, .int x4), (5, .int x5), (6, .int x6)]) hx hb dX12_saying__106 hl (by decide) rfl (fun ls hl => ?_)
                  refine lv_aload_n hx hb dX12_saying__108 rfl (lv_at3 hl) ?_
                  refine gf_X12_9 hC rfl hK hP 0 rfl rfl dX12_saying__109 ?_
                  refine lv_iload hx hb dX12_saying__112 (lv_at0 hl) ?_
                  refine lv_iconst (v := 0) hx hb dX12_saying__114 (by decide) ?_
                  refine lv_iadd hx hb dX12_saying__115 ?_
                  refine eqi (x1 := nI (1424 + 8 * k8 + 0)) (nI_add (1424 + 8 * k8) 0) ?_
                  refine lv_iload_n hx hb dX12_saying__116 rfl (lv_at4 hl) ?_
                  refine astN hC hK hP hD hS 1 (ws' := [(h0, oX12 nw nk mhasKept nt mtaped nr mrowMany mroundOf mroundFrom mouts nm mfromHour mtoHour ns mfrom mto msort misFault mdeep mcoded mlines nl nc nF np ntr nb mbestCost nso nsi nit nsh nsf nss nrc mtraced mdealer mnumber mwhose msize misParted), (nw, iA G 1662 (upd fnw (1424 + 8 * k8 + 0) x1))]) rfl (k := (1424 + 8 * k8 + 0)) (by omega) (Nat.le_of_ble_eq_true rfl) (rfl) dX12_saying__117 (fun H locs hP hD hS => ?_)
                  refine lv_aload_n hx hb dX12_saying__118 rfl (lv_at3 hl) ?_
                  refine gf_X12_9 hC rfl hK hP 0 rfl rfl dX12_saying__119 ?_
                  refine lv_iload hx hb dX12_saying__122 (lv_at0 hl) ?_
                  refine lv_iconst (v := 1) hx hb dX12_saying__124 (by decide) ?_
                  refine lv_iadd hx hb dX12_saying__125 ?_
                  refine eqi (x1 := nI (1424 + 8 * k8 + 1)) (nI_add (1424 + 8 * k8) 1) ?_
                  refine lv_iload_n hx hb dX12_saying__126 rfl (lv_at5 hl) ?_
                  refine astN hC hK hP hD hS 1 (ws' := [(h0, oX12 nw nk mhasKept nt mtaped nr mrowMany mroundOf mroundFrom mouts nm mfromHour mtoHour ns mfrom mto msort misFault mdeep mcoded mlines nl nc nF np ntr nb mbestCost nso nsi nit nsh nsf nss nrc mtraced mdealer mnumber mwhose msize misParted), (nw, iA G 1662 (upd (upd fnw (1424 + 8 * k8 + 0) x1) (1424 + 8 * k8 + 1) (nI jb)))]) rfl (k := (1424 + 8 * k8 + 1)) (by omega) (Nat.le_of_ble_eq_true rfl) (rfl) dX12_saying__127 (fun H locs hP hD hS => ?_)
                  refine lv_aload_n hx hb dX12_saying__128 rfl (lv_at3 hl) ?_
                  refine gf_X12_9 hC rfl hK hP 0 rfl rfl dX12_saying__129 ?_
                  refine lv_iload hx hb dX12_saying__132 (lv_at0 hl) ?_
                  refine lv_iconst (v := 2) hx hb dX12_saying__134 (by decide) ?_
                  refine lv_iadd hx hb dX12_saying__135 ?_
                  refine eqi (x1 := nI (1424 + 8 * k8 + 2)) (nI_add (1424 + 8 * k8) 2) ?_
                  refine lv_iload_n hx hb dX12_saying__136 rfl (lv_at6 hl) ?_
                  refine astN hC hK hP hD hS 1 (ws' := [(h0, oX12 nw nk mhasKept nt mtaped nr mrowMany mroundOf mroundFrom mouts nm mfromHour mtoHour ns mfrom mto msort misFault mdeep mcoded mlines nl nc nF np ntr nb mbestCost nso nsi nit nsh nsf nss nrc mtraced mdealer mnumber mwhose msize misParted), (nw, iA G 1662 (upd (upd (upd fnw (1424 + 8 * k8 + 0) x1) (1424 + 8 * k8 + 1) (nI jb)) (1424 + 8 * k8 + 2) (nI jp)))]) rfl (k := (1424 + 8 * k8 + 2)) (by omega) (Nat.le_of_ble_eq_true rfl) (rfl) dX12_saying__137 (fun H locs hP hD hS => ?_)
                  refine lv_aload_n hx hb dX12_saying__138 rfl (lv_at3 hl) ?_
                  refine gf_X12_9 hC rfl hK hP 0 rfl rfl dX12_saying__139 ?_
                  refine lv_iload hx hb dX12_saying__142 (lv_at0 hl) ?_
                  refine lv_iconst (v := 3) hx hb dX12_saying__144 (by decide) ?_
                  refine lv_iadd hx hb dX12_saying__145 ?_
                  refine eqi (x1 := nI (1424 + 8 * k8 + 3)) (nI_add (1424 + 8 * k8) 3) ?_
                  refine lv_iload hx hb dX12_saying__146 (lv_at7 hl) ?_
                  refine lv_bipush (v := 10) hx hb dX12_saying__148 (by decide) ?_
                  refine lv_idiv hx hb dX12_saying__150 (by decide) ?_
                  refine lv_topi (fun x5501 ex5501 => ?_)
                  refine astN hC hK hP hD hS 1 (ws' := [(h0, oX12 nw nk mhasKept nt mtaped nr mrowMany mroundOf mroundFrom mouts nm mfromHour mtoHour ns mfrom mto msort misFault mdeep mcoded mlines nl nc nF np ntr nb mbestCost nso nsi nit nsh nsf nss nrc mtraced mdealer mnumber mwhose msize misParted), (nw, iA G 1662 (upd (upd (upd (upd fnw (1424 + 8 * k8 + 0) x1) (1424 + 8 * k8 + 1) (nI jb)) (1424 + 8 * k8 + 2) (nI jp)) (1424 + 8 * k8 + 3) x5501))]) rfl (k := (1424 + 8 * k8 + 3)) (by omega) (Nat.le_of_ble_eq_true rfl) (rfl) dX12_saying__151 (fun H locs hP hD hS => ?_)
                  refine lv_aload_n hx hb dX12_saying__152 rfl (lv_at3 hl) ?_
                  refine gf_X12_9 hC rfl hK hP 0 rfl rfl dX12_saying__153 ?_
                  refine lv_iload hx hb dX12_saying__156 (lv_at0 hl) ?_
                  refine lv_iconst (v := 4) hx hb dX12_saying__158 (by decide) ?_
                  refine lv_iadd hx hb dX12_saying__159 ?_
                  refine eqi (x1 := nI (1424 + 8 * k8 + 4)) (nI_add (1424 + 8 * k8) 4) ?_
                  refine lv_iload hx hb dX12_saying__160 (lv_at7 hl) ?_
                  refine lv_bipush (v := 10) hx hb dX12_saying__162 (by decide) ?_
                  refine lv_irem hx hb dX12_saying__164 (by decide) ?_
                  refine lv_topi (fun x5502 ex5502 => ?_)
                  refine astN hC hK hP hD hS 1 (ws' := [(h0, oX12 nw nk mhasKept nt mtaped nr mrowMany mroundOf mroundFrom mouts nm mfromHour mtoHour ns mfrom mto msort misFault mdeep mcoded mlines nl nc nF np ntr nb mbestCost nso nsi nit nsh nsf nss nrc mtraced mdealer mnumber mwhose msize misParted), (nw, iA G 1662 (upd (upd (upd (upd (upd fnw (1424 + 8 * k8 + 0) x1) (1424 + 8 * k8 + 1) (nI jb)) (1424 + 8 * k8 + 2) (nI jp)) (1424 + 8 * k8 + 3) x5501) (1424 + 8 * k8 + 4) x5502))]) rfl (k := (1424 + 8 * k8 + 4)) (by omega) (Nat.le_of_ble_eq_true rfl) (rfl) dX12_saying__165 (fun H locs hP hD hS => ?_)
                  refine lv_aload_n hx hb dX12_saying__166 rfl (lv_at3 hl) ?_
                  refine gf_X12_9 hC rfl hK hP 0 rfl rfl dX12_saying__167 ?_
                  refine lv_iload hx hb dX12_saying__170 (lv_at0 hl) ?_
                  refine lv_iconst (v := 5) hx hb dX12_saying__172 (by decide) ?_
                  refine lv_iadd hx hb dX12_saying__173 ?_
                  refine eqi (x1 := nI (1424 + 8 * k8 + 5)) (nI_add (1424 + 8 * k8) 5) ?_
                  refine lv_iload hx hb dX12_saying__174 (lv_at8 hl) ?_
                  refine lv_if_eq (tgt := 183) hx hb dX12_saying__176 (by decide) (fun c_176_5503 => ?_) (fun c_176_5503 => ?_)
                  · refine lv_iconst (v := 0) hx hb dX12_saying__183 (by decide) ?_
                    refine astN hC hK hP hD hS 1 (ws' := [(h0, oX12 nw nk mhasKept nt mtaped nr mrowMany mroundOf mroundFrom mouts nm mfromHour mtoHour ns mfrom mto msort misFault mdeep mcoded mlines nl nc nF np ntr nb mbestCost nso nsi nit nsh nsf nss nrc mtraced mdealer mnumber mwhose msize misParted), (nw, iA G 1662 (upd (upd (upd (upd (upd (upd fnw (1424 + 8 * k8 + 0) x1) (1424 + 8 * k8 + 1) (nI jb)) (1424 + 8 * k8 + 2) (nI jp)) (1424 + 8 * k8 + 3) x5501) (1424 + 8 * k8 + 4) x5502) (1424 + 8 * k8 + 5) 0))]) rfl (k := (1424 + 8 * k8 + 5)) (by omega) (Nat.le_of_ble_eq_true rfl) (rfl) dX12_saying__184 (fun H locs hP hD hS => ?_)
                    refine lv_aload_n hx hb dX12_saying__185 rfl (lv_at3 hl) ?_
                    refine gf_X12_9 hC rfl hK hP 0 rfl rfl dX12_saying__186 ?_
                    refine lv_iload hx hb dX12_saying__189 (lv_at0 hl) ?_
                    refine lv_bipush (v := 6) hx hb dX12_saying__191 (by decide) ?_
                    refine lv_iadd hx hb dX12_saying__193 ?_
                    refine eqi (x1 := nI (1424 + 8 * k8 + 6)) (nI_add (1424 + 8 * k8) 6) ?_
                    refine lv_iload hx hb dX12_saying__194 (lv_at9 hl) ?_
                    refine astN hC hK hP hD hS 1 (ws' := [(h0, oX12 nw nk mhasKept nt mtaped nr mrowMany mroundOf mroundFrom mouts nm mfromHour mtoHour ns mfrom mto msort misFault mdeep mcoded mlines nl nc nF np ntr nb mbestCost nso nsi nit nsh nsf nss nrc mtraced mdealer mnumber mwhose msize misParted), (nw, iA G 1662 (upd (upd (upd (upd (upd (upd (upd fnw (1424 + 8 * k8 + 0) x1) (1424 + 8 * k8 + 1) (nI jb)) (1424 + 8 * k8 + 2) (nI jp)) (1424 + 8 * k8 + 3) x5501) (1424 + 8 * k8 + 4) x5502) (1424 + 8 * k8 + 5) 0) (1424 + 8 * k8 + 6) x6))]) rfl (k := (1424 + 8 * k8 + 6)) (by omega) (Nat.le_of_ble_eq_true rfl) (rfl) dX12_saying__196 (fun H locs hP hD hS => ?_)
                    refine lv_aload_n hx hb dX12_saying__197 rfl (lv_at3 hl) ?_
                    refine gf_X12_9 hC rfl hK hP 0 rfl rfl dX12_saying__198 ?_
                    refine lv_iload hx hb dX12_saying__201 (lv_at0 hl) ?_
                    refine lv_bipush (v := 7) hx hb dX12_saying__203 (by decide) ?_
                    refine lv_iadd hx hb dX12_saying__205 ?_
                    refine eqi (x1 := nI (1424 + 8 * k8 + 7)) (nI_add (1424 + 8 * k8) 7) ?_
                    refine lv_aload_n hx hb dX12_saying__206 rfl (lv_at3 hl) ?_
                    refine gf_X12_9 hC rfl hK hP 0 rfl rfl dX12_saying__207 ?_
                    refine lv_iconst (v := 0) hx hb dX12_saying__210 (by decide) ?_
                    refine ald hC hK hP 1 rfl (vin (by decide +kernel)) (k := 0) (by decide +kernel) (v := fnw 0) ((upd_ne (by omega)).trans ((upd_ne (by omega)).trans ((upd_ne (by omega)).trans ((upd_ne (by omega)).trans ((upd_ne (by omega)).trans ((upd_ne (by omega)).trans ((upd_ne (by omega)).trans (rfl)))))))) dX12_saying__211 ?_
                    refine astN hC hK hP hD hS 1 (ws' := [(h0, oX12 nw nk mhasKept nt mtaped nr mrowMany mroundOf mroundFrom mouts nm mfromHour mtoHour ns mfrom mto msort misFault mdeep mcoded mlines nl nc nF np ntr nb mbestCost nso nsi nit nsh nsf nss nrc mtraced mdealer mnumber mwhose msize misParted), (nw, iA G 1662 (upd (upd (upd (upd (upd (upd (upd (upd fnw (1424 + 8 * k8 + 0) x1) (1424 + 8 * k8 + 1) (nI jb)) (1424 + 8 * k8 + 2) (nI jp)) (1424 + 8 * k8 + 3) x5501) (1424 + 8 * k8 + 4) x5502) (1424 + 8 * k8 + 5) 0) (1424 + 8 * k8 + 6) x6) (1424 + 8 * k8 + 7) (fnw 0)))]) rfl (k := (1424 + 8 * k8 + 7)) (by omega) (Nat.le_of_ble_eq_true rfl) (rfl) dX12_saying__212 (fun H locs hP hD hS => ?_)
                    refine lv_aload_n hx hb dX12_saying__213 rfl (lv_at3 hl) ?_
                    refine gf_X12_9 hC rfl hK hP 0 rfl rfl dX12_saying__214 ?_
                    refine lv_bipush (v := 8) hx hb dX12_saying__217 (by decide) ?_
                    refine lv_dup2_11 hx hb dX12_saying__219 rfl rfl ?_
                    refine ald hC hK hP 1 rfl (vin (by decide +kernel)) (k := 8) (by decide +kernel) (v := nI k8) ((upd_ne (by omega)).trans ((upd_ne (by omega)).trans ((upd_ne (by omega)).trans ((upd_ne (by omega)).trans ((upd_ne (by omega)).trans ((upd_ne (by omega)).trans ((upd_ne (by omega)).trans ((upd_ne (by omega)).trans (ek8))))))))) dX12_saying__220 ?_
                    refine lv_iconst (v := 1) hx hb dX12_saying__221 (by decide) ?_
                    refine lv_iadd hx hb dX12_saying__222 ?_
                    refine eqi (x1 := nI (k8 + 1)) (nI_add k8 1) ?_
                    refine ast hC hK hP hD hS 1 (ws' := [(h0, oX12 nw nk mhasKept nt mtaped nr mrowMany mroundOf mroundFrom mouts nm mfromHour mtoHour ns mfrom mto msort misFault mdeep mcoded mlines nl nc nF np ntr nb mbestCost nso nsi nit nsh nsf nss nrc mtraced mdealer mnumber mwhose msize misParted), (nw, iA G 1662 (upd (upd (upd (upd (upd (upd (upd (upd (upd fnw (1424 + 8 * k8 + 0) x1) (1424 + 8 * k8 + 1) (nI jb)) (1424 + 8 * k8 + 2) (nI jp)) (1424 + 8 * k8 + 3) x5501) (1424 + 8 * k8 + 4) x5502) (1424 + 8 * k8 + 5) 0) (1424 + 8 * k8 + 6) x6) (1424 + 8 * k8 + 7) (fnw 0)) 8 (nI (k8 + 1))))]) rfl (vin (by decide +kernel)) (k := 8) (by decide +kernel) (rfl) dX12_saying__223 (fun H locs hP hD hS => ?_)
                    refine lv_iload hx hb dX12_saying__224 (lv_at1 hl) ?_
                    have tu5504 : shf (upd (upd (upd (upd (upd (upd (upd (upd (upd fnw (1424 + 8 * k8 + 0) x1) (1424 + 8 * k8 + 1) (nI jb)) (1424 + 8 * k8 + 2) (nI jp)) (1424 + 8 * k8 + 3) x5501) (1424 + 8 * k8 + 4) x5502) (1424 + 8 * k8 + 5) 0) (1424 + 8 * k8 + 6) x6) (1424 + 8 * k8 + 7) (fnw 0)) 8 (nI (k8 + 1))) 1424 = rowu (shf fnw 1424) (k8 * 8) [x1, (nI jb), (nI jp), x5501, x5502, 0, x6, (fnw 0)] := by rw [sho (by omega), shu (j := k8 * 8 + 7) (by omega), shu (j := k8 * 8 + 6) (by omega), shu (j := k8 * 8 + 5) (by omega), shu (j := k8 * 8 + 4) (by omega), shu (j := k8 * 8 + 3) (by omega), shu (j := k8 * 8 + 2) (by omega), shu (j := k8 * 8 + 1) (by omega), shu (j := k8 * 8 + 0) (by omega)]; rfl
                    exact toQ hQ0 (RI (v := nI k8) hC hP hD hS [0, 1] (upd (upd (upd (upd (upd (upd (upd (upd (upd fnw (1424 + 8 * k8 + 0) x1) (1424 + 8 * k8 + 1) (nI jb)) (1424 + 8 * k8 + 2) (nI jp)) (1424 + 8 * k8 + 3) x5501) (1424 + 8 * k8 + 4) x5502) (1424 + 8 * k8 + 5) 0) (1424 + 8 * k8 + 6) x6) (1424 + 8 * k8 + 7) (fnw 0)) 8 (nI (k8 + 1))) rfl rfl (by decide) (⟨(by first | rfl | (simp only [ifc_t ekp, ifc_t hkp, ifc_t ekq, ifc_t hkq, ifc_t ek8, ifc_t hk8, ifc_t hN, ifc_t hV, ifc_t a5482, ifc_t a5484, ifc_t a5486, ifc_t a5488, ifc_f c_44_5490, ifc_f c_62_5491, ifc_t a5499, ifc_f c_91_5500, ifc_t c_176_5503, ifc_t (q := HOW x4) ⟨a5488, ex5489 ▸ Int32.not_le.mp c_44_5490⟩, ifc_t (q := TLK x6 k8) (Or.inr a5499)]; done) | (simp only [ifc_t ekp, ifc_t hkp, ifc_t ekq, ifc_t hkq, ifc_t ek8, ifc_t hk8, ifc_t hN, ifc_t hV, ifc_t a5482, ifc_t a5484, ifc_t a5486, ifc_t a5488, ifc_f c_44_5490, ifc_f c_62_5491, ifc_t a5499, ifc_f c_91_5500, ifc_t c_176_5503, ifc_t (q := HOW x4) ⟨a5488, ex5489 ▸ Int32.not_le.mp c_44_5490⟩, ifc_t (q := TLK x6 k8) (Or.inr a5499)]; rfl)), ⟨(((((((((hN).setA (bnd_sayA (s := k8) (r := 0) (by omega) (by omega) (by decide) (by decide) (by decide))).setN (B := 9) (bnd_say1 (s := k8) rfl (by omega)) (by omega) (by decide)).setN (B := 11) (bnd_say2 (s := k8) rfl (by omega)) (by omega) (by decide)).setA (bnd_sayA (s := k8) (r := 3) (by omega) (by omega) (by decide) (by decide) (by decide))).setA (bnd_sayA (s := k8) (r := 4) (by omega) (by omega) (by decide) (by decide) (by decide))).setA (bnd_sayA (s := k8) (r := 5) (by omega) (by omega) (by decide) (by decide) (by decide))).setA (bnd_sayA (s := k8) (r := 6) (by omega) (by omega) (by decide) (by decide) (by decide))).setA (bnd_sayA (s := k8) (r := 7) (by omega) (by omega) (by decide) (by decide) (by decide))).setN (B := 16) (show bnd 8 = (0, ((16 : Nat) : Int)) from by decide +kernel) (by omega) (by decide), (((((((((hV).set (by omega)).set (by omega)).set (by omega)).set (by omega)).set (by omega)).set (by omega)).set (by omega)).set (by omega)).set (by omega), (upd_ne (by omega)).trans ((upd_ne (by omega)).trans ((upd_ne (by omega)).trans ((upd_ne (by omega)).trans ((upd_ne (by omega)).trans ((upd_ne (by omega)).trans ((upd_ne (by omega)).trans ((upd_ne (by omega)).trans (upd_ne (by omega))))))))), (upd_ne (by omega)).trans ((upd_ne (by omega)).trans ((upd_ne (by omega)).trans ((upd_ne (by omega)).trans ((upd_ne (by omega)).trans ((upd_ne (by omega)).trans ((upd_ne (by omega)).trans ((upd_ne (by omega)).trans (upd_ne (by omega))))))))), (upd_ne (by omega)).trans ((upd_ne (by omega)).trans ((upd_ne (by omega)).trans ((upd_ne (by omega)).trans ((upd_ne (by omega)).trans ((upd_ne (by omega)).trans ((upd_ne (by omega)).trans ((upd_ne (by omega)).trans (upd_ne (by omega))))))))), (upd_ne (by omega)).trans ((upd_ne (by omega)).trans ((upd_ne (by omega)).trans ((upd_ne (by omega)).trans ((upd_ne (by omega)).trans ((upd_ne (by omega)).trans ((upd_ne (by omega)).trans ((upd_ne (by omega)).trans (upd_ne (by omega))))))))), (upd_ne (by omega)).trans ((upd_ne (by omega)).trans ((upd_ne (by omega)).trans ((upd_ne (by omega)).trans ((upd_ne (by omega)).trans ((upd_ne (by omega)).trans ((upd_ne (by omega)).trans ((upd_ne (by omega)).trans (upd_ne (by omega))))))))), (upd_ne (by omega)).trans ((upd_ne (by omega)).trans ((upd_ne (by omega)).trans ((upd_ne (by omega)).trans ((upd_ne (by omega)).trans ((upd_ne (by omega)).trans ((upd_ne (by omega)).trans ((upd_ne (by omega)).trans (upd_ne (by omega))))))))), (upd_ne (by omega)).trans ((upd_ne (by omega)).trans ((upd_ne (by omega)).trans ((upd_ne (by omega)).trans ((upd_ne (by omega)).trans ((upd_ne (by omega)).trans ((upd_ne (by omega)).trans ((upd_ne (by omega)).trans (upd_ne (by omega))))))))), (show _ = (nI (k8 + 1)) from upd_eq rfl).trans (by first | rfl | (simp only [ifc_t ekp, ifc_t hkp, ifc_t ekq, ifc_t hkq, ifc_t ek8, ifc_t hk8, ifc_t hN, ifc_t hV, ifc_t a5482, ifc_t a5484, ifc_t a5486, ifc_t a5488, ifc_f c_44_5490, ifc_f c_62_5491, ifc_t a5499, ifc_f c_91_5500, ifc_t c_176_5503, ifc_t (q := HOW x4) ⟨a5488, ex5489 ▸ Int32.not_le.mp c_44_5490⟩, ifc_t (q := TLK x6 k8) (Or.inr a5499)]; done) | (simp only [ifc_t ekp, ifc_t hkp, ifc_t ekq, ifc_t hkq, ifc_t ek8, ifc_t hk8, ifc_t hN, ifc_t hV, ifc_t a5482, ifc_t a5484, ifc_t a5486, ifc_t a5488, ifc_f c_44_5490, ifc_f c_62_5491, ifc_t a5499, ifc_f c_91_5500, ifc_t c_176_5503, ifc_t (q := HOW x4) ⟨a5488, ex5489 ▸ Int32.not_le.mp c_44_5490⟩, ifc_t (q := TLK x6 k8) (Or.inr a5499)]; rfl)), (upd_ne (by omega)).trans ((upd_ne (by omega)).trans ((upd_ne (by omega)).trans ((upd_ne (by omega)).trans ((upd_ne (by omega)).trans ((upd_ne (by omega)).trans ((upd_ne (by omega)).trans ((upd_ne (by omega)).trans (upd_ne (by omega))))))))), (upd_ne (by omega)).trans ((upd_ne (by omega)).trans ((upd_ne (by omega)).trans ((upd_ne (by omega)).trans ((upd_ne (by omega)).trans ((upd_ne (by omega)).trans ((upd_ne (by omega)).trans ((upd_ne (by omega)).trans (upd_ne (by omega))))))))), (upd_ne (by omega)).trans ((upd_ne (by omega)).trans ((upd_ne (by omega)).trans ((upd_ne (by omega)).trans ((upd_ne (by omega)).trans ((upd_ne (by omega)).trans ((upd_ne (by omega)).trans ((upd_ne (by omega)).trans (upd_ne (by omega))))))))), (((((((((FRO.rf).set (by omega)).set (by omega)).set (by omega)).set (by omega)).set (by omega)).set (by omega)).set (by omega)).set (by omega)).set (by omega), (fun i hi9 => by simp only [ifc_t ekp, ifc_t hkp, ifc_t ekq, ifc_t hkq, ifc_t ek8, ifc_t hk8, ifc_t hN, ifc_t hV, ifc_t a5482, ifc_t a5484, ifc_t a5486, ifc_t a5488, ifc_f c_44_5490, ifc_f c_62_5491, ifc_t a5499, ifc_f c_91_5500, ifc_t c_176_5503, ifc_t (q := HOW x4) ⟨a5488, ex5489 ▸ Int32.not_le.mp c_44_5490⟩, ifc_t (q := TLK x6 k8) (Or.inr a5499)]; exact (congrFun tu5504 i).trans (by first | rfl | (simp only [ex5501, ex5502]; done)))⟩⟩) rfl dX12_saying__226)
                  · refine lv_iconst (v := 1) hx hb dX12_saying__179 (by decide) ?_
                    refine lv_goto (tgt := 184) hx hb dX12_saying__180 (by decide) ?_
                    refine astN hC hK hP hD hS 1 (ws' := [(h0, oX12 nw nk mhasKept nt mtaped nr mrowMany mroundOf mroundFrom mouts nm mfromHour mtoHour ns mfrom mto msort misFault mdeep mcoded mlines nl nc nF np ntr nb mbestCost nso nsi nit nsh nsf nss nrc mtraced mdealer mnumber mwhose msize misParted), (nw, iA G 1662 (upd (upd (upd (upd (upd (upd fnw (1424 + 8 * k8 + 0) x1) (1424 + 8 * k8 + 1) (nI jb)) (1424 + 8 * k8 + 2) (nI jp)) (1424 + 8 * k8 + 3) x5501) (1424 + 8 * k8 + 4) x5502) (1424 + 8 * k8 + 5) 1))]) rfl (k := (1424 + 8 * k8 + 5)) (by omega) (Nat.le_of_ble_eq_true rfl) (rfl) dX12_saying__184 (fun H locs hP hD hS => ?_)
                    refine lv_aload_n hx hb dX12_saying__185 rfl (lv_at3 hl) ?_
                    refine gf_X12_9 hC rfl hK hP 0 rfl rfl dX12_saying__186 ?_
                    refine lv_iload hx hb dX12_saying__189 (lv_at0 hl) ?_
                    refine lv_bipush (v := 6) hx hb dX12_saying__191 (by decide) ?_
                    refine lv_iadd hx hb dX12_saying__193 ?_
                    refine eqi (x1 := nI (1424 + 8 * k8 + 6)) (nI_add (1424 + 8 * k8) 6) ?_
                    refine lv_iload hx hb dX12_saying__194 (lv_at9 hl) ?_
                    refine astN hC hK hP hD hS 1 (ws' := [(h0, oX12 nw nk mhasKept nt mtaped nr mrowMany mroundOf mroundFrom mouts nm mfromHour mtoHour ns mfrom mto msort misFault mdeep mcoded mlines nl nc nF np ntr nb mbestCost nso nsi nit nsh nsf nss nrc mtraced mdealer mnumber mwhose msize misParted), (nw, iA G 1662 (upd (upd (upd (upd (upd (upd (upd fnw (1424 + 8 * k8 + 0) x1) (1424 + 8 * k8 + 1) (nI jb)) (1424 + 8 * k8 + 2) (nI jp)) (1424 + 8 * k8 + 3) x5501) (1424 + 8 * k8 + 4) x5502) (1424 + 8 * k8 + 5) 1) (1424 + 8 * k8 + 6) x6))]) rfl (k := (1424 + 8 * k8 + 6)) (by omega) (Nat.le_of_ble_eq_true rfl) (rfl) dX12_saying__196 (fun H locs hP hD hS => ?_)
                    refine lv_aload_n hx hb dX12_saying__197 rfl (lv_at3 hl) ?_
                    refine gf_X12_9 hC rfl hK hP 0 rfl rfl dX12_saying__198 ?_
                    refine lv_iload hx hb dX12_saying__201 (lv_at0 hl) ?_
                    refine lv_bipush (v := 7) hx hb dX12_saying__203 (by decide) ?_
                    refine lv_iadd hx hb dX12_saying__205 ?_
                    refine eqi (x1 := nI (1424 + 8 * k8 + 7)) (nI_add (1424 + 8 * k8) 7) ?_
                    refine lv_aload_n hx hb dX12_saying__206 rfl (lv_at3 hl) ?_
                    refine gf_X12_9 hC rfl hK hP 0 rfl rfl dX12_saying__207 ?_
                    refine lv_iconst (v := 0) hx hb dX12_saying__210 (by decide) ?_
                    refine ald hC hK hP 1 rfl (vin (by decide +kernel)) (k := 0) (by decide +kernel) (v := fnw 0) ((upd_ne (by omega)).trans ((upd_ne (by omega)).trans ((upd_ne (by omega)).trans ((upd_ne (by omega)).trans ((upd_ne (by omega)).trans ((upd_ne (by omega)).trans ((upd_ne (by omega)).trans (rfl)))))))) dX12_saying__211 ?_
                    refine astN hC hK hP hD hS 1 (ws' := [(h0, oX12 nw nk mhasKept nt mtaped nr mrowMany mroundOf mroundFrom mouts nm mfromHour mtoHour ns mfrom mto msort misFault mdeep mcoded mlines nl nc nF np ntr nb mbestCost nso nsi nit nsh nsf nss nrc mtraced mdealer mnumber mwhose msize misParted), (nw, iA G 1662 (upd (upd (upd (upd (upd (upd (upd (upd fnw (1424 + 8 * k8 + 0) x1) (1424 + 8 * k8 + 1) (nI jb)) (1424 + 8 * k8 + 2) (nI jp)) (1424 + 8 * k8 + 3) x5501) (1424 + 8 * k8 + 4) x5502) (1424 + 8 * k8 + 5) 1) (1424 + 8 * k8 + 6) x6) (1424 + 8 * k8 + 7) (fnw 0)))]) rfl (k := (1424 + 8 * k8 + 7)) (by omega) (Nat.le_of_ble_eq_true rfl) (rfl) dX12_saying__212 (fun H locs hP hD hS => ?_)
                    refine lv_aload_n hx hb dX12_saying__213 rfl (lv_at3 hl) ?_
                    refine gf_X12_9 hC rfl hK hP 0 rfl rfl dX12_saying__214 ?_
                    refine lv_bipush (v := 8) hx hb dX12_saying__217 (by decide) ?_
                    refine lv_dup2_11 hx hb dX12_saying__219 rfl rfl ?_
                    refine ald hC hK hP 1 rfl (vin (by decide +kernel)) (k := 8) (by decide +kernel) (v := nI k8) ((upd_ne (by omega)).trans ((upd_ne (by omega)).trans ((upd_ne (by omega)).trans ((upd_ne (by omega)).trans ((upd_ne (by omega)).trans ((upd_ne (by omega)).trans ((upd_ne (by omega)).trans ((upd_ne (by omega)).trans (ek8))))))))) dX12_saying__220 ?_
                    refine lv_iconst (v := 1) hx hb dX12_saying__221 (by decide) ?_
                    refine lv_iadd hx hb dX12_saying__222 ?_
                    refine eqi (x1 := nI (k8 + 1)) (nI_add k8 1) ?_
                    refine ast hC hK hP hD hS 1 (ws' := [(h0, oX12 nw nk mhasKept nt mtaped nr mrowMany mroundOf mroundFrom mouts nm mfromHour mtoHour ns mfrom mto msort misFault mdeep mcoded mlines nl nc nF np ntr nb mbestCost nso nsi nit nsh nsf nss nrc mtraced mdealer mnumber mwhose msize misParted), (nw, iA G 1662 (upd (upd (upd (upd (upd (upd (upd (upd (upd fnw (1424 + 8 * k8 + 0) x1) (1424 + 8 * k8 + 1) (nI jb)) (1424 + 8 * k8 + 2) (nI jp)) (1424 + 8 * k8 + 3) x5501) (1424 + 8 * k8 + 4) x5502) (1424 + 8 * k8 + 5) 1) (1424 + 8 * k8 + 6) x6) (1424 + 8 * k8 + 7) (fnw 0)) 8 (nI (k8 + 1))))]) rfl (vin (by decide +kernel)) (k := 8) (by decide +kernel) (rfl) dX12_saying__223 (fun H locs hP hD hS => ?_)
                    refine lv_iload hx hb dX12_saying__224 (lv_at1 hl) ?_
                    have tu5505 : shf (upd (upd (upd (upd (upd (upd (upd (upd (upd fnw (1424 + 8 * k8 + 0) x1) (1424 + 8 * k8 + 1) (nI jb)) (1424 + 8 * k8 + 2) (nI jp)) (1424 + 8 * k8 + 3) x5501) (1424 + 8 * k8 + 4) x5502) (1424 + 8 * k8 + 5) 1) (1424 + 8 * k8 + 6) x6) (1424 + 8 * k8 + 7) (fnw 0)) 8 (nI (k8 + 1))) 1424 = rowu (shf fnw 1424) (k8 * 8) [x1, (nI jb), (nI jp), x5501, x5502, 1, x6, (fnw 0)] := by rw [sho (by omega), shu (j := k8 * 8 + 7) (by omega), shu (j := k8 * 8 + 6) (by omega), shu (j := k8 * 8 + 5) (by omega), shu (j := k8 * 8 + 4) (by omega), shu (j := k8 * 8 + 3) (by omega), shu (j := k8 * 8 + 2) (by omega), shu (j := k8 * 8 + 1) (by omega), shu (j := k8 * 8 + 0) (by omega)]; rfl
                    exact toQ hQ0 (RI (v := nI k8) hC hP hD hS [0, 1] (upd (upd (upd (upd (upd (upd (upd (upd (upd fnw (1424 + 8 * k8 + 0) x1) (1424 + 8 * k8 + 1) (nI jb)) (1424 + 8 * k8 + 2) (nI jp)) (1424 + 8 * k8 + 3) x5501) (1424 + 8 * k8 + 4) x5502) (1424 + 8 * k8 + 5) 1) (1424 + 8 * k8 + 6) x6) (1424 + 8 * k8 + 7) (fnw 0)) 8 (nI (k8 + 1))) rfl rfl (by decide) (⟨(by first | rfl | (simp only [ifc_t ekp, ifc_t hkp, ifc_t ekq, ifc_t hkq, ifc_t ek8, ifc_t hk8, ifc_t hN, ifc_t hV, ifc_t a5482, ifc_t a5484, ifc_t a5486, ifc_t a5488, ifc_f c_44_5490, ifc_f c_62_5491, ifc_t a5499, ifc_f c_91_5500, ifc_f c_176_5503, ifc_t (q := HOW x4) ⟨a5488, ex5489 ▸ Int32.not_le.mp c_44_5490⟩, ifc_t (q := TLK x6 k8) (Or.inr a5499)]; done) | (simp only [ifc_t ekp, ifc_t hkp, ifc_t ekq, ifc_t hkq, ifc_t ek8, ifc_t hk8, ifc_t hN, ifc_t hV, ifc_t a5482, ifc_t a5484, ifc_t a5486, ifc_t a5488, ifc_f c_44_5490, ifc_f c_62_5491, ifc_t a5499, ifc_f c_91_5500, ifc_f c_176_5503, ifc_t (q := HOW x4) ⟨a5488, ex5489 ▸ Int32.not_le.mp c_44_5490⟩, ifc_t (q := TLK x6 k8) (Or.inr a5499)]; rfl)), ⟨(((((((((hN).setA (bnd_sayA (s := k8) (r := 0) (by omega) (by omega) (by decide) (by decide) (by decide))).setN (B := 9) (bnd_say1 (s := k8) rfl (by omega)) (by omega) (by decide)).setN (B := 11) (bnd_say2 (s := k8) rfl (by omega)) (by omega) (by decide)).setA (bnd_sayA (s := k8) (r := 3) (by omega) (by omega) (by decide) (by decide) (by decide))).setA (bnd_sayA (s := k8) (r := 4) (by omega) (by omega) (by decide) (by decide) (by decide))).setA (bnd_sayA (s := k8) (r := 5) (by omega) (by omega) (by decide) (by decide) (by decide))).setA (bnd_sayA (s := k8) (r := 6) (by omega) (by omega) (by decide) (by decide) (by decide))).setA (bnd_sayA (s := k8) (r := 7) (by omega) (by omega) (by decide) (by decide) (by decide))).setN (B := 16) (show bnd 8 = (0, ((16 : Nat) : Int)) from by decide +kernel) (by omega) (by decide), (((((((((hV).set (by omega)).set (by omega)).set (by omega)).set (by omega)).set (by omega)).set (by omega)).set (by omega)).set (by omega)).set (by omega), (upd_ne (by omega)).trans ((upd_ne (by omega)).trans ((upd_ne (by omega)).trans ((upd_ne (by omega)).trans ((upd_ne (by omega)).trans ((upd_ne (by omega)).trans ((upd_ne (by omega)).trans ((upd_ne (by omega)).trans (upd_ne (by omega))))))))), (upd_ne (by omega)).trans ((upd_ne (by omega)).trans ((upd_ne (by omega)).trans ((upd_ne (by omega)).trans ((upd_ne (by omega)).trans ((upd_ne (by omega)).trans ((upd_ne (by omega)).trans ((upd_ne (by omega)).trans (upd_ne (by omega))))))))), (upd_ne (by omega)).trans ((upd_ne (by omega)).trans ((upd_ne (by omega)).trans ((upd_ne (by omega)).trans ((upd_ne (by omega)).trans ((upd_ne (by omega)).trans ((upd_ne (by omega)).trans ((upd_ne (by omega)).trans (upd_ne (by omega))))))))), (upd_ne (by omega)).trans ((upd_ne (by omega)).trans ((upd_ne (by omega)).trans ((upd_ne (by omega)).trans ((upd_ne (by omega)).trans ((upd_ne (by omega)).trans ((upd_ne (by omega)).trans ((upd_ne (by omega)).trans (upd_ne (by omega))))))))), (upd_ne (by omega)).trans ((upd_ne (by omega)).trans ((upd_ne (by omega)).trans ((upd_ne (by omega)).trans ((upd_ne (by omega)).trans ((upd_ne (by omega)).trans ((upd_ne (by omega)).trans ((upd_ne (by omega)).trans (upd_ne (by omega))))))))), (upd_ne (by omega)).trans ((upd_ne (by omega)).trans ((upd_ne (by omega)).trans ((upd_ne (by omega)).trans ((upd_ne (by omega)).trans ((upd_ne (by omega)).trans ((upd_ne (by omega)).trans ((upd_ne (by omega)).trans (upd_ne (by omega))))))))), (upd_ne (by omega)).trans ((upd_ne (by omega)).trans ((upd_ne (by omega)).trans ((upd_ne (by omega)).trans ((upd_ne (by omega)).trans ((upd_ne (by omega)).trans ((upd_ne (by omega)).trans ((upd_ne (by omega)).trans (upd_ne (by omega))))))))), (show _ = (nI (k8 + 1)) from upd_eq rfl).trans (by first | rfl | (simp only [ifc_t ekp, ifc_t hkp, ifc_t ekq, ifc_t hkq, ifc_t ek8, ifc_t hk8, ifc_t hN, ifc_t hV, ifc_t a5482, ifc_t a5484, ifc_t a5486, ifc_t a5488, ifc_f c_44_5490, ifc_f c_62_5491, ifc_t a5499, ifc_f c_91_5500, ifc_f c_176_5503, ifc_t (q := HOW x4) ⟨a5488, ex5489 ▸ Int32.not_le.mp c_44_5490⟩, ifc_t (q := TLK x6 k8) (Or.inr a5499)]; done) | (simp only [ifc_t ekp, ifc_t hkp, ifc_t ekq, ifc_t hkq, ifc_t ek8, ifc_t hk8, ifc_t hN, ifc_t hV, ifc_t a5482, ifc_t a5484, ifc_t a5486, ifc_t a5488, ifc_f c_44_5490, ifc_f c_62_5491, ifc_t a5499, ifc_f c_91_5500, ifc_f c_176_5503, ifc_t (q := HOW x4) ⟨a5488, ex5489 ▸ Int32.not_le.mp c_44_5490⟩, ifc_t (q := TLK x6 k8) (Or.inr a5499)]; rfl)), (upd_ne (by omega)).trans ((upd_ne (by omega)).trans ((upd_ne (by omega)).trans ((upd_ne (by omega)).trans ((upd_ne (by omega)).trans ((upd_ne (by omega)).trans ((upd_ne (by omega)).trans ((upd_ne (by omega)).trans (upd_ne (by omega))))))))), (upd_ne (by omega)).trans ((upd_ne (by omega)).trans ((upd_ne (by omega)).trans ((upd_ne (by omega)).trans ((upd_ne (by omega)).trans ((upd_ne (by omega)).trans ((upd_ne (by omega)).trans ((upd_ne (by omega)).trans (upd_ne (by omega))))))))), (upd_ne (by omega)).trans ((upd_ne (by omega)).trans ((upd_ne (by omega)).trans ((upd_ne (by omega)).trans ((upd_ne (by omega)).trans ((upd_ne (by omega)).trans ((upd_ne (by omega)).trans ((upd_ne (by omega)).trans (upd_ne (by omega))))))))), (((((((((FRO.rf).set (by omega)).set (by omega)).set (by omega)).set (by omega)).set (by omega)).set (by omega)).set (by omega)).set (by omega)).set (by omega), (fun i hi9 => by simp only [ifc_t ekp, ifc_t hkp, ifc_t ekq, ifc_t hkq, ifc_t ek8, ifc_t hk8, ifc_t hN, ifc_t hV, ifc_t a5482, ifc_t a5484, ifc_t a5486, ifc_t a5488, ifc_f c_44_5490, ifc_f c_62_5491, ifc_t a5499, ifc_f c_91_5500, ifc_f c_176_5503, ifc_t (q := HOW x4) ⟨a5488, ex5489 ▸ Int32.not_le.mp c_44_5490⟩, ifc_t (q := TLK x6 k8) (Or.inr a5499)]; exact (congrFun tu5505 i).trans (by first | rfl | (simp only [ex5501, ex5502]; done)))⟩⟩) rfl dX12_saying__226)
                · refine lv_bipush (v := (-2)) hx hb dX12_saying__94 (by decide) ?_
                  exact toQ hQ0 (RI (v := (-2)) hC hP hD hS [0, 1] fnw rfl rfl (by decide) (⟨(by first | rfl | (simp only [ifc_t ekp, ifc_t hkp, ifc_t ekq, ifc_t hkq, ifc_t ek8, ifc_t hk8, ifc_t hN, ifc_t hV, ifc_t a5482, ifc_t a5484, ifc_t a5486, ifc_t a5488, ifc_f c_44_5490, ifc_f c_62_5491, ifc_t a5499, ifc_t c_91_5500, ifc_t (q := HOW x4) ⟨a5488, ex5489 ▸ Int32.not_le.mp c_44_5490⟩, ifc_t (q := TLK x6 k8) (Or.inr a5499)]; done) | (simp only [ifc_t ekp, ifc_t hkp, ifc_t ekq, ifc_t hkq, ifc_t ek8, ifc_t hk8, ifc_t hN, ifc_t hV, ifc_t a5482, ifc_t a5484, ifc_t a5486, ifc_t a5488, ifc_f c_44_5490, ifc_f c_62_5491, ifc_t a5499, ifc_t c_91_5500, ifc_t (q := HOW x4) ⟨a5488, ex5489 ▸ Int32.not_le.mp c_44_5490⟩, ifc_t (q := TLK x6 k8) (Or.inr a5499)]; rfl)), ⟨hN, hV, rfl, rfl, rfl, rfl, rfl, rfl, rfl, (rfl).trans ((ek8).trans (by first | rfl | (simp only [ifc_t ekp, ifc_t hkp, ifc_t ekq, ifc_t hkq, ifc_t ek8, ifc_t hk8, ifc_t hN, ifc_t hV, ifc_t a5482, ifc_t a5484, ifc_t a5486, ifc_t a5488, ifc_f c_44_5490, ifc_f c_62_5491, ifc_t a5499, ifc_t c_91_5500, ifc_t (q := HOW x4) ⟨a5488, ex5489 ▸ Int32.not_le.mp c_44_5490⟩, ifc_t (q := TLK x6 k8) (Or.inr a5499)]; done) | (simp only [ifc_t ekp, ifc_t hkp, ifc_t ekq, ifc_t hkq, ifc_t ek8, ifc_t hk8, ifc_t hN, ifc_t hV, ifc_t a5482, ifc_t a5484, ifc_t a5486, ifc_t a5488, ifc_f c_44_5490, ifc_f c_62_5491, ifc_t a5499, ifc_t c_91_5500, ifc_t (q := HOW x4) ⟨a5488, ex5489 ▸ Int32.not_le.mp c_44_5490⟩, ifc_t (q := TLK x6 k8) (Or.inr a5499)]; rfl))), rfl, rfl, rfl, FRO.rf, (fun i hi9 => by first | rfl | (simp only [ifc_t ekp, ifc_t hkp, ifc_t ekq, ifc_t hkq, ifc_t ek8, ifc_t hk8, ifc_t hN, ifc_t hV, ifc_t a5482, ifc_t a5484, ifc_t a5486, ifc_t a5488, ifc_f c_44_5490, ifc_f c_62_5491, ifc_t a5499, ifc_t c_91_5500, ifc_t (q := HOW x4) ⟨a5488, ex5489 ▸ Int32.not_le.mp c_44_5490⟩, ifc_t (q := TLK x6 k8) (Or.inr a5499)]; done))⟩⟩) rfl dX12_saying__96)
              · refine lv_if_ne (tgt := 78) hx hb dX12_saying__73 (by decide) (fun c9 => absurd (by decide) c9) (fun _ => ?_)
                refine lv_iconst (v := (-1)) hx hb dX12_saying__76 (by decide) ?_
                exact toQ hQ0 (RI (v := (-1)) hC hP hD hS [0, 1] fnw rfl rfl (by decide) (⟨(by first | rfl | (simp only [ifc_t ekp, ifc_t hkp, ifc_t ekq, ifc_t hkq, ifc_t ek8, ifc_t hk8, ifc_t hN, ifc_t hV, ifc_t a5482, ifc_t a5484, ifc_t a5486, ifc_t a5488, ifc_f c_44_5490, ifc_f c_62_5491, ifc_f a5499, ifc_t (q := HOW x4) ⟨a5488, ex5489 ▸ Int32.not_le.mp c_44_5490⟩, ifc_f (q := TLK x6 k8) (fun h9 => h9.elim c_62_5491 a5499)]; done) | (simp only [ifc_t ekp, ifc_t hkp, ifc_t ekq, ifc_t hkq, ifc_t ek8, ifc_t hk8, ifc_t hN, ifc_t hV, ifc_t a5482, ifc_t a5484, ifc_t a5486, ifc_t a5488, ifc_f c_44_5490, ifc_f c_62_5491, ifc_f a5499, ifc_t (q := HOW x4) ⟨a5488, ex5489 ▸ Int32.not_le.mp c_44_5490⟩, ifc_f (q := TLK x6 k8) (fun h9 => h9.elim c_62_5491 a5499)]; rfl)), ⟨hN, hV, rfl, rfl, rfl, rfl, rfl, rfl, rfl, (rfl).trans ((ek8).trans (by first | rfl | (simp only [ifc_t ekp, ifc_t hkp, ifc_t ekq, ifc_t hkq, ifc_t ek8, ifc_t hk8, ifc_t hN, ifc_t hV, ifc_t a5482, ifc_t a5484, ifc_t a5486, ifc_t a5488, ifc_f c_44_5490, ifc_f c_62_5491, ifc_f a5499, ifc_t (q := HOW x4) ⟨a5488, ex5489 ▸ Int32.not_le.mp c_44_5490⟩, ifc_f (q := TLK x6 k8) (fun h9 => h9.elim c_62_5491 a5499)]; done) | (simp only [ifc_t ekp, ifc_t hkp, ifc_t ekq, ifc_t hkq, ifc_t ek8, ifc_t hk8, ifc_t hN, ifc_t hV, ifc_t a5482, ifc_t a5484, ifc_t a5486, ifc_t a5488, ifc_f c_44_5490, ifc_f c_62_5491, ifc_f a5499, ifc_t (q := HOW x4) ⟨a5488, ex5489 ▸ Int32.not_le.mp c_44_5490⟩, ifc_f (q := TLK x6 k8) (fun h9 => h9.elim c_62_5491 a5499)]; rfl))), rfl, rfl, rfl, FRO.rf, (fun i hi9 => by first | rfl | (simp only [ifc_t ekp, ifc_t hkp, ifc_t ekq, ifc_t hkq, ifc_t ek8, ifc_t hk8, ifc_t hN, ifc_t hV, ifc_t a5482, ifc_t a5484, ifc_t a5486, ifc_t a5488, ifc_f c_44_5490, ifc_f c_62_5491, ifc_f a5499, ifc_t (q := HOW x4) ⟨a5488, ex5489 ▸ Int32.not_le.mp c_44_5490⟩, ifc_f (q := TLK x6 k8) (fun h9 => h9.elim c_62_5491 a5499)]; done))⟩⟩) rfl dX12_saying__77)
        · refine lv_if_eq (tgt := 51) hx hb dX12_saying__36 (by decide) (fun _ => ?_) (fun c9 => absurd (by decide) c9)
          refine lv_iconst (v := 0) hx hb dX12_saying__51 (by decide) ?_
          refine lv_istore (lv' := [(7, .int 0), (0, .ref h0), (1, .int x1), (2, .int x2), (3, .int x3), (4, .int x4), (5, .int x5), (6, .int x6)]) hx hb dX12_saying__52 hl (by decide) rfl (fun ls hl => ?_)
          refine lv_iload hx hb dX12_saying__54 (lv_at0 hl) ?_
          refine lv_if_eq (tgt := 76) hx hb dX12_saying__56 (by decide) (fun _ => ?_) (fun c9 => absurd (by decide) c9)
          refine lv_iconst (v := (-1)) hx hb dX12_saying__76 (by decide) ?_
          exact toQ hQ0 (RI (v := (-1)) hC hP hD hS [0, 1] fnw rfl rfl (by decide) (⟨(by first | rfl | (simp only [ifc_t ekp, ifc_t hkp, ifc_t ekq, ifc_t hkq, ifc_t ek8, ifc_t hk8, ifc_t hN, ifc_t hV, ifc_t a5482, ifc_t a5484, ifc_t a5486, ifc_f a5488, ifc_f (fun h9 : HOW x4 => a5488 h9.1)]; done) | (simp only [ifc_t ekp, ifc_t hkp, ifc_t ekq, ifc_t hkq, ifc_t ek8, ifc_t hk8, ifc_t hN, ifc_t hV, ifc_t a5482, ifc_t a5484, ifc_t a5486, ifc_f a5488, ifc_f (fun h9 : HOW x4 => a5488 h9.1)]; rfl)), ⟨hN, hV, rfl, rfl, rfl, rfl, rfl, rfl, rfl, (rfl).trans ((ek8).trans (by first | rfl | (simp only [ifc_t ekp, ifc_t hkp, ifc_t ekq, ifc_t hkq, ifc_t ek8, ifc_t hk8, ifc_t hN, ifc_t hV, ifc_t a5482, ifc_t a5484, ifc_t a5486, ifc_f a5488, ifc_f (fun h9 : HOW x4 => a5488 h9.1)]; done) | (simp only [ifc_t ekp, ifc_t hkp, ifc_t ekq, ifc_t hkq, ifc_t ek8, ifc_t hk8, ifc_t hN, ifc_t hV, ifc_t a5482, ifc_t a5484, ifc_t a5486, ifc_f a5488, ifc_f (fun h9 : HOW x4 => a5488 h9.1)]; rfl))), rfl, rfl, rfl, FRO.rf, (fun i hi9 => by first | rfl | (simp only [ifc_t ekp, ifc_t hkp, ifc_t ekq, ifc_t hkq, ifc_t ek8, ifc_t hk8, ifc_t hN, ifc_t hV, ifc_t a5482, ifc_t a5484, ifc_t a5486, ifc_f a5488, ifc_f (fun h9 : HOW x4 => a5488 h9.1)]; done))⟩⟩) rfl dX12_saying__77)
      · refine lv_if_eq (tgt := 51) hx hb dX12_saying__24 (by decide) (fun _ => ?_) (fun c9 => absurd (by decide) c9)
        refine lv_iconst (v := 0) hx hb dX12_saying__51 (by decide) ?_
        refine lv_istore (lv' := [(7, .int 0), (0, .ref h0), (1, .int x1), (2, .int x2), (3, .int x3), (4, .int x4), (5, .int x5), (6, .int x6)]) hx hb dX12_saying__52 hl (by decide) rfl (fun ls hl => ?_)
        refine lv_iload hx hb dX12_saying__54 (lv_at0 hl) ?_
        refine lv_if_eq (tgt := 76) hx hb dX12_saying__56 (by decide) (fun _ => ?_) (fun c9 => absurd (by decide) c9)
        refine lv_iconst (v := (-1)) hx hb dX12_saying__76 (by decide) ?_
        exact toQ hQ0 (RI (v := (-1)) hC hP hD hS [0, 1] fnw rfl rfl (by decide) (⟨(by first | rfl | (simp only [ifc_t ekp, ifc_t hkp, ifc_t ekq, ifc_t hkq, ifc_t ek8, ifc_t hk8, ifc_t hN, ifc_t hV, ifc_t a5482, ifc_t a5484, ifc_f a5486]; done) | (simp only [ifc_t ekp, ifc_t hkp, ifc_t ekq, ifc_t hkq, ifc_t ek8, ifc_t hk8, ifc_t hN, ifc_t hV, ifc_t a5482, ifc_t a5484, ifc_f a5486]; rfl)), ⟨hN, hV, rfl, rfl, rfl, rfl, rfl, rfl, rfl, (rfl).trans ((ek8).trans (by first | rfl | (simp only [ifc_t ekp, ifc_t hkp, ifc_t ekq, ifc_t hkq, ifc_t ek8, ifc_t hk8, ifc_t hN, ifc_t hV, ifc_t a5482, ifc_t a5484, ifc_f a5486]; done) | (simp only [ifc_t ekp, ifc_t hkp, ifc_t ekq, ifc_t hkq, ifc_t ek8, ifc_t hk8, ifc_t hN, ifc_t hV, ifc_t a5482, ifc_t a5484, ifc_f a5486]; rfl))), rfl, rfl, rfl, FRO.rf, (fun i hi9 => by first | rfl | (simp only [ifc_t ekp, ifc_t hkp, ifc_t ekq, ifc_t hkq, ifc_t ek8, ifc_t hk8, ifc_t hN, ifc_t hV, ifc_t a5482, ifc_t a5484, ifc_f a5486]; done))⟩⟩) rfl dX12_saying__77)
    · refine lv_if_eq (tgt := 51) hx hb dX12_saying__15 (by decide) (fun _ => ?_) (fun c9 => absurd (by decide) c9)
      refine lv_iconst (v := 0) hx hb dX12_saying__51 (by decide) ?_
      refine lv_istore (lv' := [(7, .int 0), (0, .ref h0), (1, .int x1), (2, .int x2), (3, .int x3), (4, .int x4), (5, .int x5), (6, .int x6)]) hx hb dX12_saying__52 hl (by decide) rfl (fun ls hl => ?_)
      refine lv_iload hx hb dX12_saying__54 (lv_at0 hl) ?_
      refine lv_if_eq (tgt := 76) hx hb dX12_saying__56 (by decide) (fun _ => ?_) (fun c9 => absurd (by decide) c9)
      refine lv_iconst (v := (-1)) hx hb dX12_saying__76 (by decide) ?_
      exact toQ hQ0 (RI (v := (-1)) hC hP hD hS [0, 1] fnw rfl rfl (by decide) (⟨(by first | rfl | (simp only [ifc_t ekp, ifc_t hkp, ifc_t ekq, ifc_t hkq, ifc_t ek8, ifc_t hk8, ifc_t hN, ifc_t hV, ifc_t a5482, ifc_f a5484]; done) | (simp only [ifc_t ekp, ifc_t hkp, ifc_t ekq, ifc_t hkq, ifc_t ek8, ifc_t hk8, ifc_t hN, ifc_t hV, ifc_t a5482, ifc_f a5484]; rfl)), ⟨hN, hV, rfl, rfl, rfl, rfl, rfl, rfl, rfl, (rfl).trans ((ek8).trans (by first | rfl | (simp only [ifc_t ekp, ifc_t hkp, ifc_t ekq, ifc_t hkq, ifc_t ek8, ifc_t hk8, ifc_t hN, ifc_t hV, ifc_t a5482, ifc_f a5484]; done) | (simp only [ifc_t ekp, ifc_t hkp, ifc_t ekq, ifc_t hkq, ifc_t ek8, ifc_t hk8, ifc_t hN, ifc_t hV, ifc_t a5482, ifc_f a5484]; rfl))), rfl, rfl, rfl, FRO.rf, (fun i hi9 => by first | rfl | (simp only [ifc_t ekp, ifc_t hkp, ifc_t ekq, ifc_t hkq, ifc_t ek8, ifc_t hk8, ifc_t hN, ifc_t hV, ifc_t a5482, ifc_f a5484]; done))⟩⟩) rfl dX12_saying__77)
  · refine lv_if_eq (tgt := 51) hx hb dX12_saying__6 (by decide) (fun _ => ?_) (fun c9 => absurd (by decide) c9)
    refine lv_iconst (v := 0) hx hb dX12_saying__51 (by decide) ?_
    refine lv_istore (lv' := [(7, .int 0), (0, .ref h0), (1, .int x1), (2, .int x2), (3, .int x3), (4, .int x4), (5, .int x5), (6, .int x6)]) hx hb dX12_saying__52 hl (by decide) rfl (fun ls hl => ?_)
    refine lv_iload hx hb dX12_saying__54 (lv_at0 hl) ?_
    refine lv_if_eq (tgt := 76) hx hb dX12_saying__56 (by decide) (fun _ => ?_) (fun c9 => absurd (by decide) c9)
    refine lv_iconst (v := (-1)) hx hb dX12_saying__76 (by decide) ?_
    exact toQ hQ0 (RI (v := (-1)) hC hP hD hS [0, 1] fnw rfl rfl (by decide) (⟨(by first | rfl | (simp only [ifc_t ekp, ifc_t hkp, ifc_t ekq, ifc_t hkq, ifc_t ek8, ifc_t hk8, ifc_t hN, ifc_t hV, ifc_f a5482]; done) | (simp only [ifc_t ekp, ifc_t hkp, ifc_t ekq, ifc_t hkq, ifc_t ek8, ifc_t hk8, ifc_t hN, ifc_t hV, ifc_f a5482]; rfl)), ⟨hN, hV, rfl, rfl, rfl, rfl, rfl, rfl, rfl, (rfl).trans ((ek8).trans (by first | rfl | (simp only [ifc_t ekp, ifc_t hkp, ifc_t ekq, ifc_t hkq, ifc_t ek8, ifc_t hk8, ifc_t hN, ifc_t hV, ifc_f a5482]; done) | (simp only [ifc_t ekp, ifc_t hkp, ifc_t ekq, ifc_t hkq, ifc_t ek8, ifc_t hk8, ifc_t hN, ifc_t hV, ifc_f a5482]; rfl))), rfl, rfl, rfl, FRO.rf, (fun i hi9 => by first | rfl | (simp only [ifc_t ekp, ifc_t hkp, ifc_t ekq, ifc_t hkq, ifc_t ek8, ifc_t hk8, ifc_t hN, ifc_t hV, ifc_f a5482]; done))⟩⟩) rfl dX12_saying__77)
def K_w_finding (l : Launch) (G : GG) (kp : Nat) (k9 : Nat) (h0 : Nat) (x1 : Int32) (x2 : Int32) (x3 : Int32) (x4 : Int32) (nw : Nat) (nk : Nat) (mhasKept : Int32) (nt : Nat) (mtaped : Int32) (nr : Nat) (mrowMany : Int32) (mroundOf : Int32) (mroundFrom : Int32) (mouts : Int32) (nm : Nat) (mfromHour : Int32) (mtoHour : Int32) (ns : Nat) (mfrom : Int32) (mto : Int32) (msort : Int32) (misFault : Int32) (mdeep : Int32) (mcoded : Int32) (mlines : Int32) (nl : Nat) (nc : Nat) (nF : Nat) (np : Nat) (ntr : Nat) (nb : Nat) (mbestCost : Int32) (nso : Nat) (nsi : Nat) (nit : Nat) (nsh : Nat) (nsf : Nat) (nss : Nat) (nrc : Nat) (mtraced : Int32) (mdealer : Int32) (mnumber : Int32) (mwhose : Int32) (msize : Int32) (misParted : Int32) (fnw : Nat → Int32) : Prop := MI l G yX12_finding cX12_finding 7 (some .int) 3 0 0 [.ref h0, .int x1, .int x2, .int x3, .int x4] [(h0, oX12 nw nk mhasKept nt mtaped nr mrowMany mroundOf mroundFrom mouts nm mfromHour mtoHour ns mfrom mto msort misFault mdeep mcoded mlines nl nc nF np ntr nb mbestCost nso nsi nit nsh nsf nss nrc mtraced mdealer mnumber mwhose msize misParted), (nw, iA G 1662 fnw)] (fun (r : Int32) (u : (Nat → Int32)) => (r = ifc (Hs x1 kp) (ifc (Wi x2 0 7) (ifc (Wi x3 0 999) (ifc (Wi x4 0 2) (ifc (nI k9 = 12) (-2) (nI k9)) (-1)) (-1)) (-1)) (-1)) ∧ (NI u ∧ VI u ∧ u 0 = fnw 0 ∧ u 1 = fnw 1 ∧ u 2 = fnw 2 ∧ u 3 = fnw 3 ∧ u 4 = fnw 4 ∧ u 5 = fnw 5 ∧ u 6 = fnw 6 ∧ u 8 = fnw 8 ∧ u 9 = ifc (Hs x1 kp) (ifc (Wi x2 0 7) (ifc (Wi x3 0 999) (ifc (Wi x4 0 2) (ifc (nI k9 = 12) (nI k9) (nI (k9 + 1))) (nI k9)) (nI k9)) (nI k9)) (nI k9) ∧ u 10 = fnw 10 ∧ u 11 = fnw 11 ∧ FRO u fnw 1552 1600 ∧ ∀ i : Nat, i < 48 → u (1552 + i) = ifc (Hs x1 kp) (ifc (Wi x2 0 7) (ifc (Wi x3 0 999) (ifc (Wi x4 0 2) (ifc (nI k9 = 12) (fnw (1552 + i)) (rowu (shf fnw 1552) (k9 * 4) [x1, x2, x3, x4] i)) (fnw (1552 + i))) (fnw (1552 + i))) (fnw (1552 + i))) (fnw (1552 + i)))) (fun u : (Nat → Int32) => [(h0, oX12 nw nk mhasKept nt mtaped nr mrowMany mroundOf mroundFrom mouts nm mfromHour mtoHour ns mfrom mto msort misFault mdeep mcoded mlines nl nc nF np ntr nb mbestCost nso nsi nit nsh nsf nss nrc mtraced mdealer mnumber mwhose msize misParted), (nw, iA G 1662 u)])
set_option maxHeartbeats 4000000 in
set_option maxRecDepth 100000 in
theorem w_finding (l : Launch) (G : GG) (kp : Nat) (k9 : Nat) (h0 : Nat) (x1 : Int32) (x2 : Int32) (x3 : Int32) (x4 : Int32) (nw : Nat) (nk : Nat) (mhasKept : Int32) (nt : Nat) (mtaped : Int32) (nr : Nat) (mrowMany : Int32) (mroundOf : Int32) (mroundFrom : Int32) (mouts : Int32) (nm : Nat) (mfromHour : Int32) (mtoHour : Int32) (ns : Nat) (mfrom : Int32) (mto : Int32) (msort : Int32) (misFault : Int32) (mdeep : Int32) (mcoded : Int32) (mlines : Int32) (nl : Nat) (nc : Nat) (nF : Nat) (np : Nat) (ntr : Nat) (nb : Nat) (mbestCost : Int32) (nso : Nat) (nsi : Nat) (nit : Nat) (nsh : Nat) (nsf : Nat) (nss : Nat) (nrc : Nat) (mtraced : Int32) (mdealer : Int32) (mnumber : Int32) (mwhose : Int32) (msize : Int32) (misParted : Int32) (fnw : Nat → Int32) (ekp : fnw 4 = nI kp) (hkp : kp ≤ 10) (ek9 : fnw 9 = nI k9) (hk9 : k9 ≤ 12) (hN : NI fnw) (hV : VI fnw) : K_w_finding l G kp k9 h0 x1 x2 x3 x4 nw nk mhasKept nt mtaped nr mrowMany mroundOf mroundFrom mouts nm mfromHour mtoHour ns mfrom mto msort misFault mdeep mcoded mlines nl nc nF np ntr nb mbestCost nso nsi nit nsh nsf nss nrc mtraced mdealer mnumber mwhose msize misParted fnw := by
  refine MI.start (by decide +kernel) (Nat.le_of_ble_eq_true rfl) ?_
  intro p e s m below meth c A ls hC hK hP hD hS hA hl
  refine absQ (fun Q0 hQ0 => ?_)
  have hl : lv_has ls 7 [(0, .ref h0), (1, .int x1), (2, .int x2), (3, .int x3), (4, .int x4)] := hl
  refine Kan8 hC (fun hx hb hr hml hB hown hlocks hnm => ?_)
  refine lv_aload_n hx hb dX12_finding_0 rfl (lv_at0 hl) ?_
  refine lv_iload_n hx hb dX12_finding_1 rfl (lv_at1 hl) ?_
  refine lv_iconst (v := 4) hx hb dX12_finding_2 (by decide) ?_
  refine pV hC hK hl hP hD (m_is l G kp h0 x1 4 nw nk mhasKept nt mtaped nr mrowMany mroundOf mroundFrom mouts nm mfromHour mtoHour ns mfrom mto msort misFault mdeep mcoded mlines nl nc nF np ntr nb mbestCost nso nsi nit nsh nsf nss nrc mtraced mdealer mnumber mwhose msize misParted fnw (by omega) (ekp) (by omega)) si_X12_120 [0, 1] sm_0_1 fm_0_1 nd_0_1 rfl rfl rfl rfl rfl (Nat.le_of_ble_eq_true rfl) rm_3_2_3 ⟨by first | exact Nat.le_of_ble_eq_true rfl | exact Nat.zero_le _, by first | exact Nat.le_of_ble_eq_true rfl | exact Nat.zero_le _⟩ dX12_finding_3 (Kors (Keqa fun a5507 => ?_) (Keqa fun a5507 => ?_))
  · refine lv_if_eq (tgt := 40) hx hb dX12_finding_6 (by decide) (fun c9 => absurd c9 (by decide)) (fun _ => ?_)
    refine lv_iload_n hx hb dX12_finding_9 rfl (lv_at2 hl) ?_
    refine lv_iconst (v := 0) hx hb dX12_finding_10 (by decide) ?_
    refine lv_bipush (v := 7) hx hb dX12_finding_11 (by decide) ?_
    refine pS hC hK hl (m_within l G x2 0 7) si_X12_84 rfl rfl (Nat.le_of_ble_eq_true rfl) rm_3_1_3 ⟨by first | exact Nat.le_of_ble_eq_true rfl | exact Nat.zero_le _, by first | exact Nat.le_of_ble_eq_true rfl | exact Nat.zero_le _⟩ dX12_finding_13 (Kors (Keqa fun a5509 => ?_) (Keqa fun a5509 => ?_))
    · refine lv_if_eq (tgt := 40) hx hb dX12_finding_16 (by decide) (fun c9 => absurd c9 (by decide)) (fun _ => ?_)
      refine lv_iload_n hx hb dX12_finding_19 rfl (lv_at3 hl) ?_
      refine lv_iconst (v := 0) hx hb dX12_finding_20 (by decide) ?_
      refine lv_sipush (v := 999) hx hb dX12_finding_21 (by decide) ?_
      refine pS hC hK hl (m_within l G x3 0 999) si_X12_84 rfl rfl (Nat.le_of_ble_eq_true rfl) rm_3_1_3 ⟨by first | exact Nat.le_of_ble_eq_true rfl | exact Nat.zero_le _, by first | exact Nat.le_of_ble_eq_true rfl | exact Nat.zero_le _⟩ dX12_finding_24 (Kors (Keqa fun a5511 => ?_) (Keqa fun a5511 => ?_))
      · refine lv_if_eq (tgt := 40) hx hb dX12_finding_27 (by decide) (fun c9 => absurd c9 (by decide)) (fun _ => ?_)
        refine lv_iload hx hb dX12_finding_30 (lv_at4 hl) ?_
        refine lv_iconst (v := 0) hx hb dX12_finding_32 (by decide) ?_
        refine lv_iconst (v := 2) hx hb dX12_finding_33 (by decide) ?_
        refine pS hC hK hl (m_within l G x4 0 2) si_X12_84 rfl rfl (Nat.le_of_ble_eq_true rfl) rm_3_1_3 ⟨by first | exact Nat.le_of_ble_eq_true rfl | exact Nat.zero_le _, by first | exact Nat.le_of_ble_eq_true rfl | exact Nat.zero_le _⟩ dX12_finding_34 (Kors (Keqa fun a5513 => ?_) (Keqa fun a5513 => ?_))
        · refine lv_if_ne (tgt := 42) hx hb dX12_finding_37 (by decide) (fun _ => ?_) (fun c9 => absurd c9 (by decide))
          refine lv_aload_n hx hb dX12_finding_42 rfl (lv_at0 hl) ?_
          refine gf_X12_9 hC rfl hK hP 0 rfl rfl dX12_finding_43 ?_
          refine lv_bipush (v := 9) hx hb dX12_finding_46 (by decide) ?_
          refine ald hC hK hP 1 rfl (vin (by decide +kernel)) (k := 9) (by decide +kernel) (v := nI k9) (ek9) dX12_finding_48 ?_
          refine lv_istore (lv' := [(5, .int (nI k9)), (0, .ref h0), (1, .int x1), (2, .int x2), (3, .int x3), (4, .int x4)]) hx hb dX12_finding_49 hl (by decide) rfl (fun ls hl => ?_)
          refine lv_iload hx hb dX12_finding_51 (lv_at0 hl) ?_
          refine lv_bipush (v := 12) hx hb dX12_finding_53 (by decide) ?_
          refine lv_icmp_ne (tgt := 61) hx hb dX12_finding_55 (by decide) (fun c_55_5514 => ?_) (fun c_55_5514 => ?_)
          · have hfull9 := nI_neq (a := k9) (b := 12) (by omega) (by decide) c_55_5514
            obtain ⟨ja, hja, rfl⟩ := Hs_nat (by omega) a5507
            obtain ⟨jb, hjb, rfl⟩ := Wi_nat (N := 7) (by decide) a5509
            refine lv_sipush (v := 1552) hx hb dX12_finding_61 (by decide) ?_
            refine lv_iconst (v := 4) hx hb dX12_finding_64 (by decide) ?_
            refine lv_iload hx hb dX12_finding_65 (lv_at0 hl) ?_
            refine lv_imul hx hb dX12_finding_67 ?_
            refine eqi (x1 := nI (4 * k9)) (nI_mul 4 k9) ?_
            refine lv_iadd hx hb dX12_finding_68 ?_
            refine eqi (x1 := nI (1552 + 4 * k9)) (nI_add 1552 (4 * k9)) ?_
            refine lv_istore (lv' := [(6, .int (nI (1552 + 4 * k9))), (5, .int (nI k9)), (0, .ref h0), (1, .int (nI ja)), (2, .int (nI jb)), (3, .int x3), (4, .int x4)]) hx hb dX12_finding_69 hl (by decide) rfl (fun ls hl => ?_)
            refine lv_aload_n hx hb dX12_finding_71 rfl (lv_at2 hl) ?_
            refine gf_X12_9 hC rfl hK hP 0 rfl rfl dX12_finding_72 ?_
            refine lv_iload hx hb dX12_finding_75 (lv_at0 hl) ?_
            refine lv_iconst (v := 0) hx hb dX12_finding_77 (by decide) ?_
            refine lv_iadd hx hb dX12_finding_78 ?_
            refine eqi (x1 := nI (1552 + 4 * k9 + 0)) (nI_add (1552 + 4 * k9) 0) ?_
            refine lv_iload_n hx hb dX12_finding_79 rfl (lv_at3 hl) ?_
            refine astN hC hK hP hD hS 1 (ws' := [(h0, oX12 nw nk mhasKept nt mtaped nr mrowMany mroundOf mroundFrom mouts nm mfromHour mtoHour ns mfrom mto msort misFault mdeep mcoded mlines nl nc nF np ntr nb mbestCost nso nsi nit nsh nsf nss nrc mtraced mdealer mnumber mwhose msize misParted), (nw, iA G 1662 (upd fnw (1552 + 4 * k9 + 0) (nI ja)))]) rfl (k := (1552 + 4 * k9 + 0)) (by omega) (Nat.le_of_ble_eq_true rfl) (rfl) dX12_finding_80 (fun H locs hP hD hS => ?_)
            refine lv_aload_n hx hb dX12_finding_81 rfl (lv_at2 hl) ?_
            refine gf_X12_9 hC rfl hK hP 0 rfl rfl dX12_finding_82 ?_
            refine lv_iload hx hb dX12_finding_85 (lv_at0 hl) ?_
            refine lv_iconst (v := 1) hx hb dX12_finding_87 (by decide) ?_
            refine lv_iadd hx hb dX12_finding_88 ?_
            refine eqi (x1 := nI (1552 + 4 * k9 + 1)) (nI_add (1552 + 4 * k9) 1) ?_
            refine lv_iload_n hx hb dX12_finding_89 rfl (lv_at4 hl) ?_
            refine astN hC hK hP hD hS 1 (ws' := [(h0, oX12 nw nk mhasKept nt mtaped nr mrowMany mroundOf mroundFrom mouts nm mfromHour mtoHour ns mfrom mto msort misFault mdeep mcoded mlines nl nc nF np ntr nb mbestCost nso nsi nit nsh nsf nss nrc mtraced mdealer mnumber mwhose msize misParted), (nw, iA G 1662 (upd (upd fnw (1552 + 4 * k9 + 0) (nI ja)) (1552 + 4 * k9 + 1) (nI jb)))]) rfl (k := (1552 + 4 * k9 + 1)) (by omega) (Nat.le_of_ble_eq_true rfl) (rfl) dX12_finding_90 (fun H locs hP hD hS => ?_)
            refine lv_aload_n hx hb dX12_finding_91 rfl (lv_at2 hl) ?_
            refine gf_X12_9 hC rfl hK hP 0 rfl rfl dX12_finding_92 ?_
            refine lv_iload hx hb dX12_finding_95 (lv_at0 hl) ?_
            refine lv_iconst (v := 2) hx hb dX12_finding_97 (by decide) ?_
            refine lv_iadd hx hb dX12_finding_98 ?_
            refine eqi (x1 := nI (1552 + 4 * k9 + 2)) (nI_add (1552 + 4 * k9) 2) ?_
            refine lv_iload_n hx hb dX12_finding_99 rfl (lv_at5 hl) ?_
            refine astN hC hK hP hD hS 1 (ws' := [(h0, oX12 nw nk mhasKept nt mtaped nr mrowMany mroundOf mroundFrom mouts nm mfromHour mtoHour ns mfrom mto msort misFault mdeep mcoded mlines nl nc nF np ntr nb mbestCost nso nsi nit nsh nsf nss nrc mtraced mdealer mnumber mwhose msize misParted), (nw, iA G 1662 (upd (upd (upd fnw (1552 + 4 * k9 + 0) (nI ja)) (1552 + 4 * k9 + 1) (nI jb)) (1552 + 4 * k9 + 2) x3))]) rfl (k := (1552 + 4 * k9 + 2)) (by omega) (Nat.le_of_ble_eq_true rfl) (rfl) dX12_finding_100 (fun H locs hP hD hS => ?_)
            refine lv_aload_n hx hb dX12_finding_101 rfl (lv_at2 hl) ?_
            refine gf_X12_9 hC rfl hK hP 0 rfl rfl dX12_finding_102 ?_
            refine lv_iload hx hb dX12_finding_105 (lv_at0 hl) ?_
            refine lv_iconst (v := 3) hx hb dX12_finding_107 (by decide) ?_
            refine lv_iadd hx hb dX12_finding_108 ?_
            refine eqi (x1 := nI (1552 + 4 * k9 + 3)) (nI_add (1552 + 4 * k9) 3) ?_
            refine lv_iload hx hb dX12_finding_109 (lv_at6 hl) ?_
            refine astN hC hK hP hD hS 1 (ws' := [(h0, oX12 nw nk mhasKept nt mtaped nr mrowMany mroundOf mroundFrom mouts nm mfromHour mtoHour ns mfrom mto msort misFault mdeep mcoded mlines nl nc nF np ntr nb mbestCost nso nsi nit nsh nsf nss nrc mtraced mdealer mnumber mwhose msize misParted), (nw, iA G 1662 (upd (upd (upd (upd fnw (1552 + 4 * k9 + 0) (nI ja)) (1552 + 4 * k9 + 1) (nI jb)) (1552 + 4 * k9 + 2) x3) (1552 + 4 * k9 + 3) x4))]) rfl (k := (1552 + 4 * k9 + 3)) (by omega) (Nat.le_of_ble_eq_true rfl) (rfl) dX12_finding_111 (fun H locs hP hD hS => ?_)
            refine lv_aload_n hx hb dX12_finding_112 rfl (lv_at2 hl) ?_
            refine gf_X12_9 hC rfl hK hP 0 rfl rfl dX12_finding_113 ?_
            refine lv_bipush (v := 9) hx hb dX12_finding_116 (by decide) ?_
            refine lv_dup2_11 hx hb dX12_finding_118 rfl rfl ?_
            refine ald hC hK hP 1 rfl (vin (by decide +kernel)) (k := 9) (by decide +kernel) (v := nI k9) ((upd_ne (by omega)).trans ((upd_ne (by omega)).trans ((upd_ne (by omega)).trans ((upd_ne (by omega)).trans (ek9))))) dX12_finding_119 ?_
            refine lv_iconst (v := 1) hx hb dX12_finding_120 (by decide) ?_
            refine lv_iadd hx hb dX12_finding_121 ?_
            refine eqi (x1 := nI (k9 + 1)) (nI_add k9 1) ?_
            refine ast hC hK hP hD hS 1 (ws' := [(h0, oX12 nw nk mhasKept nt mtaped nr mrowMany mroundOf mroundFrom mouts nm mfromHour mtoHour ns mfrom mto msort misFault mdeep mcoded mlines nl nc nF np ntr nb mbestCost nso nsi nit nsh nsf nss nrc mtraced mdealer mnumber mwhose msize misParted), (nw, iA G 1662 (upd (upd (upd (upd (upd fnw (1552 + 4 * k9 + 0) (nI ja)) (1552 + 4 * k9 + 1) (nI jb)) (1552 + 4 * k9 + 2) x3) (1552 + 4 * k9 + 3) x4) 9 (nI (k9 + 1))))]) rfl (vin (by decide +kernel)) (k := 9) (by decide +kernel) (rfl) dX12_finding_122 (fun H locs hP hD hS => ?_)
            refine lv_iload hx hb dX12_finding_123 (lv_at1 hl) ?_
            have tu5515 : shf (upd (upd (upd (upd (upd fnw (1552 + 4 * k9 + 0) (nI ja)) (1552 + 4 * k9 + 1) (nI jb)) (1552 + 4 * k9 + 2) x3) (1552 + 4 * k9 + 3) x4) 9 (nI (k9 + 1))) 1552 = rowu (shf fnw 1552) (k9 * 4) [(nI ja), (nI jb), x3, x4] := by rw [sho (by omega), shu (j := k9 * 4 + 3) (by omega), shu (j := k9 * 4 + 2) (by omega), shu (j := k9 * 4 + 1) (by omega), shu (j := k9 * 4 + 0) (by omega)]; rfl
            exact toQ hQ0 (RI (v := nI k9) hC hP hD hS [0, 1] (upd (upd (upd (upd (upd fnw (1552 + 4 * k9 + 0) (nI ja)) (1552 + 4 * k9 + 1) (nI jb)) (1552 + 4 * k9 + 2) x3) (1552 + 4 * k9 + 3) x4) 9 (nI (k9 + 1))) rfl rfl (by decide) (⟨(by first | rfl | (simp only [ifc_t ekp, ifc_t hkp, ifc_t ek9, ifc_t hk9, ifc_t hN, ifc_t hV, ifc_t a5507, ifc_t a5509, ifc_t a5511, ifc_t a5513, ifc_f c_55_5514]; done) | (simp only [ifc_t ekp, ifc_t hkp, ifc_t ek9, ifc_t hk9, ifc_t hN, ifc_t hV, ifc_t a5507, ifc_t a5509, ifc_t a5511, ifc_t a5513, ifc_f c_55_5514]; rfl)), ⟨(((((hN).setN (B := 9) (bnd_fin0 (s := k9) (by omega) (by omega)) (by omega) (by decide)).setN (B := 7) (bnd_fin1 (s := k9) rfl (by omega)) (by omega) (by decide)).setA (bnd_finA (s := k9) (r := 2) (by omega) (by omega) (by decide) (by decide))).setA (bnd_finA (s := k9) (r := 3) (by omega) (by omega) (by decide) (by decide))).setN (B := 12) (show bnd 9 = (0, ((12 : Nat) : Int)) from by decide +kernel) (by omega) (by decide), (((((hV).set (by omega)).set (by omega)).set (by omega)).set (by omega)).set (by omega), (upd_ne (by omega)).trans ((upd_ne (by omega)).trans ((upd_ne (by omega)).trans ((upd_ne (by omega)).trans (upd_ne (by omega))))), (upd_ne (by omega)).trans ((upd_ne (by omega)).trans ((upd_ne (by omega)).trans ((upd_ne (by omega)).trans (upd_ne (by omega))))), (upd_ne (by omega)).trans ((upd_ne (by omega)).trans ((upd_ne (by omega)).trans ((upd_ne (by omega)).trans (upd_ne (by omega))))), (upd_ne (by omega)).trans ((upd_ne (by omega)).trans ((upd_ne (by omega)).trans ((upd_ne (by omega)).trans (upd_ne (by omega))))), (upd_ne (by omega)).trans ((upd_ne (by omega)).trans ((upd_ne (by omega)).trans ((upd_ne (by omega)).trans (upd_ne (by omega))))), (upd_ne (by omega)).trans ((upd_ne (by omega)).trans ((upd_ne (by omega)).trans ((upd_ne (by omega)).trans (upd_ne (by omega))))), (upd_ne (by omega)).trans ((upd_ne (by omega)).trans ((upd_ne (by omega)).trans ((upd_ne (by omega)).trans (upd_ne (by omega))))), (upd_ne (by omega)).trans ((upd_ne (by omega)).trans ((upd_ne (by omega)).trans ((upd_ne (by omega)).trans (upd_ne (by omega))))), (show _ = (nI (k9 + 1)) from upd_eq rfl).trans (by first | rfl | (simp only [ifc_t ekp, ifc_t hkp, ifc_t ek9, ifc_t hk9, ifc_t hN, ifc_t hV, ifc_t a5507, ifc_t a5509, ifc_t a5511, ifc_t a5513, ifc_f c_55_5514]; done) | (simp only [ifc_t ekp, ifc_t hkp, ifc_t ek9, ifc_t hk9, ifc_t hN, ifc_t hV, ifc_t a5507, ifc_t a5509, ifc_t a5511, ifc_t a5513, ifc_f c_55_5514]; rfl)), (upd_ne (by omega)).trans ((upd_ne (by omega)).trans ((upd_ne (by omega)).trans ((upd_ne (by omega)).trans (upd_ne (by omega))))), (upd_ne (by omega)).trans ((upd_ne (by omega)).trans ((upd_ne (by omega)).trans ((upd_ne (by omega)).trans (upd_ne (by omega))))), (((((FRO.rf).set (by omega)).set (by omega)).set (by omega)).set (by omega)).set (by omega), (fun i hi9 => by simp only [ifc_t ekp, ifc_t hkp, ifc_t ek9, ifc_t hk9, ifc_t hN, ifc_t hV, ifc_t a5507, ifc_t a5509, ifc_t a5511, ifc_t a5513, ifc_f c_55_5514]; exact (congrFun tu5515 i).trans (by first | rfl | (simp only [SCX]; done)))⟩⟩) rfl dX12_finding_125)
          · refine lv_bipush (v := (-2)) hx hb dX12_finding_58 (by decide) ?_
            exact toQ hQ0 (RI (v := (-2)) hC hP hD hS [0, 1] fnw rfl rfl (by decide) (⟨(by first | rfl | (simp only [ifc_t ekp, ifc_t hkp, ifc_t ek9, ifc_t hk9, ifc_t hN, ifc_t hV, ifc_t a5507, ifc_t a5509, ifc_t a5511, ifc_t a5513, ifc_t c_55_5514]; done) | (simp only [ifc_t ekp, ifc_t hkp, ifc_t ek9, ifc_t hk9, ifc_t hN, ifc_t hV, ifc_t a5507, ifc_t a5509, ifc_t a5511, ifc_t a5513, ifc_t c_55_5514]; rfl)), ⟨hN, hV, rfl, rfl, rfl, rfl, rfl, rfl, rfl, rfl, (rfl).trans ((ek9).trans (by first | rfl | (simp only [ifc_t ekp, ifc_t hkp, ifc_t ek9, ifc_t hk9, ifc_t hN, ifc_t hV, ifc_t a5507, ifc_t a5509, ifc_t a5511, ifc_t a5513, ifc_t c_55_5514]; done) | (simp only [ifc_t ekp, ifc_t hkp, ifc_t ek9, ifc_t hk9, ifc_t hN, ifc_t hV, ifc_t a5507, ifc_t a5509, ifc_t a5511, ifc_t a5513, ifc_t c_55_5514]; rfl))), rfl, rfl, FRO.rf, (fun i hi9 => by first | rfl | (simp only [ifc_t ekp, ifc_t hkp, ifc_t ek9, ifc_t hk9, ifc_t hN, ifc_t hV, ifc_t a5507, ifc_t a5509, ifc_t a5511, ifc_t a5513, ifc_t c_55_5514]; done))⟩⟩) rfl dX12_finding_60)
        · refine lv_if_ne (tgt := 42) hx hb dX12_finding_37 (by decide) (fun c9 => absurd (by decide) c9) (fun _ => ?_)
          refine lv_iconst (v := (-1)) hx hb dX12_finding_40 (by decide) ?_
          exact toQ hQ0 (RI (v := (-1)) hC hP hD hS [0, 1] fnw rfl rfl (by decide) (⟨(by first | rfl | (simp only [ifc_t ekp, ifc_t hkp, ifc_t ek9, ifc_t hk9, ifc_t hN, ifc_t hV, ifc_t a5507, ifc_t a5509, ifc_t a5511, ifc_f a5513]; done) | (simp only [ifc_t ekp, ifc_t hkp, ifc_t ek9, ifc_t hk9, ifc_t hN, ifc_t hV, ifc_t a5507, ifc_t a5509, ifc_t a5511, ifc_f a5513]; rfl)), ⟨hN, hV, rfl, rfl, rfl, rfl, rfl, rfl, rfl, rfl, (rfl).trans ((ek9).trans (by first | rfl | (simp only [ifc_t ekp, ifc_t hkp, ifc_t ek9, ifc_t hk9, ifc_t hN, ifc_t hV, ifc_t a5507, ifc_t a5509, ifc_t a5511, ifc_f a5513]; done) | (simp only [ifc_t ekp, ifc_t hkp, ifc_t ek9, ifc_t hk9, ifc_t hN, ifc_t hV, ifc_t a5507, ifc_t a5509, ifc_t a5511, ifc_f a5513]; rfl))), rfl, rfl, FRO.rf, (fun i hi9 => by first | rfl | (simp only [ifc_t ekp, ifc_t hkp, ifc_t ek9, ifc_t hk9, ifc_t hN, ifc_t hV, ifc_t a5507, ifc_t a5509, ifc_t a5511, ifc_f a5513]; done))⟩⟩) rfl dX12_finding_41)
      · refine lv_if_eq (tgt := 40) hx hb dX12_finding_27 (by decide) (fun _ => ?_) (fun c9 => absurd (by decide) c9)
        refine lv_iconst (v := (-1)) hx hb dX12_finding_40 (by decide) ?_
        exact toQ hQ0 (RI (v := (-1)) hC hP hD hS [0, 1] fnw rfl rfl (by decide) (⟨(by first | rfl | (simp only [ifc_t ekp, ifc_t hkp, ifc_t ek9, ifc_t hk9, ifc_t hN, ifc_t hV, ifc_t a5507, ifc_t a5509, ifc_f a5511]; done) | (simp only [ifc_t ekp, ifc_t hkp, ifc_t ek9, ifc_t hk9, ifc_t hN, ifc_t hV, ifc_t a5507, ifc_t a5509, ifc_f a5511]; rfl)), ⟨hN, hV, rfl, rfl, rfl, rfl, rfl, rfl, rfl, rfl, (rfl).trans ((ek9).trans (by first | rfl | (simp only [ifc_t ekp, ifc_t hkp, ifc_t ek9, ifc_t hk9, ifc_t hN, ifc_t hV, ifc_t a5507, ifc_t a5509, ifc_f a5511]; done) | (simp only [ifc_t ekp, ifc_t hkp, ifc_t ek9, ifc_t hk9, ifc_t hN, ifc_t hV, ifc_t a5507, ifc_t a5509, ifc_f a5511]; rfl))), rfl, rfl, FRO.rf, (fun i hi9 => by first | rfl | (simp only [ifc_t ekp, ifc_t hkp, ifc_t ek9, ifc_t hk9, ifc_t hN, ifc_t hV, ifc_t a5507, ifc_t a5509, ifc_f a5511]; done))⟩⟩) rfl dX12_finding_41)
    · refine lv_if_eq (tgt := 40) hx hb dX12_finding_16 (by decide) (fun _ => ?_) (fun c9 => absurd (by decide) c9)
      refine lv_iconst (v := (-1)) hx hb dX12_finding_40 (by decide) ?_
      exact toQ hQ0 (RI (v := (-1)) hC hP hD hS [0, 1] fnw rfl rfl (by decide) (⟨(by first | rfl | (simp only [ifc_t ekp, ifc_t hkp, ifc_t ek9, ifc_t hk9, ifc_t hN, ifc_t hV, ifc_t a5507, ifc_f a5509]; done) | (simp only [ifc_t ekp, ifc_t hkp, ifc_t ek9, ifc_t hk9, ifc_t hN, ifc_t hV, ifc_t a5507, ifc_f a5509]; rfl)), ⟨hN, hV, rfl, rfl, rfl, rfl, rfl, rfl, rfl, rfl, (rfl).trans ((ek9).trans (by first | rfl | (simp only [ifc_t ekp, ifc_t hkp, ifc_t ek9, ifc_t hk9, ifc_t hN, ifc_t hV, ifc_t a5507, ifc_f a5509]; done) | (simp only [ifc_t ekp, ifc_t hkp, ifc_t ek9, ifc_t hk9, ifc_t hN, ifc_t hV, ifc_t a5507, ifc_f a5509]; rfl))), rfl, rfl, FRO.rf, (fun i hi9 => by first | rfl | (simp only [ifc_t ekp, ifc_t hkp, ifc_t ek9, ifc_t hk9, ifc_t hN, ifc_t hV, ifc_t a5507, ifc_f a5509]; done))⟩⟩) rfl dX12_finding_41)
  · refine lv_if_eq (tgt := 40) hx hb dX12_finding_6 (by decide) (fun _ => ?_) (fun c9 => absurd (by decide) c9)
    refine lv_iconst (v := (-1)) hx hb dX12_finding_40 (by decide) ?_
    exact toQ hQ0 (RI (v := (-1)) hC hP hD hS [0, 1] fnw rfl rfl (by decide) (⟨(by first | rfl | (simp only [ifc_t ekp, ifc_t hkp, ifc_t ek9, ifc_t hk9, ifc_t hN, ifc_t hV, ifc_f a5507]; done) | (simp only [ifc_t ekp, ifc_t hkp, ifc_t ek9, ifc_t hk9, ifc_t hN, ifc_t hV, ifc_f a5507]; rfl)), ⟨hN, hV, rfl, rfl, rfl, rfl, rfl, rfl, rfl, rfl, (rfl).trans ((ek9).trans (by first | rfl | (simp only [ifc_t ekp, ifc_t hkp, ifc_t ek9, ifc_t hk9, ifc_t hN, ifc_t hV, ifc_f a5507]; done) | (simp only [ifc_t ekp, ifc_t hkp, ifc_t ek9, ifc_t hk9, ifc_t hN, ifc_t hV, ifc_f a5507]; rfl))), rfl, rfl, FRO.rf, (fun i hi9 => by first | rfl | (simp only [ifc_t ekp, ifc_t hkp, ifc_t ek9, ifc_t hk9, ifc_t hN, ifc_t hV, ifc_f a5507]; done))⟩⟩) rfl dX12_finding_41)
def K_w_warn (l : Launch) (G : GG) (kp : Nat) (kq : Nat) (k10 : Nat) (h0 : Nat) (x1 : Int32) (x2 : Int32) (nw : Nat) (nk : Nat) (mhasKept : Int32) (nt : Nat) (mtaped : Int32) (nr : Nat) (mrowMany : Int32) (mroundOf : Int32) (mroundFrom : Int32) (mouts : Int32) (nm : Nat) (mfromHour : Int32) (mtoHour : Int32) (ns : Nat) (mfrom : Int32) (mto : Int32) (msort : Int32) (misFault : Int32) (mdeep : Int32) (mcoded : Int32) (mlines : Int32) (nl : Nat) (nc : Nat) (nF : Nat) (np : Nat) (ntr : Nat) (nb : Nat) (mbestCost : Int32) (nso : Nat) (nsi : Nat) (nit : Nat) (nsh : Nat) (nsf : Nat) (nss : Nat) (nrc : Nat) (mtraced : Int32) (mdealer : Int32) (mnumber : Int32) (mwhose : Int32) (msize : Int32) (misParted : Int32) (fnw : Nat → Int32) : Prop := MI l G yX12_warn cX12_warn 4 (some .int) 3 0 0 [.ref h0, .int x1, .int x2] [(h0, oX12 nw nk mhasKept nt mtaped nr mrowMany mroundOf mroundFrom mouts nm mfromHour mtoHour ns mfrom mto msort misFault mdeep mcoded mlines nl nc nF np ntr nb mbestCost nso nsi nit nsh nsf nss nrc mtraced mdealer mnumber mwhose msize misParted), (nw, iA G 1662 fnw)] (fun (r : Int32) (u : (Nat → Int32)) => (r = ifc (Hs x1 kp) (ifc (Hs x2 kq) (ifc (nI k10 = 16) (-2) (nI k10)) (-1)) (-1)) ∧ (NI u ∧ VI u ∧ u 0 = fnw 0 ∧ u 1 = fnw 1 ∧ u 2 = fnw 2 ∧ u 3 = fnw 3 ∧ u 4 = fnw 4 ∧ u 5 = fnw 5 ∧ u 6 = fnw 6 ∧ u 8 = fnw 8 ∧ u 9 = fnw 9 ∧ u 10 = ifc (Hs x1 kp) (ifc (Hs x2 kq) (ifc (nI k10 = 16) (nI k10) (nI (k10 + 1))) (nI k10)) (nI k10) ∧ u 11 = fnw 11 ∧ FRO u fnw 1600 1648 ∧ ∀ i : Nat, i < 48 → u (1600 + i) = ifc (Hs x1 kp) (ifc (Hs x2 kq) (ifc (nI k10 = 16) (fnw (1600 + i)) (rowu (shf fnw 1600) (k10 * 3) [x1, x2, fnw 0] i)) (fnw (1600 + i))) (fnw (1600 + i)))) (fun u : (Nat → Int32) => [(h0, oX12 nw nk mhasKept nt mtaped nr mrowMany mroundOf mroundFrom mouts nm mfromHour mtoHour ns mfrom mto msort misFault mdeep mcoded mlines nl nc nF np ntr nb mbestCost nso nsi nit nsh nsf nss nrc mtraced mdealer mnumber mwhose msize misParted), (nw, iA G 1662 u)])
set_option maxHeartbeats 4000000 in
set_option maxRecDepth 100000 in
theorem w_warn (l : Launch) (G : GG) (kp : Nat) (kq : Nat) (k10 : Nat) (h0 : Nat) (x1 : Int32) (x2 : Int32) (nw : Nat) (nk : Nat) (mhasKept : Int32) (nt : Nat) (mtaped : Int32) (nr : Nat) (mrowMany : Int32) (mroundOf : Int32) (mroundFrom : Int32) (mouts : Int32) (nm : Nat) (mfromHour : Int32) (mtoHour : Int32) (ns : Nat) (mfrom : Int32) (mto : Int32) (msort : Int32) (misFault : Int32) (mdeep : Int32) (mcoded : Int32) (mlines : Int32) (nl : Nat) (nc : Nat) (nF : Nat) (np : Nat) (ntr : Nat) (nb : Nat) (mbestCost : Int32) (nso : Nat) (nsi : Nat) (nit : Nat) (nsh : Nat) (nsf : Nat) (nss : Nat) (nrc : Nat) (mtraced : Int32) (mdealer : Int32) (mnumber : Int32) (mwhose : Int32) (msize : Int32) (misParted : Int32) (fnw : Nat → Int32) (ekp : fnw 4 = nI kp) (hkp : kp ≤ 10) (ekq : fnw 5 = nI kq) (hkq : kq ≤ 12) (ek10 : fnw 10 = nI k10) (hk10 : k10 ≤ 16) (hN : NI fnw) (hV : VI fnw) : K_w_warn l G kp kq k10 h0 x1 x2 nw nk mhasKept nt mtaped nr mrowMany mroundOf mroundFrom mouts nm mfromHour mtoHour ns mfrom mto msort misFault mdeep mcoded mlines nl nc nF np ntr nb mbestCost nso nsi nit nsh nsf nss nrc mtraced mdealer mnumber mwhose msize misParted fnw := by
  refine MI.start (by decide +kernel) (Nat.le_of_ble_eq_true rfl) ?_
  intro p e s m below meth c A ls hC hK hP hD hS hA hl
  refine absQ (fun Q0 hQ0 => ?_)
  have hl : lv_has ls 4 [(0, .ref h0), (1, .int x1), (2, .int x2)] := hl
  refine Kan8 hC (fun hx hb hr hml hB hown hlocks hnm => ?_)
  refine lv_aload_n hx hb dX12_warn_0 rfl (lv_at0 hl) ?_
  refine lv_iload_n hx hb dX12_warn_1 rfl (lv_at1 hl) ?_
  refine lv_iconst (v := 4) hx hb dX12_warn_2 (by decide) ?_
  refine pV hC hK hl hP hD (m_is l G kp h0 x1 4 nw nk mhasKept nt mtaped nr mrowMany mroundOf mroundFrom mouts nm mfromHour mtoHour ns mfrom mto msort misFault mdeep mcoded mlines nl nc nF np ntr nb mbestCost nso nsi nit nsh nsf nss nrc mtraced mdealer mnumber mwhose msize misParted fnw (by omega) (ekp) (by omega)) si_X12_120 [0, 1] sm_0_1 fm_0_1 nd_0_1 rfl rfl rfl rfl rfl (Nat.le_of_ble_eq_true rfl) rm_3_2_3 ⟨by first | exact Nat.le_of_ble_eq_true rfl | exact Nat.zero_le _, by first | exact Nat.le_of_ble_eq_true rfl | exact Nat.zero_le _⟩ dX12_warn_3 (Kors (Keqa fun a5517 => ?_) (Keqa fun a5517 => ?_))
  · refine lv_if_eq (tgt := 18) hx hb dX12_warn_6 (by decide) (fun c9 => absurd c9 (by decide)) (fun _ => ?_)
    refine lv_aload_n hx hb dX12_warn_9 rfl (lv_at0 hl) ?_
    refine lv_iload_n hx hb dX12_warn_10 rfl (lv_at2 hl) ?_
    refine lv_iconst (v := 5) hx hb dX12_warn_11 (by decide) ?_
    refine pV hC hK hl hP hD (m_is l G kq h0 x2 5 nw nk mhasKept nt mtaped nr mrowMany mroundOf mroundFrom mouts nm mfromHour mtoHour ns mfrom mto msort misFault mdeep mcoded mlines nl nc nF np ntr nb mbestCost nso nsi nit nsh nsf nss nrc mtraced mdealer mnumber mwhose msize misParted fnw (by omega) (ekq) (by omega)) si_X12_120 [0, 1] sm_0_1 fm_0_1 nd_0_1 rfl rfl rfl rfl rfl (Nat.le_of_ble_eq_true rfl) rm_3_2_3 ⟨by first | exact Nat.le_of_ble_eq_true rfl | exact Nat.zero_le _, by first | exact Nat.le_of_ble_eq_true rfl | exact Nat.zero_le _⟩ dX12_warn_12 (Kors (Keqa fun a5519 => ?_) (Keqa fun a5519 => ?_))
    · refine lv_if_ne (tgt := 20) hx hb dX12_warn_15 (by decide) (fun _ => ?_) (fun c9 => absurd c9 (by decide))
      refine lv_aload_n hx hb dX12_warn_20 rfl (lv_at0 hl) ?_
      refine gf_X12_9 hC rfl hK hP 0 rfl rfl dX12_warn_21 ?_
      refine lv_bipush (v := 10) hx hb dX12_warn_24 (by decide) ?_
      refine ald hC hK hP 1 rfl (vin (by decide +kernel)) (k := 10) (by decide +kernel) (v := nI k10) (ek10) dX12_warn_26 ?_
      refine lv_istore_n (lv' := [(3, .int (nI k10)), (0, .ref h0), (1, .int x1), (2, .int x2)]) hx hb dX12_warn_27 rfl hl (by decide) rfl (fun ls hl => ?_)
      refine lv_iload_n hx hb dX12_warn_28 rfl (lv_at0 hl) ?_
      refine lv_bipush (v := 16) hx hb dX12_warn_29 (by decide) ?_
      refine lv_icmp_ne (tgt := 37) hx hb dX12_warn_31 (by decide) (fun c_31_5520 => ?_) (fun c_31_5520 => ?_)
      · have hfull9 := nI_neq (a := k10) (b := 16) (by omega) (by decide) c_31_5520
        refine lv_aload_n hx hb dX12_warn_37 rfl (lv_at1 hl) ?_
        refine gf_X12_9 hC rfl hK hP 0 rfl rfl dX12_warn_38 ?_
        refine lv_sipush (v := 1600) hx hb dX12_warn_41 (by decide) ?_
        refine lv_iconst (v := 3) hx hb dX12_warn_44 (by decide) ?_
        refine lv_iload_n hx hb dX12_warn_45 rfl (lv_at0 hl) ?_
        refine lv_imul hx hb dX12_warn_46 ?_
        refine eqi (x1 := nI (3 * k10)) (nI_mul 3 k10) ?_
        refine lv_iadd hx hb dX12_warn_47 ?_
        refine eqi (x1 := nI (1600 + 3 * k10)) (nI_add 1600 (3 * k10)) ?_
        refine lv_iload_n hx hb dX12_warn_48 rfl (lv_at2 hl) ?_
        refine astN hC hK hP hD hS 1 (ws' := [(h0, oX12 nw nk mhasKept nt mtaped nr mrowMany mroundOf mroundFrom mouts nm mfromHour mtoHour ns mfrom mto msort misFault mdeep mcoded mlines nl nc nF np ntr nb mbestCost nso nsi nit nsh nsf nss nrc mtraced mdealer mnumber mwhose msize misParted), (nw, iA G 1662 (upd fnw (1600 + 3 * k10) x1))]) rfl (k := (1600 + 3 * k10)) (by omega) (Nat.le_of_ble_eq_true rfl) (rfl) dX12_warn_49 (fun H locs hP hD hS => ?_)
        refine lv_aload_n hx hb dX12_warn_50 rfl (lv_at1 hl) ?_
        refine gf_X12_9 hC rfl hK hP 0 rfl rfl dX12_warn_51 ?_
        refine lv_sipush (v := 1600) hx hb dX12_warn_54 (by decide) ?_
        refine lv_iconst (v := 3) hx hb dX12_warn_57 (by decide) ?_
        refine lv_iload_n hx hb dX12_warn_58 rfl (lv_at0 hl) ?_
        refine lv_imul hx hb dX12_warn_59 ?_
        refine eqi (x1 := nI (3 * k10)) (nI_mul 3 k10) ?_
        refine lv_iadd hx hb dX12_warn_60 ?_
        refine eqi (x1 := nI (1600 + 3 * k10)) (nI_add 1600 (3 * k10)) ?_
        refine lv_iconst (v := 1) hx hb dX12_warn_61 (by decide) ?_
        refine lv_iadd hx hb dX12_warn_62 ?_
        refine eqi (x1 := nI (1600 + 3 * k10 + 1)) (nI_add (1600 + 3 * k10) 1) ?_
        refine lv_iload_n hx hb dX12_warn_63 rfl (lv_at3 hl) ?_
        refine astN hC hK hP hD hS 1 (ws' := [(h0, oX12 nw nk mhasKept nt mtaped nr mrowMany mroundOf mroundFrom mouts nm mfromHour mtoHour ns mfrom mto msort misFault mdeep mcoded mlines nl nc nF np ntr nb mbestCost nso nsi nit nsh nsf nss nrc mtraced mdealer mnumber mwhose msize misParted), (nw, iA G 1662 (upd (upd fnw (1600 + 3 * k10) x1) (1600 + 3 * k10 + 1) x2))]) rfl (k := (1600 + 3 * k10 + 1)) (by omega) (Nat.le_of_ble_eq_true rfl) (rfl) dX12_warn_64 (fun H locs hP hD hS => ?_)
        refine lv_aload_n hx hb dX12_warn_65 rfl (lv_at1 hl) ?_
        refine gf_X12_9 hC rfl hK hP 0 rfl rfl dX12_warn_66 ?_
        refine lv_sipush (v := 1600) hx hb dX12_warn_69 (by decide) ?_
        refine lv_iconst (v := 3) hx hb dX12_warn_72 (by decide) ?_
        refine lv_iload_n hx hb dX12_warn_73 rfl (lv_at0 hl) ?_
        refine lv_imul hx hb dX12_warn_74 ?_
        refine eqi (x1 := nI (3 * k10)) (nI_mul 3 k10) ?_
        refine lv_iadd hx hb dX12_warn_75 ?_
        refine eqi (x1 := nI (1600 + 3 * k10)) (nI_add 1600 (3 * k10)) ?_
        refine lv_iconst (v := 2) hx hb dX12_warn_76 (by decide) ?_
        refine lv_iadd hx hb dX12_warn_77 ?_
        refine eqi (x1 := nI (1600 + 3 * k10 + 2)) (nI_add (1600 + 3 * k10) 2) ?_
        refine lv_aload_n hx hb dX12_warn_78 rfl (lv_at1 hl) ?_
        refine gf_X12_9 hC rfl hK hP 0 rfl rfl dX12_warn_79 ?_
        refine lv_iconst (v := 0) hx hb dX12_warn_82 (by decide) ?_
        refine ald hC hK hP 1 rfl (vin (by decide +kernel)) (k := 0) (by decide +kernel) (v := fnw 0) ((upd_ne (by omega)).trans ((upd_ne (by omega)).trans (rfl))) dX12_warn_83 ?_
        refine astN hC hK hP hD hS 1 (ws' := [(h0, oX12 nw nk mhasKept nt mtaped nr mrowMany mroundOf mroundFrom mouts nm mfromHour mtoHour ns mfrom mto msort misFault mdeep mcoded mlines nl nc nF np ntr nb mbestCost nso nsi nit nsh nsf nss nrc mtraced mdealer mnumber mwhose msize misParted), (nw, iA G 1662 (upd (upd (upd fnw (1600 + 3 * k10) x1) (1600 + 3 * k10 + 1) x2) (1600 + 3 * k10 + 2) (fnw 0)))]) rfl (k := (1600 + 3 * k10 + 2)) (by omega) (Nat.le_of_ble_eq_true rfl) (rfl) dX12_warn_84 (fun H locs hP hD hS => ?_)
        refine lv_aload_n hx hb dX12_warn_85 rfl (lv_at1 hl) ?_
        refine gf_X12_9 hC rfl hK hP 0 rfl rfl dX12_warn_86 ?_
        refine lv_bipush (v := 10) hx hb dX12_warn_89 (by decide) ?_
        refine lv_dup2_11 hx hb dX12_warn_91 rfl rfl ?_
        refine ald hC hK hP 1 rfl (vin (by decide +kernel)) (k := 10) (by decide +kernel) (v := nI k10) ((upd_ne (by omega)).trans ((upd_ne (by omega)).trans ((upd_ne (by omega)).trans (ek10)))) dX12_warn_92 ?_
        refine lv_iconst (v := 1) hx hb dX12_warn_93 (by decide) ?_
        refine lv_iadd hx hb dX12_warn_94 ?_
        refine eqi (x1 := nI (k10 + 1)) (nI_add k10 1) ?_
        refine ast hC hK hP hD hS 1 (ws' := [(h0, oX12 nw nk mhasKept nt mtaped nr mrowMany mroundOf mroundFrom mouts nm mfromHour mtoHour ns mfrom mto msort misFault mdeep mcoded mlines nl nc nF np ntr nb mbestCost nso nsi nit nsh nsf nss nrc mtraced mdealer mnumber mwhose msize misParted), (nw, iA G 1662 (upd (upd (upd (upd fnw (1600 + 3 * k10) x1) (1600 + 3 * k10 + 1) x2) (1600 + 3 * k10 + 2) (fnw 0)) 10 (nI (k10 + 1))))]) rfl (vin (by decide +kernel)) (k := 10) (by decide +kernel) (rfl) dX12_warn_95 (fun H locs hP hD hS => ?_)
        refine lv_iload_n hx hb dX12_warn_96 rfl (lv_at0 hl) ?_
        have tu5521 : shf (upd (upd (upd (upd fnw (1600 + 3 * k10) x1) (1600 + 3 * k10 + 1) x2) (1600 + 3 * k10 + 2) (fnw 0)) 10 (nI (k10 + 1))) 1600 = rowu (shf fnw 1600) (k10 * 3) [x1, x2, (fnw 0)] := by rw [sho (by omega), shu (j := k10 * 3 + 2) (by omega), shu (j := k10 * 3 + 1) (by omega), shu (j := k10 * 3 + 0) (by omega)]; rfl
        exact toQ hQ0 (RI (v := nI k10) hC hP hD hS [0, 1] (upd (upd (upd (upd fnw (1600 + 3 * k10) x1) (1600 + 3 * k10 + 1) x2) (1600 + 3 * k10 + 2) (fnw 0)) 10 (nI (k10 + 1))) rfl rfl (by decide) (⟨(by first | rfl | (simp only [ifc_t ekp, ifc_t hkp, ifc_t ekq, ifc_t hkq, ifc_t ek10, ifc_t hk10, ifc_t hN, ifc_t hV, ifc_t a5517, ifc_t a5519, ifc_f c_31_5520]; done) | (simp only [ifc_t ekp, ifc_t hkp, ifc_t ekq, ifc_t hkq, ifc_t ek10, ifc_t hk10, ifc_t hN, ifc_t hV, ifc_t a5517, ifc_t a5519, ifc_f c_31_5520]; rfl)), ⟨((((hN).setA (bnd_end (by omega))).setA (bnd_end (by omega))).setA (bnd_end (by omega))).setN (B := 16) (show bnd 10 = (0, ((16 : Nat) : Int)) from by decide +kernel) (by omega) (by decide), ((((hV).set (by omega)).set (by omega)).set (by omega)).set (by omega), (upd_ne (by omega)).trans ((upd_ne (by omega)).trans ((upd_ne (by omega)).trans (upd_ne (by omega)))), (upd_ne (by omega)).trans ((upd_ne (by omega)).trans ((upd_ne (by omega)).trans (upd_ne (by omega)))), (upd_ne (by omega)).trans ((upd_ne (by omega)).trans ((upd_ne (by omega)).trans (upd_ne (by omega)))), (upd_ne (by omega)).trans ((upd_ne (by omega)).trans ((upd_ne (by omega)).trans (upd_ne (by omega)))), (upd_ne (by omega)).trans ((upd_ne (by omega)).trans ((upd_ne (by omega)).trans (upd_ne (by omega)))), (upd_ne (by omega)).trans ((upd_ne (by omega)).trans ((upd_ne (by omega)).trans (upd_ne (by omega)))), (upd_ne (by omega)).trans ((upd_ne (by omega)).trans ((upd_ne (by omega)).trans (upd_ne (by omega)))), (upd_ne (by omega)).trans ((upd_ne (by omega)).trans ((upd_ne (by omega)).trans (upd_ne (by omega)))), (upd_ne (by omega)).trans ((upd_ne (by omega)).trans ((upd_ne (by omega)).trans (upd_ne (by omega)))), (show _ = (nI (k10 + 1)) from upd_eq rfl).trans (by first | rfl | (simp only [ifc_t ekp, ifc_t hkp, ifc_t ekq, ifc_t hkq, ifc_t ek10, ifc_t hk10, ifc_t hN, ifc_t hV, ifc_t a5517, ifc_t a5519, ifc_f c_31_5520]; done) | (simp only [ifc_t ekp, ifc_t hkp, ifc_t ekq, ifc_t hkq, ifc_t ek10, ifc_t hk10, ifc_t hN, ifc_t hV, ifc_t a5517, ifc_t a5519, ifc_f c_31_5520]; rfl)), (upd_ne (by omega)).trans ((upd_ne (by omega)).trans ((upd_ne (by omega)).trans (upd_ne (by omega)))), ((((FRO.rf).set (by omega)).set (by omega)).set (by omega)).set (by omega), (fun i hi9 => by simp only [ifc_t ekp, ifc_t hkp, ifc_t ekq, ifc_t hkq, ifc_t ek10, ifc_t hk10, ifc_t hN, ifc_t hV, ifc_t a5517, ifc_t a5519, ifc_f c_31_5520]; exact (congrFun tu5521 i).trans (by first | rfl | (simp only [SCX]; done)))⟩⟩) rfl dX12_warn_97)
      · refine lv_bipush (v := (-2)) hx hb dX12_warn_34 (by decide) ?_
        exact toQ hQ0 (RI (v := (-2)) hC hP hD hS [0, 1] fnw rfl rfl (by decide) (⟨(by first | rfl | (simp only [ifc_t ekp, ifc_t hkp, ifc_t ekq, ifc_t hkq, ifc_t ek10, ifc_t hk10, ifc_t hN, ifc_t hV, ifc_t a5517, ifc_t a5519, ifc_t c_31_5520]; done) | (simp only [ifc_t ekp, ifc_t hkp, ifc_t ekq, ifc_t hkq, ifc_t ek10, ifc_t hk10, ifc_t hN, ifc_t hV, ifc_t a5517, ifc_t a5519, ifc_t c_31_5520]; rfl)), ⟨hN, hV, rfl, rfl, rfl, rfl, rfl, rfl, rfl, rfl, rfl, (rfl).trans ((ek10).trans (by first | rfl | (simp only [ifc_t ekp, ifc_t hkp, ifc_t ekq, ifc_t hkq, ifc_t ek10, ifc_t hk10, ifc_t hN, ifc_t hV, ifc_t a5517, ifc_t a5519, ifc_t c_31_5520]; done) | (simp only [ifc_t ekp, ifc_t hkp, ifc_t ekq, ifc_t hkq, ifc_t ek10, ifc_t hk10, ifc_t hN, ifc_t hV, ifc_t a5517, ifc_t a5519, ifc_t c_31_5520]; rfl))), rfl, FRO.rf, (fun i hi9 => by first | rfl | (simp only [ifc_t ekp, ifc_t hkp, ifc_t ekq, ifc_t hkq, ifc_t ek10, ifc_t hk10, ifc_t hN, ifc_t hV, ifc_t a5517, ifc_t a5519, ifc_t c_31_5520]; done))⟩⟩) rfl dX12_warn_36)
    · refine lv_if_ne (tgt := 20) hx hb dX12_warn_15 (by decide) (fun c9 => absurd (by decide) c9) (fun _ => ?_)
      refine lv_iconst (v := (-1)) hx hb dX12_warn_18 (by decide) ?_
      exact toQ hQ0 (RI (v := (-1)) hC hP hD hS [0, 1] fnw rfl rfl (by decide) (⟨(by first | rfl | (simp only [ifc_t ekp, ifc_t hkp, ifc_t ekq, ifc_t hkq, ifc_t ek10, ifc_t hk10, ifc_t hN, ifc_t hV, ifc_t a5517, ifc_f a5519]; done) | (simp only [ifc_t ekp, ifc_t hkp, ifc_t ekq, ifc_t hkq, ifc_t ek10, ifc_t hk10, ifc_t hN, ifc_t hV, ifc_t a5517, ifc_f a5519]; rfl)), ⟨hN, hV, rfl, rfl, rfl, rfl, rfl, rfl, rfl, rfl, rfl, (rfl).trans ((ek10).trans (by first | rfl | (simp only [ifc_t ekp, ifc_t hkp, ifc_t ekq, ifc_t hkq, ifc_t ek10, ifc_t hk10, ifc_t hN, ifc_t hV, ifc_t a5517, ifc_f a5519]; done) | (simp only [ifc_t ekp, ifc_t hkp, ifc_t ekq, ifc_t hkq, ifc_t ek10, ifc_t hk10, ifc_t hN, ifc_t hV, ifc_t a5517, ifc_f a5519]; rfl))), rfl, FRO.rf, (fun i hi9 => by first | rfl | (simp only [ifc_t ekp, ifc_t hkp, ifc_t ekq, ifc_t hkq, ifc_t ek10, ifc_t hk10, ifc_t hN, ifc_t hV, ifc_t a5517, ifc_f a5519]; done))⟩⟩) rfl dX12_warn_19)
  · refine lv_if_eq (tgt := 18) hx hb dX12_warn_6 (by decide) (fun _ => ?_) (fun c9 => absurd (by decide) c9)
    refine lv_iconst (v := (-1)) hx hb dX12_warn_18 (by decide) ?_
    exact toQ hQ0 (RI (v := (-1)) hC hP hD hS [0, 1] fnw rfl rfl (by decide) (⟨(by first | rfl | (simp only [ifc_t ekp, ifc_t hkp, ifc_t ekq, ifc_t hkq, ifc_t ek10, ifc_t hk10, ifc_t hN, ifc_t hV, ifc_f a5517]; done) | (simp only [ifc_t ekp, ifc_t hkp, ifc_t ekq, ifc_t hkq, ifc_t ek10, ifc_t hk10, ifc_t hN, ifc_t hV, ifc_f a5517]; rfl)), ⟨hN, hV, rfl, rfl, rfl, rfl, rfl, rfl, rfl, rfl, rfl, (rfl).trans ((ek10).trans (by first | rfl | (simp only [ifc_t ekp, ifc_t hkp, ifc_t ekq, ifc_t hkq, ifc_t ek10, ifc_t hk10, ifc_t hN, ifc_t hV, ifc_f a5517]; done) | (simp only [ifc_t ekp, ifc_t hkp, ifc_t ekq, ifc_t hkq, ifc_t ek10, ifc_t hk10, ifc_t hN, ifc_t hV, ifc_f a5517]; rfl))), rfl, FRO.rf, (fun i hi9 => by first | rfl | (simp only [ifc_t ekp, ifc_t hkp, ifc_t ekq, ifc_t hkq, ifc_t ek10, ifc_t hk10, ifc_t hN, ifc_t hV, ifc_f a5517]; done))⟩⟩) rfl dX12_warn_19)
def K_w_question (l : Launch) (G : GG) (k11 : Nat) (h0 : Nat) (x1 : Int32) (x2 : Int32) (nw : Nat) (nk : Nat) (mhasKept : Int32) (nt : Nat) (mtaped : Int32) (nr : Nat) (mrowMany : Int32) (mroundOf : Int32) (mroundFrom : Int32) (mouts : Int32) (nm : Nat) (mfromHour : Int32) (mtoHour : Int32) (ns : Nat) (mfrom : Int32) (mto : Int32) (msort : Int32) (misFault : Int32) (mdeep : Int32) (mcoded : Int32) (mlines : Int32) (nl : Nat) (nc : Nat) (nF : Nat) (np : Nat) (ntr : Nat) (nb : Nat) (mbestCost : Int32) (nso : Nat) (nsi : Nat) (nit : Nat) (nsh : Nat) (nsf : Nat) (nss : Nat) (nrc : Nat) (mtraced : Int32) (mdealer : Int32) (mnumber : Int32) (mwhose : Int32) (msize : Int32) (misParted : Int32) (fnw : Nat → Int32) : Prop := MI l G yX12_question cX12_question 4 (some .int) 2 0 0 [.ref h0, .int x1, .int x2] [(h0, oX12 nw nk mhasKept nt mtaped nr mrowMany mroundOf mroundFrom mouts nm mfromHour mtoHour ns mfrom mto msort misFault mdeep mcoded mlines nl nc nF np ntr nb mbestCost nso nsi nit nsh nsf nss nrc mtraced mdealer mnumber mwhose msize misParted), (nw, iA G 1662 fnw)] (fun (r : Int32) (u : (Nat → Int32)) => (r = ifc (Wi x1 1 9) (ifc (Wi x2 0 255) (ifc (nI k11 = 7) (-2) (nI k11)) (-1)) (-1)) ∧ (NI u ∧ VI u ∧ u 0 = fnw 0 ∧ u 1 = fnw 1 ∧ u 2 = fnw 2 ∧ u 3 = fnw 3 ∧ u 4 = fnw 4 ∧ u 5 = fnw 5 ∧ u 6 = fnw 6 ∧ u 8 = fnw 8 ∧ u 9 = fnw 9 ∧ u 10 = fnw 10 ∧ u 11 = ifc (Wi x1 1 9) (ifc (Wi x2 0 255) (ifc (nI k11 = 7) (nI k11) (nI (k11 + 1))) (nI k11)) (nI k11) ∧ FRO u fnw 1648 1662 ∧ ∀ i : Nat, i < 14 → u (1648 + i) = ifc (Wi x1 1 9) (ifc (Wi x2 0 255) (ifc (nI k11 = 7) (fnw (1648 + i)) (rowu (shf fnw 1648) (k11 * 2) [x1, x2] i)) (fnw (1648 + i))) (fnw (1648 + i)))) (fun u : (Nat → Int32) => [(h0, oX12 nw nk mhasKept nt mtaped nr mrowMany mroundOf mroundFrom mouts nm mfromHour mtoHour ns mfrom mto msort misFault mdeep mcoded mlines nl nc nF np ntr nb mbestCost nso nsi nit nsh nsf nss nrc mtraced mdealer mnumber mwhose msize misParted), (nw, iA G 1662 u)])
set_option maxHeartbeats 4000000 in
set_option maxRecDepth 100000 in
theorem w_question (l : Launch) (G : GG) (k11 : Nat) (h0 : Nat) (x1 : Int32) (x2 : Int32) (nw : Nat) (nk : Nat) (mhasKept : Int32) (nt : Nat) (mtaped : Int32) (nr : Nat) (mrowMany : Int32) (mroundOf : Int32) (mroundFrom : Int32) (mouts : Int32) (nm : Nat) (mfromHour : Int32) (mtoHour : Int32) (ns : Nat) (mfrom : Int32) (mto : Int32) (msort : Int32) (misFault : Int32) (mdeep : Int32) (mcoded : Int32) (mlines : Int32) (nl : Nat) (nc : Nat) (nF : Nat) (np : Nat) (ntr : Nat) (nb : Nat) (mbestCost : Int32) (nso : Nat) (nsi : Nat) (nit : Nat) (nsh : Nat) (nsf : Nat) (nss : Nat) (nrc : Nat) (mtraced : Int32) (mdealer : Int32) (mnumber : Int32) (mwhose : Int32) (msize : Int32) (misParted : Int32) (fnw : Nat → Int32) (ek11 : fnw 11 = nI k11) (hk11 : k11 ≤ 7) (hN : NI fnw) (hV : VI fnw) : K_w_question l G k11 h0 x1 x2 nw nk mhasKept nt mtaped nr mrowMany mroundOf mroundFrom mouts nm mfromHour mtoHour ns mfrom mto msort misFault mdeep mcoded mlines nl nc nF np ntr nb mbestCost nso nsi nit nsh nsf nss nrc mtraced mdealer mnumber mwhose msize misParted fnw := by
  refine MI.start (by decide +kernel) (Nat.le_of_ble_eq_true rfl) ?_
  intro p e s m below meth c A ls hC hK hP hD hS hA hl
  refine absQ (fun Q0 hQ0 => ?_)
  have hl : lv_has ls 4 [(0, .ref h0), (1, .int x1), (2, .int x2)] := hl
  refine Kan8 hC (fun hx hb hr hml hB hown hlocks hnm => ?_)
  refine lv_iload_n hx hb dX12_question_0 rfl (lv_at1 hl) ?_
  refine lv_iconst (v := 1) hx hb dX12_question_1 (by decide) ?_
  refine lv_bipush (v := 9) hx hb dX12_question_2 (by decide) ?_
  refine pS hC hK hl (m_within l G x1 1 9) si_X12_84 rfl rfl (Nat.le_of_ble_eq_true rfl) rm_2_1_3 ⟨by first | exact Nat.le_of_ble_eq_true rfl | exact Nat.zero_le _, by first | exact Nat.le_of_ble_eq_true rfl | exact Nat.zero_le _⟩ dX12_question_4 (Kors (Keqa fun a5523 => ?_) (Keqa fun a5523 => ?_))
  · refine lv_if_eq (tgt := 21) hx hb dX12_question_7 (by decide) (fun c9 => absurd c9 (by decide)) (fun _ => ?_)
    refine lv_iload_n hx hb dX12_question_10 rfl (lv_at2 hl) ?_
    refine lv_iconst (v := 0) hx hb dX12_question_11 (by decide) ?_
    refine lv_sipush (v := 255) hx hb dX12_question_12 (by decide) ?_
    refine pS hC hK hl (m_within l G x2 0 255) si_X12_84 rfl rfl (Nat.le_of_ble_eq_true rfl) rm_2_1_3 ⟨by first | exact Nat.le_of_ble_eq_true rfl | exact Nat.zero_le _, by first | exact Nat.le_of_ble_eq_true rfl | exact Nat.zero_le _⟩ dX12_question_15 (Kors (Keqa fun a5525 => ?_) (Keqa fun a5525 => ?_))
    · refine lv_if_ne (tgt := 23) hx hb dX12_question_18 (by decide) (fun _ => ?_) (fun c9 => absurd c9 (by decide))
      refine lv_aload_n hx hb dX12_question_23 rfl (lv_at0 hl) ?_
      refine gf_X12_9 hC rfl hK hP 0 rfl rfl dX12_question_24 ?_
      refine lv_bipush (v := 11) hx hb dX12_question_27 (by decide) ?_
      refine ald hC hK hP 1 rfl (vin (by decide +kernel)) (k := 11) (by decide +kernel) (v := nI k11) (ek11) dX12_question_29 ?_
      refine lv_istore_n (lv' := [(3, .int (nI k11)), (0, .ref h0), (1, .int x1), (2, .int x2)]) hx hb dX12_question_30 rfl hl (by decide) rfl (fun ls hl => ?_)
      refine lv_iload_n hx hb dX12_question_31 rfl (lv_at0 hl) ?_
      refine lv_bipush (v := 7) hx hb dX12_question_32 (by decide) ?_
      refine lv_icmp_ne (tgt := 40) hx hb dX12_question_34 (by decide) (fun c_34_5526 => ?_) (fun c_34_5526 => ?_)
      · have hfull9 := nI_neq (a := k11) (b := 7) (by omega) (by decide) c_34_5526
        refine lv_aload_n hx hb dX12_question_40 rfl (lv_at1 hl) ?_
        refine gf_X12_9 hC rfl hK hP 0 rfl rfl dX12_question_41 ?_
        refine lv_sipush (v := 1648) hx hb dX12_question_44 (by decide) ?_
        refine lv_iconst (v := 2) hx hb dX12_question_47 (by decide) ?_
        refine lv_iload_n hx hb dX12_question_48 rfl (lv_at0 hl) ?_
        refine lv_imul hx hb dX12_question_49 ?_
        refine eqi (x1 := nI (2 * k11)) (nI_mul 2 k11) ?_
        refine lv_iadd hx hb dX12_question_50 ?_
        refine eqi (x1 := nI (1648 + 2 * k11)) (nI_add 1648 (2 * k11)) ?_
        refine lv_iload_n hx hb dX12_question_51 rfl (lv_at2 hl) ?_
        refine astN hC hK hP hD hS 1 (ws' := [(h0, oX12 nw nk mhasKept nt mtaped nr mrowMany mroundOf mroundFrom mouts nm mfromHour mtoHour ns mfrom mto msort misFault mdeep mcoded mlines nl nc nF np ntr nb mbestCost nso nsi nit nsh nsf nss nrc mtraced mdealer mnumber mwhose msize misParted), (nw, iA G 1662 (upd fnw (1648 + 2 * k11) x1))]) rfl (k := (1648 + 2 * k11)) (by omega) (Nat.le_of_ble_eq_true rfl) (rfl) dX12_question_52 (fun H locs hP hD hS => ?_)
        refine lv_aload_n hx hb dX12_question_53 rfl (lv_at1 hl) ?_
        refine gf_X12_9 hC rfl hK hP 0 rfl rfl dX12_question_54 ?_
        refine lv_sipush (v := 1648) hx hb dX12_question_57 (by decide) ?_
        refine lv_iconst (v := 2) hx hb dX12_question_60 (by decide) ?_
        refine lv_iload_n hx hb dX12_question_61 rfl (lv_at0 hl) ?_
        refine lv_imul hx hb dX12_question_62 ?_
        refine eqi (x1 := nI (2 * k11)) (nI_mul 2 k11) ?_
        refine lv_iadd hx hb dX12_question_63 ?_
        refine eqi (x1 := nI (1648 + 2 * k11)) (nI_add 1648 (2 * k11)) ?_
        refine lv_iconst (v := 1) hx hb dX12_question_64 (by decide) ?_
        refine lv_iadd hx hb dX12_question_65 ?_
        refine eqi (x1 := nI (1648 + 2 * k11 + 1)) (nI_add (1648 + 2 * k11) 1) ?_
        refine lv_iload_n hx hb dX12_question_66 rfl (lv_at3 hl) ?_
        refine astN hC hK hP hD hS 1 (ws' := [(h0, oX12 nw nk mhasKept nt mtaped nr mrowMany mroundOf mroundFrom mouts nm mfromHour mtoHour ns mfrom mto msort misFault mdeep mcoded mlines nl nc nF np ntr nb mbestCost nso nsi nit nsh nsf nss nrc mtraced mdealer mnumber mwhose msize misParted), (nw, iA G 1662 (upd (upd fnw (1648 + 2 * k11) x1) (1648 + 2 * k11 + 1) x2))]) rfl (k := (1648 + 2 * k11 + 1)) (by omega) (Nat.le_of_ble_eq_true rfl) (rfl) dX12_question_67 (fun H locs hP hD hS => ?_)
        refine lv_aload_n hx hb dX12_question_68 rfl (lv_at1 hl) ?_
        refine gf_X12_9 hC rfl hK hP 0 rfl rfl dX12_question_69 ?_
        refine lv_bipush (v := 11) hx hb dX12_question_72 (by decide) ?_
        refine lv_dup2_11 hx hb dX12_question_74 rfl rfl ?_
        refine ald hC hK hP 1 rfl (vin (by decide +kernel)) (k := 11) (by decide +kernel) (v := nI k11) ((upd_ne (by omega)).trans ((upd_ne (by omega)).trans (ek11))) dX12_question_75 ?_
        refine lv_iconst (v := 1) hx hb dX12_question_76 (by decide) ?_
        refine lv_iadd hx hb dX12_question_77 ?_
        refine eqi (x1 := nI (k11 + 1)) (nI_add k11 1) ?_
        refine ast hC hK hP hD hS 1 (ws' := [(h0, oX12 nw nk mhasKept nt mtaped nr mrowMany mroundOf mroundFrom mouts nm mfromHour mtoHour ns mfrom mto msort misFault mdeep mcoded mlines nl nc nF np ntr nb mbestCost nso nsi nit nsh nsf nss nrc mtraced mdealer mnumber mwhose msize misParted), (nw, iA G 1662 (upd (upd (upd fnw (1648 + 2 * k11) x1) (1648 + 2 * k11 + 1) x2) 11 (nI (k11 + 1))))]) rfl (vin (by decide +kernel)) (k := 11) (by decide +kernel) (rfl) dX12_question_78 (fun H locs hP hD hS => ?_)
        refine lv_iload_n hx hb dX12_question_79 rfl (lv_at0 hl) ?_
        have tu5527 : shf (upd (upd (upd fnw (1648 + 2 * k11) x1) (1648 + 2 * k11 + 1) x2) 11 (nI (k11 + 1))) 1648 = rowu (shf fnw 1648) (k11 * 2) [x1, x2] := by rw [sho (by omega), shu (j := k11 * 2 + 1) (by omega), shu (j := k11 * 2 + 0) (by omega)]; rfl
        exact toQ hQ0 (RI (v := nI k11) hC hP hD hS [0, 1] (upd (upd (upd fnw (1648 + 2 * k11) x1) (1648 + 2 * k11 + 1) x2) 11 (nI (k11 + 1))) rfl rfl (by decide) (⟨(by first | rfl | (simp only [ifc_t ek11, ifc_t hk11, ifc_t hN, ifc_t hV, ifc_t a5523, ifc_t a5525, ifc_f c_34_5526]; done) | (simp only [ifc_t ek11, ifc_t hk11, ifc_t hN, ifc_t hV, ifc_t a5523, ifc_t a5525, ifc_f c_34_5526]; rfl)), ⟨(((hN).setA (bnd_end (by omega))).setA (bnd_end (by omega))).setN (B := 7) (show bnd 11 = (0, ((7 : Nat) : Int)) from by decide +kernel) (by omega) (by decide), (((hV).set (by omega)).set (by omega)).set (by omega), (upd_ne (by omega)).trans ((upd_ne (by omega)).trans (upd_ne (by omega))), (upd_ne (by omega)).trans ((upd_ne (by omega)).trans (upd_ne (by omega))), (upd_ne (by omega)).trans ((upd_ne (by omega)).trans (upd_ne (by omega))), (upd_ne (by omega)).trans ((upd_ne (by omega)).trans (upd_ne (by omega))), (upd_ne (by omega)).trans ((upd_ne (by omega)).trans (upd_ne (by omega))), (upd_ne (by omega)).trans ((upd_ne (by omega)).trans (upd_ne (by omega))), (upd_ne (by omega)).trans ((upd_ne (by omega)).trans (upd_ne (by omega))), (upd_ne (by omega)).trans ((upd_ne (by omega)).trans (upd_ne (by omega))), (upd_ne (by omega)).trans ((upd_ne (by omega)).trans (upd_ne (by omega))), (upd_ne (by omega)).trans ((upd_ne (by omega)).trans (upd_ne (by omega))), (show _ = (nI (k11 + 1)) from upd_eq rfl).trans (by first | rfl | (simp only [ifc_t ek11, ifc_t hk11, ifc_t hN, ifc_t hV, ifc_t a5523, ifc_t a5525, ifc_f c_34_5526]; done) | (simp only [ifc_t ek11, ifc_t hk11, ifc_t hN, ifc_t hV, ifc_t a5523, ifc_t a5525, ifc_f c_34_5526]; rfl)), (((FRO.rf).set (by omega)).set (by omega)).set (by omega), (fun i hi9 => by simp only [ifc_t ek11, ifc_t hk11, ifc_t hN, ifc_t hV, ifc_t a5523, ifc_t a5525, ifc_f c_34_5526]; exact (congrFun tu5527 i).trans (by first | rfl | (simp only [SCX]; done)))⟩⟩) rfl dX12_question_80)
      · refine lv_bipush (v := (-2)) hx hb dX12_question_37 (by decide) ?_
        exact toQ hQ0 (RI (v := (-2)) hC hP hD hS [0, 1] fnw rfl rfl (by decide) (⟨(by first | rfl | (simp only [ifc_t ek11, ifc_t hk11, ifc_t hN, ifc_t hV, ifc_t a5523, ifc_t a5525, ifc_t c_34_5526]; done) | (simp only [ifc_t ek11, ifc_t hk11, ifc_t hN, ifc_t hV, ifc_t a5523, ifc_t a5525, ifc_t c_34_5526]; rfl)), ⟨hN, hV, rfl, rfl, rfl, rfl, rfl, rfl, rfl, rfl, rfl, rfl, (rfl).trans ((ek11).trans (by first | rfl | (simp only [ifc_t ek11, ifc_t hk11, ifc_t hN, ifc_t hV, ifc_t a5523, ifc_t a5525, ifc_t c_34_5526]; done) | (simp only [ifc_t ek11, ifc_t hk11, ifc_t hN, ifc_t hV, ifc_t a5523, ifc_t a5525, ifc_t c_34_5526]; rfl))), FRO.rf, (fun i hi9 => by first | rfl | (simp only [ifc_t ek11, ifc_t hk11, ifc_t hN, ifc_t hV, ifc_t a5523, ifc_t a5525, ifc_t c_34_5526]; done))⟩⟩) rfl dX12_question_39)
    · refine lv_if_ne (tgt := 23) hx hb dX12_question_18 (by decide) (fun c9 => absurd (by decide) c9) (fun _ => ?_)
      refine lv_iconst (v := (-1)) hx hb dX12_question_21 (by decide) ?_
      exact toQ hQ0 (RI (v := (-1)) hC hP hD hS [0, 1] fnw rfl rfl (by decide) (⟨(by first | rfl | (simp only [ifc_t ek11, ifc_t hk11, ifc_t hN, ifc_t hV, ifc_t a5523, ifc_f a5525]; done) | (simp only [ifc_t ek11, ifc_t hk11, ifc_t hN, ifc_t hV, ifc_t a5523, ifc_f a5525]; rfl)), ⟨hN, hV, rfl, rfl, rfl, rfl, rfl, rfl, rfl, rfl, rfl, rfl, (rfl).trans ((ek11).trans (by first | rfl | (simp only [ifc_t ek11, ifc_t hk11, ifc_t hN, ifc_t hV, ifc_t a5523, ifc_f a5525]; done) | (simp only [ifc_t ek11, ifc_t hk11, ifc_t hN, ifc_t hV, ifc_t a5523, ifc_f a5525]; rfl))), FRO.rf, (fun i hi9 => by first | rfl | (simp only [ifc_t ek11, ifc_t hk11, ifc_t hN, ifc_t hV, ifc_t a5523, ifc_f a5525]; done))⟩⟩) rfl dX12_question_22)
  · refine lv_if_eq (tgt := 21) hx hb dX12_question_7 (by decide) (fun _ => ?_) (fun c9 => absurd (by decide) c9)
    refine lv_iconst (v := (-1)) hx hb dX12_question_21 (by decide) ?_
    exact toQ hQ0 (RI (v := (-1)) hC hP hD hS [0, 1] fnw rfl rfl (by decide) (⟨(by first | rfl | (simp only [ifc_t ek11, ifc_t hk11, ifc_t hN, ifc_t hV, ifc_f a5523]; done) | (simp only [ifc_t ek11, ifc_t hk11, ifc_t hN, ifc_t hV, ifc_f a5523]; rfl)), ⟨hN, hV, rfl, rfl, rfl, rfl, rfl, rfl, rfl, rfl, rfl, rfl, (rfl).trans ((ek11).trans (by first | rfl | (simp only [ifc_t ek11, ifc_t hk11, ifc_t hN, ifc_t hV, ifc_f a5523]; done) | (simp only [ifc_t ek11, ifc_t hk11, ifc_t hN, ifc_t hV, ifc_f a5523]; rfl))), FRO.rf, (fun i hi9 => by first | rfl | (simp only [ifc_t ek11, ifc_t hk11, ifc_t hN, ifc_t hV, ifc_f a5523]; done))⟩⟩) rfl dX12_question_22)
def K_m_stampsOfX (l : Launch) (G : GG) (k6 : Nat) (h0 : Nat) (pa : Int32) (nw : Nat) (nk : Nat) (mhasKept : Int32) (nt : Nat) (mtaped : Int32) (nr : Nat) (mrowMany : Int32) (mroundOf : Int32) (mroundFrom : Int32) (mouts : Int32) (nm : Nat) (mfromHour : Int32) (mtoHour : Int32) (ns : Nat) (mfrom : Int32) (mto : Int32) (msort : Int32) (misFault : Int32) (mdeep : Int32) (mcoded : Int32) (mlines : Int32) (nl : Nat) (nc : Nat) (nF : Nat) (np : Nat) (ntr : Nat) (nb : Nat) (mbestCost : Int32) (nso : Nat) (nsi : Nat) (nit : Nat) (nsh : Nat) (nsf : Nat) (nss : Nat) (nrc : Nat) (mtraced : Int32) (mdealer : Int32) (mnumber : Int32) (mwhose : Int32) (msize : Int32) (misParted : Int32) (fnw : Nat → Int32) : Prop := MP l G yX12_stampsOf cX12_stampsOf 4 (some .int) 2 [.ref h0, .int pa] [(h0, oX12 nw nk mhasKept nt mtaped nr mrowMany mroundOf mroundFrom mouts nm mfromHour mtoHour ns mfrom mto msort misFault mdeep mcoded mlines nl nc nF np ntr nb mbestCost nso nsi nit nsh nsf nss nrc mtraced mdealer mnumber mwhose msize misParted), (nw, iA G 1662 fnw)] (fun r : Int32 => r = (CNT (fun s9 => shf fnw 104 (s9 * 3 + 0) = pa) k6))
set_option maxHeartbeats 4000000 in
set_option maxRecDepth 100000 in
theorem m_stampsOfX (l : Launch) (G : GG) (k6 : Nat) (h0 : Nat) (pa : Int32) (nw : Nat) (nk : Nat) (mhasKept : Int32) (nt : Nat) (mtaped : Int32) (nr : Nat) (mrowMany : Int32) (mroundOf : Int32) (mroundFrom : Int32) (mouts : Int32) (nm : Nat) (mfromHour : Int32) (mtoHour : Int32) (ns : Nat) (mfrom : Int32) (mto : Int32) (msort : Int32) (misFault : Int32) (mdeep : Int32) (mcoded : Int32) (mlines : Int32) (nl : Nat) (nc : Nat) (nF : Nat) (np : Nat) (ntr : Nat) (nb : Nat) (mbestCost : Int32) (nso : Nat) (nsi : Nat) (nit : Nat) (nsh : Nat) (nsf : Nat) (nss : Nat) (nrc : Nat) (mtraced : Int32) (mdealer : Int32) (mnumber : Int32) (mwhose : Int32) (msize : Int32) (misParted : Int32) (fnw : Nat → Int32) (ek6 : fnw 6 = nI k6) (hk6 : k6 ≤ 24) : K_m_stampsOfX l G k6 h0 pa nw nk mhasKept nt mtaped nr mrowMany mroundOf mroundFrom mouts nm mfromHour mtoHour ns mfrom mto msort misFault mdeep mcoded mlines nl nc nF np ntr nb mbestCost nso nsi nit nsh nsf nss nrc mtraced mdealer mnumber mwhose msize misParted fnw := by
  refine MP.start (by decide +kernel) (Nat.le_of_ble_eq_true rfl) ?_
  intro p e s m below meth c ls hC hK hP hD hl
  refine absQ (fun Q0 hQ0 => ?_)
  have hl : lv_has ls 4 [(0, .ref h0), (1, .int pa)] := hl
  refine Kan8 hC (fun hx hb hr hml hB hown hlocks hnm => ?_)
  refine lv_iconst (v := 0) hx hb dX12_stampsOf_0 (by decide) ?_
  refine lv_istore_n (lv' := [(2, .int 0), (0, .ref h0), (1, .int pa)]) hx hb dX12_stampsOf_1 rfl hl (by decide) rfl (fun ls hl => ?_)
  refine lv_iconst (v := 0) hx hb dX12_stampsOf_2 (by decide) ?_
  refine lv_istore_n (lv' := [(3, .int 0), (2, .int 0), (0, .ref h0), (1, .int pa)]) hx hb dX12_stampsOf_3 rfl hl (by decide) rfl (fun ls hl => ?_)
  have keyP : ∀ (nP kP : Nat) (nn : Int32) (ls : Array Slot), kP + nP = k6 → (nn = CNT (fun s9 => shf fnw 104 (s9 * 3 + 0) = pa) kP) → lv_has ls 4 [(3, .int (nI kP)), (2, .int nn), (0, .ref h0), (1, .int pa)] → W p l e (RM 2 0 0) s m ([.ref h0, .int pa] : List Value).toArray below meth c s.heap [] 0 0 Q0 (F0 m 4 ls []) := by
    intro nP
    induction nP with
    | zero =>
      intro kP nn ls hkP hcn hl
      obtain rfl : k6 = kP := by omega
      have hl : lv_has ls 4 [(3, .int (nI k6)), (2, .int nn), (0, .ref h0), (1, .int pa)] := hl
      refine lv_iload_n hx hb dX12_stampsOf_4 rfl (lv_at0 hl) ?_
      refine lv_aload_n hx hb dX12_stampsOf_5 rfl (lv_at2 hl) ?_
      refine gf_X12_9 hC rfl hK hP 0 rfl rfl dX12_stampsOf_6 ?_
      refine lv_bipush (v := 6) hx hb dX12_stampsOf_9 (by decide) ?_
      refine ald hC hK hP 1 rfl (vin (by decide +kernel)) (k := 6) (by decide +kernel) (v := nI k6) (ek6) dX12_stampsOf_11 ?_
      refine lv_icmp_ge (tgt := 44) hx hb dX12_stampsOf_12 (by decide) (fun _ => ?_) (fun c9 => absurd (Int32.le_refl _) c9)
      refine lv_iload_n hx hb dX12_stampsOf_44 rfl (lv_at1 hl) ?_
      exact toQ hQ0 (RP (v := nn) hC (hcn) rfl dX12_stampsOf_45)
    | succ nP ihP =>
      intro kP nn ls hkP hcn hl
      refine lv_iload_n hx hb dX12_stampsOf_4 rfl (lv_at0 hl) ?_
      refine lv_aload_n hx hb dX12_stampsOf_5 rfl (lv_at2 hl) ?_
      refine gf_X12_9 hC rfl hK hP 0 rfl rfl dX12_stampsOf_6 ?_
      refine lv_bipush (v := 6) hx hb dX12_stampsOf_9 (by decide) ?_
      refine ald hC hK hP 1 rfl (vin (by decide +kernel)) (k := 6) (by decide +kernel) (v := nI k6) (ek6) dX12_stampsOf_11 ?_
      refine lv_icmp_ge (tgt := 44) hx hb dX12_stampsOf_12 (by decide) (fun c9 => absurd c9 (nI_ge (a := kP) (b := k6) (by omega) (by omega))) (fun _ => ?_)
      refine lv_iload_n hx hb dX12_stampsOf_15 rfl (lv_at1 hl) ?_
      refine lv_aload_n hx hb dX12_stampsOf_16 rfl (lv_at2 hl) ?_
      refine gf_X12_9 hC rfl hK hP 0 rfl rfl dX12_stampsOf_17 ?_
      refine lv_bipush (v := 104) hx hb dX12_stampsOf_20 (by decide) ?_
      refine lv_iconst (v := 3) hx hb dX12_stampsOf_22 (by decide) ?_
      refine lv_iload_n hx hb dX12_stampsOf_23 rfl (lv_at0 hl) ?_
      refine lv_imul hx hb dX12_stampsOf_24 ?_
      refine eqi (x1 := nI (3 * kP)) (nI_mul 3 kP) ?_
      refine lv_iadd hx hb dX12_stampsOf_25 ?_
      refine eqi (x1 := nI (104 + 3 * kP)) (nI_add 104 (3 * kP)) ?_
      refine aldN hC hK hP 1 rfl (k := (104 + 3 * kP)) (by omega) (Nat.le_of_ble_eq_true rfl) (v := fnw (104 + 3 * kP)) rfl dX12_stampsOf_26 ?_
      refine lv_iload_n hx hb dX12_stampsOf_27 rfl (lv_at3 hl) ?_
      refine lv_icmp_ne (tgt := 35) hx hb dX12_stampsOf_28 (by decide) (fun c_28_5528 => ?_) (fun c_28_5528 => ?_)
      · refine lv_iconst (v := 0) hx hb dX12_stampsOf_35 (by decide) ?_
        refine lv_iadd hx hb dX12_stampsOf_36 ?_
        refine lv_istore_n (lv' := [(2, .int (nn + 0)), (3, .int (nI kP)), (0, .ref h0), (1, .int pa)]) hx hb dX12_stampsOf_37 rfl hl (by decide) rfl (fun ls hl => ?_)
        refine lv_iinc (v := nI (kP + 1)) (lv' := [(3, .int (nI (kP + 1))), (2, .int (nn + 0)), (0, .ref h0), (1, .int pa)]) hx hb dX12_stampsOf_38 hl (k := 1) rfl (nI_1 _) (by decide) rfl (fun ls hl => ?_)
        refine lv_goto (tgt := 4) hx hb dX12_stampsOf_41 (by decide) ?_
        have q9e : fnw (104 + 3 * kP) = shf fnw 104 (kP * 3 + 0) := congrArg fnw (by omega)
        have hst9 : nn + 0 = CNT (fun s9 => shf fnw 104 (s9 * 3 + 0) = pa) (kP + 1) := CNT.n0 hcn (fun h9 => c_28_5528 (q9e.trans h9))
        exact ihP (kP + 1) (nn + 0) _ (by omega) (by first | assumption | exact Or.inl rfl | exact Or.inr rfl | exact rfl) (lv_sub hl [0, 1, 2, 3] rfl)
      · refine lv_iconst (v := 1) hx hb dX12_stampsOf_31 (by decide) ?_
        refine lv_goto (tgt := 36) hx hb dX12_stampsOf_32 (by decide) ?_
        refine lv_iadd hx hb dX12_stampsOf_36 ?_
        refine lv_istore_n (lv' := [(2, .int (nn + 1)), (3, .int (nI kP)), (0, .ref h0), (1, .int pa)]) hx hb dX12_stampsOf_37 rfl hl (by decide) rfl (fun ls hl => ?_)
        refine lv_iinc (v := nI (kP + 1)) (lv' := [(3, .int (nI (kP + 1))), (2, .int (nn + 1)), (0, .ref h0), (1, .int pa)]) hx hb dX12_stampsOf_38 hl (k := 1) rfl (nI_1 _) (by decide) rfl (fun ls hl => ?_)
        refine lv_goto (tgt := 4) hx hb dX12_stampsOf_41 (by decide) ?_
        have q9e : fnw (104 + 3 * kP) = shf fnw 104 (kP * 3 + 0) := congrArg fnw (by omega)
        have hst9 : nn + 1 = CNT (fun s9 => shf fnw 104 (s9 * 3 + 0) = pa) (kP + 1) := CNT.y hcn (q9e.symm.trans c_28_5528)
        exact ihP (kP + 1) (nn + 1) _ (by omega) (by first | assumption | exact Or.inl rfl | exact Or.inr rfl | exact rfl) (lv_sub hl [0, 1, 2, 3] rfl)
  exact keyP k6 0 0 _ (by omega) (by first | assumption | exact Or.inl rfl | exact Or.inr rfl | exact rfl) (lv_sub hl [0, 1, 2, 3] rfl)
def K_m_papersToX (l : Launch) (G : GG) (kq : Nat) (h0 : Nat) (je : Nat) (nw : Nat) (nk : Nat) (mhasKept : Int32) (nt : Nat) (mtaped : Int32) (nr : Nat) (mrowMany : Int32) (mroundOf : Int32) (mroundFrom : Int32) (nm : Nat) (mfromHour : Int32) (mtoHour : Int32) (ns : Nat) (mfrom : Int32) (mto : Int32) (msort : Int32) (misFault : Int32) (mdeep : Int32) (mcoded : Int32) (mlines : Int32) (nl : Nat) (nc : Nat) (nF : Nat) (np : Nat) (ntr : Nat) (nb : Nat) (mbestCost : Int32) (nso : Nat) (nsi : Nat) (nit : Nat) (nsh : Nat) (nsf : Nat) (nss : Nat) (nrc : Nat) (mtraced : Int32) (mdealer : Int32) (mnumber : Int32) (mwhose : Int32) (msize : Int32) (misParted : Int32) (fnw : Nat → Int32) : Prop := MP l G yX12_papersOf cX12_papersOf 5 (some .int) 4 [.ref h0, .int (nI je), .int 0] [(h0, oX12 nw nk mhasKept nt mtaped nr mrowMany mroundOf mroundFrom 0 nm mfromHour mtoHour ns mfrom mto msort misFault mdeep mcoded mlines nl nc nF np ntr nb mbestCost nso nsi nit nsh nsf nss nrc mtraced mdealer mnumber mwhose msize misParted), (nw, iA G 1662 fnw)] (fun r : Int32 => r = (CNT (fun p9 => SEE (shf fnw 32) (fnw 0) (fnw 1) (fnw 2) p9 ∧ HB (shf fnw 32 (p9 * 6 + 1)) (nI je)) kq))
set_option maxHeartbeats 4000000 in
set_option maxRecDepth 100000 in
theorem m_papersToX (l : Launch) (G : GG) (kq : Nat) (h0 : Nat) (je : Nat) (nw : Nat) (nk : Nat) (mhasKept : Int32) (nt : Nat) (mtaped : Int32) (nr : Nat) (mrowMany : Int32) (mroundOf : Int32) (mroundFrom : Int32) (nm : Nat) (mfromHour : Int32) (mtoHour : Int32) (ns : Nat) (mfrom : Int32) (mto : Int32) (msort : Int32) (misFault : Int32) (mdeep : Int32) (mcoded : Int32) (mlines : Int32) (nl : Nat) (nc : Nat) (nF : Nat) (np : Nat) (ntr : Nat) (nb : Nat) (mbestCost : Int32) (nso : Nat) (nsi : Nat) (nit : Nat) (nsh : Nat) (nsf : Nat) (nss : Nat) (nrc : Nat) (mtraced : Int32) (mdealer : Int32) (mnumber : Int32) (mwhose : Int32) (msize : Int32) (misParted : Int32) (fnw : Nat → Int32) (ekq : fnw 5 = nI kq) (hkq : kq ≤ 12) (hje : je < 10) : K_m_papersToX l G kq h0 je nw nk mhasKept nt mtaped nr mrowMany mroundOf mroundFrom nm mfromHour mtoHour ns mfrom mto msort misFault mdeep mcoded mlines nl nc nF np ntr nb mbestCost nso nsi nit nsh nsf nss nrc mtraced mdealer mnumber mwhose msize misParted fnw := by
  refine MP.start (by decide +kernel) (Nat.le_of_ble_eq_true rfl) ?_
  intro p e s m below meth c ls hC hK hP hD hl
  refine absQ (fun Q0 hQ0 => ?_)
  have hl : lv_has ls 5 [(0, .ref h0), (1, .int (nI je)), (2, .int 0)] := hl
  refine Kan8 hC (fun hx hb hr hml hB hown hlocks hnm => ?_)
  refine lv_iconst (v := 0) hx hb dX12_papersOf_0 (by decide) ?_
  refine lv_istore_n (lv' := [(3, .int 0), (0, .ref h0), (1, .int (nI je)), (2, .int 0)]) hx hb dX12_papersOf_1 rfl hl (by decide) rfl (fun ls hl => ?_)
  refine lv_iconst (v := 0) hx hb dX12_papersOf_2 (by decide) ?_
  refine lv_istore (lv' := [(4, .int 0), (3, .int 0), (0, .ref h0), (1, .int (nI je)), (2, .int 0)]) hx hb dX12_papersOf_3 hl (by decide) rfl (fun ls hl => ?_)
  have keyP : ∀ (nP kP : Nat) (nn : Int32) (ls : Array Slot), kP + nP = kq → (nn = CNT (fun p9 => SEE (shf fnw 32) (fnw 0) (fnw 1) (fnw 2) p9 ∧ HB (shf fnw 32 (p9 * 6 + 1)) (nI je)) kP) → lv_has ls 5 [(4, .int (nI kP)), (3, .int nn), (0, .ref h0), (1, .int (nI je)), (2, .int 0)] → W p l e (RM 4 0 0) s m ([.ref h0, .int (nI je), .int 0] : List Value).toArray below meth c s.heap [] 0 0 Q0 (F0 m 5 ls []) := by
    intro nP
    induction nP with
    | zero =>
      intro kP nn ls hkP hcn hl
      obtain rfl : kq = kP := by omega
      have hl : lv_has ls 5 [(4, .int (nI kq)), (3, .int nn), (0, .ref h0), (1, .int (nI je)), (2, .int 0)] := hl
      refine lv_iload hx hb dX12_papersOf_5 (lv_at0 hl) ?_
      refine lv_aload_n hx hb dX12_papersOf_7 rfl (lv_at2 hl) ?_
      refine gf_X12_9 hC rfl hK hP 0 rfl rfl dX12_papersOf_8 ?_
      refine lv_iconst (v := 5) hx hb dX12_papersOf_11 (by decide) ?_
      refine ald hC hK hP 1 rfl (vin (by decide +kernel)) (k := 5) (by decide +kernel) (v := nI kq) (ekq) dX12_papersOf_12 ?_
      refine lv_icmp_ge (tgt := 71) hx hb dX12_papersOf_13 (by decide) (fun _ => ?_) (fun c9 => absurd (Int32.le_refl _) c9)
      refine lv_iload_n hx hb dX12_papersOf_71 rfl (lv_at1 hl) ?_
      exact toQ hQ0 (RP (v := nn) hC (hcn) rfl dX12_papersOf_72)
    | succ nP ihP =>
      intro kP nn ls hkP hcn hl
      refine lv_iload hx hb dX12_papersOf_5 (lv_at0 hl) ?_
      refine lv_aload_n hx hb dX12_papersOf_7 rfl (lv_at2 hl) ?_
      refine gf_X12_9 hC rfl hK hP 0 rfl rfl dX12_papersOf_8 ?_
      refine lv_iconst (v := 5) hx hb dX12_papersOf_11 (by decide) ?_
      refine ald hC hK hP 1 rfl (vin (by decide +kernel)) (k := 5) (by decide +kernel) (v := nI kq) (ekq) dX12_papersOf_12 ?_
      refine lv_icmp_ge (tgt := 71) hx hb dX12_papersOf_13 (by decide) (fun c9 => absurd c9 (nI_ge (a := kP) (b := kq) (by omega) (by omega))) (fun _ => ?_)
      refine lv_iload_n hx hb dX12_papersOf_16 rfl (lv_at1 hl) ?_
      refine lv_aload_n hx hb dX12_papersOf_17 rfl (lv_at2 hl) ?_
      refine lv_iload hx hb dX12_papersOf_18 (lv_at0 hl) ?_
      refine pV hC hK hl hP hD (m_isInX l G h0 kP nw nk mhasKept nt mtaped nr mrowMany mroundOf mroundFrom nm mfromHour mtoHour ns mfrom mto msort misFault mdeep mcoded mlines nl nc nF np ntr nb mbestCost nso nsi nit nsh nsf nss nrc mtraced mdealer mnumber mwhose msize misParted fnw (by omega)) si_X12_103 [0, 1] sm_0_1 fm_0_1 nd_0_1 rfl rfl rfl rfl rfl (Nat.le_of_ble_eq_true rfl) rm_4_2_3 ⟨by first | exact Nat.le_of_ble_eq_true rfl | exact Nat.zero_le _, by first | exact Nat.le_of_ble_eq_true rfl | exact Nat.zero_le _⟩ dX12_papersOf_20 (Kors (Keqa fun a5530 => ?_) (Keqa fun a5530 => ?_))
      · refine lv_if_eq (tgt := 62) hx hb dX12_papersOf_23 (by decide) (fun c9 => absurd c9 (by decide)) (fun _ => ?_)
        refine lv_iload_n hx hb dX12_papersOf_26 rfl (lv_at4 hl) ?_
        refine lv_if_eq (tgt := 44) hx hb dX12_papersOf_27 (by decide) (fun _ => ?_) (fun c9 => absurd (by decide) c9)
        refine lv_aload_n hx hb dX12_papersOf_44 rfl (lv_at2 hl) ?_
        refine lv_iload hx hb dX12_papersOf_45 (lv_at0 hl) ?_
        refine lv_iconst (v := 1) hx hb dX12_papersOf_47 (by decide) ?_
        refine pV hC hK hl hP hD (m_paper l G h0 kP 1 nw nk mhasKept nt mtaped nr mrowMany mroundOf mroundFrom 0 nm mfromHour mtoHour ns mfrom mto msort misFault mdeep mcoded mlines nl nc nF np ntr nb mbestCost nso nsi nit nsh nsf nss nrc mtraced mdealer mnumber mwhose msize misParted fnw (by omega) (by omega)) si_X12_88 [0, 1] sm_0_1 fm_0_1 nd_0_1 rfl rfl rfl rfl rfl (Nat.le_of_ble_eq_true rfl) rm_4_1_3 ⟨by first | exact Nat.le_of_ble_eq_true rfl | exact Nat.zero_le _, by first | exact Nat.le_of_ble_eq_true rfl | exact Nat.zero_le _⟩ dX12_papersOf_48 (Keqr ?_)
        refine lv_iload_n hx hb dX12_papersOf_51 rfl (lv_at3 hl) ?_
        refine pS hC hK hl (m_has l G (fnw (32 + 6 * kP + 1)) (nI je)) si_X12_99 rfl rfl (Nat.le_of_ble_eq_true rfl) rm_4_1_2 ⟨by first | exact Nat.le_of_ble_eq_true rfl | exact Nat.zero_le _, by first | exact Nat.le_of_ble_eq_true rfl | exact Nat.zero_le _⟩ dX12_papersOf_52 (Kors (Keqa fun a5534 => ?_) (Keqa fun a5534 => ?_))
        · refine lv_if_eq (tgt := 62) hx hb dX12_papersOf_55 (by decide) (fun c9 => absurd c9 (by decide)) (fun _ => ?_)
          refine lv_iconst (v := 1) hx hb dX12_papersOf_58 (by decide) ?_
          refine lv_goto (tgt := 63) hx hb dX12_papersOf_59 (by decide) ?_
          refine lv_iadd hx hb dX12_papersOf_63 ?_
          refine lv_istore_n (lv' := [(3, .int (nn + 1)), (4, .int (nI kP)), (0, .ref h0), (1, .int (nI je)), (2, .int 0)]) hx hb dX12_papersOf_64 rfl hl (by decide) rfl (fun ls hl => ?_)
          refine lv_iinc (v := nI (kP + 1)) (lv' := [(4, .int (nI (kP + 1))), (3, .int (nn + 1)), (0, .ref h0), (1, .int (nI je)), (2, .int 0)]) hx hb dX12_papersOf_65 hl (k := 1) rfl (nI_1 _) (by decide) rfl (fun ls hl => ?_)
          refine lv_goto (tgt := 5) hx hb dX12_papersOf_68 (by decide) ?_
          have q9e : fnw (32 + 6 * kP + 1) = shf fnw 32 (kP * 6 + 1) := congrArg fnw (by omega)
          have hst9 : nn + 1 = CNT (fun p9 => SEE (shf fnw 32) (fnw 0) (fnw 1) (fnw 2) p9 ∧ HB (shf fnw 32 (p9 * 6 + 1)) (nI je)) (kP + 1) := CNT.y hcn ⟨a5530, HB.mk (by omega) (by rw [← q9e]; exact a5534)⟩
          exact ihP (kP + 1) (nn + 1) _ (by omega) (by first | assumption | exact Or.inl rfl | exact Or.inr rfl | exact rfl) (lv_sub hl [0, 1, 2, 3, 4] rfl)
        · refine lv_if_eq (tgt := 62) hx hb dX12_papersOf_55 (by decide) (fun _ => ?_) (fun c9 => absurd (by decide) c9)
          refine lv_iconst (v := 0) hx hb dX12_papersOf_62 (by decide) ?_
          refine lv_iadd hx hb dX12_papersOf_63 ?_
          refine lv_istore_n (lv' := [(3, .int (nn + 0)), (4, .int (nI kP)), (0, .ref h0), (1, .int (nI je)), (2, .int 0)]) hx hb dX12_papersOf_64 rfl hl (by decide) rfl (fun ls hl => ?_)
          refine lv_iinc (v := nI (kP + 1)) (lv' := [(4, .int (nI (kP + 1))), (3, .int (nn + 0)), (0, .ref h0), (1, .int (nI je)), (2, .int 0)]) hx hb dX12_papersOf_65 hl (k := 1) rfl (nI_1 _) (by decide) rfl (fun ls hl => ?_)
          refine lv_goto (tgt := 5) hx hb dX12_papersOf_68 (by decide) ?_
          have q9e : fnw (32 + 6 * kP + 1) = shf fnw 32 (kP * 6 + 1) := congrArg fnw (by omega)
          have hst9 : nn + 0 = CNT (fun p9 => SEE (shf fnw 32) (fnw 0) (fnw 1) (fnw 2) p9 ∧ HB (shf fnw 32 (p9 * 6 + 1)) (nI je)) (kP + 1) := CNT.n0 hcn (fun h9 => a5534 (by have h8 := h9.2.2.2; rw [← q9e] at h8; exact h8))
          exact ihP (kP + 1) (nn + 0) _ (by omega) (by first | assumption | exact Or.inl rfl | exact Or.inr rfl | exact rfl) (lv_sub hl [0, 1, 2, 3, 4] rfl)
      · refine lv_if_eq (tgt := 62) hx hb dX12_papersOf_23 (by decide) (fun _ => ?_) (fun c9 => absurd (by decide) c9)
        refine lv_iconst (v := 0) hx hb dX12_papersOf_62 (by decide) ?_
        refine lv_iadd hx hb dX12_papersOf_63 ?_
        refine lv_istore_n (lv' := [(3, .int (nn + 0)), (4, .int (nI kP)), (0, .ref h0), (1, .int (nI je)), (2, .int 0)]) hx hb dX12_papersOf_64 rfl hl (by decide) rfl (fun ls hl => ?_)
        refine lv_iinc (v := nI (kP + 1)) (lv' := [(4, .int (nI (kP + 1))), (3, .int (nn + 0)), (0, .ref h0), (1, .int (nI je)), (2, .int 0)]) hx hb dX12_papersOf_65 hl (k := 1) rfl (nI_1 _) (by decide) rfl (fun ls hl => ?_)
        refine lv_goto (tgt := 5) hx hb dX12_papersOf_68 (by decide) ?_
        have hst9 : nn + 0 = CNT (fun p9 => SEE (shf fnw 32) (fnw 0) (fnw 1) (fnw 2) p9 ∧ HB (shf fnw 32 (p9 * 6 + 1)) (nI je)) (kP + 1) := CNT.n0 hcn (fun h9 => a5530 h9.1)
        exact ihP (kP + 1) (nn + 0) _ (by omega) (by first | assumption | exact Or.inl rfl | exact Or.inr rfl | exact rfl) (lv_sub hl [0, 1, 2, 3, 4] rfl)
  exact keyP kq 0 0 _ (by omega) (by first | assumption | exact Or.inl rfl | exact Or.inr rfl | exact rfl) (lv_sub hl [0, 1, 2, 3, 4] rfl)
def K_m_papersByX (l : Launch) (G : GG) (kq : Nat) (h0 : Nat) (je : Nat) (nw : Nat) (nk : Nat) (mhasKept : Int32) (nt : Nat) (mtaped : Int32) (nr : Nat) (mrowMany : Int32) (mroundOf : Int32) (mroundFrom : Int32) (nm : Nat) (mfromHour : Int32) (mtoHour : Int32) (ns : Nat) (mfrom : Int32) (mto : Int32) (msort : Int32) (misFault : Int32) (mdeep : Int32) (mcoded : Int32) (mlines : Int32) (nl : Nat) (nc : Nat) (nF : Nat) (np : Nat) (ntr : Nat) (nb : Nat) (mbestCost : Int32) (nso : Nat) (nsi : Nat) (nit : Nat) (nsh : Nat) (nsf : Nat) (nss : Nat) (nrc : Nat) (mtraced : Int32) (mdealer : Int32) (mnumber : Int32) (mwhose : Int32) (msize : Int32) (misParted : Int32) (fnw : Nat → Int32) : Prop := MP l G yX12_papersOf cX12_papersOf 5 (some .int) 4 [.ref h0, .int (nI je), .int 1] [(h0, oX12 nw nk mhasKept nt mtaped nr mrowMany mroundOf mroundFrom 0 nm mfromHour mtoHour ns mfrom mto msort misFault mdeep mcoded mlines nl nc nF np ntr nb mbestCost nso nsi nit nsh nsf nss nrc mtraced mdealer mnumber mwhose msize misParted), (nw, iA G 1662 fnw)] (fun r : Int32 => r = (CNT (fun p9 => SEE (shf fnw 32) (fnw 0) (fnw 1) (fnw 2) p9 ∧ shf fnw 32 (p9 * 6 + 0) = (nI je)) kq))
set_option maxHeartbeats 4000000 in
set_option maxRecDepth 100000 in
theorem m_papersByX (l : Launch) (G : GG) (kq : Nat) (h0 : Nat) (je : Nat) (nw : Nat) (nk : Nat) (mhasKept : Int32) (nt : Nat) (mtaped : Int32) (nr : Nat) (mrowMany : Int32) (mroundOf : Int32) (mroundFrom : Int32) (nm : Nat) (mfromHour : Int32) (mtoHour : Int32) (ns : Nat) (mfrom : Int32) (mto : Int32) (msort : Int32) (misFault : Int32) (mdeep : Int32) (mcoded : Int32) (mlines : Int32) (nl : Nat) (nc : Nat) (nF : Nat) (np : Nat) (ntr : Nat) (nb : Nat) (mbestCost : Int32) (nso : Nat) (nsi : Nat) (nit : Nat) (nsh : Nat) (nsf : Nat) (nss : Nat) (nrc : Nat) (mtraced : Int32) (mdealer : Int32) (mnumber : Int32) (mwhose : Int32) (msize : Int32) (misParted : Int32) (fnw : Nat → Int32) (ekq : fnw 5 = nI kq) (hkq : kq ≤ 12) (hje : je < 10) : K_m_papersByX l G kq h0 je nw nk mhasKept nt mtaped nr mrowMany mroundOf mroundFrom nm mfromHour mtoHour ns mfrom mto msort misFault mdeep mcoded mlines nl nc nF np ntr nb mbestCost nso nsi nit nsh nsf nss nrc mtraced mdealer mnumber mwhose msize misParted fnw := by
  refine MP.start (by decide +kernel) (Nat.le_of_ble_eq_true rfl) ?_
  intro p e s m below meth c ls hC hK hP hD hl
  refine absQ (fun Q0 hQ0 => ?_)
  have hl : lv_has ls 5 [(0, .ref h0), (1, .int (nI je)), (2, .int 1)] := hl
  refine Kan8 hC (fun hx hb hr hml hB hown hlocks hnm => ?_)
  refine lv_iconst (v := 0) hx hb dX12_papersOf_0 (by decide) ?_
  refine lv_istore_n (lv' := [(3, .int 0), (0, .ref h0), (1, .int (nI je)), (2, .int 1)]) hx hb dX12_papersOf_1 rfl hl (by decide) rfl (fun ls hl => ?_)
  refine lv_iconst (v := 0) hx hb dX12_papersOf_2 (by decide) ?_
  refine lv_istore (lv' := [(4, .int 0), (3, .int 0), (0, .ref h0), (1, .int (nI je)), (2, .int 1)]) hx hb dX12_papersOf_3 hl (by decide) rfl (fun ls hl => ?_)
  have keyP : ∀ (nP kP : Nat) (nn : Int32) (ls : Array Slot), kP + nP = kq → (nn = CNT (fun p9 => SEE (shf fnw 32) (fnw 0) (fnw 1) (fnw 2) p9 ∧ shf fnw 32 (p9 * 6 + 0) = (nI je)) kP) → lv_has ls 5 [(4, .int (nI kP)), (3, .int nn), (0, .ref h0), (1, .int (nI je)), (2, .int 1)] → W p l e (RM 4 0 0) s m ([.ref h0, .int (nI je), .int 1] : List Value).toArray below meth c s.heap [] 0 0 Q0 (F0 m 5 ls []) := by
    intro nP
    induction nP with
    | zero =>
      intro kP nn ls hkP hcn hl
      obtain rfl : kq = kP := by omega
      have hl : lv_has ls 5 [(4, .int (nI kq)), (3, .int nn), (0, .ref h0), (1, .int (nI je)), (2, .int 1)] := hl
      refine lv_iload hx hb dX12_papersOf_5 (lv_at0 hl) ?_
      refine lv_aload_n hx hb dX12_papersOf_7 rfl (lv_at2 hl) ?_
      refine gf_X12_9 hC rfl hK hP 0 rfl rfl dX12_papersOf_8 ?_
      refine lv_iconst (v := 5) hx hb dX12_papersOf_11 (by decide) ?_
      refine ald hC hK hP 1 rfl (vin (by decide +kernel)) (k := 5) (by decide +kernel) (v := nI kq) (ekq) dX12_papersOf_12 ?_
      refine lv_icmp_ge (tgt := 71) hx hb dX12_papersOf_13 (by decide) (fun _ => ?_) (fun c9 => absurd (Int32.le_refl _) c9)
      refine lv_iload_n hx hb dX12_papersOf_71 rfl (lv_at1 hl) ?_
      exact toQ hQ0 (RP (v := nn) hC (hcn) rfl dX12_papersOf_72)
    | succ nP ihP =>
      intro kP nn ls hkP hcn hl
      refine lv_iload hx hb dX12_papersOf_5 (lv_at0 hl) ?_
      refine lv_aload_n hx hb dX12_papersOf_7 rfl (lv_at2 hl) ?_
      refine gf_X12_9 hC rfl hK hP 0 rfl rfl dX12_papersOf_8 ?_
      refine lv_iconst (v := 5) hx hb dX12_papersOf_11 (by decide) ?_
      refine ald hC hK hP 1 rfl (vin (by decide +kernel)) (k := 5) (by decide +kernel) (v := nI kq) (ekq) dX12_papersOf_12 ?_
      refine lv_icmp_ge (tgt := 71) hx hb dX12_papersOf_13 (by decide) (fun c9 => absurd c9 (nI_ge (a := kP) (b := kq) (by omega) (by omega))) (fun _ => ?_)
      refine lv_iload_n hx hb dX12_papersOf_16 rfl (lv_at1 hl) ?_
      refine lv_aload_n hx hb dX12_papersOf_17 rfl (lv_at2 hl) ?_
      refine lv_iload hx hb dX12_papersOf_18 (lv_at0 hl) ?_
      refine pV hC hK hl hP hD (m_isInX l G h0 kP nw nk mhasKept nt mtaped nr mrowMany mroundOf mroundFrom nm mfromHour mtoHour ns mfrom mto msort misFault mdeep mcoded mlines nl nc nF np ntr nb mbestCost nso nsi nit nsh nsf nss nrc mtraced mdealer mnumber mwhose msize misParted fnw (by omega)) si_X12_103 [0, 1] sm_0_1 fm_0_1 nd_0_1 rfl rfl rfl rfl rfl (Nat.le_of_ble_eq_true rfl) rm_4_2_3 ⟨by first | exact Nat.le_of_ble_eq_true rfl | exact Nat.zero_le _, by first | exact Nat.le_of_ble_eq_true rfl | exact Nat.zero_le _⟩ dX12_papersOf_20 (Kors (Keqa fun a5536 => ?_) (Keqa fun a5536 => ?_))
      · refine lv_if_eq (tgt := 62) hx hb dX12_papersOf_23 (by decide) (fun c9 => absurd c9 (by decide)) (fun _ => ?_)
        refine lv_iload_n hx hb dX12_papersOf_26 rfl (lv_at4 hl) ?_
        refine lv_if_eq (tgt := 44) hx hb dX12_papersOf_27 (by decide) (fun c9 => absurd c9 (by decide)) (fun _ => ?_)
        refine lv_aload_n hx hb dX12_papersOf_30 rfl (lv_at2 hl) ?_
        refine lv_iload hx hb dX12_papersOf_31 (lv_at0 hl) ?_
        refine lv_iconst (v := 0) hx hb dX12_papersOf_33 (by decide) ?_
        refine pV hC hK hl hP hD (m_paper l G h0 kP 0 nw nk mhasKept nt mtaped nr mrowMany mroundOf mroundFrom 0 nm mfromHour mtoHour ns mfrom mto msort misFault mdeep mcoded mlines nl nc nF np ntr nb mbestCost nso nsi nit nsh nsf nss nrc mtraced mdealer mnumber mwhose msize misParted fnw (by omega) (by omega)) si_X12_88 [0, 1] sm_0_1 fm_0_1 nd_0_1 rfl rfl rfl rfl rfl (Nat.le_of_ble_eq_true rfl) rm_4_1_3 ⟨by first | exact Nat.le_of_ble_eq_true rfl | exact Nat.zero_le _, by first | exact Nat.le_of_ble_eq_true rfl | exact Nat.zero_le _⟩ dX12_papersOf_34 (Keqr ?_)
        refine lv_iload_n hx hb dX12_papersOf_37 rfl (lv_at3 hl) ?_
        refine lv_icmp_ne (tgt := 62) hx hb dX12_papersOf_38 (by decide) (fun c_38_5539 => ?_) (fun c_38_5539 => ?_)
        · refine lv_iconst (v := 0) hx hb dX12_papersOf_62 (by decide) ?_
          refine lv_iadd hx hb dX12_papersOf_63 ?_
          refine lv_istore_n (lv' := [(3, .int (nn + 0)), (4, .int (nI kP)), (0, .ref h0), (1, .int (nI je)), (2, .int 1)]) hx hb dX12_papersOf_64 rfl hl (by decide) rfl (fun ls hl => ?_)
          refine lv_iinc (v := nI (kP + 1)) (lv' := [(4, .int (nI (kP + 1))), (3, .int (nn + 0)), (0, .ref h0), (1, .int (nI je)), (2, .int 1)]) hx hb dX12_papersOf_65 hl (k := 1) rfl (nI_1 _) (by decide) rfl (fun ls hl => ?_)
          refine lv_goto (tgt := 5) hx hb dX12_papersOf_68 (by decide) ?_
          have q9e : fnw (32 + 6 * kP + 0) = shf fnw 32 (kP * 6 + 0) := congrArg fnw (by omega)
          have hst9 : nn + 0 = CNT (fun p9 => SEE (shf fnw 32) (fnw 0) (fnw 1) (fnw 2) p9 ∧ shf fnw 32 (p9 * 6 + 0) = (nI je)) (kP + 1) := CNT.n0 hcn (fun h9 => c_38_5539 (q9e.trans h9.2))
          exact ihP (kP + 1) (nn + 0) _ (by omega) (by first | assumption | exact Or.inl rfl | exact Or.inr rfl | exact rfl) (lv_sub hl [0, 1, 2, 3, 4] rfl)
        · refine lv_goto (tgt := 58) hx hb dX12_papersOf_41 (by decide) ?_
          refine lv_iconst (v := 1) hx hb dX12_papersOf_58 (by decide) ?_
          refine lv_goto (tgt := 63) hx hb dX12_papersOf_59 (by decide) ?_
          refine lv_iadd hx hb dX12_papersOf_63 ?_
          refine lv_istore_n (lv' := [(3, .int (nn + 1)), (4, .int (nI kP)), (0, .ref h0), (1, .int (nI je)), (2, .int 1)]) hx hb dX12_papersOf_64 rfl hl (by decide) rfl (fun ls hl => ?_)
          refine lv_iinc (v := nI (kP + 1)) (lv' := [(4, .int (nI (kP + 1))), (3, .int (nn + 1)), (0, .ref h0), (1, .int (nI je)), (2, .int 1)]) hx hb dX12_papersOf_65 hl (k := 1) rfl (nI_1 _) (by decide) rfl (fun ls hl => ?_)
          refine lv_goto (tgt := 5) hx hb dX12_papersOf_68 (by decide) ?_
          have q9e : fnw (32 + 6 * kP + 0) = shf fnw 32 (kP * 6 + 0) := congrArg fnw (by omega)
          have hst9 : nn + 1 = CNT (fun p9 => SEE (shf fnw 32) (fnw 0) (fnw 1) (fnw 2) p9 ∧ shf fnw 32 (p9 * 6 + 0) = (nI je)) (kP + 1) := CNT.y hcn ⟨a5536, q9e.symm.trans c_38_5539⟩
          exact ihP (kP + 1) (nn + 1) _ (by omega) (by first | assumption | exact Or.inl rfl | exact Or.inr rfl | exact rfl) (lv_sub hl [0, 1, 2, 3, 4] rfl)
      · refine lv_if_eq (tgt := 62) hx hb dX12_papersOf_23 (by decide) (fun _ => ?_) (fun c9 => absurd (by decide) c9)
        refine lv_iconst (v := 0) hx hb dX12_papersOf_62 (by decide) ?_
        refine lv_iadd hx hb dX12_papersOf_63 ?_
        refine lv_istore_n (lv' := [(3, .int (nn + 0)), (4, .int (nI kP)), (0, .ref h0), (1, .int (nI je)), (2, .int 1)]) hx hb dX12_papersOf_64 rfl hl (by decide) rfl (fun ls hl => ?_)
        refine lv_iinc (v := nI (kP + 1)) (lv' := [(4, .int (nI (kP + 1))), (3, .int (nn + 0)), (0, .ref h0), (1, .int (nI je)), (2, .int 1)]) hx hb dX12_papersOf_65 hl (k := 1) rfl (nI_1 _) (by decide) rfl (fun ls hl => ?_)
        refine lv_goto (tgt := 5) hx hb dX12_papersOf_68 (by decide) ?_
        have hst9 : nn + 0 = CNT (fun p9 => SEE (shf fnw 32) (fnw 0) (fnw 1) (fnw 2) p9 ∧ shf fnw 32 (p9 * 6 + 0) = (nI je)) (kP + 1) := CNT.n0 hcn (fun h9 => a5536 h9.1)
        exact ihP (kP + 1) (nn + 0) _ (by omega) (by first | assumption | exact Or.inl rfl | exact Or.inr rfl | exact rfl) (lv_sub hl [0, 1, 2, 3, 4] rfl)
  exact keyP kq 0 0 _ (by omega) (by first | assumption | exact Or.inl rfl | exact Or.inr rfl | exact rfl) (lv_sub hl [0, 1, 2, 3, 4] rfl)
def K_m_doesCountX (l : Launch) (G : GG) (h0 : Nat) (js : Nat) (nw : Nat) (nk : Nat) (mhasKept : Int32) (nt : Nat) (mtaped : Int32) (nr : Nat) (mrowMany : Int32) (mroundOf : Int32) (mroundFrom : Int32) (nm : Nat) (mfromHour : Int32) (mtoHour : Int32) (ns : Nat) (mfrom : Int32) (mto : Int32) (msort : Int32) (misFault : Int32) (mdeep : Int32) (mcoded : Int32) (mlines : Int32) (nl : Nat) (nc : Nat) (nF : Nat) (np : Nat) (ntr : Nat) (nb : Nat) (mbestCost : Int32) (nso : Nat) (nsi : Nat) (nit : Nat) (nsh : Nat) (nsf : Nat) (nss : Nat) (nrc : Nat) (mtraced : Int32) (mdealer : Int32) (mnumber : Int32) (mwhose : Int32) (msize : Int32) (misParted : Int32) (fnw : Nat → Int32) : Prop := MP l G yX12_doesCount cX12_doesCount 2 (some .boolean) 4 [.ref h0, .int (nI js)] [(h0, oX12 nw nk mhasKept nt mtaped nr mrowMany mroundOf mroundFrom 0 nm mfromHour mtoHour ns mfrom mto msort misFault mdeep mcoded mlines nl nc nF np ntr nb mbestCost nso nsi nit nsh nsf nss nrc mtraced mdealer mnumber mwhose msize misParted), (nw, iA G 1662 fnw)] (fun r : Int32 => (r = 1 ∧ CSQ (shf fnw 1424) (shf fnw 32) (fnw 0) (fnw 1) (fnw 2) js) ∨ (r = 0 ∧ ¬ CSQ (shf fnw 1424) (shf fnw 32) (fnw 0) (fnw 1) (fnw 2) js))
set_option maxHeartbeats 4000000 in
set_option maxRecDepth 100000 in
theorem m_doesCountX (l : Launch) (G : GG) (h0 : Nat) (js : Nat) (nw : Nat) (nk : Nat) (mhasKept : Int32) (nt : Nat) (mtaped : Int32) (nr : Nat) (mrowMany : Int32) (mroundOf : Int32) (mroundFrom : Int32) (nm : Nat) (mfromHour : Int32) (mtoHour : Int32) (ns : Nat) (mfrom : Int32) (mto : Int32) (msort : Int32) (misFault : Int32) (mdeep : Int32) (mcoded : Int32) (mlines : Int32) (nl : Nat) (nc : Nat) (nF : Nat) (np : Nat) (ntr : Nat) (nb : Nat) (mbestCost : Int32) (nso : Nat) (nsi : Nat) (nit : Nat) (nsh : Nat) (nsf : Nat) (nss : Nat) (nrc : Nat) (mtraced : Int32) (mdealer : Int32) (mnumber : Int32) (mwhose : Int32) (msize : Int32) (misParted : Int32) (fnw : Nat → Int32) (hjs : js < 16) (hN : NI fnw) : K_m_doesCountX l G h0 js nw nk mhasKept nt mtaped nr mrowMany mroundOf mroundFrom nm mfromHour mtoHour ns mfrom mto msort misFault mdeep mcoded mlines nl nc nF np ntr nb mbestCost nso nsi nit nsh nsf nss nrc mtraced mdealer mnumber mwhose msize misParted fnw := by
  refine MP.start (by decide +kernel) (Nat.le_of_ble_eq_true rfl) ?_
  intro p e s m below meth c ls hC hK hP hD hl
  refine absQ (fun Q0 hQ0 => ?_)
  have hl : lv_has ls 2 [(0, .ref h0), (1, .int (nI js))] := hl
  refine Kan8 hC (fun hx hb hr hml hB hown hlocks hnm => ?_)
  have hq2 : fnw (1424 + 8 * js + 2) = shf fnw 1424 (js * 8 + 2) := congrArg fnw (by omega)
  have hq6 : fnw (1424 + 8 * js + 6) = shf fnw 1424 (js * 8 + 6) := congrArg fnw (by omega)
  have hq7 : fnw (1424 + 8 * js + 7) = shf fnw 1424 (js * 8 + 7) := congrArg fnw (by omega)
  refine lv_aload_n hx hb dX12_doesCount_0 rfl (lv_at0 hl) ?_
  refine lv_iload_n hx hb dX12_doesCount_1 rfl (lv_at1 hl) ?_
  refine lv_bipush (v := 6) hx hb dX12_doesCount_2 (by decide) ?_
  refine pV hC hK hl hP hD (m_saying l G h0 js 6 nw nk mhasKept nt mtaped nr mrowMany mroundOf mroundFrom 0 nm mfromHour mtoHour ns mfrom mto msort misFault mdeep mcoded mlines nl nc nF np ntr nb mbestCost nso nsi nit nsh nsf nss nrc mtraced mdealer mnumber mwhose msize misParted fnw (hjs) (by omega)) si_X12_114 [0, 1] sm_0_1 fm_0_1 nd_0_1 rfl rfl rfl rfl rfl (Nat.le_of_ble_eq_true rfl) rm_4_1_3 ⟨by first | exact Nat.le_of_ble_eq_true rfl | exact Nat.zero_le _, by first | exact Nat.le_of_ble_eq_true rfl | exact Nat.zero_le _⟩ dX12_doesCount_4 (Keqr ?_)
  refine lv_if_ge (tgt := 41) hx hb dX12_doesCount_7 (by decide) (fun c_7_5542 => ?_) (fun c_7_5542 => ?_)
  · refine lv_iconst (v := 0) hx hb dX12_doesCount_41 (by decide) ?_
    exact toQ hQ0 (RP (v := 0) hC (Or.inr ⟨rfl, fun h9 => Int32.not_lt.mpr c_7_5542 (by rw [hq6]; exact h9.2.1)⟩) (by decide +kernel) dX12_doesCount_42)
  · refine lv_aload_n hx hb dX12_doesCount_10 rfl (lv_at0 hl) ?_
    refine lv_iload_n hx hb dX12_doesCount_11 rfl (lv_at1 hl) ?_
    refine lv_bipush (v := 7) hx hb dX12_doesCount_12 (by decide) ?_
    refine pV hC hK hl hP hD (m_saying l G h0 js 7 nw nk mhasKept nt mtaped nr mrowMany mroundOf mroundFrom 0 nm mfromHour mtoHour ns mfrom mto msort misFault mdeep mcoded mlines nl nc nF np ntr nb mbestCost nso nsi nit nsh nsf nss nrc mtraced mdealer mnumber mwhose msize misParted fnw (hjs) (by omega)) si_X12_114 [0, 1] sm_0_1 fm_0_1 nd_0_1 rfl rfl rfl rfl rfl (Nat.le_of_ble_eq_true rfl) rm_4_1_3 ⟨by first | exact Nat.le_of_ble_eq_true rfl | exact Nat.zero_le _, by first | exact Nat.le_of_ble_eq_true rfl | exact Nat.zero_le _⟩ dX12_doesCount_14 (Keqr ?_)
    refine lv_aload_n hx hb dX12_doesCount_17 rfl (lv_at0 hl) ?_
    refine pV hC hK hl hP hD (m_dayX l G h0 nw nk mhasKept nt mtaped nr mrowMany mroundOf mroundFrom 0 nm mfromHour mtoHour ns mfrom mto msort misFault mdeep mcoded mlines nl nc nF np ntr nb mbestCost nso nsi nit nsh nsf nss nrc mtraced mdealer mnumber mwhose msize misParted fnw) si_X12_92 [0, 1] sm_0_1 fm_0_1 nd_0_1 rfl rfl rfl rfl rfl (Nat.le_of_ble_eq_true rfl) rm_4_1_1 ⟨by first | exact Nat.le_of_ble_eq_true rfl | exact Nat.zero_le _, by first | exact Nat.le_of_ble_eq_true rfl | exact Nat.zero_le _⟩ dX12_doesCount_18 (Keqr ?_)
    refine lv_icmp_gt (tgt := 41) hx hb dX12_doesCount_21 (by decide) (fun c_21_5547 => ?_) (fun c_21_5547 => ?_)
    · refine lv_iconst (v := 0) hx hb dX12_doesCount_41 (by decide) ?_
      exact toQ hQ0 (RP (v := 0) hC (Or.inr ⟨rfl, fun h9 => Int32.not_le.mpr c_21_5547 (by rw [hq7]; exact h9.1)⟩) (by decide +kernel) dX12_doesCount_42)
    · refine lv_aload_n hx hb dX12_doesCount_24 rfl (lv_at0 hl) ?_
      refine lv_aload_n hx hb dX12_doesCount_25 rfl (lv_at0 hl) ?_
      refine lv_iload_n hx hb dX12_doesCount_26 rfl (lv_at1 hl) ?_
      refine lv_iconst (v := 2) hx hb dX12_doesCount_27 (by decide) ?_
      refine pV hC hK hl hP hD (m_saying l G h0 js 2 nw nk mhasKept nt mtaped nr mrowMany mroundOf mroundFrom 0 nm mfromHour mtoHour ns mfrom mto msort misFault mdeep mcoded mlines nl nc nF np ntr nb mbestCost nso nsi nit nsh nsf nss nrc mtraced mdealer mnumber mwhose msize misParted fnw (hjs) (by omega)) si_X12_114 [0, 1] sm_0_1 fm_0_1 nd_0_1 rfl rfl rfl rfl rfl (Nat.le_of_ble_eq_true rfl) rm_4_1_3 ⟨by first | exact Nat.le_of_ble_eq_true rfl | exact Nat.zero_le _, by first | exact Nat.le_of_ble_eq_true rfl | exact Nat.zero_le _⟩ dX12_doesCount_28 (Keqr ?_)
      obtain ⟨jpp, hjpp, ejpp⟩ := NI.nat hN (i := 1424 + 8 * js + 2) (bnd_say2 (s := js) rfl (by omega)) (by decide)
      refine eqi (x1 := nI jpp) ejpp ?_
      refine pV hC hK hl hP hD (m_isInX l G h0 jpp nw nk mhasKept nt mtaped nr mrowMany mroundOf mroundFrom nm mfromHour mtoHour ns mfrom mto msort misFault mdeep mcoded mlines nl nc nF np ntr nb mbestCost nso nsi nit nsh nsf nss nrc mtraced mdealer mnumber mwhose msize misParted fnw (by omega)) si_X12_103 [0, 1] sm_0_1 fm_0_1 nd_0_1 rfl rfl rfl rfl rfl (Nat.le_of_ble_eq_true rfl) rm_4_2_3 ⟨by first | exact Nat.le_of_ble_eq_true rfl | exact Nat.zero_le _, by first | exact Nat.le_of_ble_eq_true rfl | exact Nat.zero_le _⟩ dX12_doesCount_31 (Kors (Keqa fun a5551 => ?_) (Keqa fun a5551 => ?_))
      · refine lv_if_eq (tgt := 41) hx hb dX12_doesCount_34 (by decide) (fun c9 => absurd c9 (by decide)) (fun _ => ?_)
        refine lv_iconst (v := 1) hx hb dX12_doesCount_37 (by decide) ?_
        refine lv_goto (tgt := 42) hx hb dX12_doesCount_38 (by decide) ?_
        exact toQ hQ0 (RP (v := 1) hC (Or.inl ⟨rfl, by rw [← hq7]; exact Int32.not_lt.mp c_21_5547, by rw [← hq6]; exact Int32.not_le.mp c_7_5542, by rw [← hq2, ejpp, nI_clamp (n := jpp) (by omega)]; exact a5551⟩) (by decide +kernel) dX12_doesCount_42)
      · refine lv_if_eq (tgt := 41) hx hb dX12_doesCount_34 (by decide) (fun _ => ?_) (fun c9 => absurd (by decide) c9)
        refine lv_iconst (v := 0) hx hb dX12_doesCount_41 (by decide) ?_
        exact toQ hQ0 (RP (v := 0) hC (Or.inr ⟨rfl, fun h9 => a5551 (by have h8 := h9.2.2; rw [← hq2, ejpp, nI_clamp (n := jpp) (by omega)] at h8; exact h8)⟩) (by decide +kernel) dX12_doesCount_42)
def K_m_saidByX (l : Launch) (G : GG) (k8 : Nat) (h0 : Nat) (je : Nat) (nw : Nat) (nk : Nat) (mhasKept : Int32) (nt : Nat) (mtaped : Int32) (nr : Nat) (mrowMany : Int32) (mroundOf : Int32) (mroundFrom : Int32) (nm : Nat) (mfromHour : Int32) (mtoHour : Int32) (ns : Nat) (mfrom : Int32) (mto : Int32) (msort : Int32) (misFault : Int32) (mdeep : Int32) (mcoded : Int32) (mlines : Int32) (nl : Nat) (nc : Nat) (nF : Nat) (np : Nat) (ntr : Nat) (nb : Nat) (mbestCost : Int32) (nso : Nat) (nsi : Nat) (nit : Nat) (nsh : Nat) (nsf : Nat) (nss : Nat) (nrc : Nat) (mtraced : Int32) (mdealer : Int32) (mnumber : Int32) (mwhose : Int32) (msize : Int32) (misParted : Int32) (fnw : Nat → Int32) : Prop := MP l G yX12_saidBy cX12_saidBy 4 (some .int) 5 [.ref h0, .int (nI je)] [(h0, oX12 nw nk mhasKept nt mtaped nr mrowMany mroundOf mroundFrom 0 nm mfromHour mtoHour ns mfrom mto msort misFault mdeep mcoded mlines nl nc nF np ntr nb mbestCost nso nsi nit nsh nsf nss nrc mtraced mdealer mnumber mwhose msize misParted), (nw, iA G 1662 fnw)] (fun r : Int32 => r = (CNT (fun s9 => shf fnw 1424 (s9 * 8 + 0) = (nI je) ∧ CSQ (shf fnw 1424) (shf fnw 32) (fnw 0) (fnw 1) (fnw 2) s9) k8))
set_option maxHeartbeats 4000000 in
set_option maxRecDepth 100000 in
theorem m_saidByX (l : Launch) (G : GG) (k8 : Nat) (h0 : Nat) (je : Nat) (nw : Nat) (nk : Nat) (mhasKept : Int32) (nt : Nat) (mtaped : Int32) (nr : Nat) (mrowMany : Int32) (mroundOf : Int32) (mroundFrom : Int32) (nm : Nat) (mfromHour : Int32) (mtoHour : Int32) (ns : Nat) (mfrom : Int32) (mto : Int32) (msort : Int32) (misFault : Int32) (mdeep : Int32) (mcoded : Int32) (mlines : Int32) (nl : Nat) (nc : Nat) (nF : Nat) (np : Nat) (ntr : Nat) (nb : Nat) (mbestCost : Int32) (nso : Nat) (nsi : Nat) (nit : Nat) (nsh : Nat) (nsf : Nat) (nss : Nat) (nrc : Nat) (mtraced : Int32) (mdealer : Int32) (mnumber : Int32) (mwhose : Int32) (msize : Int32) (misParted : Int32) (fnw : Nat → Int32) (ek8 : fnw 8 = nI k8) (hk8 : k8 ≤ 16) (hje : je < 10) (hN : NI fnw) : K_m_saidByX l G k8 h0 je nw nk mhasKept nt mtaped nr mrowMany mroundOf mroundFrom nm mfromHour mtoHour ns mfrom mto msort misFault mdeep mcoded mlines nl nc nF np ntr nb mbestCost nso nsi nit nsh nsf nss nrc mtraced mdealer mnumber mwhose msize misParted fnw := by
  refine MP.start (by decide +kernel) (Nat.le_of_ble_eq_true rfl) ?_
  intro p e s m below meth c ls hC hK hP hD hl
  refine absQ (fun Q0 hQ0 => ?_)
  have hl : lv_has ls 4 [(0, .ref h0), (1, .int (nI je))] := hl
  refine Kan8 hC (fun hx hb hr hml hB hown hlocks hnm => ?_)
  refine lv_iconst (v := 0) hx hb dX12_saidBy_0 (by decide) ?_
  refine lv_istore_n (lv' := [(2, .int 0), (0, .ref h0), (1, .int (nI je))]) hx hb dX12_saidBy_1 rfl hl (by decide) rfl (fun ls hl => ?_)
  refine lv_iconst (v := 0) hx hb dX12_saidBy_2 (by decide) ?_
  refine lv_istore_n (lv' := [(3, .int 0), (2, .int 0), (0, .ref h0), (1, .int (nI je))]) hx hb dX12_saidBy_3 rfl hl (by decide) rfl (fun ls hl => ?_)
  have keyP : ∀ (nP kP : Nat) (nn : Int32) (ls : Array Slot), kP + nP = k8 → (nn = CNT (fun s9 => shf fnw 1424 (s9 * 8 + 0) = (nI je) ∧ CSQ (shf fnw 1424) (shf fnw 32) (fnw 0) (fnw 1) (fnw 2) s9) kP) → lv_has ls 4 [(3, .int (nI kP)), (2, .int nn), (0, .ref h0), (1, .int (nI je))] → W p l e (RM 5 0 0) s m ([.ref h0, .int (nI je)] : List Value).toArray below meth c s.heap [] 0 0 Q0 (F0 m 4 ls []) := by
    intro nP
    induction nP with
    | zero =>
      intro kP nn ls hkP hcn hl
      obtain rfl : k8 = kP := by omega
      have hl : lv_has ls 4 [(3, .int (nI k8)), (2, .int nn), (0, .ref h0), (1, .int (nI je))] := hl
      refine lv_iload_n hx hb dX12_saidBy_4 rfl (lv_at0 hl) ?_
      refine lv_aload_n hx hb dX12_saidBy_5 rfl (lv_at2 hl) ?_
      refine gf_X12_9 hC rfl hK hP 0 rfl rfl dX12_saidBy_6 ?_
      refine lv_bipush (v := 8) hx hb dX12_saidBy_9 (by decide) ?_
      refine ald hC hK hP 1 rfl (vin (by decide +kernel)) (k := 8) (by decide +kernel) (v := nI k8) (ek8) dX12_saidBy_11 ?_
      refine lv_icmp_ge (tgt := 51) hx hb dX12_saidBy_12 (by decide) (fun _ => ?_) (fun c9 => absurd (Int32.le_refl _) c9)
      refine lv_iload_n hx hb dX12_saidBy_51 rfl (lv_at1 hl) ?_
      exact toQ hQ0 (RP (v := nn) hC (hcn) rfl dX12_saidBy_52)
    | succ nP ihP =>
      intro kP nn ls hkP hcn hl
      refine lv_iload_n hx hb dX12_saidBy_4 rfl (lv_at0 hl) ?_
      refine lv_aload_n hx hb dX12_saidBy_5 rfl (lv_at2 hl) ?_
      refine gf_X12_9 hC rfl hK hP 0 rfl rfl dX12_saidBy_6 ?_
      refine lv_bipush (v := 8) hx hb dX12_saidBy_9 (by decide) ?_
      refine ald hC hK hP 1 rfl (vin (by decide +kernel)) (k := 8) (by decide +kernel) (v := nI k8) (ek8) dX12_saidBy_11 ?_
      refine lv_icmp_ge (tgt := 51) hx hb dX12_saidBy_12 (by decide) (fun c9 => absurd c9 (nI_ge (a := kP) (b := k8) (by omega) (by omega))) (fun _ => ?_)
      refine lv_iload_n hx hb dX12_saidBy_15 rfl (lv_at1 hl) ?_
      refine lv_aload_n hx hb dX12_saidBy_16 rfl (lv_at2 hl) ?_
      refine lv_iload_n hx hb dX12_saidBy_17 rfl (lv_at0 hl) ?_
      refine pV hC hK hl hP hD (m_doesCountX l G h0 kP nw nk mhasKept nt mtaped nr mrowMany mroundOf mroundFrom nm mfromHour mtoHour ns mfrom mto msort misFault mdeep mcoded mlines nl nc nF np ntr nb mbestCost nso nsi nit nsh nsf nss nrc mtraced mdealer mnumber mwhose msize misParted fnw (by omega) (hN)) si_X12_117 [0, 1] sm_0_1 fm_0_1 nd_0_1 rfl rfl rfl rfl rfl (Nat.le_of_ble_eq_true rfl) rm_5_4_2 ⟨by first | exact Nat.le_of_ble_eq_true rfl | exact Nat.zero_le _, by first | exact Nat.le_of_ble_eq_true rfl | exact Nat.zero_le _⟩ dX12_saidBy_18 (Kors (Keqa fun a5553 => ?_) (Keqa fun a5553 => ?_))
      · refine lv_if_eq (tgt := 42) hx hb dX12_saidBy_21 (by decide) (fun c9 => absurd c9 (by decide)) (fun _ => ?_)
        refine lv_iload_n hx hb dX12_saidBy_24 rfl (lv_at3 hl) ?_
        refine lv_if_lt (tgt := 38) hx hb dX12_saidBy_25 (by decide) (fun c9 => absurd c9 (nI_nn (by omega))) (fun _ => ?_)
        refine lv_aload_n hx hb dX12_saidBy_28 rfl (lv_at2 hl) ?_
        refine lv_iload_n hx hb dX12_saidBy_29 rfl (lv_at0 hl) ?_
        refine lv_iconst (v := 0) hx hb dX12_saidBy_30 (by decide) ?_
        refine pV hC hK hl hP hD (m_saying l G h0 kP 0 nw nk mhasKept nt mtaped nr mrowMany mroundOf mroundFrom 0 nm mfromHour mtoHour ns mfrom mto msort misFault mdeep mcoded mlines nl nc nF np ntr nb mbestCost nso nsi nit nsh nsf nss nrc mtraced mdealer mnumber mwhose msize misParted fnw (by omega) (by omega)) si_X12_114 [0, 1] sm_0_1 fm_0_1 nd_0_1 rfl rfl rfl rfl rfl (Nat.le_of_ble_eq_true rfl) rm_5_1_3 ⟨by first | exact Nat.le_of_ble_eq_true rfl | exact Nat.zero_le _, by first | exact Nat.le_of_ble_eq_true rfl | exact Nat.zero_le _⟩ dX12_saidBy_31 (Keqr ?_)
        refine lv_iload_n hx hb dX12_saidBy_34 rfl (lv_at3 hl) ?_
        refine lv_icmp_ne (tgt := 42) hx hb dX12_saidBy_35 (by decide) (fun c_35_5556 => ?_) (fun c_35_5556 => ?_)
        · refine lv_iconst (v := 0) hx hb dX12_saidBy_42 (by decide) ?_
          refine lv_iadd hx hb dX12_saidBy_43 ?_
          refine lv_istore_n (lv' := [(2, .int (nn + 0)), (3, .int (nI kP)), (0, .ref h0), (1, .int (nI je))]) hx hb dX12_saidBy_44 rfl hl (by decide) rfl (fun ls hl => ?_)
          refine lv_iinc (v := nI (kP + 1)) (lv' := [(3, .int (nI (kP + 1))), (2, .int (nn + 0)), (0, .ref h0), (1, .int (nI je))]) hx hb dX12_saidBy_45 hl (k := 1) rfl (nI_1 _) (by decide) rfl (fun ls hl => ?_)
          refine lv_goto (tgt := 4) hx hb dX12_saidBy_48 (by decide) ?_
          have q9e : fnw (1424 + 8 * kP + 0) = shf fnw 1424 (kP * 8 + 0) := congrArg fnw (by omega)
          have hst9 : nn + 0 = CNT (fun s9 => shf fnw 1424 (s9 * 8 + 0) = (nI je) ∧ CSQ (shf fnw 1424) (shf fnw 32) (fnw 0) (fnw 1) (fnw 2) s9) (kP + 1) := CNT.n0 hcn (fun h9 => c_35_5556 (q9e.trans h9.1))
          exact ihP (kP + 1) (nn + 0) _ (by omega) (by first | assumption | exact Or.inl rfl | exact Or.inr rfl | exact rfl) (lv_sub hl [0, 1, 2, 3] rfl)
        · refine lv_iconst (v := 1) hx hb dX12_saidBy_38 (by decide) ?_
          refine lv_goto (tgt := 43) hx hb dX12_saidBy_39 (by decide) ?_
          refine lv_iadd hx hb dX12_saidBy_43 ?_
          refine lv_istore_n (lv' := [(2, .int (nn + 1)), (3, .int (nI kP)), (0, .ref h0), (1, .int (nI je))]) hx hb dX12_saidBy_44 rfl hl (by decide) rfl (fun ls hl => ?_)
          refine lv_iinc (v := nI (kP + 1)) (lv' := [(3, .int (nI (kP + 1))), (2, .int (nn + 1)), (0, .ref h0), (1, .int (nI je))]) hx hb dX12_saidBy_45 hl (k := 1) rfl (nI_1 _) (by decide) rfl (fun ls hl => ?_)
          refine lv_goto (tgt := 4) hx hb dX12_saidBy_48 (by decide) ?_
          have q9e : fnw (1424 + 8 * kP + 0) = shf fnw 1424 (kP * 8 + 0) := congrArg fnw (by omega)
          have hst9 : nn + 1 = CNT (fun s9 => shf fnw 1424 (s9 * 8 + 0) = (nI je) ∧ CSQ (shf fnw 1424) (shf fnw 32) (fnw 0) (fnw 1) (fnw 2) s9) (kP + 1) := CNT.y hcn ⟨q9e.symm.trans c_35_5556, a5553⟩
          exact ihP (kP + 1) (nn + 1) _ (by omega) (by first | assumption | exact Or.inl rfl | exact Or.inr rfl | exact rfl) (lv_sub hl [0, 1, 2, 3] rfl)
      · refine lv_if_eq (tgt := 42) hx hb dX12_saidBy_21 (by decide) (fun _ => ?_) (fun c9 => absurd (by decide) c9)
        refine lv_iconst (v := 0) hx hb dX12_saidBy_42 (by decide) ?_
        refine lv_iadd hx hb dX12_saidBy_43 ?_
        refine lv_istore_n (lv' := [(2, .int (nn + 0)), (3, .int (nI kP)), (0, .ref h0), (1, .int (nI je))]) hx hb dX12_saidBy_44 rfl hl (by decide) rfl (fun ls hl => ?_)
        refine lv_iinc (v := nI (kP + 1)) (lv' := [(3, .int (nI (kP + 1))), (2, .int (nn + 0)), (0, .ref h0), (1, .int (nI je))]) hx hb dX12_saidBy_45 hl (k := 1) rfl (nI_1 _) (by decide) rfl (fun ls hl => ?_)
        refine lv_goto (tgt := 4) hx hb dX12_saidBy_48 (by decide) ?_
        have hst9 : nn + 0 = CNT (fun s9 => shf fnw 1424 (s9 * 8 + 0) = (nI je) ∧ CSQ (shf fnw 1424) (shf fnw 32) (fnw 0) (fnw 1) (fnw 2) s9) (kP + 1) := CNT.n0 hcn (fun h9 => a5553 h9.2)
        exact ihP (kP + 1) (nn + 0) _ (by omega) (by first | assumption | exact Or.inl rfl | exact Or.inr rfl | exact rfl) (lv_sub hl [0, 1, 2, 3] rfl)
  exact keyP k8 0 0 _ (by omega) (by first | assumption | exact Or.inl rfl | exact Or.inr rfl | exact rfl) (lv_sub hl [0, 1, 2, 3] rfl)
def K_r_personOf (l : Launch) (G : GG) (kp : Nat) (kq : Nat) (k8 : Nat) (h0 : Nat) (x1 : Int32) (x2 : Int32) (nw : Nat) (nk : Nat) (mhasKept : Int32) (nt : Nat) (mtaped : Int32) (nr : Nat) (mrowMany : Int32) (mroundOf : Int32) (mroundFrom : Int32) (nm : Nat) (mfromHour : Int32) (mtoHour : Int32) (ns : Nat) (mfrom : Int32) (mto : Int32) (msort : Int32) (misFault : Int32) (mdeep : Int32) (mcoded : Int32) (mlines : Int32) (nl : Nat) (nc : Nat) (nF : Nat) (np : Nat) (ntr : Nat) (nb : Nat) (mbestCost : Int32) (nso : Nat) (nsi : Nat) (nit : Nat) (nsh : Nat) (nsf : Nat) (nss : Nat) (nrc : Nat) (mtraced : Int32) (mdealer : Int32) (mnumber : Int32) (mwhose : Int32) (msize : Int32) (misParted : Int32) (fnw : Nat → Int32) : Prop := MP l G yX12_personOf cX12_personOf 3 (some .int) 6 [.ref h0, .int x1, .int x2] [(h0, oX12 nw nk mhasKept nt mtaped nr mrowMany mroundOf mroundFrom 0 nm mfromHour mtoHour ns mfrom mto msort misFault mdeep mcoded mlines nl nc nF np ntr nb mbestCost nso nsi nit nsh nsf nss nrc mtraced mdealer mnumber mwhose msize misParted), (nw, iA G 1662 fnw)] (fun r : Int32 => r = ifc (Hs x1 kp) (ifc (x2 = 0) (shf fnw 12 (x1.toNatClampNeg * 2 + 0)) (ifc (x2 = 1) (shf fnw 12 (x1.toNatClampNeg * 2 + 1)) (ifc (x2 = 2) (CNT (fun p9 => SEE (shf fnw 32) (fnw 0) (fnw 1) (fnw 2) p9 ∧ HB ((shf fnw 32) (p9 * 6 + 1)) x1) kq) (ifc (x2 = 3) (CNT (fun p9 => SEE (shf fnw 32) (fnw 0) (fnw 1) (fnw 2) p9 ∧ (shf fnw 32) (p9 * 6 + 0) = x1) kq) (ifc (x2 = 4) (CNT (fun s9 => (shf fnw 1424) (s9 * 8 + 0) = x1 ∧ CSQ (shf fnw 1424) (shf fnw 32) (fnw 0) (fnw 1) (fnw 2) s9) k8) ((-1))))))) (-1))
set_option maxHeartbeats 4000000 in
set_option maxRecDepth 100000 in
theorem r_personOf (l : Launch) (G : GG) (kp : Nat) (kq : Nat) (k8 : Nat) (h0 : Nat) (x1 : Int32) (x2 : Int32) (nw : Nat) (nk : Nat) (mhasKept : Int32) (nt : Nat) (mtaped : Int32) (nr : Nat) (mrowMany : Int32) (mroundOf : Int32) (mroundFrom : Int32) (nm : Nat) (mfromHour : Int32) (mtoHour : Int32) (ns : Nat) (mfrom : Int32) (mto : Int32) (msort : Int32) (misFault : Int32) (mdeep : Int32) (mcoded : Int32) (mlines : Int32) (nl : Nat) (nc : Nat) (nF : Nat) (np : Nat) (ntr : Nat) (nb : Nat) (mbestCost : Int32) (nso : Nat) (nsi : Nat) (nit : Nat) (nsh : Nat) (nsf : Nat) (nss : Nat) (nrc : Nat) (mtraced : Int32) (mdealer : Int32) (mnumber : Int32) (mwhose : Int32) (msize : Int32) (misParted : Int32) (fnw : Nat → Int32) (ekp : fnw 4 = nI kp) (hkp : kp ≤ 10) (ekq : fnw 5 = nI kq) (hkq : kq ≤ 12) (ek8 : fnw 8 = nI k8) (hk8 : k8 ≤ 16) (hN : NI fnw) : K_r_personOf l G kp kq k8 h0 x1 x2 nw nk mhasKept nt mtaped nr mrowMany mroundOf mroundFrom nm mfromHour mtoHour ns mfrom mto msort misFault mdeep mcoded mlines nl nc nF np ntr nb mbestCost nso nsi nit nsh nsf nss nrc mtraced mdealer mnumber mwhose msize misParted fnw := by
  refine MP.start (by decide +kernel) (Nat.le_of_ble_eq_true rfl) ?_
  intro p e s m below meth c ls hC hK hP hD hl
  refine absQ (fun Q0 hQ0 => ?_)
  have hl : lv_has ls 3 [(0, .ref h0), (1, .int x1), (2, .int x2)] := hl
  refine Kan8 hC (fun hx hb hr hml hB hown hlocks hnm => ?_)
  refine lv_aload_n hx hb dX12_personOf_0 rfl (lv_at0 hl) ?_
  refine lv_iload_n hx hb dX12_personOf_1 rfl (lv_at1 hl) ?_
  refine lv_iconst (v := 4) hx hb dX12_personOf_2 (by decide) ?_
  refine pV hC hK hl hP hD (m_is l G kp h0 x1 4 nw nk mhasKept nt mtaped nr mrowMany mroundOf mroundFrom 0 nm mfromHour mtoHour ns mfrom mto msort misFault mdeep mcoded mlines nl nc nF np ntr nb mbestCost nso nsi nit nsh nsf nss nrc mtraced mdealer mnumber mwhose msize misParted fnw (by omega) (ekp) (by omega)) si_X12_120 [0, 1] sm_0_1 fm_0_1 nd_0_1 rfl rfl rfl rfl rfl (Nat.le_of_ble_eq_true rfl) rm_6_2_3 ⟨by first | exact Nat.le_of_ble_eq_true rfl | exact Nat.zero_le _, by first | exact Nat.le_of_ble_eq_true rfl | exact Nat.zero_le _⟩ dX12_personOf_3 (Kors (Keqa fun a5558 => ?_) (Keqa fun a5558 => ?_))
  · refine lv_if_eq (tgt := 18) hx hb dX12_personOf_6 (by decide) (fun c9 => absurd c9 (by decide)) (fun _ => ?_)
    refine lv_iload_n hx hb dX12_personOf_9 rfl (lv_at2 hl) ?_
    refine lv_iconst (v := 0) hx hb dX12_personOf_10 (by decide) ?_
    refine lv_iconst (v := 4) hx hb dX12_personOf_11 (by decide) ?_
    refine pS hC hK hl (m_within l G x2 0 4) si_X12_84 rfl rfl (Nat.le_of_ble_eq_true rfl) rm_6_1_3 ⟨by first | exact Nat.le_of_ble_eq_true rfl | exact Nat.zero_le _, by first | exact Nat.le_of_ble_eq_true rfl | exact Nat.zero_le _⟩ dX12_personOf_12 (Kors (Keqa fun a5560 => ?_) (Keqa fun a5560 => ?_))
    · refine lv_if_ne (tgt := 20) hx hb dX12_personOf_15 (by decide) (fun _ => ?_) (fun c9 => absurd c9 (by decide))
      obtain ⟨je, hje, rfl⟩ := Hs_nat (by omega) a5558
      obtain ⟨jw, hjw, rfl⟩ := Wi_nat (N := 4) (by decide) a5560
      rcases (show jw = 0 ∨ jw = 1 ∨ jw = 2 ∨ jw = 3 ∨ jw = 4 by omega) with rfl | rfl | rfl | rfl | rfl
      · refine lv_iload_n hx hb dX12_personOf_20 rfl (lv_at2 hl) ?_
        refine lv_iconst (v := 2) hx hb dX12_personOf_21 (by decide) ?_
        refine lv_icmp_ge (tgt := 41) hx hb dX12_personOf_22 (by decide) (fun c9 => absurd c9 (by decide)) (fun _ => ?_)
        refine lv_aload_n hx hb dX12_personOf_25 rfl (lv_at0 hl) ?_
        refine gf_X12_9 hC rfl hK hP 0 rfl rfl dX12_personOf_26 ?_
        refine lv_bipush (v := 12) hx hb dX12_personOf_29 (by decide) ?_
        refine lv_iconst (v := 2) hx hb dX12_personOf_31 (by decide) ?_
        refine lv_iload_n hx hb dX12_personOf_32 rfl (lv_at1 hl) ?_
        refine lv_imul hx hb dX12_personOf_33 ?_
        refine eqi (x1 := nI (2 * je)) (nI_mul 2 je) ?_
        refine lv_iadd hx hb dX12_personOf_34 ?_
        refine eqi (x1 := nI (12 + 2 * je)) (nI_add 12 (2 * je)) ?_
        refine lv_iload_n hx hb dX12_personOf_35 rfl (lv_at2 hl) ?_
        refine lv_iadd hx hb dX12_personOf_36 ?_
        refine eqi (x1 := nI (12 + 2 * je + 0)) (nI_add (12 + 2 * je) 0) ?_
        refine aldN hC hK hP 1 rfl (k := (12 + 2 * je + 0)) (by omega) (Nat.le_of_ble_eq_true rfl) (v := fnw (12 + 2 * je + 0)) rfl dX12_personOf_37 ?_
        refine lv_goto (tgt := 69) hx hb dX12_personOf_38 (by decide) ?_
        exact toQ hQ0 (RP (v := fnw (12 + 2 * je + 0)) hC ((by rw [show fnw (12 + 2 * je + 0) = shf fnw 12 (je * 2 + 0) from congrArg fnw (by omega)]; first | rfl | (simp only [nI_clamp (n := je) (by omega), ifc_t ekp, ifc_t hkp, ifc_t ekq, ifc_t hkq, ifc_t ek8, ifc_t hk8, ifc_t hN, ifc_t a5558, ifc_t a5560, ifc_t (q := nI 0 = 0) rfl, ifc_f (q := nI 0 = 1) (by decide), ifc_f (q := nI 0 = 2) (by decide), ifc_f (q := nI 0 = 3) (by decide), ifc_f (q := nI 0 = 4) (by decide), ifc_f (q := nI 0 = 5) (by decide), ifc_f (q := nI 0 = 6) (by decide)]; done) | (simp only [nI_clamp (n := je) (by omega), ifc_t ekp, ifc_t hkp, ifc_t ekq, ifc_t hkq, ifc_t ek8, ifc_t hk8, ifc_t hN, ifc_t a5558, ifc_t a5560, ifc_t (q := nI 0 = 0) rfl, ifc_f (q := nI 0 = 1) (by decide), ifc_f (q := nI 0 = 2) (by decide), ifc_f (q := nI 0 = 3) (by decide), ifc_f (q := nI 0 = 4) (by decide), ifc_f (q := nI 0 = 5) (by decide), ifc_f (q := nI 0 = 6) (by decide)]; rfl))) rfl dX12_personOf_69)
      · refine lv_iload_n hx hb dX12_personOf_20 rfl (lv_at2 hl) ?_
        refine lv_iconst (v := 2) hx hb dX12_personOf_21 (by decide) ?_
        refine lv_icmp_ge (tgt := 41) hx hb dX12_personOf_22 (by decide) (fun c9 => absurd c9 (by decide)) (fun _ => ?_)
        refine lv_aload_n hx hb dX12_personOf_25 rfl (lv_at0 hl) ?_
        refine gf_X12_9 hC rfl hK hP 0 rfl rfl dX12_personOf_26 ?_
        refine lv_bipush (v := 12) hx hb dX12_personOf_29 (by decide) ?_
        refine lv_iconst (v := 2) hx hb dX12_personOf_31 (by decide) ?_
        refine lv_iload_n hx hb dX12_personOf_32 rfl (lv_at1 hl) ?_
        refine lv_imul hx hb dX12_personOf_33 ?_
        refine eqi (x1 := nI (2 * je)) (nI_mul 2 je) ?_
        refine lv_iadd hx hb dX12_personOf_34 ?_
        refine eqi (x1 := nI (12 + 2 * je)) (nI_add 12 (2 * je)) ?_
        refine lv_iload_n hx hb dX12_personOf_35 rfl (lv_at2 hl) ?_
        refine lv_iadd hx hb dX12_personOf_36 ?_
        refine eqi (x1 := nI (12 + 2 * je + 1)) (nI_add (12 + 2 * je) 1) ?_
        refine aldN hC hK hP 1 rfl (k := (12 + 2 * je + 1)) (by omega) (Nat.le_of_ble_eq_true rfl) (v := fnw (12 + 2 * je + 1)) rfl dX12_personOf_37 ?_
        refine lv_goto (tgt := 69) hx hb dX12_personOf_38 (by decide) ?_
        exact toQ hQ0 (RP (v := fnw (12 + 2 * je + 1)) hC ((by rw [show fnw (12 + 2 * je + 1) = shf fnw 12 (je * 2 + 1) from congrArg fnw (by omega)]; first | rfl | (simp only [nI_clamp (n := je) (by omega), ifc_t ekp, ifc_t hkp, ifc_t ekq, ifc_t hkq, ifc_t ek8, ifc_t hk8, ifc_t hN, ifc_t a5558, ifc_t a5560, ifc_f (q := nI 1 = 0) (by decide), ifc_t (q := nI 1 = 1) rfl, ifc_f (q := nI 1 = 2) (by decide), ifc_f (q := nI 1 = 3) (by decide), ifc_f (q := nI 1 = 4) (by decide), ifc_f (q := nI 1 = 5) (by decide), ifc_f (q := nI 1 = 6) (by decide)]; done) | (simp only [nI_clamp (n := je) (by omega), ifc_t ekp, ifc_t hkp, ifc_t ekq, ifc_t hkq, ifc_t ek8, ifc_t hk8, ifc_t hN, ifc_t a5558, ifc_t a5560, ifc_f (q := nI 1 = 0) (by decide), ifc_t (q := nI 1 = 1) rfl, ifc_f (q := nI 1 = 2) (by decide), ifc_f (q := nI 1 = 3) (by decide), ifc_f (q := nI 1 = 4) (by decide), ifc_f (q := nI 1 = 5) (by decide), ifc_f (q := nI 1 = 6) (by decide)]; rfl))) rfl dX12_personOf_69)
      · refine lv_iload_n hx hb dX12_personOf_20 rfl (lv_at2 hl) ?_
        refine lv_iconst (v := 2) hx hb dX12_personOf_21 (by decide) ?_
        refine lv_icmp_ge (tgt := 41) hx hb dX12_personOf_22 (by decide) (fun _ => ?_) (fun c9 => absurd (by decide) c9)
        refine lv_iload_n hx hb dX12_personOf_41 rfl (lv_at2 hl) ?_
        refine lv_iconst (v := 4) hx hb dX12_personOf_42 (by decide) ?_
        refine lv_icmp_ge (tgt := 64) hx hb dX12_personOf_43 (by decide) (fun c9 => absurd c9 (by decide)) (fun _ => ?_)
        refine lv_aload_n hx hb dX12_personOf_46 rfl (lv_at0 hl) ?_
        refine lv_iload_n hx hb dX12_personOf_47 rfl (lv_at1 hl) ?_
        refine lv_iload_n hx hb dX12_personOf_48 rfl (lv_at2 hl) ?_
        refine lv_iconst (v := 3) hx hb dX12_personOf_49 (by decide) ?_
        refine lv_icmp_ne (tgt := 57) hx hb dX12_personOf_50 (by decide) (fun _ => ?_) (fun c9 => absurd c9 (by decide))
        refine lv_iconst (v := 0) hx hb dX12_personOf_57 (by decide) ?_
        refine pV hC hK hl hP hD (m_papersToX l G kq h0 je nw nk mhasKept nt mtaped nr mrowMany mroundOf mroundFrom nm mfromHour mtoHour ns mfrom mto msort misFault mdeep mcoded mlines nl nc nF np ntr nb mbestCost nso nsi nit nsh nsf nss nrc mtraced mdealer mnumber mwhose msize misParted fnw (ekq) (hkq) (by omega)) si_X12_123 [0, 1] sm_0_1 fm_0_1 nd_0_1 rfl rfl rfl rfl rfl (Nat.le_of_ble_eq_true rfl) rm_6_4_5 ⟨by first | exact Nat.le_of_ble_eq_true rfl | exact Nat.zero_le _, by first | exact Nat.le_of_ble_eq_true rfl | exact Nat.zero_le _⟩ dX12_personOf_58 (Keqr ?_)
        refine lv_goto (tgt := 69) hx hb dX12_personOf_61 (by decide) ?_
        exact toQ hQ0 (RP (v := (CNT (fun p9 => SEE (shf fnw 32) (fnw 0) (fnw 1) (fnw 2) p9 ∧ HB (shf fnw 32 (p9 * 6 + 1)) (nI je)) kq)) hC ((by first | rfl | (simp only [nI_clamp (n := je) (by omega), ifc_t ekp, ifc_t hkp, ifc_t ekq, ifc_t hkq, ifc_t ek8, ifc_t hk8, ifc_t hN, ifc_t a5558, ifc_t a5560, ifc_f (q := nI 2 = 0) (by decide), ifc_f (q := nI 2 = 1) (by decide), ifc_t (q := nI 2 = 2) rfl, ifc_f (q := nI 2 = 3) (by decide), ifc_f (q := nI 2 = 4) (by decide), ifc_f (q := nI 2 = 5) (by decide), ifc_f (q := nI 2 = 6) (by decide)]; done) | (simp only [nI_clamp (n := je) (by omega), ifc_t ekp, ifc_t hkp, ifc_t ekq, ifc_t hkq, ifc_t ek8, ifc_t hk8, ifc_t hN, ifc_t a5558, ifc_t a5560, ifc_f (q := nI 2 = 0) (by decide), ifc_f (q := nI 2 = 1) (by decide), ifc_t (q := nI 2 = 2) rfl, ifc_f (q := nI 2 = 3) (by decide), ifc_f (q := nI 2 = 4) (by decide), ifc_f (q := nI 2 = 5) (by decide), ifc_f (q := nI 2 = 6) (by decide)]; rfl))) rfl dX12_personOf_69)
      · refine lv_iload_n hx hb dX12_personOf_20 rfl (lv_at2 hl) ?_
        refine lv_iconst (v := 2) hx hb dX12_personOf_21 (by decide) ?_
        refine lv_icmp_ge (tgt := 41) hx hb dX12_personOf_22 (by decide) (fun _ => ?_) (fun c9 => absurd (by decide) c9)
        refine lv_iload_n hx hb dX12_personOf_41 rfl (lv_at2 hl) ?_
        refine lv_iconst (v := 4) hx hb dX12_personOf_42 (by decide) ?_
        refine lv_icmp_ge (tgt := 64) hx hb dX12_personOf_43 (by decide) (fun c9 => absurd c9 (by decide)) (fun _ => ?_)
        refine lv_aload_n hx hb dX12_personOf_46 rfl (lv_at0 hl) ?_
        refine lv_iload_n hx hb dX12_personOf_47 rfl (lv_at1 hl) ?_
        refine lv_iload_n hx hb dX12_personOf_48 rfl (lv_at2 hl) ?_
        refine lv_iconst (v := 3) hx hb dX12_personOf_49 (by decide) ?_
        refine lv_icmp_ne (tgt := 57) hx hb dX12_personOf_50 (by decide) (fun c9 => absurd (by decide) c9) (fun _ => ?_)
        refine lv_iconst (v := 1) hx hb dX12_personOf_53 (by decide) ?_
        refine lv_goto (tgt := 58) hx hb dX12_personOf_54 (by decide) ?_
        refine pV hC hK hl hP hD (m_papersByX l G kq h0 je nw nk mhasKept nt mtaped nr mrowMany mroundOf mroundFrom nm mfromHour mtoHour ns mfrom mto msort misFault mdeep mcoded mlines nl nc nF np ntr nb mbestCost nso nsi nit nsh nsf nss nrc mtraced mdealer mnumber mwhose msize misParted fnw (ekq) (hkq) (by omega)) si_X12_123 [0, 1] sm_0_1 fm_0_1 nd_0_1 rfl rfl rfl rfl rfl (Nat.le_of_ble_eq_true rfl) rm_6_4_5 ⟨by first | exact Nat.le_of_ble_eq_true rfl | exact Nat.zero_le _, by first | exact Nat.le_of_ble_eq_true rfl | exact Nat.zero_le _⟩ dX12_personOf_58 (Keqr ?_)
        refine lv_goto (tgt := 69) hx hb dX12_personOf_61 (by decide) ?_
        exact toQ hQ0 (RP (v := (CNT (fun p9 => SEE (shf fnw 32) (fnw 0) (fnw 1) (fnw 2) p9 ∧ shf fnw 32 (p9 * 6 + 0) = (nI je)) kq)) hC ((by first | rfl | (simp only [nI_clamp (n := je) (by omega), ifc_t ekp, ifc_t hkp, ifc_t ekq, ifc_t hkq, ifc_t ek8, ifc_t hk8, ifc_t hN, ifc_t a5558, ifc_t a5560, ifc_f (q := nI 3 = 0) (by decide), ifc_f (q := nI 3 = 1) (by decide), ifc_f (q := nI 3 = 2) (by decide), ifc_t (q := nI 3 = 3) rfl, ifc_f (q := nI 3 = 4) (by decide), ifc_f (q := nI 3 = 5) (by decide), ifc_f (q := nI 3 = 6) (by decide)]; done) | (simp only [nI_clamp (n := je) (by omega), ifc_t ekp, ifc_t hkp, ifc_t ekq, ifc_t hkq, ifc_t ek8, ifc_t hk8, ifc_t hN, ifc_t a5558, ifc_t a5560, ifc_f (q := nI 3 = 0) (by decide), ifc_f (q := nI 3 = 1) (by decide), ifc_f (q := nI 3 = 2) (by decide), ifc_t (q := nI 3 = 3) rfl, ifc_f (q := nI 3 = 4) (by decide), ifc_f (q := nI 3 = 5) (by decide), ifc_f (q := nI 3 = 6) (by decide)]; rfl))) rfl dX12_personOf_69)
      · refine lv_iload_n hx hb dX12_personOf_20 rfl (lv_at2 hl) ?_
        refine lv_iconst (v := 2) hx hb dX12_personOf_21 (by decide) ?_
        refine lv_icmp_ge (tgt := 41) hx hb dX12_personOf_22 (by decide) (fun _ => ?_) (fun c9 => absurd (by decide) c9)
        refine lv_iload_n hx hb dX12_personOf_41 rfl (lv_at2 hl) ?_
        refine lv_iconst (v := 4) hx hb dX12_personOf_42 (by decide) ?_
        refine lv_icmp_ge (tgt := 64) hx hb dX12_personOf_43 (by decide) (fun _ => ?_) (fun c9 => absurd (by decide) c9)
        refine lv_aload_n hx hb dX12_personOf_64 rfl (lv_at0 hl) ?_
        refine lv_iload_n hx hb dX12_personOf_65 rfl (lv_at1 hl) ?_
        refine pV hC hK hl hP hD (m_saidByX l G k8 h0 je nw nk mhasKept nt mtaped nr mrowMany mroundOf mroundFrom nm mfromHour mtoHour ns mfrom mto msort misFault mdeep mcoded mlines nl nc nF np ntr nb mbestCost nso nsi nit nsh nsf nss nrc mtraced mdealer mnumber mwhose msize misParted fnw (ek8) (hk8) (by omega) (hN)) si_X12_127 [0, 1] sm_0_1 fm_0_1 nd_0_1 rfl rfl rfl rfl rfl (Nat.le_of_ble_eq_true rfl) rm_6_5_4 ⟨by first | exact Nat.le_of_ble_eq_true rfl | exact Nat.zero_le _, by first | exact Nat.le_of_ble_eq_true rfl | exact Nat.zero_le _⟩ dX12_personOf_66 (Keqr ?_)
        exact toQ hQ0 (RP (v := (CNT (fun s9 => shf fnw 1424 (s9 * 8 + 0) = (nI je) ∧ CSQ (shf fnw 1424) (shf fnw 32) (fnw 0) (fnw 1) (fnw 2) s9) k8)) hC ((by first | rfl | (simp only [nI_clamp (n := je) (by omega), ifc_t ekp, ifc_t hkp, ifc_t ekq, ifc_t hkq, ifc_t ek8, ifc_t hk8, ifc_t hN, ifc_t a5558, ifc_t a5560, ifc_f (q := nI 4 = 0) (by decide), ifc_f (q := nI 4 = 1) (by decide), ifc_f (q := nI 4 = 2) (by decide), ifc_f (q := nI 4 = 3) (by decide), ifc_t (q := nI 4 = 4) rfl, ifc_f (q := nI 4 = 5) (by decide), ifc_f (q := nI 4 = 6) (by decide)]; done) | (simp only [nI_clamp (n := je) (by omega), ifc_t ekp, ifc_t hkp, ifc_t ekq, ifc_t hkq, ifc_t ek8, ifc_t hk8, ifc_t hN, ifc_t a5558, ifc_t a5560, ifc_f (q := nI 4 = 0) (by decide), ifc_f (q := nI 4 = 1) (by decide), ifc_f (q := nI 4 = 2) (by decide), ifc_f (q := nI 4 = 3) (by decide), ifc_t (q := nI 4 = 4) rfl, ifc_f (q := nI 4 = 5) (by decide), ifc_f (q := nI 4 = 6) (by decide)]; rfl))) rfl dX12_personOf_69)
    · refine lv_if_ne (tgt := 20) hx hb dX12_personOf_15 (by decide) (fun c9 => absurd (by decide) c9) (fun _ => ?_)
      refine lv_iconst (v := (-1)) hx hb dX12_personOf_18 (by decide) ?_
      exact toQ hQ0 (RP (v := (-1)) hC ((by first | rfl | (simp only [ifc_t ekp, ifc_t hkp, ifc_t ekq, ifc_t hkq, ifc_t ek8, ifc_t hk8, ifc_t hN, ifc_t a5558, ifc_f a5560, ifc_f (q := x2 = 0) (fun h9 => a5560 (by rw [h9]; unfold Wi; decide)), ifc_f (q := x2 = 1) (fun h9 => a5560 (by rw [h9]; unfold Wi; decide)), ifc_f (q := x2 = 2) (fun h9 => a5560 (by rw [h9]; unfold Wi; decide)), ifc_f (q := x2 = 3) (fun h9 => a5560 (by rw [h9]; unfold Wi; decide)), ifc_f (q := x2 = 4) (fun h9 => a5560 (by rw [h9]; unfold Wi; decide))]; done) | (simp only [ifc_t ekp, ifc_t hkp, ifc_t ekq, ifc_t hkq, ifc_t ek8, ifc_t hk8, ifc_t hN, ifc_t a5558, ifc_f a5560, ifc_f (q := x2 = 0) (fun h9 => a5560 (by rw [h9]; unfold Wi; decide)), ifc_f (q := x2 = 1) (fun h9 => a5560 (by rw [h9]; unfold Wi; decide)), ifc_f (q := x2 = 2) (fun h9 => a5560 (by rw [h9]; unfold Wi; decide)), ifc_f (q := x2 = 3) (fun h9 => a5560 (by rw [h9]; unfold Wi; decide)), ifc_f (q := x2 = 4) (fun h9 => a5560 (by rw [h9]; unfold Wi; decide))]; rfl))) rfl dX12_personOf_19)
  · refine lv_if_eq (tgt := 18) hx hb dX12_personOf_6 (by decide) (fun _ => ?_) (fun c9 => absurd (by decide) c9)
    refine lv_iconst (v := (-1)) hx hb dX12_personOf_18 (by decide) ?_
    exact toQ hQ0 (RP (v := (-1)) hC ((by first | rfl | (simp only [ifc_t ekp, ifc_t hkp, ifc_t ekq, ifc_t hkq, ifc_t ek8, ifc_t hk8, ifc_t hN, ifc_f a5558]; done) | (simp only [ifc_t ekp, ifc_t hkp, ifc_t ekq, ifc_t hkq, ifc_t ek8, ifc_t hk8, ifc_t hN, ifc_f a5558]; rfl))) rfl dX12_personOf_19)
def K_r_paperOf (l : Launch) (G : GG) (kq : Nat) (k6 : Nat) (h0 : Nat) (x1 : Int32) (x2 : Int32) (nw : Nat) (nk : Nat) (mhasKept : Int32) (nt : Nat) (mtaped : Int32) (nr : Nat) (mrowMany : Int32) (mroundOf : Int32) (mroundFrom : Int32) (nm : Nat) (mfromHour : Int32) (mtoHour : Int32) (ns : Nat) (mfrom : Int32) (mto : Int32) (msort : Int32) (misFault : Int32) (mdeep : Int32) (mcoded : Int32) (mlines : Int32) (nl : Nat) (nc : Nat) (nF : Nat) (np : Nat) (ntr : Nat) (nb : Nat) (mbestCost : Int32) (nso : Nat) (nsi : Nat) (nit : Nat) (nsh : Nat) (nsf : Nat) (nss : Nat) (nrc : Nat) (mtraced : Int32) (mdealer : Int32) (mnumber : Int32) (mwhose : Int32) (msize : Int32) (misParted : Int32) (fnw : Nat → Int32) : Prop := MP l G yX12_paperOf cX12_paperOf 3 (some .int) 3 [.ref h0, .int x1, .int x2] [(h0, oX12 nw nk mhasKept nt mtaped nr mrowMany mroundOf mroundFrom 0 nm mfromHour mtoHour ns mfrom mto msort misFault mdeep mcoded mlines nl nc nF np ntr nb mbestCost nso nsi nit nsh nsf nss nrc mtraced mdealer mnumber mwhose msize misParted), (nw, iA G 1662 fnw)] (fun r : Int32 => r = ifc (Hs x1 kq) (ifc (x2 = 0) ((shf fnw 32) (x1.toNatClampNeg * 6 + 0)) (ifc (x2 = 1) ((shf fnw 32) (x1.toNatClampNeg * 6 + 1)) (ifc (x2 = 2) ((shf fnw 32) (x1.toNatClampNeg * 6 + 2)) (ifc (x2 = 3) ((shf fnw 32) (x1.toNatClampNeg * 6 + 3)) (ifc (x2 = 4) ((shf fnw 32) (x1.toNatClampNeg * 6 + 4)) (ifc (x2 = 5) (CNT (fun s9 => (shf fnw 104) (s9 * 3 + 0) = x1) k6) (ifc (x2 = 6) (ifc (SEE (shf fnw 32) (fnw 0) (fnw 1) (fnw 2) x1.toNatClampNeg) 1 0) ((-1))))))))) (-1))
set_option maxHeartbeats 4000000 in
set_option maxRecDepth 100000 in
theorem r_paperOf (l : Launch) (G : GG) (kq : Nat) (k6 : Nat) (h0 : Nat) (x1 : Int32) (x2 : Int32) (nw : Nat) (nk : Nat) (mhasKept : Int32) (nt : Nat) (mtaped : Int32) (nr : Nat) (mrowMany : Int32) (mroundOf : Int32) (mroundFrom : Int32) (nm : Nat) (mfromHour : Int32) (mtoHour : Int32) (ns : Nat) (mfrom : Int32) (mto : Int32) (msort : Int32) (misFault : Int32) (mdeep : Int32) (mcoded : Int32) (mlines : Int32) (nl : Nat) (nc : Nat) (nF : Nat) (np : Nat) (ntr : Nat) (nb : Nat) (mbestCost : Int32) (nso : Nat) (nsi : Nat) (nit : Nat) (nsh : Nat) (nsf : Nat) (nss : Nat) (nrc : Nat) (mtraced : Int32) (mdealer : Int32) (mnumber : Int32) (mwhose : Int32) (msize : Int32) (misParted : Int32) (fnw : Nat → Int32) (ekq : fnw 5 = nI kq) (hkq : kq ≤ 12) (ek6 : fnw 6 = nI k6) (hk6 : k6 ≤ 24) (hN : NI fnw) : K_r_paperOf l G kq k6 h0 x1 x2 nw nk mhasKept nt mtaped nr mrowMany mroundOf mroundFrom nm mfromHour mtoHour ns mfrom mto msort misFault mdeep mcoded mlines nl nc nF np ntr nb mbestCost nso nsi nit nsh nsf nss nrc mtraced mdealer mnumber mwhose msize misParted fnw := by
  refine MP.start (by decide +kernel) (Nat.le_of_ble_eq_true rfl) ?_
  intro p e s m below meth c ls hC hK hP hD hl
  refine absQ (fun Q0 hQ0 => ?_)
  have hl : lv_has ls 3 [(0, .ref h0), (1, .int x1), (2, .int x2)] := hl
  refine Kan8 hC (fun hx hb hr hml hB hown hlocks hnm => ?_)
  refine lv_aload_n hx hb dX12_paperOf_0 rfl (lv_at0 hl) ?_
  refine lv_iload_n hx hb dX12_paperOf_1 rfl (lv_at1 hl) ?_
  refine lv_iconst (v := 5) hx hb dX12_paperOf_2 (by decide) ?_
  refine pV hC hK hl hP hD (m_is l G kq h0 x1 5 nw nk mhasKept nt mtaped nr mrowMany mroundOf mroundFrom 0 nm mfromHour mtoHour ns mfrom mto msort misFault mdeep mcoded mlines nl nc nF np ntr nb mbestCost nso nsi nit nsh nsf nss nrc mtraced mdealer mnumber mwhose msize misParted fnw (by omega) (ekq) (by omega)) si_X12_120 [0, 1] sm_0_1 fm_0_1 nd_0_1 rfl rfl rfl rfl rfl (Nat.le_of_ble_eq_true rfl) rm_3_2_3 ⟨by first | exact Nat.le_of_ble_eq_true rfl | exact Nat.zero_le _, by first | exact Nat.le_of_ble_eq_true rfl | exact Nat.zero_le _⟩ dX12_paperOf_3 (Kors (Keqa fun a5568 => ?_) (Keqa fun a5568 => ?_))
  · refine lv_if_eq (tgt := 19) hx hb dX12_paperOf_6 (by decide) (fun c9 => absurd c9 (by decide)) (fun _ => ?_)
    refine lv_iload_n hx hb dX12_paperOf_9 rfl (lv_at2 hl) ?_
    refine lv_iconst (v := 0) hx hb dX12_paperOf_10 (by decide) ?_
    refine lv_bipush (v := 6) hx hb dX12_paperOf_11 (by decide) ?_
    refine pS hC hK hl (m_within l G x2 0 6) si_X12_84 rfl rfl (Nat.le_of_ble_eq_true rfl) rm_3_1_3 ⟨by first | exact Nat.le_of_ble_eq_true rfl | exact Nat.zero_le _, by first | exact Nat.le_of_ble_eq_true rfl | exact Nat.zero_le _⟩ dX12_paperOf_13 (Kors (Keqa fun a5570 => ?_) (Keqa fun a5570 => ?_))
    · refine lv_if_ne (tgt := 21) hx hb dX12_paperOf_16 (by decide) (fun _ => ?_) (fun c9 => absurd c9 (by decide))
      obtain ⟨jp, hjp, rfl⟩ := Hs_nat (by omega) a5568
      obtain ⟨jw, hjw, rfl⟩ := Wi_nat (N := 6) (by decide) a5570
      rcases (show jw = 0 ∨ jw = 1 ∨ jw = 2 ∨ jw = 3 ∨ jw = 4 ∨ jw = 5 ∨ jw = 6 by omega) with rfl | rfl | rfl | rfl | rfl | rfl | rfl
      · refine lv_iload_n hx hb dX12_paperOf_21 rfl (lv_at2 hl) ?_
        refine lv_iconst (v := 5) hx hb dX12_paperOf_22 (by decide) ?_
        refine lv_icmp_ge (tgt := 35) hx hb dX12_paperOf_23 (by decide) (fun c9 => absurd c9 (by decide)) (fun _ => ?_)
        refine lv_aload_n hx hb dX12_paperOf_26 rfl (lv_at0 hl) ?_
        refine lv_iload_n hx hb dX12_paperOf_27 rfl (lv_at1 hl) ?_
        refine lv_iload_n hx hb dX12_paperOf_28 rfl (lv_at2 hl) ?_
        refine pV hC hK hl hP hD (m_paper l G h0 jp 0 nw nk mhasKept nt mtaped nr mrowMany mroundOf mroundFrom 0 nm mfromHour mtoHour ns mfrom mto msort misFault mdeep mcoded mlines nl nc nF np ntr nb mbestCost nso nsi nit nsh nsf nss nrc mtraced mdealer mnumber mwhose msize misParted fnw (by omega) (by omega)) si_X12_88 [0, 1] sm_0_1 fm_0_1 nd_0_1 rfl rfl rfl rfl rfl (Nat.le_of_ble_eq_true rfl) rm_3_1_3 ⟨by first | exact Nat.le_of_ble_eq_true rfl | exact Nat.zero_le _, by first | exact Nat.le_of_ble_eq_true rfl | exact Nat.zero_le _⟩ dX12_paperOf_29 (Keqr ?_)
        refine lv_goto (tgt := 61) hx hb dX12_paperOf_32 (by decide) ?_
        exact toQ hQ0 (RP (v := fnw (32 + 6 * jp + 0)) hC ((by rw [show fnw (32 + 6 * jp + 0) = shf fnw 32 (jp * 6 + 0) from congrArg fnw (by omega)]; first | rfl | (simp only [nI_clamp (n := jp) (by omega), ifc_t ekq, ifc_t hkq, ifc_t ek6, ifc_t hk6, ifc_t hN, ifc_t a5568, ifc_t a5570, ifc_t (q := nI 0 = 0) rfl, ifc_f (q := nI 0 = 1) (by decide), ifc_f (q := nI 0 = 2) (by decide), ifc_f (q := nI 0 = 3) (by decide), ifc_f (q := nI 0 = 4) (by decide), ifc_f (q := nI 0 = 5) (by decide), ifc_f (q := nI 0 = 6) (by decide)]; done) | (simp only [nI_clamp (n := jp) (by omega), ifc_t ekq, ifc_t hkq, ifc_t ek6, ifc_t hk6, ifc_t hN, ifc_t a5568, ifc_t a5570, ifc_t (q := nI 0 = 0) rfl, ifc_f (q := nI 0 = 1) (by decide), ifc_f (q := nI 0 = 2) (by decide), ifc_f (q := nI 0 = 3) (by decide), ifc_f (q := nI 0 = 4) (by decide), ifc_f (q := nI 0 = 5) (by decide), ifc_f (q := nI 0 = 6) (by decide)]; rfl))) rfl dX12_paperOf_61)
      · refine lv_iload_n hx hb dX12_paperOf_21 rfl (lv_at2 hl) ?_
        refine lv_iconst (v := 5) hx hb dX12_paperOf_22 (by decide) ?_
        refine lv_icmp_ge (tgt := 35) hx hb dX12_paperOf_23 (by decide) (fun c9 => absurd c9 (by decide)) (fun _ => ?_)
        refine lv_aload_n hx hb dX12_paperOf_26 rfl (lv_at0 hl) ?_
        refine lv_iload_n hx hb dX12_paperOf_27 rfl (lv_at1 hl) ?_
        refine lv_iload_n hx hb dX12_paperOf_28 rfl (lv_at2 hl) ?_
        refine pV hC hK hl hP hD (m_paper l G h0 jp 1 nw nk mhasKept nt mtaped nr mrowMany mroundOf mroundFrom 0 nm mfromHour mtoHour ns mfrom mto msort misFault mdeep mcoded mlines nl nc nF np ntr nb mbestCost nso nsi nit nsh nsf nss nrc mtraced mdealer mnumber mwhose msize misParted fnw (by omega) (by omega)) si_X12_88 [0, 1] sm_0_1 fm_0_1 nd_0_1 rfl rfl rfl rfl rfl (Nat.le_of_ble_eq_true rfl) rm_3_1_3 ⟨by first | exact Nat.le_of_ble_eq_true rfl | exact Nat.zero_le _, by first | exact Nat.le_of_ble_eq_true rfl | exact Nat.zero_le _⟩ dX12_paperOf_29 (Keqr ?_)
        refine lv_goto (tgt := 61) hx hb dX12_paperOf_32 (by decide) ?_
        exact toQ hQ0 (RP (v := fnw (32 + 6 * jp + 1)) hC ((by rw [show fnw (32 + 6 * jp + 1) = shf fnw 32 (jp * 6 + 1) from congrArg fnw (by omega)]; first | rfl | (simp only [nI_clamp (n := jp) (by omega), ifc_t ekq, ifc_t hkq, ifc_t ek6, ifc_t hk6, ifc_t hN, ifc_t a5568, ifc_t a5570, ifc_f (q := nI 1 = 0) (by decide), ifc_t (q := nI 1 = 1) rfl, ifc_f (q := nI 1 = 2) (by decide), ifc_f (q := nI 1 = 3) (by decide), ifc_f (q := nI 1 = 4) (by decide), ifc_f (q := nI 1 = 5) (by decide), ifc_f (q := nI 1 = 6) (by decide)]; done) | (simp only [nI_clamp (n := jp) (by omega), ifc_t ekq, ifc_t hkq, ifc_t ek6, ifc_t hk6, ifc_t hN, ifc_t a5568, ifc_t a5570, ifc_f (q := nI 1 = 0) (by decide), ifc_t (q := nI 1 = 1) rfl, ifc_f (q := nI 1 = 2) (by decide), ifc_f (q := nI 1 = 3) (by decide), ifc_f (q := nI 1 = 4) (by decide), ifc_f (q := nI 1 = 5) (by decide), ifc_f (q := nI 1 = 6) (by decide)]; rfl))) rfl dX12_paperOf_61)
      · refine lv_iload_n hx hb dX12_paperOf_21 rfl (lv_at2 hl) ?_
        refine lv_iconst (v := 5) hx hb dX12_paperOf_22 (by decide) ?_
        refine lv_icmp_ge (tgt := 35) hx hb dX12_paperOf_23 (by decide) (fun c9 => absurd c9 (by decide)) (fun _ => ?_)
        refine lv_aload_n hx hb dX12_paperOf_26 rfl (lv_at0 hl) ?_
        refine lv_iload_n hx hb dX12_paperOf_27 rfl (lv_at1 hl) ?_
        refine lv_iload_n hx hb dX12_paperOf_28 rfl (lv_at2 hl) ?_
        refine pV hC hK hl hP hD (m_paper l G h0 jp 2 nw nk mhasKept nt mtaped nr mrowMany mroundOf mroundFrom 0 nm mfromHour mtoHour ns mfrom mto msort misFault mdeep mcoded mlines nl nc nF np ntr nb mbestCost nso nsi nit nsh nsf nss nrc mtraced mdealer mnumber mwhose msize misParted fnw (by omega) (by omega)) si_X12_88 [0, 1] sm_0_1 fm_0_1 nd_0_1 rfl rfl rfl rfl rfl (Nat.le_of_ble_eq_true rfl) rm_3_1_3 ⟨by first | exact Nat.le_of_ble_eq_true rfl | exact Nat.zero_le _, by first | exact Nat.le_of_ble_eq_true rfl | exact Nat.zero_le _⟩ dX12_paperOf_29 (Keqr ?_)
        refine lv_goto (tgt := 61) hx hb dX12_paperOf_32 (by decide) ?_
        exact toQ hQ0 (RP (v := fnw (32 + 6 * jp + 2)) hC ((by rw [show fnw (32 + 6 * jp + 2) = shf fnw 32 (jp * 6 + 2) from congrArg fnw (by omega)]; first | rfl | (simp only [nI_clamp (n := jp) (by omega), ifc_t ekq, ifc_t hkq, ifc_t ek6, ifc_t hk6, ifc_t hN, ifc_t a5568, ifc_t a5570, ifc_f (q := nI 2 = 0) (by decide), ifc_f (q := nI 2 = 1) (by decide), ifc_t (q := nI 2 = 2) rfl, ifc_f (q := nI 2 = 3) (by decide), ifc_f (q := nI 2 = 4) (by decide), ifc_f (q := nI 2 = 5) (by decide), ifc_f (q := nI 2 = 6) (by decide)]; done) | (simp only [nI_clamp (n := jp) (by omega), ifc_t ekq, ifc_t hkq, ifc_t ek6, ifc_t hk6, ifc_t hN, ifc_t a5568, ifc_t a5570, ifc_f (q := nI 2 = 0) (by decide), ifc_f (q := nI 2 = 1) (by decide), ifc_t (q := nI 2 = 2) rfl, ifc_f (q := nI 2 = 3) (by decide), ifc_f (q := nI 2 = 4) (by decide), ifc_f (q := nI 2 = 5) (by decide), ifc_f (q := nI 2 = 6) (by decide)]; rfl))) rfl dX12_paperOf_61)
      · refine lv_iload_n hx hb dX12_paperOf_21 rfl (lv_at2 hl) ?_
        refine lv_iconst (v := 5) hx hb dX12_paperOf_22 (by decide) ?_
        refine lv_icmp_ge (tgt := 35) hx hb dX12_paperOf_23 (by decide) (fun c9 => absurd c9 (by decide)) (fun _ => ?_)
        refine lv_aload_n hx hb dX12_paperOf_26 rfl (lv_at0 hl) ?_
        refine lv_iload_n hx hb dX12_paperOf_27 rfl (lv_at1 hl) ?_
        refine lv_iload_n hx hb dX12_paperOf_28 rfl (lv_at2 hl) ?_
        refine pV hC hK hl hP hD (m_paper l G h0 jp 3 nw nk mhasKept nt mtaped nr mrowMany mroundOf mroundFrom 0 nm mfromHour mtoHour ns mfrom mto msort misFault mdeep mcoded mlines nl nc nF np ntr nb mbestCost nso nsi nit nsh nsf nss nrc mtraced mdealer mnumber mwhose msize misParted fnw (by omega) (by omega)) si_X12_88 [0, 1] sm_0_1 fm_0_1 nd_0_1 rfl rfl rfl rfl rfl (Nat.le_of_ble_eq_true rfl) rm_3_1_3 ⟨by first | exact Nat.le_of_ble_eq_true rfl | exact Nat.zero_le _, by first | exact Nat.le_of_ble_eq_true rfl | exact Nat.zero_le _⟩ dX12_paperOf_29 (Keqr ?_)
        refine lv_goto (tgt := 61) hx hb dX12_paperOf_32 (by decide) ?_
        exact toQ hQ0 (RP (v := fnw (32 + 6 * jp + 3)) hC ((by rw [show fnw (32 + 6 * jp + 3) = shf fnw 32 (jp * 6 + 3) from congrArg fnw (by omega)]; first | rfl | (simp only [nI_clamp (n := jp) (by omega), ifc_t ekq, ifc_t hkq, ifc_t ek6, ifc_t hk6, ifc_t hN, ifc_t a5568, ifc_t a5570, ifc_f (q := nI 3 = 0) (by decide), ifc_f (q := nI 3 = 1) (by decide), ifc_f (q := nI 3 = 2) (by decide), ifc_t (q := nI 3 = 3) rfl, ifc_f (q := nI 3 = 4) (by decide), ifc_f (q := nI 3 = 5) (by decide), ifc_f (q := nI 3 = 6) (by decide)]; done) | (simp only [nI_clamp (n := jp) (by omega), ifc_t ekq, ifc_t hkq, ifc_t ek6, ifc_t hk6, ifc_t hN, ifc_t a5568, ifc_t a5570, ifc_f (q := nI 3 = 0) (by decide), ifc_f (q := nI 3 = 1) (by decide), ifc_f (q := nI 3 = 2) (by decide), ifc_t (q := nI 3 = 3) rfl, ifc_f (q := nI 3 = 4) (by decide), ifc_f (q := nI 3 = 5) (by decide), ifc_f (q := nI 3 = 6) (by decide)]; rfl))) rfl dX12_paperOf_61)
      · refine lv_iload_n hx hb dX12_paperOf_21 rfl (lv_at2 hl) ?_
        refine lv_iconst (v := 5) hx hb dX12_paperOf_22 (by decide) ?_
        refine lv_icmp_ge (tgt := 35) hx hb dX12_paperOf_23 (by decide) (fun c9 => absurd c9 (by decide)) (fun _ => ?_)
        refine lv_aload_n hx hb dX12_paperOf_26 rfl (lv_at0 hl) ?_
        refine lv_iload_n hx hb dX12_paperOf_27 rfl (lv_at1 hl) ?_
        refine lv_iload_n hx hb dX12_paperOf_28 rfl (lv_at2 hl) ?_
        refine pV hC hK hl hP hD (m_paper l G h0 jp 4 nw nk mhasKept nt mtaped nr mrowMany mroundOf mroundFrom 0 nm mfromHour mtoHour ns mfrom mto msort misFault mdeep mcoded mlines nl nc nF np ntr nb mbestCost nso nsi nit nsh nsf nss nrc mtraced mdealer mnumber mwhose msize misParted fnw (by omega) (by omega)) si_X12_88 [0, 1] sm_0_1 fm_0_1 nd_0_1 rfl rfl rfl rfl rfl (Nat.le_of_ble_eq_true rfl) rm_3_1_3 ⟨by first | exact Nat.le_of_ble_eq_true rfl | exact Nat.zero_le _, by first | exact Nat.le_of_ble_eq_true rfl | exact Nat.zero_le _⟩ dX12_paperOf_29 (Keqr ?_)
        refine lv_goto (tgt := 61) hx hb dX12_paperOf_32 (by decide) ?_
        exact toQ hQ0 (RP (v := fnw (32 + 6 * jp + 4)) hC ((by rw [show fnw (32 + 6 * jp + 4) = shf fnw 32 (jp * 6 + 4) from congrArg fnw (by omega)]; first | rfl | (simp only [nI_clamp (n := jp) (by omega), ifc_t ekq, ifc_t hkq, ifc_t ek6, ifc_t hk6, ifc_t hN, ifc_t a5568, ifc_t a5570, ifc_f (q := nI 4 = 0) (by decide), ifc_f (q := nI 4 = 1) (by decide), ifc_f (q := nI 4 = 2) (by decide), ifc_f (q := nI 4 = 3) (by decide), ifc_t (q := nI 4 = 4) rfl, ifc_f (q := nI 4 = 5) (by decide), ifc_f (q := nI 4 = 6) (by decide)]; done) | (simp only [nI_clamp (n := jp) (by omega), ifc_t ekq, ifc_t hkq, ifc_t ek6, ifc_t hk6, ifc_t hN, ifc_t a5568, ifc_t a5570, ifc_f (q := nI 4 = 0) (by decide), ifc_f (q := nI 4 = 1) (by decide), ifc_f (q := nI 4 = 2) (by decide), ifc_f (q := nI 4 = 3) (by decide), ifc_t (q := nI 4 = 4) rfl, ifc_f (q := nI 4 = 5) (by decide), ifc_f (q := nI 4 = 6) (by decide)]; rfl))) rfl dX12_paperOf_61)
      · refine lv_iload_n hx hb dX12_paperOf_21 rfl (lv_at2 hl) ?_
        refine lv_iconst (v := 5) hx hb dX12_paperOf_22 (by decide) ?_
        refine lv_icmp_ge (tgt := 35) hx hb dX12_paperOf_23 (by decide) (fun _ => ?_) (fun c9 => absurd (by decide) c9)
        refine lv_iload_n hx hb dX12_paperOf_35 rfl (lv_at2 hl) ?_
        refine lv_iconst (v := 5) hx hb dX12_paperOf_36 (by decide) ?_
        refine lv_icmp_ne (tgt := 48) hx hb dX12_paperOf_37 (by decide) (fun c9 => absurd (by decide) c9) (fun _ => ?_)
        refine lv_aload_n hx hb dX12_paperOf_40 rfl (lv_at0 hl) ?_
        refine lv_iload_n hx hb dX12_paperOf_41 rfl (lv_at1 hl) ?_
        refine pV hC hK hl hP hD (m_stampsOfX l G k6 h0 (nI jp) nw nk mhasKept nt mtaped nr mrowMany mroundOf mroundFrom 0 nm mfromHour mtoHour ns mfrom mto msort misFault mdeep mcoded mlines nl nc nF np ntr nb mbestCost nso nsi nit nsh nsf nss nrc mtraced mdealer mnumber mwhose msize misParted fnw (ek6) (hk6)) si_X12_130 [0, 1] sm_0_1 fm_0_1 nd_0_1 rfl rfl rfl rfl rfl (Nat.le_of_ble_eq_true rfl) rm_3_2_4 ⟨by first | exact Nat.le_of_ble_eq_true rfl | exact Nat.zero_le _, by first | exact Nat.le_of_ble_eq_true rfl | exact Nat.zero_le _⟩ dX12_paperOf_42 (Keqr ?_)
        refine lv_goto (tgt := 61) hx hb dX12_paperOf_45 (by decide) ?_
        exact toQ hQ0 (RP (v := (CNT (fun s9 => shf fnw 104 (s9 * 3 + 0) = (nI jp)) k6)) hC ((by first | rfl | (simp only [nI_clamp (n := jp) (by omega), ifc_t ekq, ifc_t hkq, ifc_t ek6, ifc_t hk6, ifc_t hN, ifc_t a5568, ifc_t a5570, ifc_f (q := nI 5 = 0) (by decide), ifc_f (q := nI 5 = 1) (by decide), ifc_f (q := nI 5 = 2) (by decide), ifc_f (q := nI 5 = 3) (by decide), ifc_f (q := nI 5 = 4) (by decide), ifc_t (q := nI 5 = 5) rfl, ifc_f (q := nI 5 = 6) (by decide)]; done) | (simp only [nI_clamp (n := jp) (by omega), ifc_t ekq, ifc_t hkq, ifc_t ek6, ifc_t hk6, ifc_t hN, ifc_t a5568, ifc_t a5570, ifc_f (q := nI 5 = 0) (by decide), ifc_f (q := nI 5 = 1) (by decide), ifc_f (q := nI 5 = 2) (by decide), ifc_f (q := nI 5 = 3) (by decide), ifc_f (q := nI 5 = 4) (by decide), ifc_t (q := nI 5 = 5) rfl, ifc_f (q := nI 5 = 6) (by decide)]; rfl))) rfl dX12_paperOf_61)
      · refine lv_iload_n hx hb dX12_paperOf_21 rfl (lv_at2 hl) ?_
        refine lv_iconst (v := 5) hx hb dX12_paperOf_22 (by decide) ?_
        refine lv_icmp_ge (tgt := 35) hx hb dX12_paperOf_23 (by decide) (fun _ => ?_) (fun c9 => absurd (by decide) c9)
        refine lv_iload_n hx hb dX12_paperOf_35 rfl (lv_at2 hl) ?_
        refine lv_iconst (v := 5) hx hb dX12_paperOf_36 (by decide) ?_
        refine lv_icmp_ne (tgt := 48) hx hb dX12_paperOf_37 (by decide) (fun _ => ?_) (fun c9 => absurd c9 (by decide))
        refine lv_aload_n hx hb dX12_paperOf_48 rfl (lv_at0 hl) ?_
        refine lv_iload_n hx hb dX12_paperOf_49 rfl (lv_at1 hl) ?_
        refine pV hC hK hl hP hD (m_isInX l G h0 jp nw nk mhasKept nt mtaped nr mrowMany mroundOf mroundFrom nm mfromHour mtoHour ns mfrom mto msort misFault mdeep mcoded mlines nl nc nF np ntr nb mbestCost nso nsi nit nsh nsf nss nrc mtraced mdealer mnumber mwhose msize misParted fnw (by omega)) si_X12_103 [0, 1] sm_0_1 fm_0_1 nd_0_1 rfl rfl rfl rfl rfl (Nat.le_of_ble_eq_true rfl) rm_3_2_3 ⟨by first | exact Nat.le_of_ble_eq_true rfl | exact Nat.zero_le _, by first | exact Nat.le_of_ble_eq_true rfl | exact Nat.zero_le _⟩ dX12_paperOf_50 (Kors (Keqa fun a5584 => ?_) (Keqa fun a5584 => ?_))
        · refine lv_if_eq (tgt := 60) hx hb dX12_paperOf_53 (by decide) (fun c9 => absurd c9 (by decide)) (fun _ => ?_)
          refine lv_iconst (v := 1) hx hb dX12_paperOf_56 (by decide) ?_
          refine lv_goto (tgt := 61) hx hb dX12_paperOf_57 (by decide) ?_
          exact toQ hQ0 (RP (v := 1) hC ((by first | rfl | (simp only [nI_clamp (n := jp) (by omega), ifc_t ekq, ifc_t hkq, ifc_t ek6, ifc_t hk6, ifc_t hN, ifc_t a5568, ifc_t a5570, ifc_t a5584, ifc_f (q := nI 6 = 0) (by decide), ifc_f (q := nI 6 = 1) (by decide), ifc_f (q := nI 6 = 2) (by decide), ifc_f (q := nI 6 = 3) (by decide), ifc_f (q := nI 6 = 4) (by decide), ifc_f (q := nI 6 = 5) (by decide), ifc_t (q := nI 6 = 6) rfl]; done) | (simp only [nI_clamp (n := jp) (by omega), ifc_t ekq, ifc_t hkq, ifc_t ek6, ifc_t hk6, ifc_t hN, ifc_t a5568, ifc_t a5570, ifc_t a5584, ifc_f (q := nI 6 = 0) (by decide), ifc_f (q := nI 6 = 1) (by decide), ifc_f (q := nI 6 = 2) (by decide), ifc_f (q := nI 6 = 3) (by decide), ifc_f (q := nI 6 = 4) (by decide), ifc_f (q := nI 6 = 5) (by decide), ifc_t (q := nI 6 = 6) rfl]; rfl))) rfl dX12_paperOf_61)
        · refine lv_if_eq (tgt := 60) hx hb dX12_paperOf_53 (by decide) (fun _ => ?_) (fun c9 => absurd (by decide) c9)
          refine lv_iconst (v := 0) hx hb dX12_paperOf_60 (by decide) ?_
          exact toQ hQ0 (RP (v := 0) hC ((by first | rfl | (simp only [nI_clamp (n := jp) (by omega), ifc_t ekq, ifc_t hkq, ifc_t ek6, ifc_t hk6, ifc_t hN, ifc_t a5568, ifc_t a5570, ifc_f a5584, ifc_f (q := nI 6 = 0) (by decide), ifc_f (q := nI 6 = 1) (by decide), ifc_f (q := nI 6 = 2) (by decide), ifc_f (q := nI 6 = 3) (by decide), ifc_f (q := nI 6 = 4) (by decide), ifc_f (q := nI 6 = 5) (by decide), ifc_t (q := nI 6 = 6) rfl]; done) | (simp only [nI_clamp (n := jp) (by omega), ifc_t ekq, ifc_t hkq, ifc_t ek6, ifc_t hk6, ifc_t hN, ifc_t a5568, ifc_t a5570, ifc_f a5584, ifc_f (q := nI 6 = 0) (by decide), ifc_f (q := nI 6 = 1) (by decide), ifc_f (q := nI 6 = 2) (by decide), ifc_f (q := nI 6 = 3) (by decide), ifc_f (q := nI 6 = 4) (by decide), ifc_f (q := nI 6 = 5) (by decide), ifc_t (q := nI 6 = 6) rfl]; rfl))) rfl dX12_paperOf_61)
    · refine lv_if_ne (tgt := 21) hx hb dX12_paperOf_16 (by decide) (fun c9 => absurd (by decide) c9) (fun _ => ?_)
      refine lv_iconst (v := (-1)) hx hb dX12_paperOf_19 (by decide) ?_
      exact toQ hQ0 (RP (v := (-1)) hC ((by first | rfl | (simp only [ifc_t ekq, ifc_t hkq, ifc_t ek6, ifc_t hk6, ifc_t hN, ifc_t a5568, ifc_f a5570, ifc_f (q := x2 = 0) (fun h9 => a5570 (by rw [h9]; unfold Wi; decide)), ifc_f (q := x2 = 1) (fun h9 => a5570 (by rw [h9]; unfold Wi; decide)), ifc_f (q := x2 = 2) (fun h9 => a5570 (by rw [h9]; unfold Wi; decide)), ifc_f (q := x2 = 3) (fun h9 => a5570 (by rw [h9]; unfold Wi; decide)), ifc_f (q := x2 = 4) (fun h9 => a5570 (by rw [h9]; unfold Wi; decide)), ifc_f (q := x2 = 5) (fun h9 => a5570 (by rw [h9]; unfold Wi; decide)), ifc_f (q := x2 = 6) (fun h9 => a5570 (by rw [h9]; unfold Wi; decide))]; done) | (simp only [ifc_t ekq, ifc_t hkq, ifc_t ek6, ifc_t hk6, ifc_t hN, ifc_t a5568, ifc_f a5570, ifc_f (q := x2 = 0) (fun h9 => a5570 (by rw [h9]; unfold Wi; decide)), ifc_f (q := x2 = 1) (fun h9 => a5570 (by rw [h9]; unfold Wi; decide)), ifc_f (q := x2 = 2) (fun h9 => a5570 (by rw [h9]; unfold Wi; decide)), ifc_f (q := x2 = 3) (fun h9 => a5570 (by rw [h9]; unfold Wi; decide)), ifc_f (q := x2 = 4) (fun h9 => a5570 (by rw [h9]; unfold Wi; decide)), ifc_f (q := x2 = 5) (fun h9 => a5570 (by rw [h9]; unfold Wi; decide)), ifc_f (q := x2 = 6) (fun h9 => a5570 (by rw [h9]; unfold Wi; decide))]; rfl))) rfl dX12_paperOf_20)
  · refine lv_if_eq (tgt := 19) hx hb dX12_paperOf_6 (by decide) (fun _ => ?_) (fun c9 => absurd (by decide) c9)
    refine lv_iconst (v := (-1)) hx hb dX12_paperOf_19 (by decide) ?_
    exact toQ hQ0 (RP (v := (-1)) hC ((by first | rfl | (simp only [ifc_t ekq, ifc_t hkq, ifc_t ek6, ifc_t hk6, ifc_t hN, ifc_f a5568]; done) | (simp only [ifc_t ekq, ifc_t hkq, ifc_t ek6, ifc_t hk6, ifc_t hN, ifc_f a5568]; rfl))) rfl dX12_paperOf_20)
def K_r_line (l : Launch) (G : GG) (h0 : Nat) (x1 : Int32) (x2 : Int32) (x3 : Int32) (nw : Nat) (nk : Nat) (mhasKept : Int32) (nt : Nat) (mtaped : Int32) (nr : Nat) (mrowMany : Int32) (mroundOf : Int32) (mroundFrom : Int32) (mouts : Int32) (nm : Nat) (mfromHour : Int32) (mtoHour : Int32) (ns : Nat) (mfrom : Int32) (mto : Int32) (msort : Int32) (misFault : Int32) (mdeep : Int32) (mcoded : Int32) (mlines : Int32) (nl : Nat) (nc : Nat) (nF : Nat) (np : Nat) (ntr : Nat) (nb : Nat) (mbestCost : Int32) (nso : Nat) (nsi : Nat) (nit : Nat) (nsh : Nat) (nsf : Nat) (nss : Nat) (nrc : Nat) (mtraced : Int32) (mdealer : Int32) (mnumber : Int32) (mwhose : Int32) (msize : Int32) (misParted : Int32) (fnw : Nat → Int32) : Prop := MP l G yX12_line cX12_line 4 (some .int) 3 [.ref h0, .int x1, .int x2, .int x3] [(h0, oX12 nw nk mhasKept nt mtaped nr mrowMany mroundOf mroundFrom mouts nm mfromHour mtoHour ns mfrom mto msort misFault mdeep mcoded mlines nl nc nF np ntr nb mbestCost nso nsi nit nsh nsf nss nrc mtraced mdealer mnumber mwhose msize misParted), (nw, iA G 1662 fnw)] (fun r : Int32 => True)
set_option maxHeartbeats 4000000 in
set_option maxRecDepth 100000 in
theorem r_line (l : Launch) (G : GG) (h0 : Nat) (x1 : Int32) (x2 : Int32) (x3 : Int32) (nw : Nat) (nk : Nat) (mhasKept : Int32) (nt : Nat) (mtaped : Int32) (nr : Nat) (mrowMany : Int32) (mroundOf : Int32) (mroundFrom : Int32) (mouts : Int32) (nm : Nat) (mfromHour : Int32) (mtoHour : Int32) (ns : Nat) (mfrom : Int32) (mto : Int32) (msort : Int32) (misFault : Int32) (mdeep : Int32) (mcoded : Int32) (mlines : Int32) (nl : Nat) (nc : Nat) (nF : Nat) (np : Nat) (ntr : Nat) (nb : Nat) (mbestCost : Int32) (nso : Nat) (nsi : Nat) (nit : Nat) (nsh : Nat) (nsf : Nat) (nss : Nat) (nrc : Nat) (mtraced : Int32) (mdealer : Int32) (mnumber : Int32) (mwhose : Int32) (msize : Int32) (misParted : Int32) (fnw : Nat → Int32) (hN : NI fnw) (hV : VI fnw) : K_r_line l G h0 x1 x2 x3 nw nk mhasKept nt mtaped nr mrowMany mroundOf mroundFrom mouts nm mfromHour mtoHour ns mfrom mto msort misFault mdeep mcoded mlines nl nc nF np ntr nb mbestCost nso nsi nit nsh nsf nss nrc mtraced mdealer mnumber mwhose msize misParted fnw := by
  refine MP.start (by decide +kernel) (Nat.le_of_ble_eq_true rfl) ?_
  intro p e s m below meth c ls hC hK hP hD hl
  refine absQ (fun Q0 hQ0 => ?_)
  have hl : lv_has ls 4 [(0, .ref h0), (1, .int x1), (2, .int x2), (3, .int x3)] := hl
  refine Kan8 hC (fun hx hb hr hml hB hown hlocks hnm => ?_)
  obtain ⟨k7, hk7, ek7⟩ := NI.nat hN (i := 7) (B := 8) (by decide +kernel) (by decide)
  refine lv_aload_n hx hb dX12_line_0 rfl (lv_at0 hl) ?_
  refine lv_iload_n hx hb dX12_line_1 rfl (lv_at1 hl) ?_
  refine lv_bipush (v := 7) hx hb dX12_line_2 (by decide) ?_
  refine pV hC hK hl hP hD (m_is l G k7 h0 x1 7 nw nk mhasKept nt mtaped nr mrowMany mroundOf mroundFrom mouts nm mfromHour mtoHour ns mfrom mto msort misFault mdeep mcoded mlines nl nc nF np ntr nb mbestCost nso nsi nit nsh nsf nss nrc mtraced mdealer mnumber mwhose msize misParted fnw (by omega) (ek7) (by omega)) si_X12_120 [0, 1] sm_0_1 fm_0_1 nd_0_1 rfl rfl rfl rfl rfl (Nat.le_of_ble_eq_true rfl) rm_3_2_3 ⟨by first | exact Nat.le_of_ble_eq_true rfl | exact Nat.zero_le _, by first | exact Nat.le_of_ble_eq_true rfl | exact Nat.zero_le _⟩ dX12_line_4 (Kors (Keqa fun a5586 => ?_) (Keqa fun a5586 => ?_))
  · refine lv_if_eq (tgt := 34) hx hb dX12_line_7 (by decide) (fun c9 => absurd c9 (by decide)) (fun _ => ?_)
    obtain ⟨jv, hjv, rfl⟩ := Hs_nat (by omega) a5586
    obtain ⟨L9, hL9, eL9, hLN9⟩ := VI.line hV (v := jv) (by omega)
    refine lv_iload_n hx hb dX12_line_10 rfl (lv_at2 hl) ?_
    refine lv_iconst (v := 0) hx hb dX12_line_11 (by decide) ?_
    refine lv_aload_n hx hb dX12_line_12 rfl (lv_at0 hl) ?_
    refine lv_iload_n hx hb dX12_line_13 rfl (lv_at1 hl) ?_
    refine pV hC hK hl hP hD (m_lines l G L9 h0 jv nw nk mhasKept nt mtaped nr mrowMany mroundOf mroundFrom mouts nm mfromHour mtoHour ns mfrom mto msort misFault mdeep mcoded mlines nl nc nF np ntr nb mbestCost nso nsi nit nsh nsf nss nrc mtraced mdealer mnumber mwhose msize misParted fnw (by omega) (eL9)) si_X12_183 [0, 1] sm_0_1 fm_0_1 nd_0_1 rfl rfl rfl rfl rfl (Nat.le_of_ble_eq_true rfl) rm_3_1_2 ⟨by first | exact Nat.le_of_ble_eq_true rfl | exact Nat.zero_le _, by first | exact Nat.le_of_ble_eq_true rfl | exact Nat.zero_le _⟩ dX12_line_14 (Keqr ?_)
    refine lv_iconst (v := 1) hx hb dX12_line_17 (by decide) ?_
    refine lv_isub hx hb dX12_line_18 ?_
    refine pS hC hK hl (m_within l G x2 0 ((nI L9) - 1)) si_X12_84 rfl rfl (Nat.le_of_ble_eq_true rfl) rm_3_1_3 ⟨by first | exact Nat.le_of_ble_eq_true rfl | exact Nat.zero_le _, by first | exact Nat.le_of_ble_eq_true rfl | exact Nat.zero_le _⟩ dX12_line_19 (Kors (Keqa fun a5590 => ?_) (Keqa fun a5590 => ?_))
    · refine lv_if_eq (tgt := 34) hx hb dX12_line_22 (by decide) (fun c9 => absurd c9 (by decide)) (fun _ => ?_)
      refine lv_iload_n hx hb dX12_line_25 rfl (lv_at3 hl) ?_
      refine lv_iconst (v := 0) hx hb dX12_line_26 (by decide) ?_
      refine lv_iconst (v := 4) hx hb dX12_line_27 (by decide) ?_
      refine pS hC hK hl (m_within l G x3 0 4) si_X12_84 rfl rfl (Nat.le_of_ble_eq_true rfl) rm_3_1_3 ⟨by first | exact Nat.le_of_ble_eq_true rfl | exact Nat.zero_le _, by first | exact Nat.le_of_ble_eq_true rfl | exact Nat.zero_le _⟩ dX12_line_28 (Kors (Keqa fun a5592 => ?_) (Keqa fun a5592 => ?_))
      · refine lv_if_ne (tgt := 37) hx hb dX12_line_31 (by decide) (fun _ => ?_) (fun c9 => absurd c9 (by decide))
        obtain ⟨jl, hjl, rfl⟩ := Hs_nat (by omega) ((WiHs (by omega)).mp a5590)
        obtain ⟨jw, hjw, rfl⟩ := Wi_nat (N := 4) (by decide) a5592
        refine lv_iload_n hx hb dX12_line_37 rfl (lv_at3 hl) ?_
        refine lv_iconst (v := 4) hx hb dX12_line_38 (by decide) ?_
        refine lv_icmp_ge (tgt := 52) hx hb dX12_line_39 (by decide) (fun c_39_5593 => ?_) (fun c_39_5593 => ?_)
        · refine lv_aload_n hx hb dX12_line_52 rfl (lv_at0 hl) ?_
          refine lv_iload_n hx hb dX12_line_53 rfl (lv_at1 hl) ?_
          refine lv_iload_n hx hb dX12_line_54 rfl (lv_at2 hl) ?_
          refine lv_iconst (v := 5) hx hb dX12_line_55 (by decide) ?_
          refine pV hC hK hl hP hD (m_lineOf l G h0 jv jl 5 nw nk mhasKept nt mtaped nr mrowMany mroundOf mroundFrom mouts nm mfromHour mtoHour ns mfrom mto msort misFault mdeep mcoded mlines nl nc nF np ntr nb mbestCost nso nsi nit nsh nsf nss nrc mtraced mdealer mnumber mwhose msize misParted fnw (by omega) (by omega) (by omega)) si_X12_193 [0, 1] sm_0_1 fm_0_1 nd_0_1 rfl rfl rfl rfl rfl (Nat.le_of_ble_eq_true rfl) rm_3_1_4 ⟨by first | exact Nat.le_of_ble_eq_true rfl | exact Nat.zero_le _, by first | exact Nat.le_of_ble_eq_true rfl | exact Nat.zero_le _⟩ dX12_line_56 (Keqr ?_)
          refine lv_aload_n hx hb dX12_line_59 rfl (lv_at0 hl) ?_
          refine lv_iload_n hx hb dX12_line_60 rfl (lv_at1 hl) ?_
          refine lv_iload_n hx hb dX12_line_61 rfl (lv_at2 hl) ?_
          refine lv_iconst (v := 4) hx hb dX12_line_62 (by decide) ?_
          refine pV hC hK hl hP hD (m_lineOf l G h0 jv jl 4 nw nk mhasKept nt mtaped nr mrowMany mroundOf mroundFrom mouts nm mfromHour mtoHour ns mfrom mto msort misFault mdeep mcoded mlines nl nc nF np ntr nb mbestCost nso nsi nit nsh nsf nss nrc mtraced mdealer mnumber mwhose msize misParted fnw (by omega) (by omega) (by omega)) si_X12_193 [0, 1] sm_0_1 fm_0_1 nd_0_1 rfl rfl rfl rfl rfl (Nat.le_of_ble_eq_true rfl) rm_3_1_4 ⟨by first | exact Nat.le_of_ble_eq_true rfl | exact Nat.zero_le _, by first | exact Nat.le_of_ble_eq_true rfl | exact Nat.zero_le _⟩ dX12_line_63 (Keqr ?_)
          refine lv_icmp_le (tgt := 73) hx hb dX12_line_66 (by decide) (fun c_66_5598 => ?_) (fun c_66_5598 => ?_)
          · refine lv_iconst (v := 0) hx hb dX12_line_73 (by decide) ?_
            exact toQ hQ0 (RP (v := 0) hC (trivial) rfl dX12_line_74)
          · refine lv_iconst (v := 1) hx hb dX12_line_69 (by decide) ?_
            refine lv_goto (tgt := 74) hx hb dX12_line_70 (by decide) ?_
            exact toQ hQ0 (RP (v := 1) hC (trivial) rfl dX12_line_74)
        · refine lv_aload_n hx hb dX12_line_42 rfl (lv_at0 hl) ?_
          refine lv_iload_n hx hb dX12_line_43 rfl (lv_at1 hl) ?_
          refine lv_iload_n hx hb dX12_line_44 rfl (lv_at2 hl) ?_
          refine lv_iload_n hx hb dX12_line_45 rfl (lv_at3 hl) ?_
          refine pV hC hK hl hP hD (m_lineOf l G h0 jv jl jw nw nk mhasKept nt mtaped nr mrowMany mroundOf mroundFrom mouts nm mfromHour mtoHour ns mfrom mto msort misFault mdeep mcoded mlines nl nc nF np ntr nb mbestCost nso nsi nit nsh nsf nss nrc mtraced mdealer mnumber mwhose msize misParted fnw (by omega) (by omega) (by omega)) si_X12_193 [0, 1] sm_0_1 fm_0_1 nd_0_1 rfl rfl rfl rfl rfl (Nat.le_of_ble_eq_true rfl) rm_3_1_4 ⟨by first | exact Nat.le_of_ble_eq_true rfl | exact Nat.zero_le _, by first | exact Nat.le_of_ble_eq_true rfl | exact Nat.zero_le _⟩ dX12_line_46 (Keqr ?_)
          refine lv_goto (tgt := 74) hx hb dX12_line_49 (by decide) ?_
          exact toQ hQ0 (RP (v := fnw (176 + 156 * jv + 2 + 6 * jl + jw)) hC (trivial) rfl dX12_line_74)
      · refine lv_if_ne (tgt := 37) hx hb dX12_line_31 (by decide) (fun c9 => absurd (by decide) c9) (fun _ => ?_)
        refine lv_bipush (v := (-9)) hx hb dX12_line_34 (by decide) ?_
        exact toQ hQ0 (RP (v := (-9)) hC (trivial) rfl dX12_line_36)
    · refine lv_if_eq (tgt := 34) hx hb dX12_line_22 (by decide) (fun _ => ?_) (fun c9 => absurd (by decide) c9)
      refine lv_bipush (v := (-9)) hx hb dX12_line_34 (by decide) ?_
      exact toQ hQ0 (RP (v := (-9)) hC (trivial) rfl dX12_line_36)
  · refine lv_if_eq (tgt := 34) hx hb dX12_line_7 (by decide) (fun _ => ?_) (fun c9 => absurd (by decide) c9)
    refine lv_bipush (v := (-9)) hx hb dX12_line_34 (by decide) ?_
    exact toQ hQ0 (RP (v := (-9)) hC (trivial) rfl dX12_line_36)
def K_m_isAgainst (l : Launch) (G : GG) (h0 : Nat) (hh : Int32) (js : Nat) (nw : Nat) (nk : Nat) (mhasKept : Int32) (nt : Nat) (mtaped : Int32) (nr : Nat) (mrowMany : Int32) (mroundOf : Int32) (mroundFrom : Int32) (mouts : Int32) (nm : Nat) (mfromHour : Int32) (mtoHour : Int32) (ns : Nat) (mfrom : Int32) (mto : Int32) (msort : Int32) (misFault : Int32) (mdeep : Int32) (mcoded : Int32) (mlines : Int32) (nl : Nat) (nc : Nat) (nF : Nat) (np : Nat) (ntr : Nat) (nb : Nat) (mbestCost : Int32) (nso : Nat) (nsi : Nat) (nit : Nat) (nsh : Nat) (nsf : Nat) (nss : Nat) (nrc : Nat) (mtraced : Int32) (mdealer : Int32) (mnumber : Int32) (mwhose : Int32) (msize : Int32) (misParted : Int32) (fnw : Nat → Int32) : Prop := MP l G yX12_isAgainst cX12_isAgainst 3 (some .boolean) 2 [.ref h0, .int hh, .int (nI js)] [(h0, oX12 nw nk mhasKept nt mtaped nr mrowMany mroundOf mroundFrom mouts nm mfromHour mtoHour ns mfrom mto msort misFault mdeep mcoded mlines nl nc nF np ntr nb mbestCost nso nsi nit nsh nsf nss nrc mtraced mdealer mnumber mwhose msize misParted), (nw, iA G 1662 fnw)] (fun r : Int32 => r = 1 ∨ r = 0)
set_option maxHeartbeats 4000000 in
set_option maxRecDepth 100000 in
theorem m_isAgainst (l : Launch) (G : GG) (h0 : Nat) (hh : Int32) (js : Nat) (nw : Nat) (nk : Nat) (mhasKept : Int32) (nt : Nat) (mtaped : Int32) (nr : Nat) (mrowMany : Int32) (mroundOf : Int32) (mroundFrom : Int32) (mouts : Int32) (nm : Nat) (mfromHour : Int32) (mtoHour : Int32) (ns : Nat) (mfrom : Int32) (mto : Int32) (msort : Int32) (misFault : Int32) (mdeep : Int32) (mcoded : Int32) (mlines : Int32) (nl : Nat) (nc : Nat) (nF : Nat) (np : Nat) (ntr : Nat) (nb : Nat) (mbestCost : Int32) (nso : Nat) (nsi : Nat) (nit : Nat) (nsh : Nat) (nsf : Nat) (nss : Nat) (nrc : Nat) (mtraced : Int32) (mdealer : Int32) (mnumber : Int32) (mwhose : Int32) (msize : Int32) (misParted : Int32) (fnw : Nat → Int32) (hjs : js < 16) : K_m_isAgainst l G h0 hh js nw nk mhasKept nt mtaped nr mrowMany mroundOf mroundFrom mouts nm mfromHour mtoHour ns mfrom mto msort misFault mdeep mcoded mlines nl nc nF np ntr nb mbestCost nso nsi nit nsh nsf nss nrc mtraced mdealer mnumber mwhose msize misParted fnw := by
  refine MP.start (by decide +kernel) (Nat.le_of_ble_eq_true rfl) ?_
  intro p e s m below meth c ls hC hK hP hD hl
  refine absQ (fun Q0 hQ0 => ?_)
  have hl : lv_has ls 3 [(0, .ref h0), (1, .int hh), (2, .int (nI js))] := hl
  refine Kan8 hC (fun hx hb hr hml hB hown hlocks hnm => ?_)
  refine lv_aload_n hx hb dX12_isAgainst_0 rfl (lv_at0 hl) ?_
  refine lv_iload_n hx hb dX12_isAgainst_1 rfl (lv_at2 hl) ?_
  refine lv_iconst (v := 5) hx hb dX12_isAgainst_2 (by decide) ?_
  refine pV hC hK hl hP hD (m_saying l G h0 js 5 nw nk mhasKept nt mtaped nr mrowMany mroundOf mroundFrom mouts nm mfromHour mtoHour ns mfrom mto msort misFault mdeep mcoded mlines nl nc nF np ntr nb mbestCost nso nsi nit nsh nsf nss nrc mtraced mdealer mnumber mwhose msize misParted fnw (hjs) (by omega)) si_X12_114 [0, 1] sm_0_1 fm_0_1 nd_0_1 rfl rfl rfl rfl rfl (Nat.le_of_ble_eq_true rfl) rm_2_1_3 ⟨by first | exact Nat.le_of_ble_eq_true rfl | exact Nat.zero_le _, by first | exact Nat.le_of_ble_eq_true rfl | exact Nat.zero_le _⟩ dX12_isAgainst_3 (Keqr ?_)
  refine lv_iconst (v := 1) hx hb dX12_isAgainst_6 (by decide) ?_
  refine lv_icmp_ne (tgt := 28) hx hb dX12_isAgainst_7 (by decide) (fun c_7_5603 => ?_) (fun c_7_5603 => ?_)
  · refine lv_aload_n hx hb dX12_isAgainst_28 rfl (lv_at0 hl) ?_
    refine lv_iload_n hx hb dX12_isAgainst_29 rfl (lv_at2 hl) ?_
    refine lv_iconst (v := 3) hx hb dX12_isAgainst_30 (by decide) ?_
    refine pV hC hK hl hP hD (m_saying l G h0 js 3 nw nk mhasKept nt mtaped nr mrowMany mroundOf mroundFrom mouts nm mfromHour mtoHour ns mfrom mto msort misFault mdeep mcoded mlines nl nc nF np ntr nb mbestCost nso nsi nit nsh nsf nss nrc mtraced mdealer mnumber mwhose msize misParted fnw (hjs) (by omega)) si_X12_114 [0, 1] sm_0_1 fm_0_1 nd_0_1 rfl rfl rfl rfl rfl (Nat.le_of_ble_eq_true rfl) rm_2_1_3 ⟨by first | exact Nat.le_of_ble_eq_true rfl | exact Nat.zero_le _, by first | exact Nat.le_of_ble_eq_true rfl | exact Nat.zero_le _⟩ dX12_isAgainst_31 (Keqr ?_)
    refine lv_iload_n hx hb dX12_isAgainst_34 rfl (lv_at1 hl) ?_
    refine lv_icmp_lt (tgt := 42) hx hb dX12_isAgainst_35 (by decide) (fun c_35_5606 => ?_) (fun c_35_5606 => ?_)
    · refine lv_iconst (v := 0) hx hb dX12_isAgainst_42 (by decide) ?_
      exact toQ hQ0 (RP (v := 0) hC (Or.inr (rfl)) (by decide +kernel) dX12_isAgainst_43)
    · refine lv_iconst (v := 1) hx hb dX12_isAgainst_38 (by decide) ?_
      refine lv_goto (tgt := 43) hx hb dX12_isAgainst_39 (by decide) ?_
      exact toQ hQ0 (RP (v := 1) hC (Or.inl (rfl)) (by decide +kernel) dX12_isAgainst_43)
  · refine lv_aload_n hx hb dX12_isAgainst_10 rfl (lv_at0 hl) ?_
    refine lv_iload_n hx hb dX12_isAgainst_11 rfl (lv_at2 hl) ?_
    refine lv_iconst (v := 3) hx hb dX12_isAgainst_12 (by decide) ?_
    refine pV hC hK hl hP hD (m_saying l G h0 js 3 nw nk mhasKept nt mtaped nr mrowMany mroundOf mroundFrom mouts nm mfromHour mtoHour ns mfrom mto msort misFault mdeep mcoded mlines nl nc nF np ntr nb mbestCost nso nsi nit nsh nsf nss nrc mtraced mdealer mnumber mwhose msize misParted fnw (hjs) (by omega)) si_X12_114 [0, 1] sm_0_1 fm_0_1 nd_0_1 rfl rfl rfl rfl rfl (Nat.le_of_ble_eq_true rfl) rm_2_1_3 ⟨by first | exact Nat.le_of_ble_eq_true rfl | exact Nat.zero_le _, by first | exact Nat.le_of_ble_eq_true rfl | exact Nat.zero_le _⟩ dX12_isAgainst_13 (Keqr ?_)
    refine lv_iload_n hx hb dX12_isAgainst_16 rfl (lv_at1 hl) ?_
    refine lv_icmp_ge (tgt := 24) hx hb dX12_isAgainst_17 (by decide) (fun c_17_5609 => ?_) (fun c_17_5609 => ?_)
    · refine lv_iconst (v := 0) hx hb dX12_isAgainst_24 (by decide) ?_
      refine lv_goto (tgt := 43) hx hb dX12_isAgainst_25 (by decide) ?_
      exact toQ hQ0 (RP (v := 0) hC (Or.inr (rfl)) (by decide +kernel) dX12_isAgainst_43)
    · refine lv_iconst (v := 1) hx hb dX12_isAgainst_20 (by decide) ?_
      refine lv_goto (tgt := 43) hx hb dX12_isAgainst_21 (by decide) ?_
      exact toQ hQ0 (RP (v := 1) hC (Or.inl (rfl)) (by decide +kernel) dX12_isAgainst_43)
def K_m_findHours (l : Launch) (G : GG) (h0 : Nat) (jp : Nat) (je : Nat) (cl : Int32) (nw : Nat) (nk : Nat) (mhasKept : Int32) (nt : Nat) (mtaped : Int32) (nr : Nat) (mrowMany : Int32) (mroundOf : Int32) (mroundFrom : Int32) (mouts : Int32) (nm : Nat) (mfromHour : Int32) (mtoHour : Int32) (ns : Nat) (mfrom : Int32) (mto : Int32) (msort : Int32) (misFault : Int32) (mdeep : Int32) (mcoded : Int32) (mlines : Int32) (nl : Nat) (nc : Nat) (nF : Nat) (np : Nat) (ntr : Nat) (nb : Nat) (mbestCost : Int32) (nso : Nat) (nsi : Nat) (nit : Nat) (nsh : Nat) (nsf : Nat) (nss : Nat) (nrc : Nat) (mtraced : Int32) (mdealer : Int32) (mnumber : Int32) (mwhose : Int32) (msize : Int32) (misParted : Int32) (fnw : Nat → Int32) (fnm : Nat → Int32) : Prop := MV l G yX12_findHours cX12_findHours 4 5 0 0 [.ref h0, .int (nI jp), .int (nI je), .int cl] [(h0, oX12 nw nk mhasKept nt mtaped nr mrowMany mroundOf mroundFrom mouts nm mfromHour mtoHour ns mfrom mto msort misFault mdeep mcoded mlines nl nc nF np ntr nb mbestCost nso nsi nit nsh nsf nss nrc mtraced mdealer mnumber mwhose msize misParted), (nw, iA G 1662 fnw), (nm, iA G 36 fnm)] (fun u : Int32 × Int32 => u.2.toInt ≤ 1167) (fun u : Int32 × Int32 => [(h0, oX12 nw nk mhasKept nt mtaped nr mrowMany mroundOf mroundFrom mouts nm u.1 u.2 ns mfrom mto msort misFault mdeep mcoded mlines nl nc nF np ntr nb mbestCost nso nsi nit nsh nsf nss nrc mtraced mdealer mnumber mwhose msize misParted), (nw, iA G 1662 fnw), (nm, iA G 36 fnm)])
set_option maxHeartbeats 4000000 in
set_option maxRecDepth 100000 in
theorem m_findHours (l : Launch) (G : GG) (h0 : Nat) (jp : Nat) (je : Nat) (cl : Int32) (nw : Nat) (nk : Nat) (mhasKept : Int32) (nt : Nat) (mtaped : Int32) (nr : Nat) (mrowMany : Int32) (mroundOf : Int32) (mroundFrom : Int32) (mouts : Int32) (nm : Nat) (mfromHour : Int32) (mtoHour : Int32) (ns : Nat) (mfrom : Int32) (mto : Int32) (msort : Int32) (misFault : Int32) (mdeep : Int32) (mcoded : Int32) (mlines : Int32) (nl : Nat) (nc : Nat) (nF : Nat) (np : Nat) (ntr : Nat) (nb : Nat) (mbestCost : Int32) (nso : Nat) (nsi : Nat) (nit : Nat) (nsh : Nat) (nsf : Nat) (nss : Nat) (nrc : Nat) (mtraced : Int32) (mdealer : Int32) (mnumber : Int32) (mwhose : Int32) (msize : Int32) (misParted : Int32) (fnw : Nat → Int32) (fnm : Nat → Int32) (hjp : jp < 12) (hje : je < 10) (hN : NI fnw) (hM : MB fnm) : K_m_findHours l G h0 jp je cl nw nk mhasKept nt mtaped nr mrowMany mroundOf mroundFrom mouts nm mfromHour mtoHour ns mfrom mto msort misFault mdeep mcoded mlines nl nc nF np ntr nb mbestCost nso nsi nit nsh nsf nss nrc mtraced mdealer mnumber mwhose msize misParted fnw fnm := by
  refine MV.start (by decide +kernel) (Nat.le_of_ble_eq_true rfl) ?_
  intro p e s m below meth c A ls hC hK hP hD hS hA hl
  refine absQ (fun Q0 hQ0 => ?_)
  have hl : lv_has ls 4 [(0, .ref h0), (1, .int (nI jp)), (2, .int (nI je)), (3, .int cl)] := hl
  refine Kan8 hC (fun hx hb hr hml hB hown hlocks hnm => ?_)
  refine lv_aload_n hx hb dX12_findHours_0 rfl (lv_at0 hl) ?_
  refine lv_iload_n hx hb dX12_findHours_1 rfl (lv_at1 hl) ?_
  refine lv_iload_n hx hb dX12_findHours_2 rfl (lv_at2 hl) ?_
  refine lv_iload_n hx hb dX12_findHours_3 rfl (lv_at3 hl) ?_
  refine iV (wr := []) hC hK hl hP hD hS hA (m_inHand l G h0 jp je cl nw nk mhasKept nt mtaped nr mrowMany mroundOf mroundFrom mouts nm mfromHour mtoHour ns mfrom mto msort misFault mdeep mcoded mlines nl nc nF np ntr nb mbestCost nso nsi nit nsh nsf nss nrc mtraced mdealer mnumber mwhose msize misParted fnw fnm (hjp) (hje) (hN) (hM)) si_X12_171 [0, 1, 2] [] sm_0_1_2 fm_0_1_2 nd_0_1_2 rfl rfl (by decide) rfl rfl rfl rfl rfl (Nat.le_of_ble_eq_true rfl) rm_5_4_4 ⟨Nat.le_of_ble_eq_true rfl, Nat.le_of_ble_eq_true rfl⟩ dX12_findHours_4 (fun r5610 => Ktu2 fun fh15612 th15613 => ?_)
  intro H locs hr5610 hP hD hS
  try dsimp only at hr5610
  refine Kpdr (ws := [(h0, oX12 nw nk mhasKept nt mtaped nr mrowMany mroundOf mroundFrom mouts nm fh15612 th15613 ns mfrom mto msort misFault mdeep mcoded mlines nl nc nF np ntr nb mbestCost nso nsi nit nsh nsf nss nrc mtraced mdealer mnumber mwhose msize misParted), (nw, iA G 1662 fnw), (nm, iA G 36 fnm)]) hP hD (fun hP hD => ?_)
  rcases hr5610 with ⟨rfl, a5614⟩ | rfl
  · refine lv_if_ne (tgt := 22) hx hb dX12_findHours_7 (by decide) (fun _ => ?_) (fun c9 => absurd c9 (by decide))
    exact toQ hQ0 (RV hC hP hD hS [0, 1, 2] (fh15612, th15613) rfl rfl (by decide) (by first | assumption | decide) dX12_findHours_22)
  · refine lv_if_ne (tgt := 22) hx hb dX12_findHours_7 (by decide) (fun c9 => absurd (by decide) c9) (fun _ => ?_)
    refine lv_aload_n hx hb dX12_findHours_10 rfl (lv_at0 hl) ?_
    refine lv_iconst (v := 0) hx hb dX12_findHours_11 (by decide) ?_
    refine pf_X12_161 hC rfl hK hP hD hS 0 (ws' := [(h0, oX12 nw nk mhasKept nt mtaped nr mrowMany mroundOf mroundFrom mouts nm 0 th15613 ns mfrom mto msort misFault mdeep mcoded mlines nl nc nF np ntr nb mbestCost nso nsi nit nsh nsf nss nrc mtraced mdealer mnumber mwhose msize misParted), (nw, iA G 1662 fnw), (nm, iA G 36 fnm)]) rfl (Nat.le_of_ble_eq_true rfl) rfl rfl rfl dX12_findHours_12 (fun H locs hP hD hS => ?_)
    refine lv_aload_n hx hb dX12_findHours_15 rfl (lv_at0 hl) ?_
    refine lv_sipush (v := 1000) hx hb dX12_findHours_16 (by decide) ?_
    refine pf_X12_164 hC rfl hK hP hD hS 0 (ws' := [(h0, oX12 nw nk mhasKept nt mtaped nr mrowMany mroundOf mroundFrom mouts nm 0 1000 ns mfrom mto msort misFault mdeep mcoded mlines nl nc nF np ntr nb mbestCost nso nsi nit nsh nsf nss nrc mtraced mdealer mnumber mwhose msize misParted), (nw, iA G 1662 fnw), (nm, iA G 36 fnm)]) rfl (Nat.le_of_ble_eq_true rfl) rfl rfl rfl dX12_findHours_19 (fun H locs hP hD hS => ?_)
    exact toQ hQ0 (RV hC hP hD hS [0, 1, 2] (0, 1000) rfl rfl (by decide) (by first | assumption | decide) dX12_findHours_22)
def K_r_quarrel (l : Launch) (G : GG) (h0 : Nat) (x1 : Int32) (x2 : Int32) (x3 : Int32) (nw : Nat) (nk : Nat) (mhasKept : Int32) (nt : Nat) (mtaped : Int32) (nr : Nat) (mrowMany : Int32) (mroundOf : Int32) (mroundFrom : Int32) (nm : Nat) (mfromHour : Int32) (mtoHour : Int32) (ns : Nat) (mfrom : Int32) (mto : Int32) (msort : Int32) (misFault : Int32) (mdeep : Int32) (mcoded : Int32) (mlines : Int32) (nl : Nat) (nc : Nat) (nF : Nat) (np : Nat) (ntr : Nat) (nb : Nat) (mbestCost : Int32) (nso : Nat) (nsi : Nat) (nit : Nat) (nsh : Nat) (nsf : Nat) (nss : Nat) (nrc : Nat) (mtraced : Int32) (mdealer : Int32) (mnumber : Int32) (mwhose : Int32) (msize : Int32) (misParted : Int32) (fnw : Nat → Int32) (fnm : Nat → Int32) : Prop := MI l G yX12_quarrel cX12_quarrel 10 (some .int) 6 0 0 [.ref h0, .int x1, .int x2, .int x3] [(h0, oX12 nw nk mhasKept nt mtaped nr mrowMany mroundOf mroundFrom 0 nm mfromHour mtoHour ns mfrom mto msort misFault mdeep mcoded mlines nl nc nF np ntr nb mbestCost nso nsi nit nsh nsf nss nrc mtraced mdealer mnumber mwhose msize misParted), (nw, iA G 1662 fnw), (nm, iA G 36 fnm)] (fun (r : Int32) (u : Int32 × Int32 × (Nat → Int32)) => (True) ∧ (MB u.2.2)) (fun u : Int32 × Int32 × (Nat → Int32) => [(h0, oX12 nw nk mhasKept nt mtaped nr mrowMany mroundOf mroundFrom 0 nm u.1 u.2.1 ns mfrom mto msort misFault mdeep mcoded mlines nl nc nF np ntr nb mbestCost nso nsi nit nsh nsf nss nrc mtraced mdealer mnumber mwhose msize misParted), (nw, iA G 1662 fnw), (nm, iA G 36 u.2.2)])
set_option maxHeartbeats 4000000 in
set_option maxRecDepth 100000 in
theorem r_quarrel (l : Launch) (G : GG) (h0 : Nat) (x1 : Int32) (x2 : Int32) (x3 : Int32) (nw : Nat) (nk : Nat) (mhasKept : Int32) (nt : Nat) (mtaped : Int32) (nr : Nat) (mrowMany : Int32) (mroundOf : Int32) (mroundFrom : Int32) (nm : Nat) (mfromHour : Int32) (mtoHour : Int32) (ns : Nat) (mfrom : Int32) (mto : Int32) (msort : Int32) (misFault : Int32) (mdeep : Int32) (mcoded : Int32) (mlines : Int32) (nl : Nat) (nc : Nat) (nF : Nat) (np : Nat) (ntr : Nat) (nb : Nat) (mbestCost : Int32) (nso : Nat) (nsi : Nat) (nit : Nat) (nsh : Nat) (nsf : Nat) (nss : Nat) (nrc : Nat) (mtraced : Int32) (mdealer : Int32) (mnumber : Int32) (mwhose : Int32) (msize : Int32) (misParted : Int32) (fnw : Nat → Int32) (fnm : Nat → Int32) (hN : NI fnw) (hM : MB fnm) : K_r_quarrel l G h0 x1 x2 x3 nw nk mhasKept nt mtaped nr mrowMany mroundOf mroundFrom nm mfromHour mtoHour ns mfrom mto msort misFault mdeep mcoded mlines nl nc nF np ntr nb mbestCost nso nsi nit nsh nsf nss nrc mtraced mdealer mnumber mwhose msize misParted fnw fnm := by
  refine MI.start (by decide +kernel) (Nat.le_of_ble_eq_true rfl) ?_
  intro p e s m below meth c A ls hC hK hP hD hS hA hl
  refine absQ (fun Q0 hQ0 => ?_)
  have hl : lv_has ls 10 [(0, .ref h0), (1, .int x1), (2, .int x2), (3, .int x3)] := hl
  refine Kan8 hC (fun hx hb hr hml hB hown hlocks hnm => ?_)
  obtain ⟨kp, hkp, ekp⟩ := NI.nat hN (i := 4) (B := 10) (by decide +kernel) (by decide)
  obtain ⟨kq, hkq, ekq⟩ := NI.nat hN (i := 5) (B := 12) (by decide +kernel) (by decide)
  obtain ⟨k8, hk8, ek8⟩ := NI.nat hN (i := 8) (B := 16) (by decide +kernel) (by decide)
  refine lv_aload_n hx hb dX12_quarrel_0 rfl (lv_at0 hl) ?_
  refine lv_iload_n hx hb dX12_quarrel_1 rfl (lv_at1 hl) ?_
  refine lv_iconst (v := 4) hx hb dX12_quarrel_2 (by decide) ?_
  refine pV hC hK hl hP hD (m_is l G kp h0 x1 4 nw nk mhasKept nt mtaped nr mrowMany mroundOf mroundFrom 0 nm mfromHour mtoHour ns mfrom mto msort misFault mdeep mcoded mlines nl nc nF np ntr nb mbestCost nso nsi nit nsh nsf nss nrc mtraced mdealer mnumber mwhose msize misParted fnw (by omega) (ekp) (by omega)) si_X12_120 [0, 1] sm_0_1 fm_0_1 nd_0_1 rfl rfl rfl rfl rfl (Nat.le_of_ble_eq_true rfl) rm_6_2_3 ⟨by first | exact Nat.le_of_ble_eq_true rfl | exact Nat.zero_le _, by first | exact Nat.le_of_ble_eq_true rfl | exact Nat.zero_le _⟩ dX12_quarrel_3 (Kors (Keqa fun a5616 => ?_) (Keqa fun a5616 => ?_))
  · refine lv_if_eq (tgt := 27) hx hb dX12_quarrel_6 (by decide) (fun c9 => absurd c9 (by decide)) (fun _ => ?_)
    refine lv_aload_n hx hb dX12_quarrel_9 rfl (lv_at0 hl) ?_
    refine lv_iload_n hx hb dX12_quarrel_10 rfl (lv_at2 hl) ?_
    refine lv_iconst (v := 5) hx hb dX12_quarrel_11 (by decide) ?_
    refine pV hC hK hl hP hD (m_is l G kq h0 x2 5 nw nk mhasKept nt mtaped nr mrowMany mroundOf mroundFrom 0 nm mfromHour mtoHour ns mfrom mto msort misFault mdeep mcoded mlines nl nc nF np ntr nb mbestCost nso nsi nit nsh nsf nss nrc mtraced mdealer mnumber mwhose msize misParted fnw (by omega) (ekq) (by omega)) si_X12_120 [0, 1] sm_0_1 fm_0_1 nd_0_1 rfl rfl rfl rfl rfl (Nat.le_of_ble_eq_true rfl) rm_6_2_3 ⟨by first | exact Nat.le_of_ble_eq_true rfl | exact Nat.zero_le _, by first | exact Nat.le_of_ble_eq_true rfl | exact Nat.zero_le _⟩ dX12_quarrel_12 (Kors (Keqa fun a5618 => ?_) (Keqa fun a5618 => ?_))
    · refine lv_if_eq (tgt := 27) hx hb dX12_quarrel_15 (by decide) (fun c9 => absurd c9 (by decide)) (fun _ => ?_)
      refine lv_iload_n hx hb dX12_quarrel_18 rfl (lv_at3 hl) ?_
      refine lv_iconst (v := 0) hx hb dX12_quarrel_19 (by decide) ?_
      refine lv_iconst (v := 1) hx hb dX12_quarrel_20 (by decide) ?_
      refine pS hC hK hl (m_within l G x3 0 1) si_X12_84 rfl rfl (Nat.le_of_ble_eq_true rfl) rm_6_1_3 ⟨by first | exact Nat.le_of_ble_eq_true rfl | exact Nat.zero_le _, by first | exact Nat.le_of_ble_eq_true rfl | exact Nat.zero_le _⟩ dX12_quarrel_21 (Kors (Keqa fun a5620 => ?_) (Keqa fun a5620 => ?_))
      · refine lv_if_ne (tgt := 29) hx hb dX12_quarrel_24 (by decide) (fun _ => ?_) (fun c9 => absurd c9 (by decide))
        obtain ⟨je, hje, rfl⟩ := Hs_nat (by omega) a5616
        obtain ⟨jp, hjp, rfl⟩ := Hs_nat (by omega) a5618
        refine lv_aload_n hx hb dX12_quarrel_29 rfl (lv_at0 hl) ?_
        refine lv_iload_n hx hb dX12_quarrel_30 rfl (lv_at2 hl) ?_
        refine pV hC hK hl hP hD (m_isIn l G h0 jp nw nk mhasKept nt mtaped nr mrowMany mroundOf mroundFrom 0 nm mfromHour mtoHour ns mfrom mto msort misFault mdeep mcoded mlines nl nc nF np ntr nb mbestCost nso nsi nit nsh nsf nss nrc mtraced mdealer mnumber mwhose msize misParted fnw (by omega)) si_X12_103 [0, 1] sm_0_1 fm_0_1 nd_0_1 rfl rfl rfl rfl rfl (Nat.le_of_ble_eq_true rfl) rm_6_2_3 ⟨by first | exact Nat.le_of_ble_eq_true rfl | exact Nat.zero_le _, by first | exact Nat.le_of_ble_eq_true rfl | exact Nat.zero_le _⟩ dX12_quarrel_31 (Kors (Keqr ?_) (Keqr ?_))
        · refine lv_if_ne (tgt := 40) hx hb dX12_quarrel_34 (by decide) (fun _ => ?_) (fun c9 => absurd c9 (by decide))
          refine lv_aload_n hx hb dX12_quarrel_40 rfl (lv_at0 hl) ?_
          refine lv_iload_n hx hb dX12_quarrel_41 rfl (lv_at2 hl) ?_
          refine lv_iload_n hx hb dX12_quarrel_42 rfl (lv_at1 hl) ?_
          refine lv_aload_n hx hb dX12_quarrel_43 rfl (lv_at0 hl) ?_
          refine iV (wr := []) hC hK hl hP hD hS hA (m_findClocks l G h0 nw nk mhasKept nt mtaped nr mrowMany mroundOf mroundFrom 0 nm mfromHour mtoHour ns mfrom mto msort misFault mdeep mcoded mlines nl nc nF np ntr nb mbestCost nso nsi nit nsh nsf nss nrc mtraced mdealer mnumber mwhose msize misParted fnw fnm (hN) (hM)) si_X12_148 [0, 1, 2] [] sm_0_1_2 fm_0_1_2 nd_0_1_2 rfl rfl (by decide) rfl rfl rfl rfl rfl (Nat.le_of_ble_eq_true rfl) rm_6_4_7 ⟨Nat.le_of_ble_eq_true rfl, Nat.le_of_ble_eq_true rfl⟩ dX12_quarrel_44 (fun r5623 gnm5625 H locs hr5623 hP hD hS => ?_)
          try dsimp only at hr5623
          refine Kpdr (ws := [(h0, oX12 nw nk mhasKept nt mtaped nr mrowMany mroundOf mroundFrom 0 nm mfromHour mtoHour ns mfrom mto msort misFault mdeep mcoded mlines nl nc nF np ntr nb mbestCost nso nsi nit nsh nsf nss nrc mtraced mdealer mnumber mwhose msize misParted), (nw, iA G 1662 fnw), (nm, iA G 36 gnm5625)]) hP hD (fun hP hD => ?_)
          obtain ⟨hr5623, w5626⟩ := hr5623
          rcases hr5623 with rfl | rfl
          · refine vV (wr := []) hC hK hl hP hD hS hA (m_findHours l G h0 jp je 1 nw nk mhasKept nt mtaped nr mrowMany mroundOf mroundFrom 0 nm mfromHour mtoHour ns mfrom mto msort misFault mdeep mcoded mlines nl nc nF np ntr nb mbestCost nso nsi nit nsh nsf nss nrc mtraced mdealer mnumber mwhose msize misParted fnw gnm5625 (by omega) (by omega) (hN) (w5626)) si_X12_298 [0, 1, 2] [] sm_0_1_2 fm_0_1_2 nd_0_1_2 rfl rfl (by decide) rfl rfl rfl rfl rfl (Nat.le_of_ble_eq_true rfl) rm_6_5_4 ⟨Nat.le_of_ble_eq_true rfl, Nat.le_of_ble_eq_true rfl⟩ dX12_quarrel_47 (Ktu2 fun fh15630 th15631 => ?_)
            intro H locs hr5628 hP hD hS
            try dsimp only at hr5628
            refine Kpdr (ws := [(h0, oX12 nw nk mhasKept nt mtaped nr mrowMany mroundOf mroundFrom 0 nm fh15630 th15631 ns mfrom mto msort misFault mdeep mcoded mlines nl nc nF np ntr nb mbestCost nso nsi nit nsh nsf nss nrc mtraced mdealer mnumber mwhose msize misParted), (nw, iA G 1662 fnw), (nm, iA G 36 gnm5625)]) hP hD (fun hP hD => ?_)
            have w5632 := hr5628
            refine lv_aload_n hx hb dX12_quarrel_50 rfl (lv_at0 hl) ?_
            refine gf_X12_161 hC rfl hK hP 0 rfl rfl dX12_quarrel_51 ?_
            refine lv_istore (lv' := [(4, .int fh15630), (0, .ref h0), (1, .int (nI je)), (2, .int (nI jp)), (3, .int x3)]) hx hb dX12_quarrel_54 hl (by decide) rfl (fun ls hl => ?_)
            refine lv_iconst (v := (-1)) hx hb dX12_quarrel_56 (by decide) ?_
            refine lv_istore (lv' := [(5, .int (-1)), (4, .int fh15630), (0, .ref h0), (1, .int (nI je)), (2, .int (nI jp)), (3, .int x3)]) hx hb dX12_quarrel_57 hl (by decide) rfl (fun ls hl => ?_)
            refine lv_aload_n hx hb dX12_quarrel_59 rfl (lv_at2 hl) ?_
            refine gf_X12_161 hC rfl hK hP 0 rfl rfl dX12_quarrel_60 ?_
            refine lv_istore (lv' := [(6, .int fh15630), (5, .int (-1)), (4, .int fh15630), (0, .ref h0), (1, .int (nI je)), (2, .int (nI jp)), (3, .int x3)]) hx hb dX12_quarrel_63 hl (by decide) rfl (fun ls hl => ?_)
            have keyZ : ∀ (nZ : Nat) (hZx : Int32) (be : Int32) (le : Int32) (H : Heap) (locs : List Loc) (ls : Array Slot), (th15631).toInt + 1 - hZx.toInt ≤ (nZ : Int) → va_PD G A [(h0, oX12 nw nk mhasKept nt mtaped nr mrowMany mroundOf mroundFrom 0 nm fh15630 th15631 ns mfrom mto msort misFault mdeep mcoded mlines nl nc nF np ntr nb mbestCost nso nsi nit nsh nsf nss nrc mtraced mdealer mnumber mwhose msize misParted), (nw, iA G 1662 fnw), (nm, iA G 36 gnm5625)] H → va_S A s.heap H locs → lv_has ls 10 [(6, .int hZx), (5, .int le), (4, .int be), (0, .ref h0), (1, .int (nI je)), (2, .int (nI jp)), (3, .int x3)] → W p l e (RM 6 0 0) s m ([.ref h0, .int (nI je), .int (nI jp), .int x3] : List Value).toArray below meth c H locs 0 0 Q0 (F0 m 65 ls []) := by
              intro nZ
              induction nZ with
              | zero =>
                intro hZx be le H locs ls hkZ hPD hS hl
                refine Kan2 hPD (fun hP hD => ?_)
                have hzZ : th15631 < hZx := hz_end (by omega)
                refine lv_iload hx hb dX12_quarrel_65 (lv_at0 hl) ?_
                refine lv_aload_n hx hb dX12_quarrel_67 rfl (lv_at3 hl) ?_
                refine gf_X12_164 hC rfl hK hP 0 rfl rfl dX12_quarrel_68 ?_
                refine lv_icmp_gt (tgt := 194) hx hb dX12_quarrel_71 (by decide) (fun _ => ?_) (fun c9 => absurd (hzZ) c9)
                refine lv_iload_n hx hb dX12_quarrel_194 rfl (lv_at6 hl) ?_
                refine lv_if_ne (tgt := 203) hx hb dX12_quarrel_195 (by decide) (fun c_195_5633 => ?_) (fun c_195_5633 => ?_)
                · refine lv_sipush (v := 1000) hx hb dX12_quarrel_203 (by decide) ?_
                  refine lv_iload hx hb dX12_quarrel_206 (lv_at2 hl) ?_
                  refine lv_iadd hx hb dX12_quarrel_208 ?_
                  exact toQ hQ0 (RI (v := 1000 + be) hC hP hD hS [0, 1, 2] (fh15630, th15631, gnm5625) rfl rfl (by decide) (⟨trivial, by first | assumption | exact hM⟩) rfl dX12_quarrel_209)
                · refine lv_iload hx hb dX12_quarrel_198 (lv_at1 hl) ?_
                  refine lv_goto (tgt := 209) hx hb dX12_quarrel_200 (by decide) ?_
                  exact toQ hQ0 (RI (v := le) hC hP hD hS [0, 1, 2] (fh15630, th15631, gnm5625) rfl rfl (by decide) (⟨trivial, by first | assumption | exact hM⟩) rfl dX12_quarrel_209)
              | succ nZ ihZ =>
                intro hZx be le H locs ls hkZ hPD hS hl
                refine Kan2 hPD (fun hP hD => ?_)
                refine lv_iload hx hb dX12_quarrel_65 (lv_at0 hl) ?_
                refine lv_aload_n hx hb dX12_quarrel_67 rfl (lv_at3 hl) ?_
                refine gf_X12_164 hC rfl hK hP 0 rfl rfl dX12_quarrel_68 ?_
                refine lv_icmp_gt (tgt := 194) hx hb dX12_quarrel_71 (by decide) (fun c_71_5634 => ?_) (fun c_71_5634 => ?_)
                · refine lv_iload_n hx hb dX12_quarrel_194 rfl (lv_at6 hl) ?_
                  refine lv_if_ne (tgt := 203) hx hb dX12_quarrel_195 (by decide) (fun c_195_5635 => ?_) (fun c_195_5635 => ?_)
                  · refine lv_sipush (v := 1000) hx hb dX12_quarrel_203 (by decide) ?_
                    refine lv_iload hx hb dX12_quarrel_206 (lv_at2 hl) ?_
                    refine lv_iadd hx hb dX12_quarrel_208 ?_
                    exact toQ hQ0 (RI (v := 1000 + be) hC hP hD hS [0, 1, 2] (fh15630, th15631, gnm5625) rfl rfl (by decide) (⟨trivial, by first | assumption | exact hM⟩) rfl dX12_quarrel_209)
                  · refine lv_iload hx hb dX12_quarrel_198 (lv_at1 hl) ?_
                    refine lv_goto (tgt := 209) hx hb dX12_quarrel_200 (by decide) ?_
                    exact toQ hQ0 (RI (v := le) hC hP hD hS [0, 1, 2] (fh15630, th15631, gnm5625) rfl rfl (by decide) (⟨trivial, by first | assumption | exact hM⟩) rfl dX12_quarrel_209)
                · refine lv_iconst (v := 0) hx hb dX12_quarrel_74 (by decide) ?_
                  refine lv_istore (lv' := [(7, .int 0), (6, .int hZx), (5, .int le), (4, .int be), (0, .ref h0), (1, .int (nI je)), (2, .int (nI jp)), (3, .int x3)]) hx hb dX12_quarrel_75 hl (by decide) rfl (fun ls hl => ?_)
                  refine lv_iconst (v := 0) hx hb dX12_quarrel_77 (by decide) ?_
                  refine lv_istore (lv' := [(8, .int 0), (7, .int 0), (6, .int hZx), (5, .int le), (4, .int be), (0, .ref h0), (1, .int (nI je)), (2, .int (nI jp)), (3, .int x3)]) hx hb dX12_quarrel_78 hl (by decide) rfl (fun ls hl => ?_)
                  have keyQ : ∀ (nQ kQ : Nat) (su : Int32) (H : Heap) (locs : List Loc) (ls : Array Slot), kQ + nQ = k8 → va_PD G A [(h0, oX12 nw nk mhasKept nt mtaped nr mrowMany mroundOf mroundFrom 0 nm fh15630 th15631 ns mfrom mto msort misFault mdeep mcoded mlines nl nc nF np ntr nb mbestCost nso nsi nit nsh nsf nss nrc mtraced mdealer mnumber mwhose msize misParted), (nw, iA G 1662 fnw), (nm, iA G 36 gnm5625)] H → va_S A s.heap H locs → lv_has ls 10 [(8, .int (nI kQ)), (7, .int su), (6, .int hZx), (5, .int le), (4, .int be), (0, .ref h0), (1, .int (nI je)), (2, .int (nI jp)), (3, .int x3)] → W p l e (RM 6 0 0) s m ([.ref h0, .int (nI je), .int (nI jp), .int x3] : List Value).toArray below meth c H locs 0 0 Q0 (F0 m 80 ls []) := by
                    intro nQ
                    induction nQ with
                    | zero =>
                      intro kQ su H locs ls hkQ hPD hS hl
                      refine Kan2 hPD (fun hP hD => ?_)
                      obtain rfl : k8 = kQ := by omega
                      have hl : lv_has ls 10 [(8, .int (nI k8)), (7, .int su), (6, .int hZx), (5, .int le), (4, .int be), (0, .ref h0), (1, .int (nI je)), (2, .int (nI jp)), (3, .int x3)] := hl
                      refine lv_iload hx hb dX12_quarrel_80 (lv_at0 hl) ?_
                      refine lv_aload_n hx hb dX12_quarrel_82 rfl (lv_at5 hl) ?_
                      refine gf_X12_9 hC rfl hK hP 0 rfl rfl dX12_quarrel_83 ?_
                      refine lv_bipush (v := 8) hx hb dX12_quarrel_86 (by decide) ?_
                      refine ald hC hK hP 1 rfl (vin (by decide +kernel)) (k := 8) (by decide +kernel) (v := nI k8) (ek8) dX12_quarrel_88 ?_
                      refine lv_icmp_ge (tgt := 168) hx hb dX12_quarrel_89 (by decide) (fun _ => ?_) (fun c9 => absurd (Int32.le_refl _) c9)
                      refine lv_iload hx hb dX12_quarrel_168 (lv_at3 hl) ?_
                      refine lv_if_lt (tgt := 180) hx hb dX12_quarrel_170 (by decide) (fun c_170_5636 => ?_) (fun c_170_5636 => ?_)
                      · refine lv_iload hx hb dX12_quarrel_180 (lv_at1 hl) ?_
                        refine lv_istore (lv' := [(5, .int su), (8, .int (nI k8)), (7, .int su), (6, .int hZx), (4, .int be), (0, .ref h0), (1, .int (nI je)), (2, .int (nI jp)), (3, .int x3)]) hx hb dX12_quarrel_182 hl (by decide) rfl (fun ls hl => ?_)
                        refine lv_iload hx hb dX12_quarrel_184 (lv_at3 hl) ?_
                        refine lv_istore (lv' := [(4, .int hZx), (5, .int su), (8, .int (nI k8)), (7, .int su), (6, .int hZx), (0, .ref h0), (1, .int (nI je)), (2, .int (nI jp)), (3, .int x3)]) hx hb dX12_quarrel_186 hl (by decide) rfl (fun ls hl => ?_)
                        refine lv_iinc (v := hZx + 1) (lv' := [(6, .int (hZx + 1)), (4, .int hZx), (5, .int su), (8, .int (nI k8)), (7, .int su), (0, .ref h0), (1, .int (nI je)), (2, .int (nI jp)), (3, .int x3)]) hx hb dX12_quarrel_188 hl (k := 4) rfl (rfl) (by decide) rfl (fun ls hl => ?_)
                        refine lv_goto (tgt := 65) hx hb dX12_quarrel_191 (by decide) ?_
                        exact ihZ (hZx + 1) hZx su _ _ _ (hz_back c_71_5634 w5632 hkZ) (And.intro hP hD) hS (lv_sub hl [0, 2, 1, 5, 6, 7, 8] rfl)
                      · refine lv_iload hx hb dX12_quarrel_173 (lv_at1 hl) ?_
                        refine lv_iload hx hb dX12_quarrel_175 (lv_at3 hl) ?_
                        refine lv_icmp_ge (tgt := 188) hx hb dX12_quarrel_177 (by decide) (fun c_177_5637 => ?_) (fun c_177_5637 => ?_)
                        · refine lv_iinc (v := hZx + 1) (lv' := [(6, .int (hZx + 1)), (8, .int (nI k8)), (7, .int su), (5, .int le), (4, .int be), (0, .ref h0), (1, .int (nI je)), (2, .int (nI jp)), (3, .int x3)]) hx hb dX12_quarrel_188 hl (k := 2) rfl (rfl) (by decide) rfl (fun ls hl => ?_)
                          refine lv_goto (tgt := 65) hx hb dX12_quarrel_191 (by decide) ?_
                          exact ihZ (hZx + 1) be le _ _ _ (hz_back c_71_5634 w5632 hkZ) (And.intro hP hD) hS (lv_sub hl [0, 3, 4, 5, 6, 7, 8] rfl)
                        · refine lv_iload hx hb dX12_quarrel_180 (lv_at1 hl) ?_
                          refine lv_istore (lv' := [(5, .int su), (8, .int (nI k8)), (7, .int su), (6, .int hZx), (4, .int be), (0, .ref h0), (1, .int (nI je)), (2, .int (nI jp)), (3, .int x3)]) hx hb dX12_quarrel_182 hl (by decide) rfl (fun ls hl => ?_)
                          refine lv_iload hx hb dX12_quarrel_184 (lv_at3 hl) ?_
                          refine lv_istore (lv' := [(4, .int hZx), (5, .int su), (8, .int (nI k8)), (7, .int su), (6, .int hZx), (0, .ref h0), (1, .int (nI je)), (2, .int (nI jp)), (3, .int x3)]) hx hb dX12_quarrel_186 hl (by decide) rfl (fun ls hl => ?_)
                          refine lv_iinc (v := hZx + 1) (lv' := [(6, .int (hZx + 1)), (4, .int hZx), (5, .int su), (8, .int (nI k8)), (7, .int su), (0, .ref h0), (1, .int (nI je)), (2, .int (nI jp)), (3, .int x3)]) hx hb dX12_quarrel_188 hl (k := 4) rfl (rfl) (by decide) rfl (fun ls hl => ?_)
                          refine lv_goto (tgt := 65) hx hb dX12_quarrel_191 (by decide) ?_
                          exact ihZ (hZx + 1) hZx su _ _ _ (hz_back c_71_5634 w5632 hkZ) (And.intro hP hD) hS (lv_sub hl [0, 2, 1, 5, 6, 7, 8] rfl)
                    | succ nQ ihQ =>
                      intro kQ su H locs ls hkQ hPD hS hl
                      refine Kan2 hPD (fun hP hD => ?_)
                      refine lv_iload hx hb dX12_quarrel_80 (lv_at0 hl) ?_
                      refine lv_aload_n hx hb dX12_quarrel_82 rfl (lv_at5 hl) ?_
                      refine gf_X12_9 hC rfl hK hP 0 rfl rfl dX12_quarrel_83 ?_
                      refine lv_bipush (v := 8) hx hb dX12_quarrel_86 (by decide) ?_
                      refine ald hC hK hP 1 rfl (vin (by decide +kernel)) (k := 8) (by decide +kernel) (v := nI k8) (ek8) dX12_quarrel_88 ?_
                      refine lv_icmp_ge (tgt := 168) hx hb dX12_quarrel_89 (by decide) (fun c9 => absurd c9 (nI_ge (a := kQ) (b := k8) (by omega) (by omega))) (fun _ => ?_)
                      refine lv_aload_n hx hb dX12_quarrel_92 rfl (lv_at5 hl) ?_
                      refine lv_iload hx hb dX12_quarrel_93 (lv_at0 hl) ?_
                      refine pV hC hK hl hP hD (m_doesCount l G h0 kQ nw nk mhasKept nt mtaped nr mrowMany mroundOf mroundFrom 0 nm fh15630 th15631 ns mfrom mto msort misFault mdeep mcoded mlines nl nc nF np ntr nb mbestCost nso nsi nit nsh nsf nss nrc mtraced mdealer mnumber mwhose msize misParted fnw (by omega) (hN)) si_X12_117 [0, 1] sm_0_1 fm_0_1 nd_0_1 rfl rfl rfl rfl rfl (Nat.le_of_ble_eq_true rfl) rm_6_4_2 ⟨by first | exact Nat.le_of_ble_eq_true rfl | exact Nat.zero_le _, by first | exact Nat.le_of_ble_eq_true rfl | exact Nat.zero_le _⟩ dX12_quarrel_95 (Kors (Keqr ?_) (Keqr ?_))
                      · refine lv_if_eq (tgt := 127) hx hb dX12_quarrel_98 (by decide) (fun c9 => absurd c9 (by decide)) (fun _ => ?_)
                        refine lv_aload_n hx hb dX12_quarrel_101 rfl (lv_at5 hl) ?_
                        refine lv_iload hx hb dX12_quarrel_102 (lv_at0 hl) ?_
                        refine lv_iconst (v := 1) hx hb dX12_quarrel_104 (by decide) ?_
                        refine pV hC hK hl hP hD (m_saying l G h0 kQ 1 nw nk mhasKept nt mtaped nr mrowMany mroundOf mroundFrom 0 nm fh15630 th15631 ns mfrom mto msort misFault mdeep mcoded mlines nl nc nF np ntr nb mbestCost nso nsi nit nsh nsf nss nrc mtraced mdealer mnumber mwhose msize misParted fnw (by omega) (by omega)) si_X12_114 [0, 1] sm_0_1 fm_0_1 nd_0_1 rfl rfl rfl rfl rfl (Nat.le_of_ble_eq_true rfl) rm_6_1_3 ⟨by first | exact Nat.le_of_ble_eq_true rfl | exact Nat.zero_le _, by first | exact Nat.le_of_ble_eq_true rfl | exact Nat.zero_le _⟩ dX12_quarrel_105 (Keqr ?_)
                        refine lv_iload_n hx hb dX12_quarrel_108 rfl (lv_at6 hl) ?_
                        refine lv_icmp_ne (tgt := 127) hx hb dX12_quarrel_109 (by decide) (fun c_109_5642 => ?_) (fun c_109_5642 => ?_)
                        · refine lv_iconst (v := 0) hx hb dX12_quarrel_127 (by decide) ?_
                          refine lv_istore (lv' := [(9, .int 0), (8, .int (nI kQ)), (7, .int su), (6, .int hZx), (5, .int le), (4, .int be), (0, .ref h0), (1, .int (nI je)), (2, .int (nI jp)), (3, .int x3)]) hx hb dX12_quarrel_128 hl (by decide) rfl (fun ls hl => ?_)
                          refine lv_iload hx hb dX12_quarrel_130 (lv_at2 hl) ?_
                          refine lv_iload hx hb dX12_quarrel_132 (lv_at0 hl) ?_
                          refine lv_if_eq (tgt := 158) hx hb dX12_quarrel_134 (by decide) (fun _ => ?_) (fun c9 => absurd (by decide) c9)
                          refine lv_iconst (v := 0) hx hb dX12_quarrel_158 (by decide) ?_
                          refine lv_iadd hx hb dX12_quarrel_159 ?_
                          refine lv_istore (lv' := [(7, .int (su + 0)), (9, .int 0), (8, .int (nI kQ)), (6, .int hZx), (5, .int le), (4, .int be), (0, .ref h0), (1, .int (nI je)), (2, .int (nI jp)), (3, .int x3)]) hx hb dX12_quarrel_160 hl (by decide) rfl (fun ls hl => ?_)
                          refine lv_iinc (v := nI (kQ + 1)) (lv' := [(8, .int (nI (kQ + 1))), (7, .int (su + 0)), (9, .int 0), (6, .int hZx), (5, .int le), (4, .int be), (0, .ref h0), (1, .int (nI je)), (2, .int (nI jp)), (3, .int x3)]) hx hb dX12_quarrel_162 hl (k := 2) rfl (nI_1 _) (by decide) rfl (fun ls hl => ?_)
                          refine lv_goto (tgt := 80) hx hb dX12_quarrel_165 (by decide) ?_
                          exact ihQ (kQ + 1) (su + 0) _ _ _ (by omega) (And.intro hP hD) hS (lv_sub hl [0, 1, 3, 4, 5, 6, 7, 8, 9] rfl)
                        · refine lv_aload_n hx hb dX12_quarrel_112 rfl (lv_at5 hl) ?_
                          refine lv_iload hx hb dX12_quarrel_113 (lv_at0 hl) ?_
                          refine lv_iconst (v := 2) hx hb dX12_quarrel_115 (by decide) ?_
                          refine pV hC hK hl hP hD (m_saying l G h0 kQ 2 nw nk mhasKept nt mtaped nr mrowMany mroundOf mroundFrom 0 nm fh15630 th15631 ns mfrom mto msort misFault mdeep mcoded mlines nl nc nF np ntr nb mbestCost nso nsi nit nsh nsf nss nrc mtraced mdealer mnumber mwhose msize misParted fnw (by omega) (by omega)) si_X12_114 [0, 1] sm_0_1 fm_0_1 nd_0_1 rfl rfl rfl rfl rfl (Nat.le_of_ble_eq_true rfl) rm_6_1_3 ⟨by first | exact Nat.le_of_ble_eq_true rfl | exact Nat.zero_le _, by first | exact Nat.le_of_ble_eq_true rfl | exact Nat.zero_le _⟩ dX12_quarrel_116 (Keqr ?_)
                          refine lv_iload_n hx hb dX12_quarrel_119 rfl (lv_at7 hl) ?_
                          refine lv_icmp_ne (tgt := 127) hx hb dX12_quarrel_120 (by decide) (fun c_120_5645 => ?_) (fun c_120_5645 => ?_)
                          · refine lv_iconst (v := 0) hx hb dX12_quarrel_127 (by decide) ?_
                            refine lv_istore (lv' := [(9, .int 0), (8, .int (nI kQ)), (7, .int su), (6, .int hZx), (5, .int le), (4, .int be), (0, .ref h0), (1, .int (nI je)), (2, .int (nI jp)), (3, .int x3)]) hx hb dX12_quarrel_128 hl (by decide) rfl (fun ls hl => ?_)
                            refine lv_iload hx hb dX12_quarrel_130 (lv_at2 hl) ?_
                            refine lv_iload hx hb dX12_quarrel_132 (lv_at0 hl) ?_
                            refine lv_if_eq (tgt := 158) hx hb dX12_quarrel_134 (by decide) (fun _ => ?_) (fun c9 => absurd (by decide) c9)
                            refine lv_iconst (v := 0) hx hb dX12_quarrel_158 (by decide) ?_
                            refine lv_iadd hx hb dX12_quarrel_159 ?_
                            refine lv_istore (lv' := [(7, .int (su + 0)), (9, .int 0), (8, .int (nI kQ)), (6, .int hZx), (5, .int le), (4, .int be), (0, .ref h0), (1, .int (nI je)), (2, .int (nI jp)), (3, .int x3)]) hx hb dX12_quarrel_160 hl (by decide) rfl (fun ls hl => ?_)
                            refine lv_iinc (v := nI (kQ + 1)) (lv' := [(8, .int (nI (kQ + 1))), (7, .int (su + 0)), (9, .int 0), (6, .int hZx), (5, .int le), (4, .int be), (0, .ref h0), (1, .int (nI je)), (2, .int (nI jp)), (3, .int x3)]) hx hb dX12_quarrel_162 hl (k := 2) rfl (nI_1 _) (by decide) rfl (fun ls hl => ?_)
                            refine lv_goto (tgt := 80) hx hb dX12_quarrel_165 (by decide) ?_
                            exact ihQ (kQ + 1) (su + 0) _ _ _ (by omega) (And.intro hP hD) hS (lv_sub hl [0, 1, 3, 4, 5, 6, 7, 8, 9] rfl)
                          · refine lv_iconst (v := 1) hx hb dX12_quarrel_123 (by decide) ?_
                            refine lv_goto (tgt := 128) hx hb dX12_quarrel_124 (by decide) ?_
                            refine lv_istore (lv' := [(9, .int 1), (8, .int (nI kQ)), (7, .int su), (6, .int hZx), (5, .int le), (4, .int be), (0, .ref h0), (1, .int (nI je)), (2, .int (nI jp)), (3, .int x3)]) hx hb dX12_quarrel_128 hl (by decide) rfl (fun ls hl => ?_)
                            refine lv_iload hx hb dX12_quarrel_130 (lv_at2 hl) ?_
                            refine lv_iload hx hb dX12_quarrel_132 (lv_at0 hl) ?_
                            refine lv_if_eq (tgt := 158) hx hb dX12_quarrel_134 (by decide) (fun c9 => absurd c9 (by decide)) (fun _ => ?_)
                            refine lv_aload_n hx hb dX12_quarrel_137 rfl (lv_at6 hl) ?_
                            refine lv_iload hx hb dX12_quarrel_138 (lv_at3 hl) ?_
                            refine lv_iload hx hb dX12_quarrel_140 (lv_at1 hl) ?_
                            refine pV hC hK hl hP hD (m_isAgainst l G h0 hZx kQ nw nk mhasKept nt mtaped nr mrowMany mroundOf mroundFrom 0 nm fh15630 th15631 ns mfrom mto msort misFault mdeep mcoded mlines nl nc nF np ntr nb mbestCost nso nsi nit nsh nsf nss nrc mtraced mdealer mnumber mwhose msize misParted fnw (by omega)) si_X12_302 [0, 1] sm_0_1 fm_0_1 nd_0_1 rfl rfl rfl rfl rfl (Nat.le_of_ble_eq_true rfl) rm_6_2_3 ⟨by first | exact Nat.le_of_ble_eq_true rfl | exact Nat.zero_le _, by first | exact Nat.le_of_ble_eq_true rfl | exact Nat.zero_le _⟩ dX12_quarrel_142 (Kors (Keqr ?_) (Keqr ?_))
                            · refine lv_if_eq (tgt := 158) hx hb dX12_quarrel_145 (by decide) (fun c9 => absurd c9 (by decide)) (fun _ => ?_)
                              refine lv_aload_n hx hb dX12_quarrel_148 rfl (lv_at6 hl) ?_
                              refine lv_iload hx hb dX12_quarrel_149 (lv_at1 hl) ?_
                              refine lv_iconst (v := 4) hx hb dX12_quarrel_151 (by decide) ?_
                              refine pV hC hK hl hP hD (m_saying l G h0 kQ 4 nw nk mhasKept nt mtaped nr mrowMany mroundOf mroundFrom 0 nm fh15630 th15631 ns mfrom mto msort misFault mdeep mcoded mlines nl nc nF np ntr nb mbestCost nso nsi nit nsh nsf nss nrc mtraced mdealer mnumber mwhose msize misParted fnw (by omega) (by omega)) si_X12_114 [0, 1] sm_0_1 fm_0_1 nd_0_1 rfl rfl rfl rfl rfl (Nat.le_of_ble_eq_true rfl) rm_6_1_3 ⟨by first | exact Nat.le_of_ble_eq_true rfl | exact Nat.zero_le _, by first | exact Nat.le_of_ble_eq_true rfl | exact Nat.zero_le _⟩ dX12_quarrel_152 (Keqr ?_)
                              refine lv_goto (tgt := 159) hx hb dX12_quarrel_155 (by decide) ?_
                              refine lv_iadd hx hb dX12_quarrel_159 ?_
                              refine lv_istore (lv' := [(7, .int (su + (fnw (1424 + 8 * kQ + 4)))), (9, .int 1), (8, .int (nI kQ)), (6, .int hZx), (5, .int le), (4, .int be), (0, .ref h0), (1, .int (nI je)), (2, .int (nI jp)), (3, .int x3)]) hx hb dX12_quarrel_160 hl (by decide) rfl (fun ls hl => ?_)
                              refine lv_iinc (v := nI (kQ + 1)) (lv' := [(8, .int (nI (kQ + 1))), (7, .int (su + (fnw (1424 + 8 * kQ + 4)))), (9, .int 1), (6, .int hZx), (5, .int le), (4, .int be), (0, .ref h0), (1, .int (nI je)), (2, .int (nI jp)), (3, .int x3)]) hx hb dX12_quarrel_162 hl (k := 2) rfl (nI_1 _) (by decide) rfl (fun ls hl => ?_)
                              refine lv_goto (tgt := 80) hx hb dX12_quarrel_165 (by decide) ?_
                              exact ihQ (kQ + 1) (su + (fnw (1424 + 8 * kQ + 4))) _ _ _ (by omega) (And.intro hP hD) hS (lv_sub hl [0, 1, 3, 4, 5, 6, 7, 8, 9] rfl)
                            · refine lv_if_eq (tgt := 158) hx hb dX12_quarrel_145 (by decide) (fun _ => ?_) (fun c9 => absurd (by decide) c9)
                              refine lv_iconst (v := 0) hx hb dX12_quarrel_158 (by decide) ?_
                              refine lv_iadd hx hb dX12_quarrel_159 ?_
                              refine lv_istore (lv' := [(7, .int (su + 0)), (9, .int 1), (8, .int (nI kQ)), (6, .int hZx), (5, .int le), (4, .int be), (0, .ref h0), (1, .int (nI je)), (2, .int (nI jp)), (3, .int x3)]) hx hb dX12_quarrel_160 hl (by decide) rfl (fun ls hl => ?_)
                              refine lv_iinc (v := nI (kQ + 1)) (lv' := [(8, .int (nI (kQ + 1))), (7, .int (su + 0)), (9, .int 1), (6, .int hZx), (5, .int le), (4, .int be), (0, .ref h0), (1, .int (nI je)), (2, .int (nI jp)), (3, .int x3)]) hx hb dX12_quarrel_162 hl (k := 2) rfl (nI_1 _) (by decide) rfl (fun ls hl => ?_)
                              refine lv_goto (tgt := 80) hx hb dX12_quarrel_165 (by decide) ?_
                              exact ihQ (kQ + 1) (su + 0) _ _ _ (by omega) (And.intro hP hD) hS (lv_sub hl [0, 1, 3, 4, 5, 6, 7, 8, 9] rfl)
                      · refine lv_if_eq (tgt := 127) hx hb dX12_quarrel_98 (by decide) (fun _ => ?_) (fun c9 => absurd (by decide) c9)
                        refine lv_iconst (v := 0) hx hb dX12_quarrel_127 (by decide) ?_
                        refine lv_istore (lv' := [(9, .int 0), (8, .int (nI kQ)), (7, .int su), (6, .int hZx), (5, .int le), (4, .int be), (0, .ref h0), (1, .int (nI je)), (2, .int (nI jp)), (3, .int x3)]) hx hb dX12_quarrel_128 hl (by decide) rfl (fun ls hl => ?_)
                        refine lv_iload hx hb dX12_quarrel_130 (lv_at2 hl) ?_
                        refine lv_iload hx hb dX12_quarrel_132 (lv_at0 hl) ?_
                        refine lv_if_eq (tgt := 158) hx hb dX12_quarrel_134 (by decide) (fun _ => ?_) (fun c9 => absurd (by decide) c9)
                        refine lv_iconst (v := 0) hx hb dX12_quarrel_158 (by decide) ?_
                        refine lv_iadd hx hb dX12_quarrel_159 ?_
                        refine lv_istore (lv' := [(7, .int (su + 0)), (9, .int 0), (8, .int (nI kQ)), (6, .int hZx), (5, .int le), (4, .int be), (0, .ref h0), (1, .int (nI je)), (2, .int (nI jp)), (3, .int x3)]) hx hb dX12_quarrel_160 hl (by decide) rfl (fun ls hl => ?_)
                        refine lv_iinc (v := nI (kQ + 1)) (lv' := [(8, .int (nI (kQ + 1))), (7, .int (su + 0)), (9, .int 0), (6, .int hZx), (5, .int le), (4, .int be), (0, .ref h0), (1, .int (nI je)), (2, .int (nI jp)), (3, .int x3)]) hx hb dX12_quarrel_162 hl (k := 2) rfl (nI_1 _) (by decide) rfl (fun ls hl => ?_)
                        refine lv_goto (tgt := 80) hx hb dX12_quarrel_165 (by decide) ?_
                        exact ihQ (kQ + 1) (su + 0) _ _ _ (by omega) (And.intro hP hD) hS (lv_sub hl [0, 1, 3, 4, 5, 6, 7, 8, 9] rfl)
                  exact keyQ k8 0 0 _ _ _ (by omega) (And.intro hP hD) hS (lv_sub hl [0, 1, 2, 3, 4, 5, 6, 7, 8] rfl)
            exact keyZ ((th15631).toInt + 1 - (fh15630).toInt).toNat fh15630 fh15630 (-1) _ _ _ (by omega) (And.intro hP hD) hS (lv_sub hl [0, 1, 2, 3, 4, 5, 6] rfl)
          · refine vV (wr := []) hC hK hl hP hD hS hA (m_findHours l G h0 jp je 0 nw nk mhasKept nt mtaped nr mrowMany mroundOf mroundFrom 0 nm mfromHour mtoHour ns mfrom mto msort misFault mdeep mcoded mlines nl nc nF np ntr nb mbestCost nso nsi nit nsh nsf nss nrc mtraced mdealer mnumber mwhose msize misParted fnw gnm5625 (by omega) (by omega) (hN) (w5626)) si_X12_298 [0, 1, 2] [] sm_0_1_2 fm_0_1_2 nd_0_1_2 rfl rfl (by decide) rfl rfl rfl rfl rfl (Nat.le_of_ble_eq_true rfl) rm_6_5_4 ⟨Nat.le_of_ble_eq_true rfl, Nat.le_of_ble_eq_true rfl⟩ dX12_quarrel_47 (Ktu2 fun fh15652 th15653 => ?_)
            intro H locs hr5650 hP hD hS
            try dsimp only at hr5650
            refine Kpdr (ws := [(h0, oX12 nw nk mhasKept nt mtaped nr mrowMany mroundOf mroundFrom 0 nm fh15652 th15653 ns mfrom mto msort misFault mdeep mcoded mlines nl nc nF np ntr nb mbestCost nso nsi nit nsh nsf nss nrc mtraced mdealer mnumber mwhose msize misParted), (nw, iA G 1662 fnw), (nm, iA G 36 gnm5625)]) hP hD (fun hP hD => ?_)
            have w5654 := hr5650
            refine lv_aload_n hx hb dX12_quarrel_50 rfl (lv_at0 hl) ?_
            refine gf_X12_161 hC rfl hK hP 0 rfl rfl dX12_quarrel_51 ?_
            refine lv_istore (lv' := [(4, .int fh15652), (0, .ref h0), (1, .int (nI je)), (2, .int (nI jp)), (3, .int x3)]) hx hb dX12_quarrel_54 hl (by decide) rfl (fun ls hl => ?_)
            refine lv_iconst (v := (-1)) hx hb dX12_quarrel_56 (by decide) ?_
            refine lv_istore (lv' := [(5, .int (-1)), (4, .int fh15652), (0, .ref h0), (1, .int (nI je)), (2, .int (nI jp)), (3, .int x3)]) hx hb dX12_quarrel_57 hl (by decide) rfl (fun ls hl => ?_)
            refine lv_aload_n hx hb dX12_quarrel_59 rfl (lv_at2 hl) ?_
            refine gf_X12_161 hC rfl hK hP 0 rfl rfl dX12_quarrel_60 ?_
            refine lv_istore (lv' := [(6, .int fh15652), (5, .int (-1)), (4, .int fh15652), (0, .ref h0), (1, .int (nI je)), (2, .int (nI jp)), (3, .int x3)]) hx hb dX12_quarrel_63 hl (by decide) rfl (fun ls hl => ?_)
            have keyZ : ∀ (nZ : Nat) (hZx : Int32) (be : Int32) (le : Int32) (H : Heap) (locs : List Loc) (ls : Array Slot), (th15653).toInt + 1 - hZx.toInt ≤ (nZ : Int) → va_PD G A [(h0, oX12 nw nk mhasKept nt mtaped nr mrowMany mroundOf mroundFrom 0 nm fh15652 th15653 ns mfrom mto msort misFault mdeep mcoded mlines nl nc nF np ntr nb mbestCost nso nsi nit nsh nsf nss nrc mtraced mdealer mnumber mwhose msize misParted), (nw, iA G 1662 fnw), (nm, iA G 36 gnm5625)] H → va_S A s.heap H locs → lv_has ls 10 [(6, .int hZx), (5, .int le), (4, .int be), (0, .ref h0), (1, .int (nI je)), (2, .int (nI jp)), (3, .int x3)] → W p l e (RM 6 0 0) s m ([.ref h0, .int (nI je), .int (nI jp), .int x3] : List Value).toArray below meth c H locs 0 0 Q0 (F0 m 65 ls []) := by
              intro nZ
              induction nZ with
              | zero =>
                intro hZx be le H locs ls hkZ hPD hS hl
                refine Kan2 hPD (fun hP hD => ?_)
                have hzZ : th15653 < hZx := hz_end (by omega)
                refine lv_iload hx hb dX12_quarrel_65 (lv_at0 hl) ?_
                refine lv_aload_n hx hb dX12_quarrel_67 rfl (lv_at3 hl) ?_
                refine gf_X12_164 hC rfl hK hP 0 rfl rfl dX12_quarrel_68 ?_
                refine lv_icmp_gt (tgt := 194) hx hb dX12_quarrel_71 (by decide) (fun _ => ?_) (fun c9 => absurd (hzZ) c9)
                refine lv_iload_n hx hb dX12_quarrel_194 rfl (lv_at6 hl) ?_
                refine lv_if_ne (tgt := 203) hx hb dX12_quarrel_195 (by decide) (fun c_195_5655 => ?_) (fun c_195_5655 => ?_)
                · refine lv_sipush (v := 1000) hx hb dX12_quarrel_203 (by decide) ?_
                  refine lv_iload hx hb dX12_quarrel_206 (lv_at2 hl) ?_
                  refine lv_iadd hx hb dX12_quarrel_208 ?_
                  exact toQ hQ0 (RI (v := 1000 + be) hC hP hD hS [0, 1, 2] (fh15652, th15653, gnm5625) rfl rfl (by decide) (⟨trivial, by first | assumption | exact hM⟩) rfl dX12_quarrel_209)
                · refine lv_iload hx hb dX12_quarrel_198 (lv_at1 hl) ?_
                  refine lv_goto (tgt := 209) hx hb dX12_quarrel_200 (by decide) ?_
                  exact toQ hQ0 (RI (v := le) hC hP hD hS [0, 1, 2] (fh15652, th15653, gnm5625) rfl rfl (by decide) (⟨trivial, by first | assumption | exact hM⟩) rfl dX12_quarrel_209)
              | succ nZ ihZ =>
                intro hZx be le H locs ls hkZ hPD hS hl
                refine Kan2 hPD (fun hP hD => ?_)
                refine lv_iload hx hb dX12_quarrel_65 (lv_at0 hl) ?_
                refine lv_aload_n hx hb dX12_quarrel_67 rfl (lv_at3 hl) ?_
                refine gf_X12_164 hC rfl hK hP 0 rfl rfl dX12_quarrel_68 ?_
                refine lv_icmp_gt (tgt := 194) hx hb dX12_quarrel_71 (by decide) (fun c_71_5656 => ?_) (fun c_71_5656 => ?_)
                · refine lv_iload_n hx hb dX12_quarrel_194 rfl (lv_at6 hl) ?_
                  refine lv_if_ne (tgt := 203) hx hb dX12_quarrel_195 (by decide) (fun c_195_5657 => ?_) (fun c_195_5657 => ?_)
                  · refine lv_sipush (v := 1000) hx hb dX12_quarrel_203 (by decide) ?_
                    refine lv_iload hx hb dX12_quarrel_206 (lv_at2 hl) ?_
                    refine lv_iadd hx hb dX12_quarrel_208 ?_
                    exact toQ hQ0 (RI (v := 1000 + be) hC hP hD hS [0, 1, 2] (fh15652, th15653, gnm5625) rfl rfl (by decide) (⟨trivial, by first | assumption | exact hM⟩) rfl dX12_quarrel_209)
                  · refine lv_iload hx hb dX12_quarrel_198 (lv_at1 hl) ?_
                    refine lv_goto (tgt := 209) hx hb dX12_quarrel_200 (by decide) ?_
                    exact toQ hQ0 (RI (v := le) hC hP hD hS [0, 1, 2] (fh15652, th15653, gnm5625) rfl rfl (by decide) (⟨trivial, by first | assumption | exact hM⟩) rfl dX12_quarrel_209)
                · refine lv_iconst (v := 0) hx hb dX12_quarrel_74 (by decide) ?_
                  refine lv_istore (lv' := [(7, .int 0), (6, .int hZx), (5, .int le), (4, .int be), (0, .ref h0), (1, .int (nI je)), (2, .int (nI jp)), (3, .int x3)]) hx hb dX12_quarrel_75 hl (by decide) rfl (fun ls hl => ?_)
                  refine lv_iconst (v := 0) hx hb dX12_quarrel_77 (by decide) ?_
                  refine lv_istore (lv' := [(8, .int 0), (7, .int 0), (6, .int hZx), (5, .int le), (4, .int be), (0, .ref h0), (1, .int (nI je)), (2, .int (nI jp)), (3, .int x3)]) hx hb dX12_quarrel_78 hl (by decide) rfl (fun ls hl => ?_)
                  have keyQ : ∀ (nQ kQ : Nat) (su : Int32) (H : Heap) (locs : List Loc) (ls : Array Slot), kQ + nQ = k8 → va_PD G A [(h0, oX12 nw nk mhasKept nt mtaped nr mrowMany mroundOf mroundFrom 0 nm fh15652 th15653 ns mfrom mto msort misFault mdeep mcoded mlines nl nc nF np ntr nb mbestCost nso nsi nit nsh nsf nss nrc mtraced mdealer mnumber mwhose msize misParted), (nw, iA G 1662 fnw), (nm, iA G 36 gnm5625)] H → va_S A s.heap H locs → lv_has ls 10 [(8, .int (nI kQ)), (7, .int su), (6, .int hZx), (5, .int le), (4, .int be), (0, .ref h0), (1, .int (nI je)), (2, .int (nI jp)), (3, .int x3)] → W p l e (RM 6 0 0) s m ([.ref h0, .int (nI je), .int (nI jp), .int x3] : List Value).toArray below meth c H locs 0 0 Q0 (F0 m 80 ls []) := by
                    intro nQ
                    induction nQ with
                    | zero =>
                      intro kQ su H locs ls hkQ hPD hS hl
                      refine Kan2 hPD (fun hP hD => ?_)
                      obtain rfl : k8 = kQ := by omega
                      have hl : lv_has ls 10 [(8, .int (nI k8)), (7, .int su), (6, .int hZx), (5, .int le), (4, .int be), (0, .ref h0), (1, .int (nI je)), (2, .int (nI jp)), (3, .int x3)] := hl
                      refine lv_iload hx hb dX12_quarrel_80 (lv_at0 hl) ?_
                      refine lv_aload_n hx hb dX12_quarrel_82 rfl (lv_at5 hl) ?_
                      refine gf_X12_9 hC rfl hK hP 0 rfl rfl dX12_quarrel_83 ?_
                      refine lv_bipush (v := 8) hx hb dX12_quarrel_86 (by decide) ?_
                      refine ald hC hK hP 1 rfl (vin (by decide +kernel)) (k := 8) (by decide +kernel) (v := nI k8) (ek8) dX12_quarrel_88 ?_
                      refine lv_icmp_ge (tgt := 168) hx hb dX12_quarrel_89 (by decide) (fun _ => ?_) (fun c9 => absurd (Int32.le_refl _) c9)
                      refine lv_iload hx hb dX12_quarrel_168 (lv_at3 hl) ?_
                      refine lv_if_lt (tgt := 180) hx hb dX12_quarrel_170 (by decide) (fun c_170_5658 => ?_) (fun c_170_5658 => ?_)
                      · refine lv_iload hx hb dX12_quarrel_180 (lv_at1 hl) ?_
                        refine lv_istore (lv' := [(5, .int su), (8, .int (nI k8)), (7, .int su), (6, .int hZx), (4, .int be), (0, .ref h0), (1, .int (nI je)), (2, .int (nI jp)), (3, .int x3)]) hx hb dX12_quarrel_182 hl (by decide) rfl (fun ls hl => ?_)
                        refine lv_iload hx hb dX12_quarrel_184 (lv_at3 hl) ?_
                        refine lv_istore (lv' := [(4, .int hZx), (5, .int su), (8, .int (nI k8)), (7, .int su), (6, .int hZx), (0, .ref h0), (1, .int (nI je)), (2, .int (nI jp)), (3, .int x3)]) hx hb dX12_quarrel_186 hl (by decide) rfl (fun ls hl => ?_)
                        refine lv_iinc (v := hZx + 1) (lv' := [(6, .int (hZx + 1)), (4, .int hZx), (5, .int su), (8, .int (nI k8)), (7, .int su), (0, .ref h0), (1, .int (nI je)), (2, .int (nI jp)), (3, .int x3)]) hx hb dX12_quarrel_188 hl (k := 4) rfl (rfl) (by decide) rfl (fun ls hl => ?_)
                        refine lv_goto (tgt := 65) hx hb dX12_quarrel_191 (by decide) ?_
                        exact ihZ (hZx + 1) hZx su _ _ _ (hz_back c_71_5656 w5654 hkZ) (And.intro hP hD) hS (lv_sub hl [0, 2, 1, 5, 6, 7, 8] rfl)
                      · refine lv_iload hx hb dX12_quarrel_173 (lv_at1 hl) ?_
                        refine lv_iload hx hb dX12_quarrel_175 (lv_at3 hl) ?_
                        refine lv_icmp_ge (tgt := 188) hx hb dX12_quarrel_177 (by decide) (fun c_177_5659 => ?_) (fun c_177_5659 => ?_)
                        · refine lv_iinc (v := hZx + 1) (lv' := [(6, .int (hZx + 1)), (8, .int (nI k8)), (7, .int su), (5, .int le), (4, .int be), (0, .ref h0), (1, .int (nI je)), (2, .int (nI jp)), (3, .int x3)]) hx hb dX12_quarrel_188 hl (k := 2) rfl (rfl) (by decide) rfl (fun ls hl => ?_)
                          refine lv_goto (tgt := 65) hx hb dX12_quarrel_191 (by decide) ?_
                          exact ihZ (hZx + 1) be le _ _ _ (hz_back c_71_5656 w5654 hkZ) (And.intro hP hD) hS (lv_sub hl [0, 3, 4, 5, 6, 7, 8] rfl)
                        · refine lv_iload hx hb dX12_quarrel_180 (lv_at1 hl) ?_
                          refine lv_istore (lv' := [(5, .int su), (8, .int (nI k8)), (7, .int su), (6, .int hZx), (4, .int be), (0, .ref h0), (1, .int (nI je)), (2, .int (nI jp)), (3, .int x3)]) hx hb dX12_quarrel_182 hl (by decide) rfl (fun ls hl => ?_)
                          refine lv_iload hx hb dX12_quarrel_184 (lv_at3 hl) ?_
                          refine lv_istore (lv' := [(4, .int hZx), (5, .int su), (8, .int (nI k8)), (7, .int su), (6, .int hZx), (0, .ref h0), (1, .int (nI je)), (2, .int (nI jp)), (3, .int x3)]) hx hb dX12_quarrel_186 hl (by decide) rfl (fun ls hl => ?_)
                          refine lv_iinc (v := hZx + 1) (lv' := [(6, .int (hZx + 1)), (4, .int hZx), (5, .int su), (8, .int (nI k8)), (7, .int su), (0, .ref h0), (1, .int (nI je)), (2, .int (nI jp)), (3, .int x3)]) hx hb dX12_quarrel_188 hl (k := 4) rfl (rfl) (by decide) rfl (fun ls hl => ?_)
                          refine lv_goto (tgt := 65) hx hb dX12_quarrel_191 (by decide) ?_
                          exact ihZ (hZx + 1) hZx su _ _ _ (hz_back c_71_5656 w5654 hkZ) (And.intro hP hD) hS (lv_sub hl [0, 2, 1, 5, 6, 7, 8] rfl)
                    | succ nQ ihQ =>
                      intro kQ su H locs ls hkQ hPD hS hl
                      refine Kan2 hPD (fun hP hD => ?_)
                      refine lv_iload hx hb dX12_quarrel_80 (lv_at0 hl) ?_
                      refine lv_aload_n hx hb dX12_quarrel_82 rfl (lv_at5 hl) ?_
                      refine gf_X12_9 hC rfl hK hP 0 rfl rfl dX12_quarrel_83 ?_
                      refine lv_bipush (v := 8) hx hb dX12_quarrel_86 (by decide) ?_
                      refine ald hC hK hP 1 rfl (vin (by decide +kernel)) (k := 8) (by decide +kernel) (v := nI k8) (ek8) dX12_quarrel_88 ?_
                      refine lv_icmp_ge (tgt := 168) hx hb dX12_quarrel_89 (by decide) (fun c9 => absurd c9 (nI_ge (a := kQ) (b := k8) (by omega) (by omega))) (fun _ => ?_)
                      refine lv_aload_n hx hb dX12_quarrel_92 rfl (lv_at5 hl) ?_
                      refine lv_iload hx hb dX12_quarrel_93 (lv_at0 hl) ?_
                      refine pV hC hK hl hP hD (m_doesCount l G h0 kQ nw nk mhasKept nt mtaped nr mrowMany mroundOf mroundFrom 0 nm fh15652 th15653 ns mfrom mto msort misFault mdeep mcoded mlines nl nc nF np ntr nb mbestCost nso nsi nit nsh nsf nss nrc mtraced mdealer mnumber mwhose msize misParted fnw (by omega) (hN)) si_X12_117 [0, 1] sm_0_1 fm_0_1 nd_0_1 rfl rfl rfl rfl rfl (Nat.le_of_ble_eq_true rfl) rm_6_4_2 ⟨by first | exact Nat.le_of_ble_eq_true rfl | exact Nat.zero_le _, by first | exact Nat.le_of_ble_eq_true rfl | exact Nat.zero_le _⟩ dX12_quarrel_95 (Kors (Keqr ?_) (Keqr ?_))
                      · refine lv_if_eq (tgt := 127) hx hb dX12_quarrel_98 (by decide) (fun c9 => absurd c9 (by decide)) (fun _ => ?_)
                        refine lv_aload_n hx hb dX12_quarrel_101 rfl (lv_at5 hl) ?_
                        refine lv_iload hx hb dX12_quarrel_102 (lv_at0 hl) ?_
                        refine lv_iconst (v := 1) hx hb dX12_quarrel_104 (by decide) ?_
                        refine pV hC hK hl hP hD (m_saying l G h0 kQ 1 nw nk mhasKept nt mtaped nr mrowMany mroundOf mroundFrom 0 nm fh15652 th15653 ns mfrom mto msort misFault mdeep mcoded mlines nl nc nF np ntr nb mbestCost nso nsi nit nsh nsf nss nrc mtraced mdealer mnumber mwhose msize misParted fnw (by omega) (by omega)) si_X12_114 [0, 1] sm_0_1 fm_0_1 nd_0_1 rfl rfl rfl rfl rfl (Nat.le_of_ble_eq_true rfl) rm_6_1_3 ⟨by first | exact Nat.le_of_ble_eq_true rfl | exact Nat.zero_le _, by first | exact Nat.le_of_ble_eq_true rfl | exact Nat.zero_le _⟩ dX12_quarrel_105 (Keqr ?_)
                        refine lv_iload_n hx hb dX12_quarrel_108 rfl (lv_at6 hl) ?_
                        refine lv_icmp_ne (tgt := 127) hx hb dX12_quarrel_109 (by decide) (fun c_109_5664 => ?_) (fun c_109_5664 => ?_)
                        · refine lv_iconst (v := 0) hx hb dX12_quarrel_127 (by decide) ?_
                          refine lv_istore (lv' := [(9, .int 0), (8, .int (nI kQ)), (7, .int su), (6, .int hZx), (5, .int le), (4, .int be), (0, .ref h0), (1, .int (nI je)), (2, .int (nI jp)), (3, .int x3)]) hx hb dX12_quarrel_128 hl (by decide) rfl (fun ls hl => ?_)
                          refine lv_iload hx hb dX12_quarrel_130 (lv_at2 hl) ?_
                          refine lv_iload hx hb dX12_quarrel_132 (lv_at0 hl) ?_
                          refine lv_if_eq (tgt := 158) hx hb dX12_quarrel_134 (by decide) (fun _ => ?_) (fun c9 => absurd (by decide) c9)
                          refine lv_iconst (v := 0) hx hb dX12_quarrel_158 (by decide) ?_
                          refine lv_iadd hx hb dX12_quarrel_159 ?_
                          refine lv_istore (lv' := [(7, .int (su + 0)), (9, .int 0), (8, .int (nI kQ)), (6, .int hZx), (5, .int le), (4, .int be), (0, .ref h0), (1, .int (nI je)), (2, .int (nI jp)), (3, .int x3)]) hx hb dX12_quarrel_160 hl (by decide) rfl (fun ls hl => ?_)
                          refine lv_iinc (v := nI (kQ + 1)) (lv' := [(8, .int (nI (kQ + 1))), (7, .int (su + 0)), (9, .int 0), (6, .int hZx), (5, .int le), (4, .int be), (0, .ref h0), (1, .int (nI je)), (2, .int (nI jp)), (3, .int x3)]) hx hb dX12_quarrel_162 hl (k := 2) rfl (nI_1 _) (by decide) rfl (fun ls hl => ?_)
                          refine lv_goto (tgt := 80) hx hb dX12_quarrel_165 (by decide) ?_
                          exact ihQ (kQ + 1) (su + 0) _ _ _ (by omega) (And.intro hP hD) hS (lv_sub hl [0, 1, 3, 4, 5, 6, 7, 8, 9] rfl)
                        · refine lv_aload_n hx hb dX12_quarrel_112 rfl (lv_at5 hl) ?_
                          refine lv_iload hx hb dX12_quarrel_113 (lv_at0 hl) ?_
                          refine lv_iconst (v := 2) hx hb dX12_quarrel_115 (by decide) ?_
                          refine pV hC hK hl hP hD (m_saying l G h0 kQ 2 nw nk mhasKept nt mtaped nr mrowMany mroundOf mroundFrom 0 nm fh15652 th15653 ns mfrom mto msort misFault mdeep mcoded mlines nl nc nF np ntr nb mbestCost nso nsi nit nsh nsf nss nrc mtraced mdealer mnumber mwhose msize misParted fnw (by omega) (by omega)) si_X12_114 [0, 1] sm_0_1 fm_0_1 nd_0_1 rfl rfl rfl rfl rfl (Nat.le_of_ble_eq_true rfl) rm_6_1_3 ⟨by first | exact Nat.le_of_ble_eq_true rfl | exact Nat.zero_le _, by first | exact Nat.le_of_ble_eq_true rfl | exact Nat.zero_le _⟩ dX12_quarrel_116 (Keqr ?_)
                          refine lv_iload_n hx hb dX12_quarrel_119 rfl (lv_at7 hl) ?_
                          refine lv_icmp_ne (tgt := 127) hx hb dX12_quarrel_120 (by decide) (fun c_120_5667 => ?_) (fun c_120_5667 => ?_)
                          · refine lv_iconst (v := 0) hx hb dX12_quarrel_127 (by decide) ?_
                            refine lv_istore (lv' := [(9, .int 0), (8, .int (nI kQ)), (7, .int su), (6, .int hZx), (5, .int le), (4, .int be), (0, .ref h0), (1, .int (nI je)), (2, .int (nI jp)), (3, .int x3)]) hx hb dX12_quarrel_128 hl (by decide) rfl (fun ls hl => ?_)
                            refine lv_iload hx hb dX12_quarrel_130 (lv_at2 hl) ?_
                            refine lv_iload hx hb dX12_quarrel_132 (lv_at0 hl) ?_
                            refine lv_if_eq (tgt := 158) hx hb dX12_quarrel_134 (by decide) (fun _ => ?_) (fun c9 => absurd (by decide) c9)
                            refine lv_iconst (v := 0) hx hb dX12_quarrel_158 (by decide) ?_
                            refine lv_iadd hx hb dX12_quarrel_159 ?_
                            refine lv_istore (lv' := [(7, .int (su + 0)), (9, .int 0), (8, .int (nI kQ)), (6, .int hZx), (5, .int le), (4, .int be), (0, .ref h0), (1, .int (nI je)), (2, .int (nI jp)), (3, .int x3)]) hx hb dX12_quarrel_160 hl (by decide) rfl (fun ls hl => ?_)
                            refine lv_iinc (v := nI (kQ + 1)) (lv' := [(8, .int (nI (kQ + 1))), (7, .int (su + 0)), (9, .int 0), (6, .int hZx), (5, .int le), (4, .int be), (0, .ref h0), (1, .int (nI je)), (2, .int (nI jp)), (3, .int x3)]) hx hb dX12_quarrel_162 hl (k := 2) rfl (nI_1 _) (by decide) rfl (fun ls hl => ?_)
                            refine lv_goto (tgt := 80) hx hb dX12_quarrel_165 (by decide) ?_
                            exact ihQ (kQ + 1) (su + 0) _ _ _ (by omega) (And.intro hP hD) hS (lv_sub hl [0, 1, 3, 4, 5, 6, 7, 8, 9] rfl)
                          · refine lv_iconst (v := 1) hx hb dX12_quarrel_123 (by decide) ?_
                            refine lv_goto (tgt := 128) hx hb dX12_quarrel_124 (by decide) ?_
                            refine lv_istore (lv' := [(9, .int 1), (8, .int (nI kQ)), (7, .int su), (6, .int hZx), (5, .int le), (4, .int be), (0, .ref h0), (1, .int (nI je)), (2, .int (nI jp)), (3, .int x3)]) hx hb dX12_quarrel_128 hl (by decide) rfl (fun ls hl => ?_)
                            refine lv_iload hx hb dX12_quarrel_130 (lv_at2 hl) ?_
                            refine lv_iload hx hb dX12_quarrel_132 (lv_at0 hl) ?_
                            refine lv_if_eq (tgt := 158) hx hb dX12_quarrel_134 (by decide) (fun c9 => absurd c9 (by decide)) (fun _ => ?_)
                            refine lv_aload_n hx hb dX12_quarrel_137 rfl (lv_at6 hl) ?_
                            refine lv_iload hx hb dX12_quarrel_138 (lv_at3 hl) ?_
                            refine lv_iload hx hb dX12_quarrel_140 (lv_at1 hl) ?_
                            refine pV hC hK hl hP hD (m_isAgainst l G h0 hZx kQ nw nk mhasKept nt mtaped nr mrowMany mroundOf mroundFrom 0 nm fh15652 th15653 ns mfrom mto msort misFault mdeep mcoded mlines nl nc nF np ntr nb mbestCost nso nsi nit nsh nsf nss nrc mtraced mdealer mnumber mwhose msize misParted fnw (by omega)) si_X12_302 [0, 1] sm_0_1 fm_0_1 nd_0_1 rfl rfl rfl rfl rfl (Nat.le_of_ble_eq_true rfl) rm_6_2_3 ⟨by first | exact Nat.le_of_ble_eq_true rfl | exact Nat.zero_le _, by first | exact Nat.le_of_ble_eq_true rfl | exact Nat.zero_le _⟩ dX12_quarrel_142 (Kors (Keqr ?_) (Keqr ?_))
                            · refine lv_if_eq (tgt := 158) hx hb dX12_quarrel_145 (by decide) (fun c9 => absurd c9 (by decide)) (fun _ => ?_)
                              refine lv_aload_n hx hb dX12_quarrel_148 rfl (lv_at6 hl) ?_
                              refine lv_iload hx hb dX12_quarrel_149 (lv_at1 hl) ?_
                              refine lv_iconst (v := 4) hx hb dX12_quarrel_151 (by decide) ?_
                              refine pV hC hK hl hP hD (m_saying l G h0 kQ 4 nw nk mhasKept nt mtaped nr mrowMany mroundOf mroundFrom 0 nm fh15652 th15653 ns mfrom mto msort misFault mdeep mcoded mlines nl nc nF np ntr nb mbestCost nso nsi nit nsh nsf nss nrc mtraced mdealer mnumber mwhose msize misParted fnw (by omega) (by omega)) si_X12_114 [0, 1] sm_0_1 fm_0_1 nd_0_1 rfl rfl rfl rfl rfl (Nat.le_of_ble_eq_true rfl) rm_6_1_3 ⟨by first | exact Nat.le_of_ble_eq_true rfl | exact Nat.zero_le _, by first | exact Nat.le_of_ble_eq_true rfl | exact Nat.zero_le _⟩ dX12_quarrel_152 (Keqr ?_)
                              refine lv_goto (tgt := 159) hx hb dX12_quarrel_155 (by decide) ?_
                              refine lv_iadd hx hb dX12_quarrel_159 ?_
                              refine lv_istore (lv' := [(7, .int (su + (fnw (1424 + 8 * kQ + 4)))), (9, .int 1), (8, .int (nI kQ)), (6, .int hZx), (5, .int le), (4, .int be), (0, .ref h0), (1, .int (nI je)), (2, .int (nI jp)), (3, .int x3)]) hx hb dX12_quarrel_160 hl (by decide) rfl (fun ls hl => ?_)
                              refine lv_iinc (v := nI (kQ + 1)) (lv' := [(8, .int (nI (kQ + 1))), (7, .int (su + (fnw (1424 + 8 * kQ + 4)))), (9, .int 1), (6, .int hZx), (5, .int le), (4, .int be), (0, .ref h0), (1, .int (nI je)), (2, .int (nI jp)), (3, .int x3)]) hx hb dX12_quarrel_162 hl (k := 2) rfl (nI_1 _) (by decide) rfl (fun ls hl => ?_)
                              refine lv_goto (tgt := 80) hx hb dX12_quarrel_165 (by decide) ?_
                              exact ihQ (kQ + 1) (su + (fnw (1424 + 8 * kQ + 4))) _ _ _ (by omega) (And.intro hP hD) hS (lv_sub hl [0, 1, 3, 4, 5, 6, 7, 8, 9] rfl)
                            · refine lv_if_eq (tgt := 158) hx hb dX12_quarrel_145 (by decide) (fun _ => ?_) (fun c9 => absurd (by decide) c9)
                              refine lv_iconst (v := 0) hx hb dX12_quarrel_158 (by decide) ?_
                              refine lv_iadd hx hb dX12_quarrel_159 ?_
                              refine lv_istore (lv' := [(7, .int (su + 0)), (9, .int 1), (8, .int (nI kQ)), (6, .int hZx), (5, .int le), (4, .int be), (0, .ref h0), (1, .int (nI je)), (2, .int (nI jp)), (3, .int x3)]) hx hb dX12_quarrel_160 hl (by decide) rfl (fun ls hl => ?_)
                              refine lv_iinc (v := nI (kQ + 1)) (lv' := [(8, .int (nI (kQ + 1))), (7, .int (su + 0)), (9, .int 1), (6, .int hZx), (5, .int le), (4, .int be), (0, .ref h0), (1, .int (nI je)), (2, .int (nI jp)), (3, .int x3)]) hx hb dX12_quarrel_162 hl (k := 2) rfl (nI_1 _) (by decide) rfl (fun ls hl => ?_)
                              refine lv_goto (tgt := 80) hx hb dX12_quarrel_165 (by decide) ?_
                              exact ihQ (kQ + 1) (su + 0) _ _ _ (by omega) (And.intro hP hD) hS (lv_sub hl [0, 1, 3, 4, 5, 6, 7, 8, 9] rfl)
                      · refine lv_if_eq (tgt := 127) hx hb dX12_quarrel_98 (by decide) (fun _ => ?_) (fun c9 => absurd (by decide) c9)
                        refine lv_iconst (v := 0) hx hb dX12_quarrel_127 (by decide) ?_
                        refine lv_istore (lv' := [(9, .int 0), (8, .int (nI kQ)), (7, .int su), (6, .int hZx), (5, .int le), (4, .int be), (0, .ref h0), (1, .int (nI je)), (2, .int (nI jp)), (3, .int x3)]) hx hb dX12_quarrel_128 hl (by decide) rfl (fun ls hl => ?_)
                        refine lv_iload hx hb dX12_quarrel_130 (lv_at2 hl) ?_
                        refine lv_iload hx hb dX12_quarrel_132 (lv_at0 hl) ?_
                        refine lv_if_eq (tgt := 158) hx hb dX12_quarrel_134 (by decide) (fun _ => ?_) (fun c9 => absurd (by decide) c9)
                        refine lv_iconst (v := 0) hx hb dX12_quarrel_158 (by decide) ?_
                        refine lv_iadd hx hb dX12_quarrel_159 ?_
                        refine lv_istore (lv' := [(7, .int (su + 0)), (9, .int 0), (8, .int (nI kQ)), (6, .int hZx), (5, .int le), (4, .int be), (0, .ref h0), (1, .int (nI je)), (2, .int (nI jp)), (3, .int x3)]) hx hb dX12_quarrel_160 hl (by decide) rfl (fun ls hl => ?_)
                        refine lv_iinc (v := nI (kQ + 1)) (lv' := [(8, .int (nI (kQ + 1))), (7, .int (su + 0)), (9, .int 0), (6, .int hZx), (5, .int le), (4, .int be), (0, .ref h0), (1, .int (nI je)), (2, .int (nI jp)), (3, .int x3)]) hx hb dX12_quarrel_162 hl (k := 2) rfl (nI_1 _) (by decide) rfl (fun ls hl => ?_)
                        refine lv_goto (tgt := 80) hx hb dX12_quarrel_165 (by decide) ?_
                        exact ihQ (kQ + 1) (su + 0) _ _ _ (by omega) (And.intro hP hD) hS (lv_sub hl [0, 1, 3, 4, 5, 6, 7, 8, 9] rfl)
                  exact keyQ k8 0 0 _ _ _ (by omega) (And.intro hP hD) hS (lv_sub hl [0, 1, 2, 3, 4, 5, 6, 7, 8] rfl)
            exact keyZ ((th15653).toInt + 1 - (fh15652).toInt).toNat fh15652 fh15652 (-1) _ _ _ (by omega) (And.intro hP hD) hS (lv_sub hl [0, 1, 2, 3, 4, 5, 6] rfl)
        · refine lv_if_ne (tgt := 40) hx hb dX12_quarrel_34 (by decide) (fun c9 => absurd (by decide) c9) (fun _ => ?_)
          refine lv_bipush (v := (-3)) hx hb dX12_quarrel_37 (by decide) ?_
          exact toQ hQ0 (RI (v := (-3)) hC hP hD hS [0, 1, 2] (mfromHour, mtoHour, fnm) rfl rfl (by decide) (⟨trivial, by first | assumption | exact hM⟩) rfl dX12_quarrel_39)
      · refine lv_if_ne (tgt := 29) hx hb dX12_quarrel_24 (by decide) (fun c9 => absurd (by decide) c9) (fun _ => ?_)
        refine lv_iconst (v := (-1)) hx hb dX12_quarrel_27 (by decide) ?_
        exact toQ hQ0 (RI (v := (-1)) hC hP hD hS [0, 1, 2] (mfromHour, mtoHour, fnm) rfl rfl (by decide) (⟨trivial, by first | assumption | exact hM⟩) rfl dX12_quarrel_28)
    · refine lv_if_eq (tgt := 27) hx hb dX12_quarrel_15 (by decide) (fun _ => ?_) (fun c9 => absurd (by decide) c9)
      refine lv_iconst (v := (-1)) hx hb dX12_quarrel_27 (by decide) ?_
      exact toQ hQ0 (RI (v := (-1)) hC hP hD hS [0, 1, 2] (mfromHour, mtoHour, fnm) rfl rfl (by decide) (⟨trivial, by first | assumption | exact hM⟩) rfl dX12_quarrel_28)
  · refine lv_if_eq (tgt := 27) hx hb dX12_quarrel_6 (by decide) (fun _ => ?_) (fun c9 => absurd (by decide) c9)
    refine lv_iconst (v := (-1)) hx hb dX12_quarrel_27 (by decide) ?_
    exact toQ hQ0 (RI (v := (-1)) hC hP hD hS [0, 1, 2] (mfromHour, mtoHour, fnm) rfl rfl (by decide) (⟨trivial, by first | assumption | exact hM⟩) rfl dX12_quarrel_28)
def K_r_impossible (l : Launch) (G : GG) (h0 : Nat) (nw : Nat) (nk : Nat) (mhasKept : Int32) (nt : Nat) (mtaped : Int32) (nr : Nat) (mrowMany : Int32) (mroundOf : Int32) (mroundFrom : Int32) (nm : Nat) (mfromHour : Int32) (mtoHour : Int32) (ns : Nat) (mfrom : Int32) (mto : Int32) (msort : Int32) (misFault : Int32) (mdeep : Int32) (mcoded : Int32) (mlines : Int32) (nl : Nat) (nc : Nat) (nF : Nat) (np : Nat) (ntr : Nat) (nb : Nat) (mbestCost : Int32) (nso : Nat) (nsi : Nat) (nit : Nat) (nsh : Nat) (nsf : Nat) (nss : Nat) (nrc : Nat) (mtraced : Int32) (mdealer : Int32) (mnumber : Int32) (mwhose : Int32) (msize : Int32) (misParted : Int32) (fnw : Nat → Int32) (fnm : Nat → Int32) : Prop := MI l G yX12_impossible cX12_impossible 6 (some .int) 6 0 0 [.ref h0] [(h0, oX12 nw nk mhasKept nt mtaped nr mrowMany mroundOf mroundFrom 0 nm mfromHour mtoHour ns mfrom mto msort misFault mdeep mcoded mlines nl nc nF np ntr nb mbestCost nso nsi nit nsh nsf nss nrc mtraced mdealer mnumber mwhose msize misParted), (nw, iA G 1662 fnw), (nm, iA G 36 fnm)] (fun (r : Int32) (u : Int32 × Int32 × (Nat → Int32)) => (True) ∧ (MB u.2.2)) (fun u : Int32 × Int32 × (Nat → Int32) => [(h0, oX12 nw nk mhasKept nt mtaped nr mrowMany mroundOf mroundFrom 0 nm u.1 u.2.1 ns mfrom mto msort misFault mdeep mcoded mlines nl nc nF np ntr nb mbestCost nso nsi nit nsh nsf nss nrc mtraced mdealer mnumber mwhose msize misParted), (nw, iA G 1662 fnw), (nm, iA G 36 u.2.2)])
set_option maxHeartbeats 4000000 in
set_option maxRecDepth 100000 in
theorem r_impossible (l : Launch) (G : GG) (h0 : Nat) (nw : Nat) (nk : Nat) (mhasKept : Int32) (nt : Nat) (mtaped : Int32) (nr : Nat) (mrowMany : Int32) (mroundOf : Int32) (mroundFrom : Int32) (nm : Nat) (mfromHour : Int32) (mtoHour : Int32) (ns : Nat) (mfrom : Int32) (mto : Int32) (msort : Int32) (misFault : Int32) (mdeep : Int32) (mcoded : Int32) (mlines : Int32) (nl : Nat) (nc : Nat) (nF : Nat) (np : Nat) (ntr : Nat) (nb : Nat) (mbestCost : Int32) (nso : Nat) (nsi : Nat) (nit : Nat) (nsh : Nat) (nsf : Nat) (nss : Nat) (nrc : Nat) (mtraced : Int32) (mdealer : Int32) (mnumber : Int32) (mwhose : Int32) (msize : Int32) (misParted : Int32) (fnw : Nat → Int32) (fnm : Nat → Int32) (hN : NI fnw) (hM : MB fnm) : K_r_impossible l G h0 nw nk mhasKept nt mtaped nr mrowMany mroundOf mroundFrom nm mfromHour mtoHour ns mfrom mto msort misFault mdeep mcoded mlines nl nc nF np ntr nb mbestCost nso nsi nit nsh nsf nss nrc mtraced mdealer mnumber mwhose msize misParted fnw fnm := by
  refine MI.start (by decide +kernel) (Nat.le_of_ble_eq_true rfl) ?_
  intro p e s m below meth c A ls hC hK hP hD hS hA hl
  refine absQ (fun Q0 hQ0 => ?_)
  have hl : lv_has ls 6 [(0, .ref h0)] := hl
  refine Kan8 hC (fun hx hb hr hml hB hown hlocks hnm => ?_)
  obtain ⟨k8, hk8, ek8⟩ := NI.nat hN (i := 8) (B := 16) (by decide +kernel) (by decide)
  refine lv_aload_n hx hb dX12_impossible_0 rfl (lv_at0 hl) ?_
  refine iV (wr := []) hC hK hl hP hD hS hA (m_findClocks l G h0 nw nk mhasKept nt mtaped nr mrowMany mroundOf mroundFrom 0 nm mfromHour mtoHour ns mfrom mto msort misFault mdeep mcoded mlines nl nc nF np ntr nb mbestCost nso nsi nit nsh nsf nss nrc mtraced mdealer mnumber mwhose msize misParted fnw fnm (hN) (hM)) si_X12_148 [0, 1, 2] [] sm_0_1_2 fm_0_1_2 nd_0_1_2 rfl rfl (by decide) rfl rfl rfl rfl rfl (Nat.le_of_ble_eq_true rfl) rm_6_4_7 ⟨Nat.le_of_ble_eq_true rfl, Nat.le_of_ble_eq_true rfl⟩ dX12_impossible_1 (fun r5672 gnm5674 H locs hr5672 hP hD hS => ?_)
  try dsimp only at hr5672
  refine Kpdr (ws := [(h0, oX12 nw nk mhasKept nt mtaped nr mrowMany mroundOf mroundFrom 0 nm mfromHour mtoHour ns mfrom mto msort misFault mdeep mcoded mlines nl nc nF np ntr nb mbestCost nso nsi nit nsh nsf nss nrc mtraced mdealer mnumber mwhose msize misParted), (nw, iA G 1662 fnw), (nm, iA G 36 gnm5674)]) hP hD (fun hP hD => ?_)
  obtain ⟨hr5672, w5675⟩ := hr5672
  rcases hr5672 with rfl | rfl
  · refine lv_istore_n (lv' := [(1, .int 1), (0, .ref h0)]) hx hb dX12_impossible_4 rfl hl (by decide) rfl (fun ls hl => ?_)
    refine lv_iconst (v := 0) hx hb dX12_impossible_5 (by decide) ?_
    refine lv_istore_n (lv' := [(2, .int 0), (1, .int 1), (0, .ref h0)]) hx hb dX12_impossible_6 rfl hl (by decide) rfl (fun ls hl => ?_)
    refine lv_iconst (v := 0) hx hb dX12_impossible_7 (by decide) ?_
    refine lv_istore_n (lv' := [(3, .int 0), (2, .int 0), (1, .int 1), (0, .ref h0)]) hx hb dX12_impossible_8 rfl hl (by decide) rfl (fun ls hl => ?_)
    have keyP : ∀ (nP kP : Nat) (se : Int32) (vfh : Int32) (vth : Int32) (H : Heap) (locs : List Loc) (ls : Array Slot), kP + nP = k8 → va_PD G A [(h0, oX12 nw nk mhasKept nt mtaped nr mrowMany mroundOf mroundFrom 0 nm vfh vth ns mfrom mto msort misFault mdeep mcoded mlines nl nc nF np ntr nb mbestCost nso nsi nit nsh nsf nss nrc mtraced mdealer mnumber mwhose msize misParted), (nw, iA G 1662 fnw), (nm, iA G 36 gnm5674)] H → va_S A s.heap H locs → lv_has ls 6 [(3, .int (nI kP)), (2, .int se), (1, .int 1), (0, .ref h0)] → W p l e (RM 6 0 0) s m ([.ref h0] : List Value).toArray below meth c H locs 0 0 Q0 (F0 m 9 ls []) := by
      intro nP
      induction nP with
      | zero =>
        intro kP se vfh vth H locs ls hkP hPD hS hl
        refine Kan2 hPD (fun hP hD => ?_)
        obtain rfl : k8 = kP := by omega
        have hl : lv_has ls 6 [(3, .int (nI k8)), (2, .int se), (1, .int 1), (0, .ref h0)] := hl
        refine lv_iload_n hx hb dX12_impossible_9 rfl (lv_at0 hl) ?_
        refine lv_aload_n hx hb dX12_impossible_10 rfl (lv_at3 hl) ?_
        refine gf_X12_9 hC rfl hK hP 0 rfl rfl dX12_impossible_11 ?_
        refine lv_bipush (v := 8) hx hb dX12_impossible_14 (by decide) ?_
        refine ald hC hK hP 1 rfl (vin (by decide +kernel)) (k := 8) (by decide +kernel) (v := nI k8) (ek8) dX12_impossible_16 ?_
        refine lv_icmp_ge (tgt := 104) hx hb dX12_impossible_17 (by decide) (fun _ => ?_) (fun c9 => absurd (Int32.le_refl _) c9)
        refine lv_iload_n hx hb dX12_impossible_104 rfl (lv_at1 hl) ?_
        exact toQ hQ0 (RI (v := se) hC hP hD hS [0, 1, 2] (vfh, vth, gnm5674) rfl rfl (by decide) (⟨trivial, by first | assumption | exact hM⟩) rfl dX12_impossible_105)
      | succ nP ihP =>
        intro kP se vfh vth H locs ls hkP hPD hS hl
        refine Kan2 hPD (fun hP hD => ?_)
        refine lv_iload_n hx hb dX12_impossible_9 rfl (lv_at0 hl) ?_
        refine lv_aload_n hx hb dX12_impossible_10 rfl (lv_at3 hl) ?_
        refine gf_X12_9 hC rfl hK hP 0 rfl rfl dX12_impossible_11 ?_
        refine lv_bipush (v := 8) hx hb dX12_impossible_14 (by decide) ?_
        refine ald hC hK hP 1 rfl (vin (by decide +kernel)) (k := 8) (by decide +kernel) (v := nI k8) (ek8) dX12_impossible_16 ?_
        refine lv_icmp_ge (tgt := 104) hx hb dX12_impossible_17 (by decide) (fun c9 => absurd c9 (nI_ge (a := kP) (b := k8) (by omega) (by omega))) (fun _ => ?_)
        refine lv_aload_n hx hb dX12_impossible_20 rfl (lv_at3 hl) ?_
        refine lv_iload_n hx hb dX12_impossible_21 rfl (lv_at0 hl) ?_
        refine pV hC hK hl hP hD (m_doesCount l G h0 kP nw nk mhasKept nt mtaped nr mrowMany mroundOf mroundFrom 0 nm vfh vth ns mfrom mto msort misFault mdeep mcoded mlines nl nc nF np ntr nb mbestCost nso nsi nit nsh nsf nss nrc mtraced mdealer mnumber mwhose msize misParted fnw (by omega) (hN)) si_X12_117 [0, 1] sm_0_1 fm_0_1 nd_0_1 rfl rfl rfl rfl rfl (Nat.le_of_ble_eq_true rfl) rm_6_4_2 ⟨by first | exact Nat.le_of_ble_eq_true rfl | exact Nat.zero_le _, by first | exact Nat.le_of_ble_eq_true rfl | exact Nat.zero_le _⟩ dX12_impossible_22 (Kors (Keqr ?_) (Keqr ?_))
        · refine lv_if_eq (tgt := 98) hx hb dX12_impossible_25 (by decide) (fun c9 => absurd c9 (by decide)) (fun _ => ?_)
          refine lv_aload_n hx hb dX12_impossible_28 rfl (lv_at3 hl) ?_
          refine lv_aload_n hx hb dX12_impossible_29 rfl (lv_at3 hl) ?_
          refine lv_iload_n hx hb dX12_impossible_30 rfl (lv_at0 hl) ?_
          refine lv_iconst (v := 2) hx hb dX12_impossible_31 (by decide) ?_
          refine pV hC hK hl hP hD (m_saying l G h0 kP 2 nw nk mhasKept nt mtaped nr mrowMany mroundOf mroundFrom 0 nm vfh vth ns mfrom mto msort misFault mdeep mcoded mlines nl nc nF np ntr nb mbestCost nso nsi nit nsh nsf nss nrc mtraced mdealer mnumber mwhose msize misParted fnw (by omega) (by omega)) si_X12_114 [0, 1] sm_0_1 fm_0_1 nd_0_1 rfl rfl rfl rfl rfl (Nat.le_of_ble_eq_true rfl) rm_6_1_3 ⟨by first | exact Nat.le_of_ble_eq_true rfl | exact Nat.zero_le _, by first | exact Nat.le_of_ble_eq_true rfl | exact Nat.zero_le _⟩ dX12_impossible_32 (Keqr ?_)
          obtain ⟨spp, hspp, espp⟩ := NI.nat hN (i := 1424 + 8 * kP + 2) (B := 11) (bnd_say2 (s := kP) rfl (by omega)) (by decide)
          refine eqi (x1 := nI spp) espp ?_
          refine lv_aload_n hx hb dX12_impossible_35 rfl (lv_at3 hl) ?_
          refine lv_iload_n hx hb dX12_impossible_36 rfl (lv_at0 hl) ?_
          refine lv_iconst (v := 1) hx hb dX12_impossible_37 (by decide) ?_
          refine pV hC hK hl hP hD (m_saying l G h0 kP 1 nw nk mhasKept nt mtaped nr mrowMany mroundOf mroundFrom 0 nm vfh vth ns mfrom mto msort misFault mdeep mcoded mlines nl nc nF np ntr nb mbestCost nso nsi nit nsh nsf nss nrc mtraced mdealer mnumber mwhose msize misParted fnw (by omega) (by omega)) si_X12_114 [0, 1] sm_0_1 fm_0_1 nd_0_1 rfl rfl rfl rfl rfl (Nat.le_of_ble_eq_true rfl) rm_6_1_3 ⟨by first | exact Nat.le_of_ble_eq_true rfl | exact Nat.zero_le _, by first | exact Nat.le_of_ble_eq_true rfl | exact Nat.zero_le _⟩ dX12_impossible_38 (Keqr ?_)
          obtain ⟨sof, hsof, esof⟩ := NI.nat hN (i := 1424 + 8 * kP + 1) (B := 9) (bnd_say1 (s := kP) rfl (by omega)) (by decide)
          refine eqi (x1 := nI sof) esof ?_
          refine lv_iload_n hx hb dX12_impossible_41 rfl (lv_at2 hl) ?_
          refine vV (wr := []) hC hK hl hP hD hS hA (m_findHours l G h0 spp sof 1 nw nk mhasKept nt mtaped nr mrowMany mroundOf mroundFrom 0 nm vfh vth ns mfrom mto msort misFault mdeep mcoded mlines nl nc nF np ntr nb mbestCost nso nsi nit nsh nsf nss nrc mtraced mdealer mnumber mwhose msize misParted fnw gnm5674 (by omega) (by omega) (hN) (w5675)) si_X12_298 [0, 1, 2] [] sm_0_1_2 fm_0_1_2 nd_0_1_2 rfl rfl (by decide) rfl rfl rfl rfl rfl (Nat.le_of_ble_eq_true rfl) rm_6_5_4 ⟨Nat.le_of_ble_eq_true rfl, Nat.le_of_ble_eq_true rfl⟩ dX12_impossible_42 (Ktu2 fun fh15685 th15686 => ?_)
          intro H locs hr5683 hP hD hS
          try dsimp only at hr5683
          refine Kpdr (ws := [(h0, oX12 nw nk mhasKept nt mtaped nr mrowMany mroundOf mroundFrom 0 nm fh15685 th15686 ns mfrom mto msort misFault mdeep mcoded mlines nl nc nF np ntr nb mbestCost nso nsi nit nsh nsf nss nrc mtraced mdealer mnumber mwhose msize misParted), (nw, iA G 1662 fnw), (nm, iA G 36 gnm5674)]) hP hD (fun hP hD => ?_)
          have w5687 := hr5683
          refine lv_iconst (v := 1) hx hb dX12_impossible_45 (by decide) ?_
          refine lv_istore (lv' := [(4, .int 1), (3, .int (nI kP)), (2, .int se), (1, .int 1), (0, .ref h0)]) hx hb dX12_impossible_46 hl (by decide) rfl (fun ls hl => ?_)
          refine lv_aload_n hx hb dX12_impossible_48 rfl (lv_at4 hl) ?_
          refine gf_X12_161 hC rfl hK hP 0 rfl rfl dX12_impossible_49 ?_
          refine lv_istore (lv' := [(5, .int fh15685), (4, .int 1), (3, .int (nI kP)), (2, .int se), (1, .int 1), (0, .ref h0)]) hx hb dX12_impossible_52 hl (by decide) rfl (fun ls hl => ?_)
          have keyZ : ∀ (nZ : Nat) (hZx : Int32) (al : Int32) (H : Heap) (locs : List Loc) (ls : Array Slot), (th15686).toInt + 1 - hZx.toInt ≤ (nZ : Int) → va_PD G A [(h0, oX12 nw nk mhasKept nt mtaped nr mrowMany mroundOf mroundFrom 0 nm fh15685 th15686 ns mfrom mto msort misFault mdeep mcoded mlines nl nc nF np ntr nb mbestCost nso nsi nit nsh nsf nss nrc mtraced mdealer mnumber mwhose msize misParted), (nw, iA G 1662 fnw), (nm, iA G 36 gnm5674)] H → va_S A s.heap H locs → lv_has ls 6 [(5, .int hZx), (4, .int al), (3, .int (nI kP)), (2, .int se), (1, .int 1), (0, .ref h0)] → W p l e (RM 6 0 0) s m ([.ref h0] : List Value).toArray below meth c H locs 0 0 Q0 (F0 m 54 ls []) := by
            intro nZ
            induction nZ with
            | zero =>
              intro hZx al H locs ls hkZ hPD hS hl
              refine Kan2 hPD (fun hP hD => ?_)
              have hzZ : th15686 < hZx := hz_end (by omega)
              refine lv_iload hx hb dX12_impossible_54 (lv_at0 hl) ?_
              refine lv_aload_n hx hb dX12_impossible_56 rfl (lv_at5 hl) ?_
              refine gf_X12_164 hC rfl hK hP 0 rfl rfl dX12_impossible_57 ?_
              refine lv_icmp_gt (tgt := 83) hx hb dX12_impossible_60 (by decide) (fun _ => ?_) (fun c9 => absurd (hzZ) c9)
              refine lv_iload_n hx hb dX12_impossible_83 rfl (lv_at3 hl) ?_
              refine lv_iload hx hb dX12_impossible_84 (lv_at1 hl) ?_
              refine lv_if_eq (tgt := 95) hx hb dX12_impossible_86 (by decide) (fun c_86_5688 => ?_) (fun c_86_5688 => ?_)
              · refine lv_iconst (v := 0) hx hb dX12_impossible_95 (by decide) ?_
                refine lv_ior hx hb dX12_impossible_96 ?_
                refine lv_istore_n (lv' := [(2, .int (se ||| 0)), (5, .int hZx), (4, .int al), (3, .int (nI kP)), (1, .int 1), (0, .ref h0)]) hx hb dX12_impossible_97 rfl hl (by decide) rfl (fun ls hl => ?_)
                refine lv_iinc (v := nI (kP + 1)) (lv' := [(3, .int (nI (kP + 1))), (2, .int (se ||| 0)), (5, .int hZx), (4, .int al), (1, .int 1), (0, .ref h0)]) hx hb dX12_impossible_98 hl (k := 3) rfl (nI_1 _) (by decide) rfl (fun ls hl => ?_)
                refine lv_goto (tgt := 9) hx hb dX12_impossible_101 (by decide) ?_
                exact ihP (kP + 1) (se ||| 0) fh15685 th15686 _ _ _ (by omega) (And.intro hP hD) hS (lv_sub hl [0, 1, 4, 5] rfl)
              · refine lv_iconst (v := 1) hx hb dX12_impossible_89 (by decide) ?_
                refine lv_iload_n hx hb dX12_impossible_90 rfl (lv_at2 hl) ?_
                refine lv_ishl hx hb dX12_impossible_91 ?_
                refine lv_goto (tgt := 96) hx hb dX12_impossible_92 (by decide) ?_
                refine lv_ior hx hb dX12_impossible_96 ?_
                refine lv_istore_n (lv' := [(2, .int (se ||| (1 <<< ((nI kP) &&& 31)))), (5, .int hZx), (4, .int al), (3, .int (nI kP)), (1, .int 1), (0, .ref h0)]) hx hb dX12_impossible_97 rfl hl (by decide) rfl (fun ls hl => ?_)
                refine lv_iinc (v := nI (kP + 1)) (lv' := [(3, .int (nI (kP + 1))), (2, .int (se ||| (1 <<< ((nI kP) &&& 31)))), (5, .int hZx), (4, .int al), (1, .int 1), (0, .ref h0)]) hx hb dX12_impossible_98 hl (k := 3) rfl (nI_1 _) (by decide) rfl (fun ls hl => ?_)
                refine lv_goto (tgt := 9) hx hb dX12_impossible_101 (by decide) ?_
                exact ihP (kP + 1) (se ||| (1 <<< ((nI kP) &&& 31))) fh15685 th15686 _ _ _ (by omega) (And.intro hP hD) hS (lv_sub hl [0, 1, 4, 5] rfl)
            | succ nZ ihZ =>
              intro hZx al H locs ls hkZ hPD hS hl
              refine Kan2 hPD (fun hP hD => ?_)
              refine lv_iload hx hb dX12_impossible_54 (lv_at0 hl) ?_
              refine lv_aload_n hx hb dX12_impossible_56 rfl (lv_at5 hl) ?_
              refine gf_X12_164 hC rfl hK hP 0 rfl rfl dX12_impossible_57 ?_
              refine lv_icmp_gt (tgt := 83) hx hb dX12_impossible_60 (by decide) (fun c_60_5689 => ?_) (fun c_60_5689 => ?_)
              · refine lv_iload_n hx hb dX12_impossible_83 rfl (lv_at3 hl) ?_
                refine lv_iload hx hb dX12_impossible_84 (lv_at1 hl) ?_
                refine lv_if_eq (tgt := 95) hx hb dX12_impossible_86 (by decide) (fun c_86_5690 => ?_) (fun c_86_5690 => ?_)
                · refine lv_iconst (v := 0) hx hb dX12_impossible_95 (by decide) ?_
                  refine lv_ior hx hb dX12_impossible_96 ?_
                  refine lv_istore_n (lv' := [(2, .int (se ||| 0)), (5, .int hZx), (4, .int al), (3, .int (nI kP)), (1, .int 1), (0, .ref h0)]) hx hb dX12_impossible_97 rfl hl (by decide) rfl (fun ls hl => ?_)
                  refine lv_iinc (v := nI (kP + 1)) (lv' := [(3, .int (nI (kP + 1))), (2, .int (se ||| 0)), (5, .int hZx), (4, .int al), (1, .int 1), (0, .ref h0)]) hx hb dX12_impossible_98 hl (k := 3) rfl (nI_1 _) (by decide) rfl (fun ls hl => ?_)
                  refine lv_goto (tgt := 9) hx hb dX12_impossible_101 (by decide) ?_
                  exact ihP (kP + 1) (se ||| 0) fh15685 th15686 _ _ _ (by omega) (And.intro hP hD) hS (lv_sub hl [0, 1, 4, 5] rfl)
                · refine lv_iconst (v := 1) hx hb dX12_impossible_89 (by decide) ?_
                  refine lv_iload_n hx hb dX12_impossible_90 rfl (lv_at2 hl) ?_
                  refine lv_ishl hx hb dX12_impossible_91 ?_
                  refine lv_goto (tgt := 96) hx hb dX12_impossible_92 (by decide) ?_
                  refine lv_ior hx hb dX12_impossible_96 ?_
                  refine lv_istore_n (lv' := [(2, .int (se ||| (1 <<< ((nI kP) &&& 31)))), (5, .int hZx), (4, .int al), (3, .int (nI kP)), (1, .int 1), (0, .ref h0)]) hx hb dX12_impossible_97 rfl hl (by decide) rfl (fun ls hl => ?_)
                  refine lv_iinc (v := nI (kP + 1)) (lv' := [(3, .int (nI (kP + 1))), (2, .int (se ||| (1 <<< ((nI kP) &&& 31)))), (5, .int hZx), (4, .int al), (1, .int 1), (0, .ref h0)]) hx hb dX12_impossible_98 hl (k := 3) rfl (nI_1 _) (by decide) rfl (fun ls hl => ?_)
                  refine lv_goto (tgt := 9) hx hb dX12_impossible_101 (by decide) ?_
                  exact ihP (kP + 1) (se ||| (1 <<< ((nI kP) &&& 31))) fh15685 th15686 _ _ _ (by omega) (And.intro hP hD) hS (lv_sub hl [0, 1, 4, 5] rfl)
              · refine lv_iload hx hb dX12_impossible_63 (lv_at1 hl) ?_
                refine lv_if_eq (tgt := 83) hx hb dX12_impossible_65 (by decide) (fun c_65_5691 => ?_) (fun c_65_5691 => ?_)
                · refine lv_iload_n hx hb dX12_impossible_83 rfl (lv_at3 hl) ?_
                  refine lv_iload hx hb dX12_impossible_84 (lv_at1 hl) ?_
                  refine lv_if_eq (tgt := 95) hx hb dX12_impossible_86 (by decide) (fun _ => ?_) (fun c9 => absurd (c_65_5691) c9)
                  refine lv_iconst (v := 0) hx hb dX12_impossible_95 (by decide) ?_
                  refine lv_ior hx hb dX12_impossible_96 ?_
                  refine lv_istore_n (lv' := [(2, .int (se ||| 0)), (5, .int hZx), (4, .int al), (3, .int (nI kP)), (1, .int 1), (0, .ref h0)]) hx hb dX12_impossible_97 rfl hl (by decide) rfl (fun ls hl => ?_)
                  refine lv_iinc (v := nI (kP + 1)) (lv' := [(3, .int (nI (kP + 1))), (2, .int (se ||| 0)), (5, .int hZx), (4, .int al), (1, .int 1), (0, .ref h0)]) hx hb dX12_impossible_98 hl (k := 3) rfl (nI_1 _) (by decide) rfl (fun ls hl => ?_)
                  refine lv_goto (tgt := 9) hx hb dX12_impossible_101 (by decide) ?_
                  exact ihP (kP + 1) (se ||| 0) fh15685 th15686 _ _ _ (by omega) (And.intro hP hD) hS (lv_sub hl [0, 1, 4, 5] rfl)
                · refine lv_aload_n hx hb dX12_impossible_68 rfl (lv_at5 hl) ?_
                  refine lv_iload hx hb dX12_impossible_69 (lv_at0 hl) ?_
                  refine lv_iload_n hx hb dX12_impossible_71 rfl (lv_at2 hl) ?_
                  refine pV hC hK hl hP hD (m_isAgainst l G h0 hZx kP nw nk mhasKept nt mtaped nr mrowMany mroundOf mroundFrom 0 nm fh15685 th15686 ns mfrom mto msort misFault mdeep mcoded mlines nl nc nF np ntr nb mbestCost nso nsi nit nsh nsf nss nrc mtraced mdealer mnumber mwhose msize misParted fnw (by omega)) si_X12_302 [0, 1] sm_0_1 fm_0_1 nd_0_1 rfl rfl rfl rfl rfl (Nat.le_of_ble_eq_true rfl) rm_6_2_3 ⟨by first | exact Nat.le_of_ble_eq_true rfl | exact Nat.zero_le _, by first | exact Nat.le_of_ble_eq_true rfl | exact Nat.zero_le _⟩ dX12_impossible_72 (Kors (Keqr ?_) (Keqr ?_))
                  · refine lv_istore (lv' := [(4, .int 1), (5, .int hZx), (3, .int (nI kP)), (2, .int se), (1, .int 1), (0, .ref h0)]) hx hb dX12_impossible_75 hl (by decide) rfl (fun ls hl => ?_)
                    refine lv_iinc (v := hZx + 1) (lv' := [(5, .int (hZx + 1)), (4, .int 1), (3, .int (nI kP)), (2, .int se), (1, .int 1), (0, .ref h0)]) hx hb dX12_impossible_77 hl (k := 1) rfl (rfl) (by decide) rfl (fun ls hl => ?_)
                    refine lv_goto (tgt := 54) hx hb dX12_impossible_80 (by decide) ?_
                    exact ihZ (hZx + 1) 1 _ _ _ (hz_back c_60_5689 w5687 hkZ) (And.intro hP hD) hS (lv_sub hl [0, 1, 2, 3, 4, 5] rfl)
                  · refine lv_istore (lv' := [(4, .int 0), (5, .int hZx), (3, .int (nI kP)), (2, .int se), (1, .int 1), (0, .ref h0)]) hx hb dX12_impossible_75 hl (by decide) rfl (fun ls hl => ?_)
                    refine lv_iinc (v := hZx + 1) (lv' := [(5, .int (hZx + 1)), (4, .int 0), (3, .int (nI kP)), (2, .int se), (1, .int 1), (0, .ref h0)]) hx hb dX12_impossible_77 hl (k := 1) rfl (rfl) (by decide) rfl (fun ls hl => ?_)
                    refine lv_goto (tgt := 54) hx hb dX12_impossible_80 (by decide) ?_
                    exact ihZ (hZx + 1) 0 _ _ _ (hz_back c_60_5689 w5687 hkZ) (And.intro hP hD) hS (lv_sub hl [0, 1, 2, 3, 4, 5] rfl)
          exact keyZ ((th15686).toInt + 1 - (fh15685).toInt).toNat fh15685 1 _ _ _ (by omega) (And.intro hP hD) hS (lv_sub hl [0, 1, 2, 3, 4, 5] rfl)
        · refine lv_if_eq (tgt := 98) hx hb dX12_impossible_25 (by decide) (fun _ => ?_) (fun c9 => absurd (by decide) c9)
          refine lv_iinc (v := nI (kP + 1)) (lv' := [(3, .int (nI (kP + 1))), (2, .int se), (1, .int 1), (0, .ref h0)]) hx hb dX12_impossible_98 hl (k := 0) rfl (nI_1 _) (by decide) rfl (fun ls hl => ?_)
          refine lv_goto (tgt := 9) hx hb dX12_impossible_101 (by decide) ?_
          exact ihP (kP + 1) se vfh vth _ _ _ (by omega) (And.intro hP hD) hS (lv_sub hl [0, 1, 2, 3] rfl)
    exact keyP k8 0 0 mfromHour mtoHour _ _ _ (by omega) (And.intro hP hD) hS (lv_sub hl [0, 1, 2, 3] rfl)
  · refine lv_istore_n (lv' := [(1, .int 0), (0, .ref h0)]) hx hb dX12_impossible_4 rfl hl (by decide) rfl (fun ls hl => ?_)
    refine lv_iconst (v := 0) hx hb dX12_impossible_5 (by decide) ?_
    refine lv_istore_n (lv' := [(2, .int 0), (1, .int 0), (0, .ref h0)]) hx hb dX12_impossible_6 rfl hl (by decide) rfl (fun ls hl => ?_)
    refine lv_iconst (v := 0) hx hb dX12_impossible_7 (by decide) ?_
    refine lv_istore_n (lv' := [(3, .int 0), (2, .int 0), (1, .int 0), (0, .ref h0)]) hx hb dX12_impossible_8 rfl hl (by decide) rfl (fun ls hl => ?_)
    have keyP : ∀ (nP kP : Nat) (se : Int32) (vfh : Int32) (vth : Int32) (H : Heap) (locs : List Loc) (ls : Array Slot), kP + nP = k8 → va_PD G A [(h0, oX12 nw nk mhasKept nt mtaped nr mrowMany mroundOf mroundFrom 0 nm vfh vth ns mfrom mto msort misFault mdeep mcoded mlines nl nc nF np ntr nb mbestCost nso nsi nit nsh nsf nss nrc mtraced mdealer mnumber mwhose msize misParted), (nw, iA G 1662 fnw), (nm, iA G 36 gnm5674)] H → va_S A s.heap H locs → lv_has ls 6 [(3, .int (nI kP)), (2, .int se), (1, .int 0), (0, .ref h0)] → W p l e (RM 6 0 0) s m ([.ref h0] : List Value).toArray below meth c H locs 0 0 Q0 (F0 m 9 ls []) := by
      intro nP
      induction nP with
      | zero =>
        intro kP se vfh vth H locs ls hkP hPD hS hl
        refine Kan2 hPD (fun hP hD => ?_)
        obtain rfl : k8 = kP := by omega
        have hl : lv_has ls 6 [(3, .int (nI k8)), (2, .int se), (1, .int 0), (0, .ref h0)] := hl
        refine lv_iload_n hx hb dX12_impossible_9 rfl (lv_at0 hl) ?_
        refine lv_aload_n hx hb dX12_impossible_10 rfl (lv_at3 hl) ?_
        refine gf_X12_9 hC rfl hK hP 0 rfl rfl dX12_impossible_11 ?_
        refine lv_bipush (v := 8) hx hb dX12_impossible_14 (by decide) ?_
        refine ald hC hK hP 1 rfl (vin (by decide +kernel)) (k := 8) (by decide +kernel) (v := nI k8) (ek8) dX12_impossible_16 ?_
        refine lv_icmp_ge (tgt := 104) hx hb dX12_impossible_17 (by decide) (fun _ => ?_) (fun c9 => absurd (Int32.le_refl _) c9)
        refine lv_iload_n hx hb dX12_impossible_104 rfl (lv_at1 hl) ?_
        exact toQ hQ0 (RI (v := se) hC hP hD hS [0, 1, 2] (vfh, vth, gnm5674) rfl rfl (by decide) (⟨trivial, by first | assumption | exact hM⟩) rfl dX12_impossible_105)
      | succ nP ihP =>
        intro kP se vfh vth H locs ls hkP hPD hS hl
        refine Kan2 hPD (fun hP hD => ?_)
        refine lv_iload_n hx hb dX12_impossible_9 rfl (lv_at0 hl) ?_
        refine lv_aload_n hx hb dX12_impossible_10 rfl (lv_at3 hl) ?_
        refine gf_X12_9 hC rfl hK hP 0 rfl rfl dX12_impossible_11 ?_
        refine lv_bipush (v := 8) hx hb dX12_impossible_14 (by decide) ?_
        refine ald hC hK hP 1 rfl (vin (by decide +kernel)) (k := 8) (by decide +kernel) (v := nI k8) (ek8) dX12_impossible_16 ?_
        refine lv_icmp_ge (tgt := 104) hx hb dX12_impossible_17 (by decide) (fun c9 => absurd c9 (nI_ge (a := kP) (b := k8) (by omega) (by omega))) (fun _ => ?_)
        refine lv_aload_n hx hb dX12_impossible_20 rfl (lv_at3 hl) ?_
        refine lv_iload_n hx hb dX12_impossible_21 rfl (lv_at0 hl) ?_
        refine pV hC hK hl hP hD (m_doesCount l G h0 kP nw nk mhasKept nt mtaped nr mrowMany mroundOf mroundFrom 0 nm vfh vth ns mfrom mto msort misFault mdeep mcoded mlines nl nc nF np ntr nb mbestCost nso nsi nit nsh nsf nss nrc mtraced mdealer mnumber mwhose msize misParted fnw (by omega) (hN)) si_X12_117 [0, 1] sm_0_1 fm_0_1 nd_0_1 rfl rfl rfl rfl rfl (Nat.le_of_ble_eq_true rfl) rm_6_4_2 ⟨by first | exact Nat.le_of_ble_eq_true rfl | exact Nat.zero_le _, by first | exact Nat.le_of_ble_eq_true rfl | exact Nat.zero_le _⟩ dX12_impossible_22 (Kors (Keqr ?_) (Keqr ?_))
        · refine lv_if_eq (tgt := 98) hx hb dX12_impossible_25 (by decide) (fun c9 => absurd c9 (by decide)) (fun _ => ?_)
          refine lv_aload_n hx hb dX12_impossible_28 rfl (lv_at3 hl) ?_
          refine lv_aload_n hx hb dX12_impossible_29 rfl (lv_at3 hl) ?_
          refine lv_iload_n hx hb dX12_impossible_30 rfl (lv_at0 hl) ?_
          refine lv_iconst (v := 2) hx hb dX12_impossible_31 (by decide) ?_
          refine pV hC hK hl hP hD (m_saying l G h0 kP 2 nw nk mhasKept nt mtaped nr mrowMany mroundOf mroundFrom 0 nm vfh vth ns mfrom mto msort misFault mdeep mcoded mlines nl nc nF np ntr nb mbestCost nso nsi nit nsh nsf nss nrc mtraced mdealer mnumber mwhose msize misParted fnw (by omega) (by omega)) si_X12_114 [0, 1] sm_0_1 fm_0_1 nd_0_1 rfl rfl rfl rfl rfl (Nat.le_of_ble_eq_true rfl) rm_6_1_3 ⟨by first | exact Nat.le_of_ble_eq_true rfl | exact Nat.zero_le _, by first | exact Nat.le_of_ble_eq_true rfl | exact Nat.zero_le _⟩ dX12_impossible_32 (Keqr ?_)
          obtain ⟨spp, hspp, espp⟩ := NI.nat hN (i := 1424 + 8 * kP + 2) (B := 11) (bnd_say2 (s := kP) rfl (by omega)) (by decide)
          refine eqi (x1 := nI spp) espp ?_
          refine lv_aload_n hx hb dX12_impossible_35 rfl (lv_at3 hl) ?_
          refine lv_iload_n hx hb dX12_impossible_36 rfl (lv_at0 hl) ?_
          refine lv_iconst (v := 1) hx hb dX12_impossible_37 (by decide) ?_
          refine pV hC hK hl hP hD (m_saying l G h0 kP 1 nw nk mhasKept nt mtaped nr mrowMany mroundOf mroundFrom 0 nm vfh vth ns mfrom mto msort misFault mdeep mcoded mlines nl nc nF np ntr nb mbestCost nso nsi nit nsh nsf nss nrc mtraced mdealer mnumber mwhose msize misParted fnw (by omega) (by omega)) si_X12_114 [0, 1] sm_0_1 fm_0_1 nd_0_1 rfl rfl rfl rfl rfl (Nat.le_of_ble_eq_true rfl) rm_6_1_3 ⟨by first | exact Nat.le_of_ble_eq_true rfl | exact Nat.zero_le _, by first | exact Nat.le_of_ble_eq_true rfl | exact Nat.zero_le _⟩ dX12_impossible_38 (Keqr ?_)
          obtain ⟨sof, hsof, esof⟩ := NI.nat hN (i := 1424 + 8 * kP + 1) (B := 9) (bnd_say1 (s := kP) rfl (by omega)) (by decide)
          refine eqi (x1 := nI sof) esof ?_
          refine lv_iload_n hx hb dX12_impossible_41 rfl (lv_at2 hl) ?_
          refine vV (wr := []) hC hK hl hP hD hS hA (m_findHours l G h0 spp sof 0 nw nk mhasKept nt mtaped nr mrowMany mroundOf mroundFrom 0 nm vfh vth ns mfrom mto msort misFault mdeep mcoded mlines nl nc nF np ntr nb mbestCost nso nsi nit nsh nsf nss nrc mtraced mdealer mnumber mwhose msize misParted fnw gnm5674 (by omega) (by omega) (hN) (w5675)) si_X12_298 [0, 1, 2] [] sm_0_1_2 fm_0_1_2 nd_0_1_2 rfl rfl (by decide) rfl rfl rfl rfl rfl (Nat.le_of_ble_eq_true rfl) rm_6_5_4 ⟨Nat.le_of_ble_eq_true rfl, Nat.le_of_ble_eq_true rfl⟩ dX12_impossible_42 (Ktu2 fun fh15702 th15703 => ?_)
          intro H locs hr5700 hP hD hS
          try dsimp only at hr5700
          refine Kpdr (ws := [(h0, oX12 nw nk mhasKept nt mtaped nr mrowMany mroundOf mroundFrom 0 nm fh15702 th15703 ns mfrom mto msort misFault mdeep mcoded mlines nl nc nF np ntr nb mbestCost nso nsi nit nsh nsf nss nrc mtraced mdealer mnumber mwhose msize misParted), (nw, iA G 1662 fnw), (nm, iA G 36 gnm5674)]) hP hD (fun hP hD => ?_)
          have w5704 := hr5700
          refine lv_iconst (v := 1) hx hb dX12_impossible_45 (by decide) ?_
          refine lv_istore (lv' := [(4, .int 1), (3, .int (nI kP)), (2, .int se), (1, .int 0), (0, .ref h0)]) hx hb dX12_impossible_46 hl (by decide) rfl (fun ls hl => ?_)
          refine lv_aload_n hx hb dX12_impossible_48 rfl (lv_at4 hl) ?_
          refine gf_X12_161 hC rfl hK hP 0 rfl rfl dX12_impossible_49 ?_
          refine lv_istore (lv' := [(5, .int fh15702), (4, .int 1), (3, .int (nI kP)), (2, .int se), (1, .int 0), (0, .ref h0)]) hx hb dX12_impossible_52 hl (by decide) rfl (fun ls hl => ?_)
          have keyZ : ∀ (nZ : Nat) (hZx : Int32) (al : Int32) (H : Heap) (locs : List Loc) (ls : Array Slot), (th15703).toInt + 1 - hZx.toInt ≤ (nZ : Int) → va_PD G A [(h0, oX12 nw nk mhasKept nt mtaped nr mrowMany mroundOf mroundFrom 0 nm fh15702 th15703 ns mfrom mto msort misFault mdeep mcoded mlines nl nc nF np ntr nb mbestCost nso nsi nit nsh nsf nss nrc mtraced mdealer mnumber mwhose msize misParted), (nw, iA G 1662 fnw), (nm, iA G 36 gnm5674)] H → va_S A s.heap H locs → lv_has ls 6 [(5, .int hZx), (4, .int al), (3, .int (nI kP)), (2, .int se), (1, .int 0), (0, .ref h0)] → W p l e (RM 6 0 0) s m ([.ref h0] : List Value).toArray below meth c H locs 0 0 Q0 (F0 m 54 ls []) := by
            intro nZ
            induction nZ with
            | zero =>
              intro hZx al H locs ls hkZ hPD hS hl
              refine Kan2 hPD (fun hP hD => ?_)
              have hzZ : th15703 < hZx := hz_end (by omega)
              refine lv_iload hx hb dX12_impossible_54 (lv_at0 hl) ?_
              refine lv_aload_n hx hb dX12_impossible_56 rfl (lv_at5 hl) ?_
              refine gf_X12_164 hC rfl hK hP 0 rfl rfl dX12_impossible_57 ?_
              refine lv_icmp_gt (tgt := 83) hx hb dX12_impossible_60 (by decide) (fun _ => ?_) (fun c9 => absurd (hzZ) c9)
              refine lv_iload_n hx hb dX12_impossible_83 rfl (lv_at3 hl) ?_
              refine lv_iload hx hb dX12_impossible_84 (lv_at1 hl) ?_
              refine lv_if_eq (tgt := 95) hx hb dX12_impossible_86 (by decide) (fun c_86_5705 => ?_) (fun c_86_5705 => ?_)
              · refine lv_iconst (v := 0) hx hb dX12_impossible_95 (by decide) ?_
                refine lv_ior hx hb dX12_impossible_96 ?_
                refine lv_istore_n (lv' := [(2, .int (se ||| 0)), (5, .int hZx), (4, .int al), (3, .int (nI kP)), (1, .int 0), (0, .ref h0)]) hx hb dX12_impossible_97 rfl hl (by decide) rfl (fun ls hl => ?_)
                refine lv_iinc (v := nI (kP + 1)) (lv' := [(3, .int (nI (kP + 1))), (2, .int (se ||| 0)), (5, .int hZx), (4, .int al), (1, .int 0), (0, .ref h0)]) hx hb dX12_impossible_98 hl (k := 3) rfl (nI_1 _) (by decide) rfl (fun ls hl => ?_)
                refine lv_goto (tgt := 9) hx hb dX12_impossible_101 (by decide) ?_
                exact ihP (kP + 1) (se ||| 0) fh15702 th15703 _ _ _ (by omega) (And.intro hP hD) hS (lv_sub hl [0, 1, 4, 5] rfl)
              · refine lv_iconst (v := 1) hx hb dX12_impossible_89 (by decide) ?_
                refine lv_iload_n hx hb dX12_impossible_90 rfl (lv_at2 hl) ?_
                refine lv_ishl hx hb dX12_impossible_91 ?_
                refine lv_goto (tgt := 96) hx hb dX12_impossible_92 (by decide) ?_
                refine lv_ior hx hb dX12_impossible_96 ?_
                refine lv_istore_n (lv' := [(2, .int (se ||| (1 <<< ((nI kP) &&& 31)))), (5, .int hZx), (4, .int al), (3, .int (nI kP)), (1, .int 0), (0, .ref h0)]) hx hb dX12_impossible_97 rfl hl (by decide) rfl (fun ls hl => ?_)
                refine lv_iinc (v := nI (kP + 1)) (lv' := [(3, .int (nI (kP + 1))), (2, .int (se ||| (1 <<< ((nI kP) &&& 31)))), (5, .int hZx), (4, .int al), (1, .int 0), (0, .ref h0)]) hx hb dX12_impossible_98 hl (k := 3) rfl (nI_1 _) (by decide) rfl (fun ls hl => ?_)
                refine lv_goto (tgt := 9) hx hb dX12_impossible_101 (by decide) ?_
                exact ihP (kP + 1) (se ||| (1 <<< ((nI kP) &&& 31))) fh15702 th15703 _ _ _ (by omega) (And.intro hP hD) hS (lv_sub hl [0, 1, 4, 5] rfl)
            | succ nZ ihZ =>
              intro hZx al H locs ls hkZ hPD hS hl
              refine Kan2 hPD (fun hP hD => ?_)
              refine lv_iload hx hb dX12_impossible_54 (lv_at0 hl) ?_
              refine lv_aload_n hx hb dX12_impossible_56 rfl (lv_at5 hl) ?_
              refine gf_X12_164 hC rfl hK hP 0 rfl rfl dX12_impossible_57 ?_
              refine lv_icmp_gt (tgt := 83) hx hb dX12_impossible_60 (by decide) (fun c_60_5706 => ?_) (fun c_60_5706 => ?_)
              · refine lv_iload_n hx hb dX12_impossible_83 rfl (lv_at3 hl) ?_
                refine lv_iload hx hb dX12_impossible_84 (lv_at1 hl) ?_
                refine lv_if_eq (tgt := 95) hx hb dX12_impossible_86 (by decide) (fun c_86_5707 => ?_) (fun c_86_5707 => ?_)
                · refine lv_iconst (v := 0) hx hb dX12_impossible_95 (by decide) ?_
                  refine lv_ior hx hb dX12_impossible_96 ?_
                  refine lv_istore_n (lv' := [(2, .int (se ||| 0)), (5, .int hZx), (4, .int al), (3, .int (nI kP)), (1, .int 0), (0, .ref h0)]) hx hb dX12_impossible_97 rfl hl (by decide) rfl (fun ls hl => ?_)
                  refine lv_iinc (v := nI (kP + 1)) (lv' := [(3, .int (nI (kP + 1))), (2, .int (se ||| 0)), (5, .int hZx), (4, .int al), (1, .int 0), (0, .ref h0)]) hx hb dX12_impossible_98 hl (k := 3) rfl (nI_1 _) (by decide) rfl (fun ls hl => ?_)
                  refine lv_goto (tgt := 9) hx hb dX12_impossible_101 (by decide) ?_
                  exact ihP (kP + 1) (se ||| 0) fh15702 th15703 _ _ _ (by omega) (And.intro hP hD) hS (lv_sub hl [0, 1, 4, 5] rfl)
                · refine lv_iconst (v := 1) hx hb dX12_impossible_89 (by decide) ?_
                  refine lv_iload_n hx hb dX12_impossible_90 rfl (lv_at2 hl) ?_
                  refine lv_ishl hx hb dX12_impossible_91 ?_
                  refine lv_goto (tgt := 96) hx hb dX12_impossible_92 (by decide) ?_
                  refine lv_ior hx hb dX12_impossible_96 ?_
                  refine lv_istore_n (lv' := [(2, .int (se ||| (1 <<< ((nI kP) &&& 31)))), (5, .int hZx), (4, .int al), (3, .int (nI kP)), (1, .int 0), (0, .ref h0)]) hx hb dX12_impossible_97 rfl hl (by decide) rfl (fun ls hl => ?_)
                  refine lv_iinc (v := nI (kP + 1)) (lv' := [(3, .int (nI (kP + 1))), (2, .int (se ||| (1 <<< ((nI kP) &&& 31)))), (5, .int hZx), (4, .int al), (1, .int 0), (0, .ref h0)]) hx hb dX12_impossible_98 hl (k := 3) rfl (nI_1 _) (by decide) rfl (fun ls hl => ?_)
                  refine lv_goto (tgt := 9) hx hb dX12_impossible_101 (by decide) ?_
                  exact ihP (kP + 1) (se ||| (1 <<< ((nI kP) &&& 31))) fh15702 th15703 _ _ _ (by omega) (And.intro hP hD) hS (lv_sub hl [0, 1, 4, 5] rfl)
              · refine lv_iload hx hb dX12_impossible_63 (lv_at1 hl) ?_
                refine lv_if_eq (tgt := 83) hx hb dX12_impossible_65 (by decide) (fun c_65_5708 => ?_) (fun c_65_5708 => ?_)
                · refine lv_iload_n hx hb dX12_impossible_83 rfl (lv_at3 hl) ?_
                  refine lv_iload hx hb dX12_impossible_84 (lv_at1 hl) ?_
                  refine lv_if_eq (tgt := 95) hx hb dX12_impossible_86 (by decide) (fun _ => ?_) (fun c9 => absurd (c_65_5708) c9)
                  refine lv_iconst (v := 0) hx hb dX12_impossible_95 (by decide) ?_
                  refine lv_ior hx hb dX12_impossible_96 ?_
                  refine lv_istore_n (lv' := [(2, .int (se ||| 0)), (5, .int hZx), (4, .int al), (3, .int (nI kP)), (1, .int 0), (0, .ref h0)]) hx hb dX12_impossible_97 rfl hl (by decide) rfl (fun ls hl => ?_)
                  refine lv_iinc (v := nI (kP + 1)) (lv' := [(3, .int (nI (kP + 1))), (2, .int (se ||| 0)), (5, .int hZx), (4, .int al), (1, .int 0), (0, .ref h0)]) hx hb dX12_impossible_98 hl (k := 3) rfl (nI_1 _) (by decide) rfl (fun ls hl => ?_)
                  refine lv_goto (tgt := 9) hx hb dX12_impossible_101 (by decide) ?_
                  exact ihP (kP + 1) (se ||| 0) fh15702 th15703 _ _ _ (by omega) (And.intro hP hD) hS (lv_sub hl [0, 1, 4, 5] rfl)
                · refine lv_aload_n hx hb dX12_impossible_68 rfl (lv_at5 hl) ?_
                  refine lv_iload hx hb dX12_impossible_69 (lv_at0 hl) ?_
                  refine lv_iload_n hx hb dX12_impossible_71 rfl (lv_at2 hl) ?_
                  refine pV hC hK hl hP hD (m_isAgainst l G h0 hZx kP nw nk mhasKept nt mtaped nr mrowMany mroundOf mroundFrom 0 nm fh15702 th15703 ns mfrom mto msort misFault mdeep mcoded mlines nl nc nF np ntr nb mbestCost nso nsi nit nsh nsf nss nrc mtraced mdealer mnumber mwhose msize misParted fnw (by omega)) si_X12_302 [0, 1] sm_0_1 fm_0_1 nd_0_1 rfl rfl rfl rfl rfl (Nat.le_of_ble_eq_true rfl) rm_6_2_3 ⟨by first | exact Nat.le_of_ble_eq_true rfl | exact Nat.zero_le _, by first | exact Nat.le_of_ble_eq_true rfl | exact Nat.zero_le _⟩ dX12_impossible_72 (Kors (Keqr ?_) (Keqr ?_))
                  · refine lv_istore (lv' := [(4, .int 1), (5, .int hZx), (3, .int (nI kP)), (2, .int se), (1, .int 0), (0, .ref h0)]) hx hb dX12_impossible_75 hl (by decide) rfl (fun ls hl => ?_)
                    refine lv_iinc (v := hZx + 1) (lv' := [(5, .int (hZx + 1)), (4, .int 1), (3, .int (nI kP)), (2, .int se), (1, .int 0), (0, .ref h0)]) hx hb dX12_impossible_77 hl (k := 1) rfl (rfl) (by decide) rfl (fun ls hl => ?_)
                    refine lv_goto (tgt := 54) hx hb dX12_impossible_80 (by decide) ?_
                    exact ihZ (hZx + 1) 1 _ _ _ (hz_back c_60_5706 w5704 hkZ) (And.intro hP hD) hS (lv_sub hl [0, 1, 2, 3, 4, 5] rfl)
                  · refine lv_istore (lv' := [(4, .int 0), (5, .int hZx), (3, .int (nI kP)), (2, .int se), (1, .int 0), (0, .ref h0)]) hx hb dX12_impossible_75 hl (by decide) rfl (fun ls hl => ?_)
                    refine lv_iinc (v := hZx + 1) (lv' := [(5, .int (hZx + 1)), (4, .int 0), (3, .int (nI kP)), (2, .int se), (1, .int 0), (0, .ref h0)]) hx hb dX12_impossible_77 hl (k := 1) rfl (rfl) (by decide) rfl (fun ls hl => ?_)
                    refine lv_goto (tgt := 54) hx hb dX12_impossible_80 (by decide) ?_
                    exact ihZ (hZx + 1) 0 _ _ _ (hz_back c_60_5706 w5704 hkZ) (And.intro hP hD) hS (lv_sub hl [0, 1, 2, 3, 4, 5] rfl)
          exact keyZ ((th15703).toInt + 1 - (fh15702).toInt).toNat fh15702 1 _ _ _ (by omega) (And.intro hP hD) hS (lv_sub hl [0, 1, 2, 3, 4, 5] rfl)
        · refine lv_if_eq (tgt := 98) hx hb dX12_impossible_25 (by decide) (fun _ => ?_) (fun c9 => absurd (by decide) c9)
          refine lv_iinc (v := nI (kP + 1)) (lv' := [(3, .int (nI (kP + 1))), (2, .int se), (1, .int 0), (0, .ref h0)]) hx hb dX12_impossible_98 hl (k := 0) rfl (nI_1 _) (by decide) rfl (fun ls hl => ?_)
          refine lv_goto (tgt := 9) hx hb dX12_impossible_101 (by decide) ?_
          exact ihP (kP + 1) se vfh vth _ _ _ (by omega) (And.intro hP hD) hS (lv_sub hl [0, 1, 2, 3] rfl)
    exact keyP k8 0 0 mfromHour mtoHour _ _ _ (by omega) (And.intro hP hD) hS (lv_sub hl [0, 1, 2, 3] rfl)
