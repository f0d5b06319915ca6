section WR
variable {p : Program} {l : Launch} {e : Env} {R : Room} {s : State} {m : MethodId} {args : Array Value} {below : List Frame} {meth : Method} {c : Code} {H : Heap} {locs : List Loc} {cells slots : Nat} {Q : State → Prop}
variable {pc : Nat} {ls : Array Slot} {rest : List Value} {G : GG} {ws : va_W} {A : Nat → Prop} {y0 : MethodName} {b0 : ByteArray} {mL0 : Nat} {rt0 : Option FieldType} {a : Nat} {H0 : Heap}
end WR
/-- what a kind tells of its shelf -/
def KO1 (x : Int32) (y : Int32) (k : Nat) (B : Nat) : Prop := x = nI k ∧ ∃ j, j < B ∧ y = nI j
theorem KO1.mk {x x2 y y2 : Int32} {k B kk : Nat} (hB : kk ≤ B) (hk : kk < 2 ^ 31) (ex : x2 = x) (ey : y2 = y) (c : x2 = nI k) (h : Hs y2 kk) : KO1 x y k B := by
  obtain ⟨j, hj, e⟩ := Hs_nat hk h
  exact ⟨ex.symm.trans c, j, by omega, ey.symm.trans e⟩
/-- the first n alike -/
def AG (n : Nat) (f g : Nat → Int32) : Prop := ∀ i, i < n → g i = f i
theorem AG.zero {f g : Nat → Int32} : AG 0 f g := fun i h => absurd h (Nat.not_lt_zero i)
theorem AG.next {n : Nat} {f g : Nat → Int32} {x : Int32} (h : AG n f g) (hx : x = f n) : AG (n + 1) f (upd g n x) := by
  intro i hi
  unfold upd
  by_cases c : i = n
  · rw [if_pos c, hx, c]
  · rw [if_neg c]; exact h i (by omega)
theorem AG.SC {f g : Nat → Int32} (h : AG 1662 f g) : SCX g (f 0) (f 1) (f 2) (f 3) (f 4) (f 5) (f 6) (f 8) (f 9) (f 10) (f 11) := SCX.rf.ag fun i h1 _ => h i (by omega)
theorem AG.NI {f g : Nat → Int32} (h : AG 1662 f g) (hN : NI f) : NI g := by
  intro i
  by_cases c : i < 1662
  · rw [h i c]; exact hN i
  · rw [bnd_end (by omega)]
    exact ⟨ti_lo _, ti_hi _⟩
theorem AG.VI {f g : Nat → Int32} (h : AG 1662 f g) (hV : VI f) : VI g := by
  intro v hv
  exact VOK.ext (fun j hj => (h _ (by omega)).symm) (hV v hv)
section WR
variable {p : Program} {l : Launch} {e : Env} {R : Room} {s : State} {m : MethodId} {args : Array Value} {below : List Frame} {meth : Method} {c : Code} {H : Heap} {locs : List Loc} {cells slots : Nat} {Q : State → Prop}
variable {pc : Nat} {ls : Array Slot} {rest : List Value} {G : GG} {ws : va_W} {A : Nat → Prop} {y0 : MethodName} {b0 : ByteArray} {mL0 : Nat} {rt0 : Option FieldType} {a : Nat} {H0 : Heap}
theorem gX12_kindOn_0 : (decode cX12_kindOn 0 = .ok (.aload_n 0, 1)) ∧ (decode cX12_kindOn 1 = .ok (.getfield 75, 3)) ∧ (decode cX12_kindOn 4 = .ok (.iload_n 1, 1)) ∧ (decode cX12_kindOn 5 = .ok (.iaload, 1)) ∧ (decode cX12_kindOn 6 = .ok (.istore_n 2, 1)) ∧ (decode cX12_kindOn 7 = .ok (.aload_n 0, 1)) ∧ (decode cX12_kindOn 8 = .ok (.getfield 72, 3)) ∧ (decode cX12_kindOn 11 = .ok (.iload_n 1, 1)) ∧ (decode cX12_kindOn 12 = .ok (.iaload, 1)) ∧ (decode cX12_kindOn 13 = .ok (.tableswitch 145 1 3 #[27, 98, 128], 27)) := by decide +kernel
theorem gX12_kindOn_1 : (decode cX12_kindOn 40 = .ok (.aload_n 0, 1)) ∧ (decode cX12_kindOn 41 = .ok (.iload_n 2, 1)) ∧ (decode cX12_kindOn 42 = .ok (.iconst 5, 1)) ∧ (decode cX12_kindOn 43 = .ok (.invokevirtual 120, 3)) ∧ (decode cX12_kindOn 46 = .ok (.ifCond .eq 27, 3)) ∧ (decode cX12_kindOn 49 = .ok (.aload_n 0, 1)) ∧ (decode cX12_kindOn 50 = .ok (.iload_n 2, 1)) ∧ (decode cX12_kindOn 51 = .ok (.iconst 1, 1)) ∧ (decode cX12_kindOn 52 = .ok (.invokevirtual 88, 3)) ∧ (decode cX12_kindOn 55 = .ok (.iconst 1, 1)) := by decide +kernel
theorem gX12_kindOn_2 : (decode cX12_kindOn 56 = .ok (.aload_n 0, 1)) ∧ (decode cX12_kindOn 57 = .ok (.iload_n 2, 1)) ∧ (decode cX12_kindOn 58 = .ok (.iconst 0, 1)) ∧ (decode cX12_kindOn 59 = .ok (.invokevirtual 88, 3)) ∧ (decode cX12_kindOn 62 = .ok (.ishl, 1)) ∧ (decode cX12_kindOn 63 = .ok (.iconst (-1), 1)) ∧ (decode cX12_kindOn 64 = .ok (.ixor, 1)) ∧ (decode cX12_kindOn 65 = .ok (.iand, 1)) ∧ (decode cX12_kindOn 66 = .ok (.ifCond .eq 7, 3)) ∧ (decode cX12_kindOn 69 = .ok (.iconst 1, 1)) := by decide +kernel
theorem gX12_kindOn_3 : (decode cX12_kindOn 70 = .ok (.goto 4, 3)) ∧ (decode cX12_kindOn 73 = .ok (.iconst 0, 1)) ∧ (decode cX12_kindOn 74 = .ok (.istore_n 3, 1)) ∧ (decode cX12_kindOn 75 = .ok (.aload_n 0, 1)) ∧ (decode cX12_kindOn 76 = .ok (.iload_n 2, 1)) ∧ (decode cX12_kindOn 77 = .ok (.iconst 5, 1)) ∧ (decode cX12_kindOn 78 = .ok (.invokevirtual 120, 3)) ∧ (decode cX12_kindOn 81 = .ok (.ifCond .ne 7, 3)) ∧ (decode cX12_kindOn 84 = .ok (.iconst (-1), 1)) ∧ (decode cX12_kindOn 85 = .ok (.goto 25, 3)) := by decide +kernel
theorem gX12_kindOn_4 : (decode cX12_kindOn 88 = .ok (.iload_n 3, 1)) ∧ (decode cX12_kindOn 89 = .ok (.ifCond .ne 7, 3)) ∧ (decode cX12_kindOn 92 = .ok (.iconst 2, 1)) ∧ (decode cX12_kindOn 93 = .ok (.goto 17, 3)) ∧ (decode cX12_kindOn 96 = .ok (.aload_n 0, 1)) ∧ (decode cX12_kindOn 97 = .ok (.iload_n 2, 1)) ∧ (decode cX12_kindOn 98 = .ok (.iconst 3, 1)) ∧ (decode cX12_kindOn 99 = .ok (.invokevirtual 88, 3)) ∧ (decode cX12_kindOn 102 = .ok (.ifCond .le 7, 3)) ∧ (decode cX12_kindOn 105 = .ok (.iconst 3, 1)) := by decide +kernel
theorem gX12_kindOn_5 : (decode cX12_kindOn 106 = .ok (.goto 4, 3)) ∧ (decode cX12_kindOn 109 = .ok (.iconst 1, 1)) ∧ (decode cX12_kindOn 110 = .ok (.ireturn, 1)) ∧ (decode cX12_kindOn 111 = .ok (.aload_n 0, 1)) ∧ (decode cX12_kindOn 112 = .ok (.iload_n 2, 1)) ∧ (decode cX12_kindOn 113 = .ok (.bipush 8, 2)) ∧ (decode cX12_kindOn 115 = .ok (.invokevirtual 120, 3)) ∧ (decode cX12_kindOn 118 = .ok (.ifCond .ne 7, 3)) ∧ (decode cX12_kindOn 121 = .ok (.iconst (-1), 1)) ∧ (decode cX12_kindOn 122 = .ok (.goto 18, 3)) := by decide +kernel
theorem gX12_kindOn_6 : (decode cX12_kindOn 125 = .ok (.aload_n 0, 1)) ∧ (decode cX12_kindOn 126 = .ok (.iload_n 2, 1)) ∧ (decode cX12_kindOn 127 = .ok (.bipush 6, 2)) ∧ (decode cX12_kindOn 129 = .ok (.invokevirtual 114, 3)) ∧ (decode cX12_kindOn 132 = .ok (.ifCond .ge 7, 3)) ∧ (decode cX12_kindOn 135 = .ok (.iconst 5, 1)) ∧ (decode cX12_kindOn 136 = .ok (.goto 4, 3)) ∧ (decode cX12_kindOn 139 = .ok (.iconst 4, 1)) ∧ (decode cX12_kindOn 140 = .ok (.ireturn, 1)) ∧ (decode cX12_kindOn 141 = .ok (.aload_n 0, 1)) := by decide +kernel
theorem gX12_kindOn_7 : (decode cX12_kindOn 142 = .ok (.iload_n 2, 1)) ∧ (decode cX12_kindOn 143 = .ok (.bipush 9, 2)) ∧ (decode cX12_kindOn 145 = .ok (.invokevirtual 120, 3)) ∧ (decode cX12_kindOn 148 = .ok (.ifCond .eq 8, 3)) ∧ (decode cX12_kindOn 151 = .ok (.bipush 6, 2)) ∧ (decode cX12_kindOn 153 = .ok (.goto 4, 3)) ∧ (decode cX12_kindOn 156 = .ok (.iconst (-1), 1)) ∧ (decode cX12_kindOn 157 = .ok (.ireturn, 1)) ∧ (decode cX12_kindOn 158 = .ok (.iconst (-1), 1)) ∧ (decode cX12_kindOn 159 = .ok (.ireturn, 1)) := by decide +kernel
theorem sw_1_3 {x : Int32} : ¬ x = 1 → ¬ x = 2 → ¬ x = 3 →  (x.toInt < 1 ∨ 3 < x.toInt) := by
  intros
  simp only [← Int32.toInt_inj] at *
  have hk : ∀ k : Int, x.toInt = k → x.toInt = k := fun _ h => h
  have k1 : (1 : Int32).toInt = 1 := by decide
  have k2 : (2 : Int32).toInt = 2 := by decide
  have k3 : (3 : Int32).toInt = 3 := by decide
  omega
theorem gX12_above_0 : (decode cX12_above 0 = .ok (.iload_n 0, 1)) ∧ (decode cX12_above 1 = .ok (.iconst 3, 1)) ∧ (decode cX12_above 2 = .ok (.if_icmp .ne 7, 3)) ∧ (decode cX12_above 5 = .ok (.iconst 1, 1)) ∧ (decode cX12_above 6 = .ok (.goto 21, 3)) ∧ (decode cX12_above 9 = .ok (.iload_n 0, 1)) ∧ (decode cX12_above 10 = .ok (.iconst 5, 1)) ∧ (decode cX12_above 11 = .ok (.if_icmp .ne 7, 3)) ∧ (decode cX12_above 14 = .ok (.iconst 4, 1)) ∧ (decode cX12_above 15 = .ok (.goto 12, 3)) := by decide +kernel
theorem gX12_above_1 : (decode cX12_above 18 = .ok (.iload_n 0, 1)) ∧ (decode cX12_above 19 = .ok (.ifCond .ne 7, 3)) ∧ (decode cX12_above 22 = .ok (.iconst (-1), 1)) ∧ (decode cX12_above 23 = .ok (.goto 4, 3)) ∧ (decode cX12_above 26 = .ok (.iconst 0, 1)) ∧ (decode cX12_above 27 = .ok (.ireturn, 1)) := by decide +kernel
theorem gX12_hasOwn_0 : (decode cX12_hasOwn 0 = .ok (.iload_n 0, 1)) ∧ (decode cX12_hasOwn 1 = .ok (.tableswitch 94 0 5 #[39, 41, 52, 63, 79, 79], 39)) ∧ (decode cX12_hasOwn 40 = .ok (.iconst 1, 1)) ∧ (decode cX12_hasOwn 41 = .ok (.ireturn, 1)) ∧ (decode cX12_hasOwn 42 = .ok (.iload_n 1, 1)) ∧ (decode cX12_hasOwn 43 = .ok (.iconst 1, 1)) ∧ (decode cX12_hasOwn 44 = .ok (.if_icmp .ne 7, 3)) ∧ (decode cX12_hasOwn 47 = .ok (.iconst 1, 1)) ∧ (decode cX12_hasOwn 48 = .ok (.goto 4, 3)) ∧ (decode cX12_hasOwn 51 = .ok (.iconst 0, 1)) := by decide +kernel
theorem gX12_hasOwn_1 : (decode cX12_hasOwn 52 = .ok (.ireturn, 1)) ∧ (decode cX12_hasOwn 53 = .ok (.iload_n 1, 1)) ∧ (decode cX12_hasOwn 54 = .ok (.iconst 2, 1)) ∧ (decode cX12_hasOwn 55 = .ok (.if_icmp .ne 7, 3)) ∧ (decode cX12_hasOwn 58 = .ok (.iconst 1, 1)) ∧ (decode cX12_hasOwn 59 = .ok (.goto 4, 3)) ∧ (decode cX12_hasOwn 62 = .ok (.iconst 0, 1)) ∧ (decode cX12_hasOwn 63 = .ok (.ireturn, 1)) ∧ (decode cX12_hasOwn 64 = .ok (.iload_n 1, 1)) ∧ (decode cX12_hasOwn 65 = .ok (.iconst 1, 1)) := by decide +kernel
theorem gX12_hasOwn_2 : (decode cX12_hasOwn 66 = .ok (.if_icmp .eq 8, 3)) ∧ (decode cX12_hasOwn 69 = .ok (.iload_n 1, 1)) ∧ (decode cX12_hasOwn 70 = .ok (.iconst 3, 1)) ∧ (decode cX12_hasOwn 71 = .ok (.if_icmp .ne 7, 3)) ∧ (decode cX12_hasOwn 74 = .ok (.iconst 1, 1)) ∧ (decode cX12_hasOwn 75 = .ok (.goto 4, 3)) ∧ (decode cX12_hasOwn 78 = .ok (.iconst 0, 1)) ∧ (decode cX12_hasOwn 79 = .ok (.ireturn, 1)) ∧ (decode cX12_hasOwn 80 = .ok (.iload_n 1, 1)) ∧ (decode cX12_hasOwn 81 = .ok (.ifCond .eq 8, 3)) := by decide +kernel
theorem gX12_hasOwn_3 : (decode cX12_hasOwn 84 = .ok (.iload_n 1, 1)) ∧ (decode cX12_hasOwn 85 = .ok (.iconst 2, 1)) ∧ (decode cX12_hasOwn 86 = .ok (.if_icmp .ne 7, 3)) ∧ (decode cX12_hasOwn 89 = .ok (.iconst 1, 1)) ∧ (decode cX12_hasOwn 90 = .ok (.goto 4, 3)) ∧ (decode cX12_hasOwn 93 = .ok (.iconst 0, 1)) ∧ (decode cX12_hasOwn 94 = .ok (.ireturn, 1)) ∧ (decode cX12_hasOwn 95 = .ok (.iload_n 1, 1)) ∧ (decode cX12_hasOwn 96 = .ok (.iconst 3, 1)) ∧ (decode cX12_hasOwn 97 = .ok (.if_icmp .ne 7, 3)) := by decide +kernel
theorem gX12_hasOwn_4 : (decode cX12_hasOwn 100 = .ok (.iconst 1, 1)) ∧ (decode cX12_hasOwn 101 = .ok (.goto 4, 3)) ∧ (decode cX12_hasOwn 104 = .ok (.iconst 0, 1)) ∧ (decode cX12_hasOwn 105 = .ok (.ireturn, 1)) := by decide +kernel
end WR
/-- the reference's word for the kind of what a shelf holds -/
noncomputable def KOM (s o : Int32) (kp ks kf : Nat) (gp gs : Nat → Int32) : Int32 := ifc (s = 1) (ifc (Hs o kp) (nI (PKn (gp (o.toNatClampNeg * 6 + 1)) (gp (o.toNatClampNeg * 6 + 0)) (gp (o.toNatClampNeg * 6 + 3)))) (-1)) (ifc (s = 2) (ifc (Hs o ks) (nI (SKn (gs (o.toNatClampNeg * 8 + 6)))) (-1)) (ifc (s = 3) (ifc (Hs o kf) 6 (-1)) (-1)))
theorem wi_ten {x : Int32} : Wi (x - 10) 0 4 ↔ Wi x 10 14 := by
  constructor
  · intro h
    obtain ⟨j, hj, e⟩ := Wi_nat (N := 4) (by decide) h
    have h1 : x - 10 + 10 = x := by rw [Int32.sub_add_cancel]
    rw [e] at h1
    have e2 : x = nI (j + 10) := h1.symm.trans (nI_add j 10)
    rw [e2, wi_lit (a := 10) (b := 14) (by omega) (by decide) (by decide)]
    omega
  · intro h
    have h0 : ¬ x < 0 := fun h9 => h.1 (by
      rw [Int32.lt_iff_toInt_lt] at h9 ⊢
      have e0 : (0 : Int32).toInt = 0 := by decide
      have e10 : (10 : Int32).toInt = 10 := by decide
      omega)
    obtain ⟨n, hn, rfl⟩ := nI_of h0
    rw [wi_lit (a := 10) (b := 14) hn (by decide) (by decide)] at h
    have e2 : nI n - 10 = nI (n - 10) := pk_sub (b := 10) (by omega)
    rw [e2, wi_lit (a := 0) (b := 4) (by omega) (by decide) (by decide)]
    omega
section WR
variable {p : Program} {l : Launch} {e : Env} {R : Room} {s : State} {m : MethodId} {args : Array Value} {below : List Frame} {meth : Method} {c : Code} {H : Heap} {locs : List Loc} {cells slots : Nat} {Q : State → Prop}
variable {pc : Nat} {ls : Array Slot} {rest : List Value} {G : GG} {ws : va_W} {A : Nat → Prop} {y0 : MethodName} {b0 : ByteArray} {mL0 : Nat} {rt0 : Option FieldType} {a : Nat} {H0 : Heap}
theorem gX12_taken_0 : (decode cX12_taken 0 = .ok (.iload_n 1, 1)) ∧ (decode cX12_taken 1 = .ok (.invokestatic 336, 3)) ∧ (decode cX12_taken 4 = .ok (.ifCond .eq 24, 3)) ∧ (decode cX12_taken 7 = .ok (.iload_n 2, 1)) ∧ (decode cX12_taken 8 = .ok (.iconst 0, 1)) ∧ (decode cX12_taken 9 = .ok (.bipush 6, 2)) ∧ (decode cX12_taken 11 = .ok (.invokestatic 84, 3)) ∧ (decode cX12_taken 14 = .ok (.ifCond .ne 16, 3)) ∧ (decode cX12_taken 17 = .ok (.iload_n 2, 1)) ∧ (decode cX12_taken 18 = .ok (.bipush 10, 2)) := by decide +kernel
theorem gX12_taken_1 : (decode cX12_taken 20 = .ok (.bipush 14, 2)) ∧ (decode cX12_taken 22 = .ok (.invokestatic 84, 3)) ∧ (decode cX12_taken 25 = .ok (.ifCond .ne 5, 3)) ∧ (decode cX12_taken 28 = .ok (.iconst (-1), 1)) ∧ (decode cX12_taken 29 = .ok (.ireturn, 1)) ∧ (decode cX12_taken 30 = .ok (.aload_n 0, 1)) ∧ (decode cX12_taken 31 = .ok (.getfield 72, 3)) ∧ (decode cX12_taken 34 = .ok (.iload_n 1, 1)) ∧ (decode cX12_taken 35 = .ok (.iaload, 1)) ∧ (decode cX12_taken 36 = .ok (.iconst 4, 1)) := by decide +kernel
theorem gX12_taken_2 : (decode cX12_taken 37 = .ok (.if_icmp .ne 28, 3)) ∧ (decode cX12_taken 40 = .ok (.iload_n 2, 1)) ∧ (decode cX12_taken 41 = .ok (.bipush 10, 2)) ∧ (decode cX12_taken 43 = .ok (.isub, 1)) ∧ (decode cX12_taken 44 = .ok (.aload_n 0, 1)) ∧ (decode cX12_taken 45 = .ok (.getfield 75, 3)) ∧ (decode cX12_taken 48 = .ok (.iload_n 1, 1)) ∧ (decode cX12_taken 49 = .ok (.iaload, 1)) ∧ (decode cX12_taken 50 = .ok (.if_icmp .ne 12, 3)) ∧ (decode cX12_taken 53 = .ok (.aload_n 0, 1)) := by decide +kernel
theorem gX12_taken_3 : (decode cX12_taken 54 = .ok (.getfield 78, 3)) ∧ (decode cX12_taken 57 = .ok (.iload_n 1, 1)) ∧ (decode cX12_taken 58 = .ok (.iaload, 1)) ∧ (decode cX12_taken 59 = .ok (.goto 5, 3)) ∧ (decode cX12_taken 62 = .ok (.bipush (-13), 2)) ∧ (decode cX12_taken 64 = .ok (.ireturn, 1)) ∧ (decode cX12_taken 65 = .ok (.aload_n 0, 1)) ∧ (decode cX12_taken 66 = .ok (.iload_n 1, 1)) ∧ (decode cX12_taken 67 = .ok (.invokevirtual 345, 3)) ∧ (decode cX12_taken 70 = .ok (.istore_n 3, 1)) := by decide +kernel
theorem m_1387 : Cond.code yX12_kindOn cX12_kindOn 4 (some .int) ∈ BW := iB_BW74 _ (List.mem_of_getElem? (i := 3) rfl)
theorem m_1385 : Cond.methodLink RX12 345 yX12_kindOn ∈ BW := iB_BW74 _ (List.mem_of_getElem? (i := 1) rfl)
theorem m_1386 : Cond.instanceMethod yX12_kindOn ∈ BW := iB_BW74 _ (List.mem_of_getElem? (i := 2) rfl)
theorem m_97 : Cond.selects RX12 yX12_kindOn yX12_kindOn ∈ BW := iB_BW4 _ (List.mem_of_getElem? (i := 17) rfl)
theorem si_X12_345 : SV RX12 RX12 345 yX12_kindOn cX12_kindOn 4 (some .int) 1 := ⟨⟨m_1385, m_1386, m_97, m_115, m_1387⟩, rfl, nK_RX12.1, nK_RX12.2, pd_7⟩
theorem gX12_taken_4 : (decode cX12_taken 71 = .ok (.iload_n 3, 1)) ∧ (decode cX12_taken 72 = .ok (.ifCond .ge 6, 3)) ∧ (decode cX12_taken 75 = .ok (.bipush (-11), 2)) ∧ (decode cX12_taken 77 = .ok (.ireturn, 1)) ∧ (decode cX12_taken 78 = .ok (.iload_n 3, 1)) ∧ (decode cX12_taken 79 = .ok (.ifCond .lt 16, 3)) ∧ (decode cX12_taken 82 = .ok (.iload_n 3, 1)) ∧ (decode cX12_taken 83 = .ok (.iload_n 2, 1)) ∧ (decode cX12_taken 84 = .ok (.if_icmp .eq 11, 3)) ∧ (decode cX12_taken 87 = .ok (.iload_n 3, 1)) := by decide +kernel
theorem gX12_taken_5 : (decode cX12_taken 88 = .ok (.invokestatic 348, 3)) ∧ (decode cX12_taken 91 = .ok (.istore_n 3, 1)) ∧ (decode cX12_taken 92 = .ok (.goto (-14), 3)) ∧ (decode cX12_taken 95 = .ok (.iload_n 3, 1)) ∧ (decode cX12_taken 96 = .ok (.iload_n 2, 1)) ∧ (decode cX12_taken 97 = .ok (.if_icmp .ne 12, 3)) ∧ (decode cX12_taken 100 = .ok (.aload_n 0, 1)) ∧ (decode cX12_taken 101 = .ok (.getfield 75, 3)) ∧ (decode cX12_taken 104 = .ok (.iload_n 1, 1)) ∧ (decode cX12_taken 105 = .ok (.iaload, 1)) := by decide +kernel
theorem gX12_taken_6 : (decode cX12_taken 106 = .ok (.goto 5, 3)) ∧ (decode cX12_taken 109 = .ok (.bipush (-13), 2)) ∧ (decode cX12_taken 111 = .ok (.ireturn, 1)) := by decide +kernel
theorem m_1390 : Cond.code yX12_above cX12_above 1 (some .int) ∈ BW := iB_BW74 _ (List.mem_of_getElem? (i := 6) rfl)
theorem m_1388 : Cond.methodLink RX12 348 yX12_above ∈ BW := iB_BW74 _ (List.mem_of_getElem? (i := 4) rfl)
theorem m_1389 : Cond.static yX12_above ∈ BW := iB_BW74 _ (List.mem_of_getElem? (i := 5) rfl)
theorem si_X12_348 : SS RX12 348 yX12_above cX12_above 1 (some .int) 1 := ⟨⟨m_1388, m_1389, m_115, m_1390⟩, ⟨nK_RX12.1, nK_RX12.2, pd_7⟩⟩
end WR
theorem TK.cg {x1 x2 : Int32} {hw hn ht sh sf ss fp gp fs gs : Nat → Int32} {kp ks kf : Nat} (h : SLR hw hn ht sh sf ss) (hp : ∀ i, i < 72 → gp i = fp i) (hs : ∀ i, i < 128 → gs i = fs i) (hkp : kp ≤ 12) (hks : ks ≤ 16) : ifc (Wi x1 0 3) (ifc (Wi x2 0 6 ∨ Wi (x2 - 10) 0 4) (ifc (HLD (hw x1.toNatClampNeg) (hn x1.toNatClampNeg) kp ks kf = 4) (-11) (ifc (hw x1.toNatClampNeg = 3) (ifc (ht x1.toNatClampNeg = x2 - 10) (hn x1.toNatClampNeg) (-13)) (ifc (UNl (KNn (hw x1.toNatClampNeg) (hn x1.toNatClampNeg).toNatClampNeg fp fs) x2) (hn x1.toNatClampNeg) (-13)))) (-1)) (-1) = ifc (Wi x1 0 3) (ifc (Wi x2 0 6 ∨ Wi x2 10 14) (ifc (sh x1.toNatClampNeg = 4) (ifc (x2 - 10 = sf x1.toNatClampNeg) (ss x1.toNatClampNeg) (-13)) (ifc (KOM (sh x1.toNatClampNeg) (sf x1.toNatClampNeg) kp ks kf gp gs < 0) (-11) (ifc (UNl (KOM (sh x1.toNatClampNeg) (sf x1.toNatClampNeg) kp ks kf gp gs).toNatClampNeg x2) (sf x1.toNatClampNeg) (-13)))) (-1)) (-1) := by
  by_cases c1 : Wi x1 0 3
  · rw [ifc_t c1, ifc_t c1]
    obtain ⟨j, hj, rfl⟩ := Wi3 c1
    rw [nI_clamp (n := j) (by omega)]
    have hc : (Wi x2 0 6 ∨ Wi (x2 - 10) 0 4) = (Wi x2 0 6 ∨ Wi x2 10 14) := by rw [propext wi_ten]
    rw [hc]
    refine ifc_cg fun _ => ?_
    have n34 : ¬ (3 : Int32) = 4 := by decide
    rcases h j hj with ⟨a1, a2⟩ | ⟨a1, a2, a3⟩ | ⟨a1, a2, a3⟩ | ⟨a1, a2, a3⟩ | ⟨a1, a2, a3, a4, a5⟩
    · have e1 : HLD 4 (hn j) kp ks kf = 4 := by unfold HLD; rw [ifc_f (q := (4 : Int32) = 0) (by decide), ifc_f (q := (4 : Int32) = 1) (by decide), ifc_f (q := (4 : Int32) = 2) (by decide)]
      have e2 : KOM 0 (sf j) kp ks kf gp gs = (-1) := by unfold KOM; rw [ifc_f (q := (0 : Int32) = 1) (by decide), ifc_f (q := (0 : Int32) = 2) (by decide), ifc_f (q := (0 : Int32) = 3) (by decide)]
      rw [a1, a2, e1, e2, ifc_t (q := (4 : Int32) = 4) rfl, ifc_f (q := (0 : Int32) = 4) (by decide), ifc_t (q := (-1 : Int32) < 0) (by decide)]
    · have e1 : HLD 0 (sf j) kp ks kf = ifc (Hs (sf j) kp) 0 4 := by unfold HLD; rw [ifc_t (q := (0 : Int32) = 0) rfl]
      have e2 : KOM 1 (sf j) kp ks kf gp gs = ifc (Hs (sf j) kp) (nI (PKn (gp ((sf j).toNatClampNeg * 6 + 1)) (gp ((sf j).toNatClampNeg * 6 + 0)) (gp ((sf j).toNatClampNeg * 6 + 3)))) (-1) := by unfold KOM; rw [ifc_t (q := (1 : Int32) = 1) rfl]
      rw [a1, a2, a3, ifc_f (q := (1 : Int32) = 4) (by decide), e1, e2]
      by_cases c2 : Hs (sf j) kp
      · have e3 : KNn 0 (sf j).toNatClampNeg fp fs = PKn (gp ((sf j).toNatClampNeg * 6 + 1)) (gp ((sf j).toNatClampNeg * 6 + 0)) (gp ((sf j).toNatClampNeg * 6 + 3)) := by
          have hb := Hs_at (by omega) c2
          unfold KNn
          rw [ifn_t (q := (0 : Int32) = 0) rfl, hp ((sf j).toNatClampNeg * 6 + 1) (by omega), hp ((sf j).toNatClampNeg * 6 + 0) (by omega), hp ((sf j).toNatClampNeg * 6 + 3) (by omega)]
        have hl : PKn (gp ((sf j).toNatClampNeg * 6 + 1)) (gp ((sf j).toNatClampNeg * 6 + 0)) (gp ((sf j).toNatClampNeg * 6 + 3)) < 7 := PKn.lt
        rw [ifc_t c2, ifc_t c2, ifc_f (q := (0 : Int32) = 4) (by decide), ifc_f (q := (0 : Int32) = 3) (by decide), e3, ifc_f (q := nI (PKn (gp ((sf j).toNatClampNeg * 6 + 1)) (gp ((sf j).toNatClampNeg * 6 + 0)) (gp ((sf j).toNatClampNeg * 6 + 3))) < 0) (nI_nn (by omega)), nI_clamp (n := PKn (gp ((sf j).toNatClampNeg * 6 + 1)) (gp ((sf j).toNatClampNeg * 6 + 0)) (gp ((sf j).toNatClampNeg * 6 + 3))) (by omega)]
      · rw [ifc_f c2, ifc_f c2, ifc_t (q := (4 : Int32) = 4) rfl, ifc_t (q := (-1 : Int32) < 0) (by decide)]
    · have e1 : HLD 1 (sf j) kp ks kf = ifc (Hs (sf j) ks) 1 4 := by unfold HLD; rw [ifc_f (q := (1 : Int32) = 0) (by decide), ifc_t (q := (1 : Int32) = 1) rfl]
      have e2 : KOM 2 (sf j) kp ks kf gp gs = ifc (Hs (sf j) ks) (nI (SKn (gs ((sf j).toNatClampNeg * 8 + 6)))) (-1) := by unfold KOM; rw [ifc_f (q := (2 : Int32) = 1) (by decide), ifc_t (q := (2 : Int32) = 2) rfl]
      rw [a1, a2, a3, ifc_f (q := (2 : Int32) = 4) (by decide), e1, e2]
      by_cases c2 : Hs (sf j) ks
      · have e3 : KNn 1 (sf j).toNatClampNeg fp fs = SKn (gs ((sf j).toNatClampNeg * 8 + 6)) := by
          have hb := Hs_at (by omega) c2
          unfold KNn
          rw [ifn_f (q := (1 : Int32) = 0) (by decide), ifn_t (q := (1 : Int32) = 1) rfl, hs ((sf j).toNatClampNeg * 8 + 6) (by omega)]
        have hl : SKn (gs ((sf j).toNatClampNeg * 8 + 6)) < 7 := SKn.lt
        rw [ifc_t c2, ifc_t c2, ifc_f (q := (1 : Int32) = 4) (by decide), ifc_f (q := (1 : Int32) = 3) (by decide), e3, ifc_f (q := nI (SKn (gs ((sf j).toNatClampNeg * 8 + 6))) < 0) (nI_nn (by omega)), nI_clamp (n := SKn (gs ((sf j).toNatClampNeg * 8 + 6))) (by omega)]
      · rw [ifc_f c2, ifc_f c2, ifc_t (q := (4 : Int32) = 4) rfl, ifc_t (q := (-1 : Int32) < 0) (by decide)]
    · have e1 : HLD 2 (sf j) kp ks kf = ifc (Hs (sf j) kf) 2 4 := by unfold HLD; rw [ifc_f (q := (2 : Int32) = 0) (by decide), ifc_f (q := (2 : Int32) = 1) (by decide), ifc_t (q := (2 : Int32) = 2) rfl]
      have e2 : KOM 3 (sf j) kp ks kf gp gs = ifc (Hs (sf j) kf) 6 (-1) := by unfold KOM; rw [ifc_f (q := (3 : Int32) = 1) (by decide), ifc_f (q := (3 : Int32) = 2) (by decide), ifc_t (q := (3 : Int32) = 3) rfl]
      rw [a1, a2, a3, ifc_f n34, e1, e2]
      by_cases c2 : Hs (sf j) kf
      · have e3 : KNn 2 (sf j).toNatClampNeg fp fs = 6 := by unfold KNn; rw [ifn_f (q := (2 : Int32) = 0) (by decide), ifn_f (q := (2 : Int32) = 1) (by decide)]
        have e6 : (6 : Int32).toNatClampNeg = 6 := by decide
        rw [ifc_t c2, ifc_t c2, ifc_f (q := (2 : Int32) = 4) (by decide), ifc_f (q := (2 : Int32) = 3) (by decide), e3, ifc_f (q := (6 : Int32) < 0) (by decide), e6]
      · rw [ifc_f c2, ifc_f c2, ifc_t (q := (4 : Int32) = 4) rfl, ifc_t (q := (-1 : Int32) < 0) (by decide)]
    · have e1 : HLD 3 (hn j) kp ks kf = 3 := by unfold HLD; rw [ifc_f (q := (3 : Int32) = 0) (by decide), ifc_f (q := (3 : Int32) = 1) (by decide), ifc_f (q := (3 : Int32) = 2) (by decide)]
      rw [a1, a2, e1, ifc_f n34, ifc_t (q := (3 : Int32) = 3) rfl, ifc_t (q := (4 : Int32) = 4) rfl, a3, a4]
      by_cases c5 : sf j = x2 - 10
      · rw [ifc_t c5, ifc_t c5.symm]
      · rw [ifc_f c5, ifc_f (fun h9 => c5 h9.symm)]
  · rw [ifc_f c1, ifc_f c1]
section WR
variable {p : Program} {l : Launch} {e : Env} {R : Room} {s : State} {m : MethodId} {args : Array Value} {below : List Frame} {meth : Method} {c : Code} {H : Heap} {locs : List Loc} {cells slots : Nat} {Q : State → Prop}
variable {pc : Nat} {ls : Array Slot} {rest : List Value} {G : GG} {ws : va_W} {A : Nat → Prop} {y0 : MethodName} {b0 : ByteArray} {mL0 : Nat} {rt0 : Option FieldType} {a : Nat} {H0 : Heap}
theorem gX12_began_0 : (decode cX12_began 0 = .ok (.aload_n 0, 1)) ∧ (decode cX12_began 1 = .ok (.getfield 351, 3)) ∧ (decode cX12_began 4 = .ok (.bipush 30, 2)) ∧ (decode cX12_began 6 = .ok (.if_icmp .ge 23, 3)) ∧ (decode cX12_began 9 = .ok (.aload_n 0, 1)) ∧ (decode cX12_began 10 = .ok (.getfield 81, 3)) ∧ (decode cX12_began 13 = .ok (.aload_n 0, 1)) ∧ (decode cX12_began 14 = .ok (.getfield 351, 3)) ∧ (decode cX12_began 17 = .ok (.iload_n 1, 1)) ∧ (decode cX12_began 18 = .ok (.iastore, 1)) := by decide +kernel
theorem m_1065 : Cond.fieldLink RX12 351 "InquiryBenchModel" "traced" "I" ∈ BW := iB_BW56 _ (List.mem_of_getElem? (i := 14) rfl)
theorem gf_X12_351 (hC : CX p s m meth c y0 b0 mL0 rt0 args) (hy0 : y0.cls = RX12) (hK : KK G s) (hP : va_P G.1 vwCl ws H) (q0 : Nat) {fs : List Value} {v : Value} (he : ws[q0]? = some (a, .inr (12, fs))) (hv : fs[35]? = some v) (hdg : decode b0 pc = .ok (.getfield 351, 3)) (kk : W p l e R s m args below meth c H locs cells slots Q (F0 m (pc + 3) ls (v :: rest))) : W p l e R s m args below meth c H locs cells slots Q (F0 m pc ls (.ref a :: rest)) := by
  obtain ⟨hx, hb, hr, hml, hB, hown, hlocks, hnm⟩ := hC
  rw [hy0] at hown
  exact va_get (ci := 12) (C := RX12) (T := TX12) (N := 41) hx hb hB in_X12 hown hK.1 hP q0 he rfl 35 (by decide) (hB _ m_1065) (fun _ h => h) hv hdg kk
theorem gX12_began_1 : (decode cX12_began 19 = .ok (.aload_n 0, 1)) ∧ (decode cX12_began 20 = .ok (.dup, 1)) ∧ (decode cX12_began 21 = .ok (.getfield 351, 3)) ∧ (decode cX12_began 24 = .ok (.iconst 1, 1)) ∧ (decode cX12_began 25 = .ok (.iadd, 1)) ∧ (decode cX12_began 26 = .ok (.putfield 351, 3)) ∧ (decode cX12_began 29 = .ok (.return_, 1)) := by decide +kernel
theorem m_1064 : Cond.fieldLink RX12 81 "InquiryBenchModel" "trace" "[I" ∈ BW := iB_BW56 _ (List.mem_of_getElem? (i := 13) rfl)
theorem gf_X12_81 (hC : CX p s m meth c y0 b0 mL0 rt0 args) (hy0 : y0.cls = RX12) (hK : KK G s) (hP : va_P G.1 vwCl ws H) (q0 : Nat) {fs : List Value} {v : Value} (he : ws[q0]? = some (a, .inr (12, fs))) (hv : fs[34]? = some v) (hdg : decode b0 pc = .ok (.getfield 81, 3)) (kk : W p l e R s m args below meth c H locs cells slots Q (F0 m (pc + 3) ls (v :: rest))) : W p l e R s m args below meth c H locs cells slots Q (F0 m pc ls (.ref a :: rest)) := by
  obtain ⟨hx, hb, hr, hml, hB, hown, hlocks, hnm⟩ := hC
  rw [hy0] at hown
  exact va_get (ci := 12) (C := RX12) (T := TX12) (N := 41) hx hb hB in_X12 hown hK.1 hP q0 he rfl 34 (by decide) (hB _ m_1064) (fun _ h => h) hv hdg kk
theorem pf_X12_351 (hC : CX p s m meth c y0 b0 mL0 rt0 args) (hy0 : y0.cls = RX12) (hK : KK G s) (hP : va_P G.1 vwCl ws H) (hD : va_D A ws) (hS : va_S A H0 H locs) (q0 : Nat) {fs : List Value} {v : Value} {ws' : va_W} (he : ws[q0]? = some (a, .inr (12, fs))) (hl : 35 < fs.length) (hws : ws.set q0 (a, .inr (12, fs.set 35 v)) = ws') (hn : narrow .int v = v) (hfit : fits .int v = true) (hdg : decode b0 pc = .ok (.putfield 351, 3)) (kk : ∀ (H1 : Heap) (locs1 : List Loc), va_P G.1 vwCl ws' H1 → va_D A ws' → va_S A H0 H1 locs1 → W p l e R s m args below meth c H1 locs1 cells slots Q (F0 m (pc + 3) ls rest)) : W p l e R s m args below meth c H locs cells slots Q (F0 m pc ls (v :: .ref a :: rest)) := by
  obtain ⟨hx, hb, hr, hml, hB, hown, hlocks, hnm⟩ := hC
  rw [hy0] at hown
  subst hws
  exact va_put (ci := 12) (ty := .int) (C := RX12) (T := TX12) (N := 41) hx hb hB in_X12 tyX12 tyX12_ok nmX12 hown hK.1 hP hD hS q0 he rfl 35 (by decide) (hB _ m_1065) (fun _ h => h) rfl (by decide +kernel) hn hfit hl hdg kk
end WR
theorem nz_sub {a b : Int32} (h : ¬ a = b) : ¬ a - b = 0 := by
  intro h9
  apply h
  have e : a - b + b = 0 + b := by rw [h9]
  rw [Int32.sub_add_cancel, Int32.zero_add] at e
  exact e
section WR
variable {p : Program} {l : Launch} {e : Env} {R : Room} {s : State} {m : MethodId} {args : Array Value} {below : List Frame} {meth : Method} {c : Code} {H : Heap} {locs : List Loc} {cells slots : Nat} {Q : State → Prop}
variable {pc : Nat} {ls : Array Slot} {rest : List Value} {G : GG} {ws : va_W} {A : Nat → Prop} {y0 : MethodName} {b0 : ByteArray} {mL0 : Nat} {rt0 : Option FieldType} {a : Nat} {H0 : Heap}
theorem gX12_body_0 : (decode cX12_body 0 = .ok (.iconst 4, 1)) ∧ (decode cX12_body 1 = .ok (.iload_n 1, 1)) ∧ (decode cX12_body 2 = .ok (.imul, 1)) ∧ (decode cX12_body 3 = .ok (.iload_n 2, 1)) ∧ (decode cX12_body 4 = .ok (.iadd, 1)) ∧ (decode cX12_body 5 = .ok (.tableswitch 348 0 22 #[107, 120, 135, 153, 348, 202, 348, 348, 348, 348, 221, 348, 348, 237, 348, 253, 269, 348, 288, 348, 329, 348, 313], 107)) ∧ (decode cX12_body 112 = .ok (.aload_n 0, 1)) ∧ (decode cX12_body 113 = .ok (.bipush 10, 2)) ∧ (decode cX12_body 115 = .ok (.invokevirtual 366, 3)) ∧ (decode cX12_body 118 = .ok (.iload_n 3, 1)) := by decide +kernel
theorem m_1409 : Cond.code yX12_began cX12_began 2 none ∈ BW := iB_BW75 _ (List.mem_of_getElem? (i := 5) rfl)
theorem m_1407 : Cond.methodLink RX12 366 yX12_began ∈ BW := iB_BW75 _ (List.mem_of_getElem? (i := 3) rfl)
theorem m_1408 : Cond.instanceMethod yX12_began ∈ BW := iB_BW75 _ (List.mem_of_getElem? (i := 4) rfl)
theorem m_101 : Cond.selects RX12 yX12_began yX12_began ∈ BW := iB_BW5 _ (List.mem_of_getElem? (i := 1) rfl)
theorem si_X12_366 : SV RX12 RX12 366 yX12_began cX12_began 2 none 1 := ⟨⟨m_1407, m_1408, m_101, m_115, m_1409⟩, rfl, nK_RX12.1, nK_RX12.2, pd_18⟩
theorem gX12_body_1 : (decode cX12_body 119 = .ok (.aload_n 0, 1)) ∧ (decode cX12_body 120 = .ok (.getfield 369, 3)) ∧ (decode cX12_body 123 = .ok (.iadd, 1)) ∧ (decode cX12_body 124 = .ok (.ireturn, 1)) ∧ (decode cX12_body 125 = .ok (.aload_n 0, 1)) ∧ (decode cX12_body 126 = .ok (.bipush 11, 2)) ∧ (decode cX12_body 128 = .ok (.invokevirtual 366, 3)) ∧ (decode cX12_body 131 = .ok (.aload_n 0, 1)) ∧ (decode cX12_body 132 = .ok (.iconst 0, 1)) ∧ (decode cX12_body 133 = .ok (.iload_n 3, 1)) := by decide +kernel
theorem m_1069 : Cond.fieldLink RX12 369 "InquiryBenchModel" "size" "I" ∈ BW := iB_BW56 _ (List.mem_of_getElem? (i := 18) rfl)
theorem gf_X12_369 (hC : CX p s m meth c y0 b0 mL0 rt0 args) (hy0 : y0.cls = RX12) (hK : KK G s) (hP : va_P G.1 vwCl ws H) (q0 : Nat) {fs : List Value} {v : Value} (he : ws[q0]? = some (a, .inr (12, fs))) (hv : fs[39]? = some v) (hdg : decode b0 pc = .ok (.getfield 369, 3)) (kk : W p l e R s m args below meth c H locs cells slots Q (F0 m (pc + 3) ls (v :: rest))) : W p l e R s m args below meth c H locs cells slots Q (F0 m pc ls (.ref a :: rest)) := by
  obtain ⟨hx, hb, hr, hml, hB, hown, hlocks, hnm⟩ := hC
  rw [hy0] at hown
  exact va_get (ci := 12) (C := RX12) (T := TX12) (N := 41) hx hb hB in_X12 hown hK.1 hP q0 he rfl 39 (by decide) (hB _ m_1069) (fun _ h => h) hv hdg kk
theorem gX12_bodyFrom_0 : (decode cX12_bodyFrom 0 = .ok (.iload_n 1, 1)) ∧ (decode cX12_bodyFrom 1 = .ok (.istore 4, 2)) ∧ (decode cX12_bodyFrom 3 = .ok (.iload 4, 2)) ∧ (decode cX12_bodyFrom 5 = .ok (.iload_n 2, 1)) ∧ (decode cX12_bodyFrom 6 = .ok (.invokestatic 360, 3)) ∧ (decode cX12_bodyFrom 9 = .ok (.ifCond .ne 13, 3)) ∧ (decode cX12_bodyFrom 12 = .ok (.iload 4, 2)) ∧ (decode cX12_bodyFrom 14 = .ok (.invokestatic 348, 3)) ∧ (decode cX12_bodyFrom 17 = .ok (.istore 4, 2)) ∧ (decode cX12_bodyFrom 19 = .ok (.goto (-16), 3)) := by decide +kernel
theorem m_1403 : Cond.code yX12_hasOwn cX12_hasOwn 2 (some .boolean) ∈ BW := iB_BW74 _ (List.mem_of_getElem? (i := 19) rfl)
theorem m_1401 : Cond.methodLink RX12 360 yX12_hasOwn ∈ BW := iB_BW74 _ (List.mem_of_getElem? (i := 17) rfl)
theorem m_1402 : Cond.static yX12_hasOwn ∈ BW := iB_BW74 _ (List.mem_of_getElem? (i := 18) rfl)
theorem si_X12_360 : SS RX12 360 yX12_hasOwn cX12_hasOwn 2 (some .boolean) 2 := ⟨⟨m_1401, m_1402, m_115, m_1403⟩, ⟨nK_RX12.1, nK_RX12.2, pd_3⟩⟩
theorem gX12_bodyFrom_1 : (decode cX12_bodyFrom 22 = .ok (.aload_n 0, 1)) ∧ (decode cX12_bodyFrom 23 = .ok (.iload 4, 2)) ∧ (decode cX12_bodyFrom 25 = .ok (.iload_n 2, 1)) ∧ (decode cX12_bodyFrom 26 = .ok (.iload_n 3, 1)) ∧ (decode cX12_bodyFrom 27 = .ok (.invokevirtual 363, 3)) ∧ (decode cX12_bodyFrom 30 = .ok (.ireturn, 1)) := by decide +kernel
theorem m_1406 : Cond.code yX12_body cX12_body 6 (some .int) ∈ BW := iB_BW75 _ (List.mem_of_getElem? (i := 2) rfl)
theorem m_1404 : Cond.methodLink RX12 363 yX12_body ∈ BW := iB_BW75 _ (List.mem_of_getElem? (i := 0) rfl)
theorem m_1405 : Cond.instanceMethod yX12_body ∈ BW := iB_BW75 _ (List.mem_of_getElem? (i := 1) rfl)
theorem m_100 : Cond.selects RX12 yX12_body yX12_body ∈ BW := iB_BW5 _ (List.mem_of_getElem? (i := 0) rfl)
theorem si_X12_363 : SV RX12 RX12 363 yX12_body cX12_body 6 (some .int) 3 := ⟨⟨m_1404, m_1405, m_100, m_115, m_1406⟩, rfl, nK_RX12.1, nK_RX12.2, pd_19⟩
theorem gX12_body_10 : (decode cX12_body 266 = .ok (.iconst 3, 1)) ∧ (decode cX12_body 267 = .ok (.iload_n 3, 1)) ∧ (decode cX12_body 268 = .ok (.iconst 2, 1)) ∧ (decode cX12_body 269 = .ok (.iadd, 1)) ∧ (decode cX12_body 270 = .ok (.invokevirtual 357, 3)) ∧ (decode cX12_body 273 = .ok (.ireturn, 1)) ∧ (decode cX12_body 274 = .ok (.aload_n 0, 1)) ∧ (decode cX12_body 275 = .ok (.bipush 50, 2)) ∧ (decode cX12_body 277 = .ok (.invokevirtual 366, 3)) ∧ (decode cX12_body 280 = .ok (.aload_n 0, 1)) := by decide +kernel
theorem gX12_body_11 : (decode cX12_body 281 = .ok (.iconst 0, 1)) ∧ (decode cX12_body 282 = .ok (.iconst 0, 1)) ∧ (decode cX12_body 283 = .ok (.iload_n 3, 1)) ∧ (decode cX12_body 284 = .ok (.invokevirtual 357, 3)) ∧ (decode cX12_body 287 = .ok (.aload_n 0, 1)) ∧ (decode cX12_body 288 = .ok (.getfield 378, 3)) ∧ (decode cX12_body 291 = .ok (.isub, 1)) ∧ (decode cX12_body 292 = .ok (.ireturn, 1)) ∧ (decode cX12_body 293 = .ok (.aload_n 0, 1)) ∧ (decode cX12_body 294 = .ok (.bipush 51, 2)) := by decide +kernel
theorem m_1400 : Cond.code yX12_bodyFrom cX12_bodyFrom 5 (some .int) ∈ BW := iB_BW74 _ (List.mem_of_getElem? (i := 16) rfl)
theorem m_1398 : Cond.methodLink RX12 357 yX12_bodyFrom ∈ BW := iB_BW74 _ (List.mem_of_getElem? (i := 14) rfl)
theorem m_1399 : Cond.instanceMethod yX12_bodyFrom ∈ BW := iB_BW74 _ (List.mem_of_getElem? (i := 15) rfl)
theorem m_99 : Cond.selects RX12 yX12_bodyFrom yX12_bodyFrom ∈ BW := iB_BW4 _ (List.mem_of_getElem? (i := 19) rfl)
theorem si_X12_357 : SV RX12 RX12 357 yX12_bodyFrom cX12_bodyFrom 5 (some .int) 3 := ⟨⟨m_1398, m_1399, m_99, m_115, m_1400⟩, rfl, nK_RX12.1, nK_RX12.2, pd_19⟩
theorem m_1067 : Cond.fieldLink RX12 378 "InquiryBenchModel" "numbe\x72" "I" ∈ BW := iB_BW56 _ (List.mem_of_getElem? (i := 16) rfl)
theorem gf_X12_378 (hC : CX p s m meth c y0 b0 mL0 rt0 args) (hy0 : y0.cls = RX12) (hK : KK G s) (hP : va_P G.1 vwCl ws H) (q0 : Nat) {fs : List Value} {v : Value} (he : ws[q0]? = some (a, .inr (12, fs))) (hv : fs[37]? = some v) (hdg : decode b0 pc = .ok (.getfield 378, 3)) (kk : W p l e R s m args below meth c H locs cells slots Q (F0 m (pc + 3) ls (v :: rest))) : W p l e R s m args below meth c H locs cells slots Q (F0 m pc ls (.ref a :: rest)) := by
  obtain ⟨hx, hb, hr, hml, hB, hown, hlocks, hnm⟩ := hC
  rw [hy0] at hown
  exact va_get (ci := 12) (C := RX12) (T := TX12) (N := 41) hx hb hB in_X12 hown hK.1 hP q0 he rfl 37 (by decide) (hB _ m_1067) (fun _ h => h) hv hdg kk
theorem gX12_body_14 : (decode cX12_body 327 = .ok (.iload_n 3, 1)) ∧ (decode cX12_body 328 = .ok (.invokevirtual 357, 3)) ∧ (decode cX12_body 331 = .ok (.iconst 2, 1)) ∧ (decode cX12_body 332 = .ok (.imul, 1)) ∧ (decode cX12_body 333 = .ok (.ireturn, 1)) ∧ (decode cX12_body 334 = .ok (.aload_n 0, 1)) ∧ (decode cX12_body 335 = .ok (.bipush 61, 2)) ∧ (decode cX12_body 337 = .ok (.invokevirtual 366, 3)) ∧ (decode cX12_body 340 = .ok (.aload_n 0, 1)) ∧ (decode cX12_body 341 = .ok (.iconst 4, 1)) := by decide +kernel
theorem gX12_body_15 : (decode cX12_body 342 = .ok (.iconst 0, 1)) ∧ (decode cX12_body 343 = .ok (.iload_n 3, 1)) ∧ (decode cX12_body 344 = .ok (.aload_n 0, 1)) ∧ (decode cX12_body 345 = .ok (.getfield 375, 3)) ∧ (decode cX12_body 348 = .ok (.iadd, 1)) ∧ (decode cX12_body 349 = .ok (.invokevirtual 357, 3)) ∧ (decode cX12_body 352 = .ok (.ireturn, 1)) ∧ (decode cX12_body 353 = .ok (.aload_n 0, 1)) ∧ (decode cX12_body 354 = .ok (.bipush 70, 2)) ∧ (decode cX12_body 356 = .ok (.invokevirtual 366, 3)) := by decide +kernel
theorem m_1068 : Cond.fieldLink RX12 375 "InquiryBenchModel" "whose" "I" ∈ BW := iB_BW56 _ (List.mem_of_getElem? (i := 17) rfl)
theorem gf_X12_375 (hC : CX p s m meth c y0 b0 mL0 rt0 args) (hy0 : y0.cls = RX12) (hK : KK G s) (hP : va_P G.1 vwCl ws H) (q0 : Nat) {fs : List Value} {v : Value} (he : ws[q0]? = some (a, .inr (12, fs))) (hv : fs[38]? = some v) (hdg : decode b0 pc = .ok (.getfield 375, 3)) (kk : W p l e R s m args below meth c H locs cells slots Q (F0 m (pc + 3) ls (v :: rest))) : W p l e R s m args below meth c H locs cells slots Q (F0 m pc ls (.ref a :: rest)) := by
  obtain ⟨hx, hb, hr, hml, hB, hown, hlocks, hnm⟩ := hC
  rw [hy0] at hown
  exact va_get (ci := 12) (C := RX12) (T := TX12) (N := 41) hx hb hB in_X12 hown hK.1 hP q0 he rfl 38 (by decide) (hB _ m_1068) (fun _ h => h) hv hdg kk
theorem gX12_dealt_0 : (decode cX12_dealt 0 = .ok (.aload_n 0, 1)) ∧ (decode cX12_dealt 1 = .ok (.aload_n 0, 1)) ∧ (decode cX12_dealt 2 = .ok (.getfield 354, 3)) ∧ (decode cX12_dealt 5 = .ok (.iload_n 1, 1)) ∧ (decode cX12_dealt 6 = .ok (.iload_n 2, 1)) ∧ (decode cX12_dealt 7 = .ok (.invokevirtual 357, 3)) ∧ (decode cX12_dealt 10 = .ok (.ireturn, 1)) := by decide +kernel
theorem m_1066 : Cond.fieldLink RX12 354 "InquiryBenchModel" "deale\x72" "I" ∈ BW := iB_BW56 _ (List.mem_of_getElem? (i := 15) rfl)
theorem gf_X12_354 (hC : CX p s m meth c y0 b0 mL0 rt0 args) (hy0 : y0.cls = RX12) (hK : KK G s) (hP : va_P G.1 vwCl ws H) (q0 : Nat) {fs : List Value} {v : Value} (he : ws[q0]? = some (a, .inr (12, fs))) (hv : fs[36]? = some v) (hdg : decode b0 pc = .ok (.getfield 354, 3)) (kk : W p l e R s m args below meth c H locs cells slots Q (F0 m (pc + 3) ls (v :: rest))) : W p l e R s m args below meth c H locs cells slots Q (F0 m pc ls (.ref a :: rest)) := by
  obtain ⟨hx, hb, hr, hml, hB, hown, hlocks, hnm⟩ := hC
  rw [hy0] at hown
  exact va_get (ci := 12) (C := RX12) (T := TX12) (N := 41) hx hb hB in_X12 hown hK.1 hP q0 he rfl 36 (by decide) (hB _ m_1066) (fun _ h => h) hv hdg kk
theorem gX12_body_2 : (decode cX12_body 134 = .ok (.invokevirtual 372, 3)) ∧ (decode cX12_body 137 = .ok (.iconst 2, 1)) ∧ (decode cX12_body 138 = .ok (.imul, 1)) ∧ (decode cX12_body 139 = .ok (.ireturn, 1)) ∧ (decode cX12_body 140 = .ok (.aload_n 0, 1)) ∧ (decode cX12_body 141 = .ok (.bipush 12, 2)) ∧ (decode cX12_body 143 = .ok (.invokevirtual 366, 3)) ∧ (decode cX12_body 146 = .ok (.aload_n 0, 1)) ∧ (decode cX12_body 147 = .ok (.iconst 1, 1)) ∧ (decode cX12_body 148 = .ok (.iload_n 3, 1)) := by decide +kernel
theorem m_1397 : Cond.code yX12_dealt cX12_dealt 3 (some .int) ∈ BW := iB_BW74 _ (List.mem_of_getElem? (i := 13) rfl)
theorem m_1395 : Cond.methodLink RX12 372 yX12_dealt ∈ BW := iB_BW74 _ (List.mem_of_getElem? (i := 11) rfl)
theorem m_1396 : Cond.instanceMethod yX12_dealt ∈ BW := iB_BW74 _ (List.mem_of_getElem? (i := 12) rfl)
theorem m_98 : Cond.selects RX12 yX12_dealt yX12_dealt ∈ BW := iB_BW4 _ (List.mem_of_getElem? (i := 18) rfl)
theorem si_X12_372 : SV RX12 RX12 372 yX12_dealt cX12_dealt 3 (some .int) 2 := ⟨⟨m_1395, m_1396, m_98, m_115, m_1397⟩, rfl, nK_RX12.1, nK_RX12.2, pd_2⟩
theorem gX12_body_6 : (decode cX12_body 206 = .ok (.ireturn, 1)) ∧ (decode cX12_body 207 = .ok (.aload_n 0, 1)) ∧ (decode cX12_body 208 = .ok (.bipush 20, 2)) ∧ (decode cX12_body 210 = .ok (.invokevirtual 366, 3)) ∧ (decode cX12_body 213 = .ok (.aload_n 0, 1)) ∧ (decode cX12_body 214 = .ok (.iconst 0, 1)) ∧ (decode cX12_body 215 = .ok (.iconst 1, 1)) ∧ (decode cX12_body 216 = .ok (.iload_n 3, 1)) ∧ (decode cX12_body 217 = .ok (.invokevirtual 357, 3)) ∧ (decode cX12_body 220 = .ok (.aload_n 0, 1)) := by decide +kernel
theorem gX12_body_7 : (decode cX12_body 221 = .ok (.getfield 378, 3)) ∧ (decode cX12_body 224 = .ok (.ixor, 1)) ∧ (decode cX12_body 225 = .ok (.ireturn, 1)) ∧ (decode cX12_body 226 = .ok (.aload_n 0, 1)) ∧ (decode cX12_body 227 = .ok (.bipush 30, 2)) ∧ (decode cX12_body 229 = .ok (.invokevirtual 366, 3)) ∧ (decode cX12_body 232 = .ok (.aload_n 0, 1)) ∧ (decode cX12_body 233 = .ok (.iconst 0, 1)) ∧ (decode cX12_body 234 = .ok (.iconst 2, 1)) ∧ (decode cX12_body 235 = .ok (.iload_n 3, 1)) := by decide +kernel
theorem gX12_body_8 : (decode cX12_body 236 = .ok (.invokevirtual 357, 3)) ∧ (decode cX12_body 239 = .ok (.iconst 3, 1)) ∧ (decode cX12_body 240 = .ok (.imul, 1)) ∧ (decode cX12_body 241 = .ok (.ireturn, 1)) ∧ (decode cX12_body 242 = .ok (.aload_n 0, 1)) ∧ (decode cX12_body 243 = .ok (.bipush 40, 2)) ∧ (decode cX12_body 245 = .ok (.invokevirtual 366, 3)) ∧ (decode cX12_body 248 = .ok (.iconst 0, 1)) ∧ (decode cX12_body 249 = .ok (.aload_n 0, 1)) ∧ (decode cX12_body 250 = .ok (.iconst 1, 1)) := by decide +kernel
theorem gX12_body_9 : (decode cX12_body 251 = .ok (.iconst 1, 1)) ∧ (decode cX12_body 252 = .ok (.iload_n 3, 1)) ∧ (decode cX12_body 253 = .ok (.invokevirtual 357, 3)) ∧ (decode cX12_body 256 = .ok (.isub, 1)) ∧ (decode cX12_body 257 = .ok (.ireturn, 1)) ∧ (decode cX12_body 258 = .ok (.aload_n 0, 1)) ∧ (decode cX12_body 259 = .ok (.bipush 41, 2)) ∧ (decode cX12_body 261 = .ok (.invokevirtual 366, 3)) ∧ (decode cX12_body 264 = .ok (.aload_n 0, 1)) ∧ (decode cX12_body 265 = .ok (.iconst 1, 1)) := by decide +kernel
theorem gX12_body_3 : (decode cX12_body 149 = .ok (.invokevirtual 372, 3)) ∧ (decode cX12_body 152 = .ok (.aload_n 0, 1)) ∧ (decode cX12_body 153 = .ok (.getfield 375, 3)) ∧ (decode cX12_body 156 = .ok (.isub, 1)) ∧ (decode cX12_body 157 = .ok (.ireturn, 1)) ∧ (decode cX12_body 158 = .ok (.aload_n 0, 1)) ∧ (decode cX12_body 159 = .ok (.bipush 13, 2)) ∧ (decode cX12_body 161 = .ok (.invokevirtual 366, 3)) ∧ (decode cX12_body 164 = .ok (.aload_n 0, 1)) ∧ (decode cX12_body 165 = .ok (.aload_n 0, 1)) := by decide +kernel
theorem gX12_body_12 : (decode cX12_body 296 = .ok (.invokevirtual 366, 3)) ∧ (decode cX12_body 299 = .ok (.aload_n 0, 1)) ∧ (decode cX12_body 300 = .ok (.iconst 0, 1)) ∧ (decode cX12_body 301 = .ok (.iconst 2, 1)) ∧ (decode cX12_body 302 = .ok (.iload_n 3, 1)) ∧ (decode cX12_body 303 = .ok (.invokevirtual 357, 3)) ∧ (decode cX12_body 306 = .ok (.istore 4, 2)) ∧ (decode cX12_body 308 = .ok (.iload 4, 2)) ∧ (decode cX12_body 310 = .ok (.aload_n 0, 1)) ∧ (decode cX12_body 311 = .ok (.iconst 1, 1)) := by decide +kernel
theorem gX12_body_13 : (decode cX12_body 312 = .ok (.iconst 1, 1)) ∧ (decode cX12_body 313 = .ok (.invokevirtual 372, 3)) ∧ (decode cX12_body 316 = .ok (.iadd, 1)) ∧ (decode cX12_body 317 = .ok (.ireturn, 1)) ∧ (decode cX12_body 318 = .ok (.aload_n 0, 1)) ∧ (decode cX12_body 319 = .ok (.bipush 60, 2)) ∧ (decode cX12_body 321 = .ok (.invokevirtual 366, 3)) ∧ (decode cX12_body 324 = .ok (.aload_n 0, 1)) ∧ (decode cX12_body 325 = .ok (.iconst 4, 1)) ∧ (decode cX12_body 326 = .ok (.iconst 2, 1)) := by decide +kernel
theorem gX12_body_4 : (decode cX12_body 166 = .ok (.getfield 375, 3)) ∧ (decode cX12_body 169 = .ok (.aload_n 0, 1)) ∧ (decode cX12_body 170 = .ok (.getfield 378, 3)) ∧ (decode cX12_body 173 = .ok (.if_icmp .ne 7, 3)) ∧ (decode cX12_body 176 = .ok (.iconst 1, 1)) ∧ (decode cX12_body 177 = .ok (.goto 4, 3)) ∧ (decode cX12_body 180 = .ok (.iconst 0, 1)) ∧ (decode cX12_body 181 = .ok (.putfield 380, 3)) ∧ (decode cX12_body 184 = .ok (.aload_n 0, 1)) ∧ (decode cX12_body 185 = .ok (.getfield 380, 3)) := by decide +kernel
theorem m_1070 : Cond.fieldLink RX12 380 "InquiryBenchModel" "isParted" "Z" ∈ BW := iB_BW56 _ (List.mem_of_getElem? (i := 19) rfl)
theorem pf_X12_380 (hC : CX p s m meth c y0 b0 mL0 rt0 args) (hy0 : y0.cls = RX12) (hK : KK G s) (hP : va_P G.1 vwCl ws H) (hD : va_D A ws) (hS : va_S A H0 H locs) (q0 : Nat) {fs : List Value} {v : Value} {ws' : va_W} (he : ws[q0]? = some (a, .inr (12, fs))) (hl : 40 < fs.length) (hws : ws.set q0 (a, .inr (12, fs.set 40 v)) = ws') (hn : narrow .boolean v = v) (hfit : fits .boolean v = true) (hdg : decode b0 pc = .ok (.putfield 380, 3)) (kk : ∀ (H1 : Heap) (locs1 : List Loc), va_P G.1 vwCl ws' H1 → va_D A ws' → va_S A H0 H1 locs1 → W p l e R s m args below meth c H1 locs1 cells slots Q (F0 m (pc + 3) ls rest)) : W p l e R s m args below meth c H locs cells slots Q (F0 m pc ls (v :: .ref a :: rest)) := by
  obtain ⟨hx, hb, hr, hml, hB, hown, hlocks, hnm⟩ := hC
  rw [hy0] at hown
  subst hws
  exact va_put (ci := 12) (ty := .boolean) (C := RX12) (T := TX12) (N := 41) hx hb hB in_X12 tyX12 tyX12_ok nmX12 hown hK.1 hP hD hS q0 he rfl 40 (by decide) (hB _ m_1070) (fun _ h => h) rfl (by decide +kernel) hn hfit hl hdg kk
theorem gf_X12_380 (hC : CX p s m meth c y0 b0 mL0 rt0 args) (hy0 : y0.cls = RX12) (hK : KK G s) (hP : va_P G.1 vwCl ws H) (q0 : Nat) {fs : List Value} {v : Value} (he : ws[q0]? = some (a, .inr (12, fs))) (hv : fs[40]? = some v) (hdg : decode b0 pc = .ok (.getfield 380, 3)) (kk : W p l e R s m args below meth c H locs cells slots Q (F0 m (pc + 3) ls (v :: rest))) : W p l e R s m args below meth c H locs cells slots Q (F0 m pc ls (.ref a :: rest)) := by
  obtain ⟨hx, hb, hr, hml, hB, hown, hlocks, hnm⟩ := hC
  rw [hy0] at hown
  exact va_get (ci := 12) (C := RX12) (T := TX12) (N := 41) hx hb hB in_X12 hown hK.1 hP q0 he rfl 40 (by decide) (hB _ m_1070) (fun _ h => h) hv hdg kk
theorem gX12_body_5 : (decode cX12_body 188 = .ok (.ifCond .eq 7, 3)) ∧ (decode cX12_body 191 = .ok (.iconst 0, 1)) ∧ (decode cX12_body 192 = .ok (.goto 14, 3)) ∧ (decode cX12_body 195 = .ok (.iload_n 3, 1)) ∧ (decode cX12_body 196 = .ok (.aload_n 0, 1)) ∧ (decode cX12_body 197 = .ok (.getfield 375, 3)) ∧ (decode cX12_body 200 = .ok (.aload_n 0, 1)) ∧ (decode cX12_body 201 = .ok (.getfield 378, 3)) ∧ (decode cX12_body 204 = .ok (.isub, 1)) ∧ (decode cX12_body 205 = .ok (.idiv, 1)) := by decide +kernel
theorem gX12_body_16 : (decode cX12_body 359 = .ok (.aload_n 0, 1)) ∧ (decode cX12_body 360 = .ok (.iconst 0, 1)) ∧ (decode cX12_body 361 = .ok (.iconst 3, 1)) ∧ (decode cX12_body 362 = .ok (.iload_n 3, 1)) ∧ (decode cX12_body 363 = .ok (.invokevirtual 357, 3)) ∧ (decode cX12_body 366 = .ok (.istore 5, 2)) ∧ (decode cX12_body 368 = .ok (.aload_n 0, 1)) ∧ (decode cX12_body 369 = .ok (.getfield 380, 3)) ∧ (decode cX12_body 372 = .ok (.ifCond .eq 7, 3)) ∧ (decode cX12_body 375 = .ok (.iconst 0, 1)) := by decide +kernel
theorem gX12_body_17 : (decode cX12_body 376 = .ok (.goto 15, 3)) ∧ (decode cX12_body 379 = .ok (.iload 5, 2)) ∧ (decode cX12_body 381 = .ok (.aload_n 0, 1)) ∧ (decode cX12_body 382 = .ok (.iconst 0, 1)) ∧ (decode cX12_body 383 = .ok (.aload_n 0, 1)) ∧ (decode cX12_body 384 = .ok (.getfield 378, 3)) ∧ (decode cX12_body 387 = .ok (.invokevirtual 372, 3)) ∧ (decode cX12_body 390 = .ok (.isub, 1)) ∧ (decode cX12_body 391 = .ok (.ireturn, 1)) := by decide +kernel
theorem gX12_deal_0 : (decode cX12_deal 0 = .ok (.aload_n 0, 1)) ∧ (decode cX12_deal 1 = .ok (.iconst 0, 1)) ∧ (decode cX12_deal 2 = .ok (.putfield 351, 3)) ∧ (decode cX12_deal 5 = .ok (.iload_n 1, 1)) ∧ (decode cX12_deal 6 = .ok (.invokestatic 336, 3)) ∧ (decode cX12_deal 9 = .ok (.ifCond .eq 10, 3)) ∧ (decode cX12_deal 12 = .ok (.iload_n 2, 1)) ∧ (decode cX12_deal 13 = .ok (.invokestatic 336, 3)) ∧ (decode cX12_deal 16 = .ok (.ifCond .ne 7, 3)) ∧ (decode cX12_deal 19 = .ok (.iconst (-1), 1)) := by decide +kernel
theorem gX12_deal_1 : (decode cX12_deal 20 = .ok (.goto 8, 3)) ∧ (decode cX12_deal 23 = .ok (.aload_n 0, 1)) ∧ (decode cX12_deal 24 = .ok (.iload_n 1, 1)) ∧ (decode cX12_deal 25 = .ok (.invokevirtual 345, 3)) ∧ (decode cX12_deal 28 = .ok (.istore 4, 2)) ∧ (decode cX12_deal 30 = .ok (.iload 4, 2)) ∧ (decode cX12_deal 32 = .ok (.ifCond .ge 5, 3)) ∧ (decode cX12_deal 35 = .ok (.iconst 0, 1)) ∧ (decode cX12_deal 36 = .ok (.ireturn, 1)) ∧ (decode cX12_deal 37 = .ok (.aload_n 0, 1)) := by decide +kernel
theorem gX12_deal_2 : (decode cX12_deal 38 = .ok (.iload 4, 2)) ∧ (decode cX12_deal 40 = .ok (.putfield 354, 3)) ∧ (decode cX12_deal 43 = .ok (.aload_n 0, 1)) ∧ (decode cX12_deal 44 = .ok (.aload_n 0, 1)) ∧ (decode cX12_deal 45 = .ok (.getfield 75, 3)) ∧ (decode cX12_deal 48 = .ok (.iload_n 1, 1)) ∧ (decode cX12_deal 49 = .ok (.iaload, 1)) ∧ (decode cX12_deal 50 = .ok (.putfield 378, 3)) ∧ (decode cX12_deal 53 = .ok (.aload_n 0, 1)) ∧ (decode cX12_deal 54 = .ok (.getfield 72, 3)) := by decide +kernel
theorem pf_X12_354 (hC : CX p s m meth c y0 b0 mL0 rt0 args) (hy0 : y0.cls = RX12) (hK : KK G s) (hP : va_P G.1 vwCl ws H) (hD : va_D A ws) (hS : va_S A H0 H locs) (q0 : Nat) {fs : List Value} {v : Value} {ws' : va_W} (he : ws[q0]? = some (a, .inr (12, fs))) (hl : 36 < fs.length) (hws : ws.set q0 (a, .inr (12, fs.set 36 v)) = ws') (hn : narrow .int v = v) (hfit : fits .int v = true) (hdg : decode b0 pc = .ok (.putfield 354, 3)) (kk : ∀ (H1 : Heap) (locs1 : List Loc), va_P G.1 vwCl ws' H1 → va_D A ws' → va_S A H0 H1 locs1 → W p l e R s m args below meth c H1 locs1 cells slots Q (F0 m (pc + 3) ls rest)) : W p l e R s m args below meth c H locs cells slots Q (F0 m pc ls (v :: .ref a :: rest)) := by
  obtain ⟨hx, hb, hr, hml, hB, hown, hlocks, hnm⟩ := hC
  rw [hy0] at hown
  subst hws
  exact va_put (ci := 12) (ty := .int) (C := RX12) (T := TX12) (N := 41) hx hb hB in_X12 tyX12 tyX12_ok nmX12 hown hK.1 hP hD hS q0 he rfl 36 (by decide) (hB _ m_1066) (fun _ h => h) rfl (by decide +kernel) hn hfit hl hdg kk
theorem pf_X12_378 (hC : CX p s m meth c y0 b0 mL0 rt0 args) (hy0 : y0.cls = RX12) (hK : KK G s) (hP : va_P G.1 vwCl ws H) (hD : va_D A ws) (hS : va_S A H0 H locs) (q0 : Nat) {fs : List Value} {v : Value} {ws' : va_W} (he : ws[q0]? = some (a, .inr (12, fs))) (hl : 37 < fs.length) (hws : ws.set q0 (a, .inr (12, fs.set 37 v)) = ws') (hn : narrow .int v = v) (hfit : fits .int v = true) (hdg : decode b0 pc = .ok (.putfield 378, 3)) (kk : ∀ (H1 : Heap) (locs1 : List Loc), va_P G.1 vwCl ws' H1 → va_D A ws' → va_S A H0 H1 locs1 → W p l e R s m args below meth c H1 locs1 cells slots Q (F0 m (pc + 3) ls rest)) : W p l e R s m args below meth c H locs cells slots Q (F0 m pc ls (v :: .ref a :: rest)) := by
  obtain ⟨hx, hb, hr, hml, hB, hown, hlocks, hnm⟩ := hC
  rw [hy0] at hown
  subst hws
  exact va_put (ci := 12) (ty := .int) (C := RX12) (T := TX12) (N := 41) hx hb hB in_X12 tyX12 tyX12_ok nmX12 hown hK.1 hP hD hS q0 he rfl 37 (by decide) (hB _ m_1067) (fun _ h => h) rfl (by decide +kernel) hn hfit hl hdg kk
theorem gX12_deal_3 : (decode cX12_deal 57 = .ok (.iload_n 1, 1)) ∧ (decode cX12_deal 58 = .ok (.iaload, 1)) ∧ (decode cX12_deal 59 = .ok (.iconst 1, 1)) ∧ (decode cX12_deal 60 = .ok (.if_icmp .ne 7, 3)) ∧ (decode cX12_deal 63 = .ok (.iconst 1, 1)) ∧ (decode cX12_deal 64 = .ok (.goto 4, 3)) ∧ (decode cX12_deal 67 = .ok (.iconst 0, 1)) ∧ (decode cX12_deal 68 = .ok (.istore 5, 2)) ∧ (decode cX12_deal 70 = .ok (.aload_n 0, 1)) ∧ (decode cX12_deal 71 = .ok (.getfield 72, 3)) := by decide +kernel
theorem gX12_deal_4 : (decode cX12_deal 74 = .ok (.iload_n 1, 1)) ∧ (decode cX12_deal 75 = .ok (.iaload, 1)) ∧ (decode cX12_deal 76 = .ok (.iconst 2, 1)) ∧ (decode cX12_deal 77 = .ok (.if_icmp .ne 7, 3)) ∧ (decode cX12_deal 80 = .ok (.iconst 1, 1)) ∧ (decode cX12_deal 81 = .ok (.goto 4, 3)) ∧ (decode cX12_deal 84 = .ok (.iconst 0, 1)) ∧ (decode cX12_deal 85 = .ok (.istore 6, 2)) ∧ (decode cX12_deal 87 = .ok (.aload_n 0, 1)) ∧ (decode cX12_deal 88 = .ok (.iload 5, 2)) := by decide +kernel
theorem gX12_deal_5 : (decode cX12_deal 90 = .ok (.ifCond .eq 15, 3)) ∧ (decode cX12_deal 93 = .ok (.aload_n 0, 1)) ∧ (decode cX12_deal 94 = .ok (.aload_n 0, 1)) ∧ (decode cX12_deal 95 = .ok (.getfield 378, 3)) ∧ (decode cX12_deal 98 = .ok (.iconst 0, 1)) ∧ (decode cX12_deal 99 = .ok (.invokevirtual 88, 3)) ∧ (decode cX12_deal 102 = .ok (.goto 37, 3)) ∧ (decode cX12_deal 105 = .ok (.iload 6, 2)) ∧ (decode cX12_deal 107 = .ok (.ifCond .eq 15, 3)) ∧ (decode cX12_deal 110 = .ok (.aload_n 0, 1)) := by decide +kernel
theorem gX12_deal_7 : (decode cX12_deal 131 = .ok (.getfield 378, 3)) ∧ (decode cX12_deal 134 = .ok (.imul, 1)) ∧ (decode cX12_deal 135 = .ok (.iadd, 1)) ∧ (decode cX12_deal 136 = .ok (.iconst 0, 1)) ∧ (decode cX12_deal 137 = .ok (.iadd, 1)) ∧ (decode cX12_deal 138 = .ok (.iaload, 1)) ∧ (decode cX12_deal 139 = .ok (.putfield 375, 3)) ∧ (decode cX12_deal 142 = .ok (.aload_n 0, 1)) ∧ (decode cX12_deal 143 = .ok (.iload 5, 2)) ∧ (decode cX12_deal 145 = .ok (.ifCond .eq 15, 3)) := by decide +kernel
theorem pf_X12_375 (hC : CX p s m meth c y0 b0 mL0 rt0 args) (hy0 : y0.cls = RX12) (hK : KK G s) (hP : va_P G.1 vwCl ws H) (hD : va_D A ws) (hS : va_S A H0 H locs) (q0 : Nat) {fs : List Value} {v : Value} {ws' : va_W} (he : ws[q0]? = some (a, .inr (12, fs))) (hl : 38 < fs.length) (hws : ws.set q0 (a, .inr (12, fs.set 38 v)) = ws') (hn : narrow .int v = v) (hfit : fits .int v = true) (hdg : decode b0 pc = .ok (.putfield 375, 3)) (kk : ∀ (H1 : Heap) (locs1 : List Loc), va_P G.1 vwCl ws' H1 → va_D A ws' → va_S A H0 H1 locs1 → W p l e R s m args below meth c H1 locs1 cells slots Q (F0 m (pc + 3) ls rest)) : W p l e R s m args below meth c H locs cells slots Q (F0 m pc ls (v :: .ref a :: rest)) := by
  obtain ⟨hx, hb, hr, hml, hB, hown, hlocks, hnm⟩ := hC
  rw [hy0] at hown
  subst hws
  exact va_put (ci := 12) (ty := .int) (C := RX12) (T := TX12) (N := 41) hx hb hB in_X12 tyX12 tyX12_ok nmX12 hown hK.1 hP hD hS q0 he rfl 38 (by decide) (hB _ m_1068) (fun _ h => h) rfl (by decide +kernel) hn hfit hl hdg kk
theorem gX12_deal_8 : (decode cX12_deal 148 = .ok (.aload_n 0, 1)) ∧ (decode cX12_deal 149 = .ok (.aload_n 0, 1)) ∧ (decode cX12_deal 150 = .ok (.getfield 378, 3)) ∧ (decode cX12_deal 153 = .ok (.iconst 2, 1)) ∧ (decode cX12_deal 154 = .ok (.invokevirtual 88, 3)) ∧ (decode cX12_deal 157 = .ok (.goto 37, 3)) ∧ (decode cX12_deal 160 = .ok (.iload 6, 2)) ∧ (decode cX12_deal 162 = .ok (.ifCond .eq 15, 3)) ∧ (decode cX12_deal 165 = .ok (.aload_n 0, 1)) ∧ (decode cX12_deal 166 = .ok (.aload_n 0, 1)) := by decide +kernel
theorem gX12_deal_10 : (decode cX12_deal 189 = .ok (.imul, 1)) ∧ (decode cX12_deal 190 = .ok (.iadd, 1)) ∧ (decode cX12_deal 191 = .ok (.iconst 2, 1)) ∧ (decode cX12_deal 192 = .ok (.iadd, 1)) ∧ (decode cX12_deal 193 = .ok (.iaload, 1)) ∧ (decode cX12_deal 194 = .ok (.putfield 369, 3)) ∧ (decode cX12_deal 197 = .ok (.aload_n 0, 1)) ∧ (decode cX12_deal 198 = .ok (.iconst 0, 1)) ∧ (decode cX12_deal 199 = .ok (.putfield 380, 3)) ∧ (decode cX12_deal 202 = .ok (.aload_n 0, 1)) := by decide +kernel
theorem pf_X12_369 (hC : CX p s m meth c y0 b0 mL0 rt0 args) (hy0 : y0.cls = RX12) (hK : KK G s) (hP : va_P G.1 vwCl ws H) (hD : va_D A ws) (hS : va_S A H0 H locs) (q0 : Nat) {fs : List Value} {v : Value} {ws' : va_W} (he : ws[q0]? = some (a, .inr (12, fs))) (hl : 39 < fs.length) (hws : ws.set q0 (a, .inr (12, fs.set 39 v)) = ws') (hn : narrow .int v = v) (hfit : fits .int v = true) (hdg : decode b0 pc = .ok (.putfield 369, 3)) (kk : ∀ (H1 : Heap) (locs1 : List Loc), va_P G.1 vwCl ws' H1 → va_D A ws' → va_S A H0 H1 locs1 → W p l e R s m args below meth c H1 locs1 cells slots Q (F0 m (pc + 3) ls rest)) : W p l e R s m args below meth c H locs cells slots Q (F0 m pc ls (v :: .ref a :: rest)) := by
  obtain ⟨hx, hb, hr, hml, hB, hown, hlocks, hnm⟩ := hC
  rw [hy0] at hown
  subst hws
  exact va_put (ci := 12) (ty := .int) (C := RX12) (T := TX12) (N := 41) hx hb hB in_X12 tyX12 tyX12_ok nmX12 hown hK.1 hP hD hS q0 he rfl 39 (by decide) (hB _ m_1069) (fun _ h => h) rfl (by decide +kernel) hn hfit hl hdg kk
theorem gX12_deal_11 : (decode cX12_deal 203 = .ok (.iload_n 2, 1)) ∧ (decode cX12_deal 204 = .ok (.iload_n 3, 1)) ∧ (decode cX12_deal 205 = .ok (.invokevirtual 372, 3)) ∧ (decode cX12_deal 208 = .ok (.istore 7, 2)) ∧ (decode cX12_deal 210 = .ok (.aload_n 0, 1)) ∧ (decode cX12_deal 211 = .ok (.getfield 380, 3)) ∧ (decode cX12_deal 214 = .ok (.ifCond .eq 8, 3)) ∧ (decode cX12_deal 217 = .ok (.bipush (-15), 2)) ∧ (decode cX12_deal 219 = .ok (.goto 5, 3)) ∧ (decode cX12_deal 222 = .ok (.iload 7, 2)) := by decide +kernel
theorem gX12_deal_12 : (decode cX12_deal 224 = .ok (.ireturn, 1)) := by decide +kernel
theorem gX12_deal_6 : (decode cX12_deal 111 = .ok (.aload_n 0, 1)) ∧ (decode cX12_deal 112 = .ok (.getfield 378, 3)) ∧ (decode cX12_deal 115 = .ok (.iconst 0, 1)) ∧ (decode cX12_deal 116 = .ok (.invokevirtual 114, 3)) ∧ (decode cX12_deal 119 = .ok (.goto 20, 3)) ∧ (decode cX12_deal 122 = .ok (.aload_n 0, 1)) ∧ (decode cX12_deal 123 = .ok (.getfield 9, 3)) ∧ (decode cX12_deal 126 = .ok (.sipush 1552, 3)) ∧ (decode cX12_deal 129 = .ok (.iconst 4, 1)) ∧ (decode cX12_deal 130 = .ok (.aload_n 0, 1)) := by decide +kernel
theorem gX12_deal_9 : (decode cX12_deal 167 = .ok (.getfield 378, 3)) ∧ (decode cX12_deal 170 = .ok (.iconst 4, 1)) ∧ (decode cX12_deal 171 = .ok (.invokevirtual 114, 3)) ∧ (decode cX12_deal 174 = .ok (.goto 20, 3)) ∧ (decode cX12_deal 177 = .ok (.aload_n 0, 1)) ∧ (decode cX12_deal 178 = .ok (.getfield 9, 3)) ∧ (decode cX12_deal 181 = .ok (.sipush 1552, 3)) ∧ (decode cX12_deal 184 = .ok (.iconst 4, 1)) ∧ (decode cX12_deal 185 = .ok (.aload_n 0, 1)) ∧ (decode cX12_deal 186 = .ok (.getfield 378, 3)) := by decide +kernel
theorem gX12_trace_0 : (decode cX12_trace 0 = .ok (.iload_n 1, 1)) ∧ (decode cX12_trace 1 = .ok (.iconst 0, 1)) ∧ (decode cX12_trace 2 = .ok (.aload_n 0, 1)) ∧ (decode cX12_trace 3 = .ok (.getfield 351, 3)) ∧ (decode cX12_trace 6 = .ok (.iconst 1, 1)) ∧ (decode cX12_trace 7 = .ok (.isub, 1)) ∧ (decode cX12_trace 8 = .ok (.invokestatic 84, 3)) ∧ (decode cX12_trace 11 = .ok (.ifCond .eq 12, 3)) ∧ (decode cX12_trace 14 = .ok (.aload_n 0, 1)) ∧ (decode cX12_trace 15 = .ok (.getfield 81, 3)) := by decide +kernel
theorem gX12_trace_1 : (decode cX12_trace 18 = .ok (.iload_n 1, 1)) ∧ (decode cX12_trace 19 = .ok (.iaload, 1)) ∧ (decode cX12_trace 20 = .ok (.goto 5, 3)) ∧ (decode cX12_trace 23 = .ok (.bipush (-3), 2)) ∧ (decode cX12_trace 25 = .ok (.ireturn, 1)) := by decide +kernel
theorem gX12_many_0 : (decode cX12_many 0 = .ok (.iload_n 1, 1)) ∧ (decode cX12_many 1 = .ok (.tableswitch 212 0 14 #[75, 82, 89, 96, 104, 112, 120, 128, 134, 142, 181, 189, 197, 202, 207], 75)) ∧ (decode cX12_many 76 = .ok (.aload_n 0, 1)) ∧ (decode cX12_many 77 = .ok (.getfield 9, 3)) ∧ (decode cX12_many 80 = .ok (.iconst 0, 1)) ∧ (decode cX12_many 81 = .ok (.iaload, 1)) ∧ (decode cX12_many 82 = .ok (.ireturn, 1)) ∧ (decode cX12_many 83 = .ok (.aload_n 0, 1)) ∧ (decode cX12_many 84 = .ok (.getfield 9, 3)) ∧ (decode cX12_many 87 = .ok (.iconst 4, 1)) := by decide +kernel
theorem gX12_many_1 : (decode cX12_many 88 = .ok (.iaload, 1)) ∧ (decode cX12_many 89 = .ok (.ireturn, 1)) ∧ (decode cX12_many 90 = .ok (.aload_n 0, 1)) ∧ (decode cX12_many 91 = .ok (.getfield 9, 3)) ∧ (decode cX12_many 94 = .ok (.iconst 5, 1)) ∧ (decode cX12_many 95 = .ok (.iaload, 1)) ∧ (decode cX12_many 96 = .ok (.ireturn, 1)) ∧ (decode cX12_many 97 = .ok (.aload_n 0, 1)) ∧ (decode cX12_many 98 = .ok (.invokevirtual 107, 3)) ∧ (decode cX12_many 101 = .ok (.invokestatic 110, 3)) := by decide +kernel
theorem gX12_many_2 : (decode cX12_many 104 = .ok (.ireturn, 1)) ∧ (decode cX12_many 105 = .ok (.aload_n 0, 1)) ∧ (decode cX12_many 106 = .ok (.getfield 9, 3)) ∧ (decode cX12_many 109 = .ok (.bipush 6, 2)) ∧ (decode cX12_many 111 = .ok (.iaload, 1)) ∧ (decode cX12_many 112 = .ok (.ireturn, 1)) ∧ (decode cX12_many 113 = .ok (.aload_n 0, 1)) ∧ (decode cX12_many 114 = .ok (.getfield 9, 3)) ∧ (decode cX12_many 117 = .ok (.bipush 7, 2)) ∧ (decode cX12_many 119 = .ok (.iaload, 1)) := by decide +kernel
theorem gX12_many_3 : (decode cX12_many 120 = .ok (.ireturn, 1)) ∧ (decode cX12_many 121 = .ok (.aload_n 0, 1)) ∧ (decode cX12_many 122 = .ok (.getfield 9, 3)) ∧ (decode cX12_many 125 = .ok (.bipush 8, 2)) ∧ (decode cX12_many 127 = .ok (.iaload, 1)) ∧ (decode cX12_many 128 = .ok (.ireturn, 1)) ∧ (decode cX12_many 129 = .ok (.aload_n 0, 1)) ∧ (decode cX12_many 130 = .ok (.iconst (-1), 1)) ∧ (decode cX12_many 131 = .ok (.invokevirtual 127, 3)) ∧ (decode cX12_many 134 = .ok (.ireturn, 1)) := by decide +kernel
theorem gX12_many_4 : (decode cX12_many 135 = .ok (.aload_n 0, 1)) ∧ (decode cX12_many 136 = .ok (.getfield 9, 3)) ∧ (decode cX12_many 139 = .ok (.bipush 9, 2)) ∧ (decode cX12_many 141 = .ok (.iaload, 1)) ∧ (decode cX12_many 142 = .ok (.ireturn, 1)) ∧ (decode cX12_many 143 = .ok (.iconst 0, 1)) ∧ (decode cX12_many 144 = .ok (.istore_n 2, 1)) ∧ (decode cX12_many 145 = .ok (.iconst 0, 1)) ∧ (decode cX12_many 146 = .ok (.istore_n 3, 1)) ∧ (decode cX12_many 147 = .ok (.iload_n 3, 1)) := by decide +kernel
theorem gX12_many_5 : (decode cX12_many 148 = .ok (.aload_n 0, 1)) ∧ (decode cX12_many 149 = .ok (.getfield 9, 3)) ∧ (decode cX12_many 152 = .ok (.bipush 9, 2)) ∧ (decode cX12_many 154 = .ok (.iaload, 1)) ∧ (decode cX12_many 155 = .ok (.if_icmp .ge 25, 3)) ∧ (decode cX12_many 158 = .ok (.iload_n 2, 1)) ∧ (decode cX12_many 159 = .ok (.aload_n 0, 1)) ∧ (decode cX12_many 160 = .ok (.iload_n 3, 1)) ∧ (decode cX12_many 161 = .ok (.invokevirtual 305, 3)) ∧ (decode cX12_many 164 = .ok (.ifCond .eq 7, 3)) := by decide +kernel
theorem gX12_many_6 : (decode cX12_many 167 = .ok (.iconst 1, 1)) ∧ (decode cX12_many 168 = .ok (.goto 4, 3)) ∧ (decode cX12_many 171 = .ok (.iconst 0, 1)) ∧ (decode cX12_many 172 = .ok (.iadd, 1)) ∧ (decode cX12_many 173 = .ok (.istore_n 2, 1)) ∧ (decode cX12_many 174 = .ok (.iinc 3 1, 3)) ∧ (decode cX12_many 177 = .ok (.goto (-30), 3)) ∧ (decode cX12_many 180 = .ok (.iload_n 2, 1)) ∧ (decode cX12_many 181 = .ok (.ireturn, 1)) ∧ (decode cX12_many 182 = .ok (.aload_n 0, 1)) := by decide +kernel
theorem gX12_many_7 : (decode cX12_many 183 = .ok (.getfield 9, 3)) ∧ (decode cX12_many 186 = .ok (.bipush 10, 2)) ∧ (decode cX12_many 188 = .ok (.iaload, 1)) ∧ (decode cX12_many 189 = .ok (.ireturn, 1)) ∧ (decode cX12_many 190 = .ok (.aload_n 0, 1)) ∧ (decode cX12_many 191 = .ok (.getfield 9, 3)) ∧ (decode cX12_many 194 = .ok (.bipush 11, 2)) ∧ (decode cX12_many 196 = .ok (.iaload, 1)) ∧ (decode cX12_many 197 = .ok (.ireturn, 1)) ∧ (decode cX12_many 198 = .ok (.aload_n 0, 1)) := by decide +kernel
theorem gX12_many_8 : (decode cX12_many 199 = .ok (.getfield 327, 3)) ∧ (decode cX12_many 202 = .ok (.ireturn, 1)) ∧ (decode cX12_many 203 = .ok (.aload_n 0, 1)) ∧ (decode cX12_many 204 = .ok (.getfield 206, 3)) ∧ (decode cX12_many 207 = .ok (.ireturn, 1)) ∧ (decode cX12_many 208 = .ok (.aload_n 0, 1)) ∧ (decode cX12_many 209 = .ok (.getfield 351, 3)) ∧ (decode cX12_many 212 = .ok (.ireturn, 1)) ∧ (decode cX12_many 213 = .ok (.iconst (-1), 1)) ∧ (decode cX12_many 214 = .ok (.ireturn, 1)) := by decide +kernel
theorem m_1034 : Cond.fieldLink RX12 206 "InquiryBenchModel" "taped" "I" ∈ BW := iB_BW55 _ (List.mem_of_getElem? (i := 3) rfl)
theorem gf_X12_206 (hC : CX p s m meth c y0 b0 mL0 rt0 args) (hy0 : y0.cls = RX12) (hK : KK G s) (hP : va_P G.1 vwCl ws H) (q0 : Nat) {fs : List Value} {v : Value} (he : ws[q0]? = some (a, .inr (12, fs))) (hv : fs[4]? = some v) (hdg : decode b0 pc = .ok (.getfield 206, 3)) (kk : W p l e R s m args below meth c H locs cells slots Q (F0 m (pc + 3) ls (v :: rest))) : W p l e R s m args below meth c H locs cells slots Q (F0 m pc ls (.ref a :: rest)) := by
  obtain ⟨hx, hb, hr, hml, hB, hown, hlocks, hnm⟩ := hC
  rw [hy0] at hown
  exact va_get (ci := 12) (C := RX12) (T := TX12) (N := 41) hx hb hB in_X12 hown hK.1 hP q0 he rfl 4 (by decide) (hB _ m_1034) (fun _ h => h) hv hdg kk
theorem gX12_keep_0 : (decode cX12_keep 0 = .ok (.iconst 0, 1)) ∧ (decode cX12_keep 1 = .ok (.istore_n 1, 1)) ∧ (decode cX12_keep 2 = .ok (.iload_n 1, 1)) ∧ (decode cX12_keep 3 = .ok (.sipush 1662, 3)) ∧ (decode cX12_keep 6 = .ok (.if_icmp .ge 21, 3)) ∧ (decode cX12_keep 9 = .ok (.aload_n 0, 1)) ∧ (decode cX12_keep 10 = .ok (.getfield 13, 3)) ∧ (decode cX12_keep 13 = .ok (.iload_n 1, 1)) ∧ (decode cX12_keep 14 = .ok (.aload_n 0, 1)) ∧ (decode cX12_keep 15 = .ok (.getfield 9, 3)) := by decide +kernel
theorem gX12_keep_1 : (decode cX12_keep 18 = .ok (.iload_n 1, 1)) ∧ (decode cX12_keep 19 = .ok (.iaload, 1)) ∧ (decode cX12_keep 20 = .ok (.iastore, 1)) ∧ (decode cX12_keep 21 = .ok (.iinc 1 1, 3)) ∧ (decode cX12_keep 24 = .ok (.goto (-22), 3)) ∧ (decode cX12_keep 27 = .ok (.aload_n 0, 1)) ∧ (decode cX12_keep 28 = .ok (.iconst 1, 1)) ∧ (decode cX12_keep 29 = .ok (.putfield 383, 3)) ∧ (decode cX12_keep 32 = .ok (.iconst 1, 1)) ∧ (decode cX12_keep 33 = .ok (.ireturn, 1)) := by decide +kernel
theorem m_1032 : Cond.fieldLink RX12 383 "InquiryBenchModel" "hasKept" "Z" ∈ BW := iB_BW55 _ (List.mem_of_getElem? (i := 1) rfl)
theorem pf_X12_383 (hC : CX p s m meth c y0 b0 mL0 rt0 args) (hy0 : y0.cls = RX12) (hK : KK G s) (hP : va_P G.1 vwCl ws H) (hD : va_D A ws) (hS : va_S A H0 H locs) (q0 : Nat) {fs : List Value} {v : Value} {ws' : va_W} (he : ws[q0]? = some (a, .inr (12, fs))) (hl : 2 < fs.length) (hws : ws.set q0 (a, .inr (12, fs.set 2 v)) = ws') (hn : narrow .boolean v = v) (hfit : fits .boolean v = true) (hdg : decode b0 pc = .ok (.putfield 383, 3)) (kk : ∀ (H1 : Heap) (locs1 : List Loc), va_P G.1 vwCl ws' H1 → va_D A ws' → va_S A H0 H1 locs1 → W p l e R s m args below meth c H1 locs1 cells slots Q (F0 m (pc + 3) ls rest)) : W p l e R s m args below meth c H locs cells slots Q (F0 m pc ls (v :: .ref a :: rest)) := by
  obtain ⟨hx, hb, hr, hml, hB, hown, hlocks, hnm⟩ := hC
  rw [hy0] at hown
  subst hws
  exact va_put (ci := 12) (ty := .boolean) (C := RX12) (T := TX12) (N := 41) hx hb hB in_X12 tyX12 tyX12_ok nmX12 hown hK.1 hP hD hS q0 he rfl 2 (by decide) (hB _ m_1032) (fun _ h => h) rfl (by decide +kernel) hn hfit hl hdg kk
theorem m_1031 : Cond.fieldLink RX12 13 "InquiryBenchModel" "kept" "[I" ∈ BW := iB_BW55 _ (List.mem_of_getElem? (i := 0) rfl)
theorem gf_X12_13 (hC : CX p s m meth c y0 b0 mL0 rt0 args) (hy0 : y0.cls = RX12) (hK : KK G s) (hP : va_P G.1 vwCl ws H) (q0 : Nat) {fs : List Value} {v : Value} (he : ws[q0]? = some (a, .inr (12, fs))) (hv : fs[1]? = some v) (hdg : decode b0 pc = .ok (.getfield 13, 3)) (kk : W p l e R s m args below meth c H locs cells slots Q (F0 m (pc + 3) ls (v :: rest))) : W p l e R s m args below meth c H locs cells slots Q (F0 m pc ls (.ref a :: rest)) := by
  obtain ⟨hx, hb, hr, hml, hB, hown, hlocks, hnm⟩ := hC
  rw [hy0] at hown
  exact va_get (ci := 12) (C := RX12) (T := TX12) (N := 41) hx hb hB in_X12 hown hK.1 hP q0 he rfl 1 (by decide) (hB _ m_1031) (fun _ h => h) hv hdg kk
theorem gX12_again_0 : (decode cX12_again 0 = .ok (.aload_n 0, 1)) ∧ (decode cX12_again 1 = .ok (.getfield 383, 3)) ∧ (decode cX12_again 4 = .ok (.ifCond .ne 6, 3)) ∧ (decode cX12_again 7 = .ok (.bipush (-3), 2)) ∧ (decode cX12_again 9 = .ok (.ireturn, 1)) ∧ (decode cX12_again 10 = .ok (.iconst 0, 1)) ∧ (decode cX12_again 11 = .ok (.istore_n 1, 1)) ∧ (decode cX12_again 12 = .ok (.iload_n 1, 1)) ∧ (decode cX12_again 13 = .ok (.sipush 1662, 3)) ∧ (decode cX12_again 16 = .ok (.if_icmp .ge 21, 3)) := by decide +kernel
theorem gf_X12_383 (hC : CX p s m meth c y0 b0 mL0 rt0 args) (hy0 : y0.cls = RX12) (hK : KK G s) (hP : va_P G.1 vwCl ws H) (q0 : Nat) {fs : List Value} {v : Value} (he : ws[q0]? = some (a, .inr (12, fs))) (hv : fs[2]? = some v) (hdg : decode b0 pc = .ok (.getfield 383, 3)) (kk : W p l e R s m args below meth c H locs cells slots Q (F0 m (pc + 3) ls (v :: rest))) : W p l e R s m args below meth c H locs cells slots Q (F0 m pc ls (.ref a :: rest)) := by
  obtain ⟨hx, hb, hr, hml, hB, hown, hlocks, hnm⟩ := hC
  rw [hy0] at hown
  exact va_get (ci := 12) (C := RX12) (T := TX12) (N := 41) hx hb hB in_X12 hown hK.1 hP q0 he rfl 2 (by decide) (hB _ m_1032) (fun _ h => h) hv hdg kk
theorem gX12_again_2 : (decode cX12_again 37 = .ok (.iconst 1, 1)) ∧ (decode cX12_again 38 = .ok (.ireturn, 1)) := by decide +kernel
theorem gX12_again_1 : (decode cX12_again 19 = .ok (.aload_n 0, 1)) ∧ (decode cX12_again 20 = .ok (.getfield 9, 3)) ∧ (decode cX12_again 23 = .ok (.iload_n 1, 1)) ∧ (decode cX12_again 24 = .ok (.aload_n 0, 1)) ∧ (decode cX12_again 25 = .ok (.getfield 13, 3)) ∧ (decode cX12_again 28 = .ok (.iload_n 1, 1)) ∧ (decode cX12_again 29 = .ok (.iaload, 1)) ∧ (decode cX12_again 30 = .ok (.iastore, 1)) ∧ (decode cX12_again 31 = .ok (.iinc 1 1, 3)) ∧ (decode cX12_again 34 = .ok (.goto (-22), 3)) := by decide +kernel
end WR
theorem rm_12_1_2 {mc ms : Nat} : 1 + 1 ≤ (RM 12 mc ms).frames ∧ 8 + (2 + 11) + 40 * 1 ≤ (RM 12 mc ms).locals := ⟨by show 1 + 1 ≤ 12; decide, by show 8 + (2 + 11) + 40 * 1 ≤ 40 * 12; decide⟩
theorem rm_12_1_1 {mc ms : Nat} : 1 + 1 ≤ (RM 12 mc ms).frames ∧ 8 + (1 + 11) + 40 * 1 ≤ (RM 12 mc ms).locals := ⟨by show 1 + 1 ≤ 12; decide, by show 8 + (1 + 11) + 40 * 1 ≤ 40 * 12; decide⟩
theorem rm_12_3_6 {mc ms : Nat} : 3 + 1 ≤ (RM 12 mc ms).frames ∧ 8 + (6 + 11) + 40 * 3 ≤ (RM 12 mc ms).locals := ⟨by show 3 + 1 ≤ 12; decide, by show 8 + (6 + 11) + 40 * 3 ≤ 40 * 12; decide⟩
theorem rm_14_4_5 {mc ms : Nat} : 4 + 1 ≤ (RM 14 mc ms).frames ∧ 8 + (5 + 11) + 40 * 4 ≤ (RM 14 mc ms).locals := ⟨by show 4 + 1 ≤ 14; decide, by show 8 + (5 + 11) + 40 * 4 ≤ 40 * 14; decide⟩
theorem rm_14_12_5 {mc ms : Nat} : 12 + 1 ≤ (RM 14 mc ms).frames ∧ 8 + (5 + 11) + 40 * 12 ≤ (RM 14 mc ms).locals := ⟨by show 12 + 1 ≤ 14; decide, by show 8 + (5 + 11) + 40 * 12 ≤ 40 * 14; decide⟩
theorem rm_14_6_5 {mc ms : Nat} : 6 + 1 ≤ (RM 14 mc ms).frames ∧ 8 + (5 + 11) + 40 * 6 ≤ (RM 14 mc ms).locals := ⟨by show 6 + 1 ≤ 14; decide, by show 8 + (5 + 11) + 40 * 6 ≤ 40 * 14; decide⟩
theorem rm_14_8_5 {mc ms : Nat} : 8 + 1 ≤ (RM 14 mc ms).frames ∧ 8 + (5 + 11) + 40 * 8 ≤ (RM 14 mc ms).locals := ⟨by show 8 + 1 ≤ 14; decide, by show 8 + (5 + 11) + 40 * 8 ≤ 40 * 14; decide⟩
theorem rm_15_1_2 {mc ms : Nat} : 1 + 1 ≤ (RM 15 mc ms).frames ∧ 8 + (2 + 11) + 40 * 1 ≤ (RM 15 mc ms).locals := ⟨by show 1 + 1 ≤ 15; decide, by show 8 + (2 + 11) + 40 * 1 ≤ 40 * 15; decide⟩
theorem rm_15_14_3 {mc ms : Nat} : 14 + 1 ≤ (RM 15 mc ms).frames ∧ 8 + (3 + 11) + 40 * 14 ≤ (RM 15 mc ms).locals := ⟨by show 14 + 1 ≤ 15; decide, by show 8 + (3 + 11) + 40 * 14 ≤ 40 * 15; decide⟩
theorem rm_16_1_2 {mc ms : Nat} : 1 + 1 ≤ (RM 16 mc ms).frames ∧ 8 + (2 + 11) + 40 * 1 ≤ (RM 16 mc ms).locals := ⟨by show 1 + 1 ≤ 16; decide, by show 8 + (2 + 11) + 40 * 1 ≤ 40 * 16; decide⟩
theorem rm_16_15_6 {mc ms : Nat} : 15 + 1 ≤ (RM 16 mc ms).frames ∧ 8 + (6 + 11) + 40 * 15 ≤ (RM 16 mc ms).locals := ⟨by show 15 + 1 ≤ 16; decide, by show 8 + (6 + 11) + 40 * 15 ≤ 40 * 16; decide⟩
theorem rm_17_1_2 {mc ms : Nat} : 1 + 1 ≤ (RM 17 mc ms).frames ∧ 8 + (2 + 11) + 40 * 1 ≤ (RM 17 mc ms).locals := ⟨by show 1 + 1 ≤ 17; decide, by show 8 + (2 + 11) + 40 * 1 ≤ 40 * 17; decide⟩
theorem rm_17_16_5 {mc ms : Nat} : 16 + 1 ≤ (RM 17 mc ms).frames ∧ 8 + (5 + 11) + 40 * 16 ≤ (RM 17 mc ms).locals := ⟨by show 16 + 1 ≤ 17; decide, by show 8 + (5 + 11) + 40 * 16 ≤ 40 * 17; decide⟩
theorem rm_18_1_2 {mc ms : Nat} : 1 + 1 ≤ (RM 18 mc ms).frames ∧ 8 + (2 + 11) + 40 * 1 ≤ (RM 18 mc ms).locals := ⟨by show 1 + 1 ≤ 18; decide, by show 8 + (2 + 11) + 40 * 1 ≤ 40 * 18; decide⟩
theorem rm_18_17_6 {mc ms : Nat} : 17 + 1 ≤ (RM 18 mc ms).frames ∧ 8 + (6 + 11) + 40 * 17 ≤ (RM 18 mc ms).locals := ⟨by show 17 + 1 ≤ 18; decide, by show 8 + (6 + 11) + 40 * 17 ≤ 40 * 18; decide⟩
theorem rm_19_1_2 {mc ms : Nat} : 1 + 1 ≤ (RM 19 mc ms).frames ∧ 8 + (2 + 11) + 40 * 1 ≤ (RM 19 mc ms).locals := ⟨by show 1 + 1 ≤ 19; decide, by show 8 + (2 + 11) + 40 * 1 ≤ 40 * 19; decide⟩
theorem rm_19_18_5 {mc ms : Nat} : 18 + 1 ≤ (RM 19 mc ms).frames ∧ 8 + (5 + 11) + 40 * 18 ≤ (RM 19 mc ms).locals := ⟨by show 18 + 1 ≤ 19; decide, by show 8 + (5 + 11) + 40 * 18 ≤ 40 * 19; decide⟩
theorem rm_20_1_2 {mc ms : Nat} : 1 + 1 ≤ (RM 20 mc ms).frames ∧ 8 + (2 + 11) + 40 * 1 ≤ (RM 20 mc ms).locals := ⟨by show 1 + 1 ≤ 20; decide, by show 8 + (2 + 11) + 40 * 1 ≤ 40 * 20; decide⟩
theorem rm_20_19_6 {mc ms : Nat} : 19 + 1 ≤ (RM 20 mc ms).frames ∧ 8 + (6 + 11) + 40 * 19 ≤ (RM 20 mc ms).locals := ⟨by show 19 + 1 ≤ 20; decide, by show 8 + (6 + 11) + 40 * 19 ≤ 40 * 20; decide⟩
theorem rm_24_1_2 {mc ms : Nat} : 1 + 1 ≤ (RM 24 mc ms).frames ∧ 8 + (2 + 11) + 40 * 1 ≤ (RM 24 mc ms).locals := ⟨by show 1 + 1 ≤ 24; decide, by show 8 + (2 + 11) + 40 * 1 ≤ 40 * 24; decide⟩
theorem rm_24_1_1 {mc ms : Nat} : 1 + 1 ≤ (RM 24 mc ms).frames ∧ 8 + (1 + 11) + 40 * 1 ≤ (RM 24 mc ms).locals := ⟨by show 1 + 1 ≤ 24; decide, by show 8 + (1 + 11) + 40 * 1 ≤ 40 * 24; decide⟩
theorem rm_24_15_6 {mc ms : Nat} : 15 + 1 ≤ (RM 24 mc ms).frames ∧ 8 + (6 + 11) + 40 * 15 ≤ (RM 24 mc ms).locals := ⟨by show 15 + 1 ≤ 24; decide, by show 8 + (6 + 11) + 40 * 15 ≤ 40 * 24; decide⟩
theorem rm_26_16_5 {mc ms : Nat} : 16 + 1 ≤ (RM 26 mc ms).frames ∧ 8 + (5 + 11) + 40 * 16 ≤ (RM 26 mc ms).locals := ⟨by show 16 + 1 ≤ 26; decide, by show 8 + (5 + 11) + 40 * 16 ≤ 40 * 26; decide⟩
theorem rm_26_18_5 {mc ms : Nat} : 18 + 1 ≤ (RM 26 mc ms).frames ∧ 8 + (5 + 11) + 40 * 18 ≤ (RM 26 mc ms).locals := ⟨by show 18 + 1 ≤ 26; decide, by show 8 + (5 + 11) + 40 * 18 ≤ 40 * 26; decide⟩
theorem rm_26_24_5 {mc ms : Nat} : 24 + 1 ≤ (RM 26 mc ms).frames ∧ 8 + (5 + 11) + 40 * 24 ≤ (RM 26 mc ms).locals := ⟨by show 24 + 1 ≤ 26; decide, by show 8 + (5 + 11) + 40 * 24 ≤ 40 * 26; decide⟩
theorem rm_26_20_5 {mc ms : Nat} : 20 + 1 ≤ (RM 26 mc ms).frames ∧ 8 + (5 + 11) + 40 * 20 ≤ (RM 26 mc ms).locals := ⟨by show 20 + 1 ≤ 26; decide, by show 8 + (5 + 11) + 40 * 20 ≤ 40 * 26; decide⟩
theorem rm_27_1_2 {mc ms : Nat} : 1 + 1 ≤ (RM 27 mc ms).frames ∧ 8 + (2 + 11) + 40 * 1 ≤ (RM 27 mc ms).locals := ⟨by show 1 + 1 ≤ 27; decide, by show 8 + (2 + 11) + 40 * 1 ≤ 40 * 27; decide⟩
theorem rm_27_26_3 {mc ms : Nat} : 26 + 1 ≤ (RM 27 mc ms).frames ∧ 8 + (3 + 11) + 40 * 26 ≤ (RM 27 mc ms).locals := ⟨by show 26 + 1 ≤ 27; decide, by show 8 + (3 + 11) + 40 * 26 ≤ 40 * 27; decide⟩
theorem rm_28_1_2 {mc ms : Nat} : 1 + 1 ≤ (RM 28 mc ms).frames ∧ 8 + (2 + 11) + 40 * 1 ≤ (RM 28 mc ms).locals := ⟨by show 1 + 1 ≤ 28; decide, by show 8 + (2 + 11) + 40 * 1 ≤ 40 * 28; decide⟩
theorem rm_28_27_6 {mc ms : Nat} : 27 + 1 ≤ (RM 28 mc ms).frames ∧ 8 + (6 + 11) + 40 * 27 ≤ (RM 28 mc ms).locals := ⟨by show 27 + 1 ≤ 28; decide, by show 8 + (6 + 11) + 40 * 27 ≤ 40 * 28; decide⟩
theorem rm_29_1_2 {mc ms : Nat} : 1 + 1 ≤ (RM 29 mc ms).frames ∧ 8 + (2 + 11) + 40 * 1 ≤ (RM 29 mc ms).locals := ⟨by show 1 + 1 ≤ 29; decide, by show 8 + (2 + 11) + 40 * 1 ≤ 40 * 29; decide⟩
theorem rm_29_28_5 {mc ms : Nat} : 28 + 1 ≤ (RM 29 mc ms).frames ∧ 8 + (5 + 11) + 40 * 28 ≤ (RM 29 mc ms).locals := ⟨by show 28 + 1 ≤ 29; decide, by show 8 + (5 + 11) + 40 * 28 ≤ 40 * 29; decide⟩
theorem rm_30_1_2 {mc ms : Nat} : 1 + 1 ≤ (RM 30 mc ms).frames ∧ 8 + (2 + 11) + 40 * 1 ≤ (RM 30 mc ms).locals := ⟨by show 1 + 1 ≤ 30; decide, by show 8 + (2 + 11) + 40 * 1 ≤ 40 * 30; decide⟩
theorem rm_30_29_6 {mc ms : Nat} : 29 + 1 ≤ (RM 30 mc ms).frames ∧ 8 + (6 + 11) + 40 * 29 ≤ (RM 30 mc ms).locals := ⟨by show 29 + 1 ≤ 30; decide, by show 8 + (6 + 11) + 40 * 29 ≤ 40 * 30; decide⟩
theorem rm_31_28_5 {mc ms : Nat} : 28 + 1 ≤ (RM 31 mc ms).frames ∧ 8 + (5 + 11) + 40 * 28 ≤ (RM 31 mc ms).locals := ⟨by show 28 + 1 ≤ 31; decide, by show 8 + (5 + 11) + 40 * 28 ≤ 40 * 31; decide⟩
theorem rm_31_26_3 {mc ms : Nat} : 26 + 1 ≤ (RM 31 mc ms).frames ∧ 8 + (3 + 11) + 40 * 26 ≤ (RM 31 mc ms).locals := ⟨by show 26 + 1 ≤ 31; decide, by show 8 + (3 + 11) + 40 * 26 ≤ 40 * 31; decide⟩
theorem rm_32_1_2 {mc ms : Nat} : 1 + 1 ≤ (RM 32 mc ms).frames ∧ 8 + (2 + 11) + 40 * 1 ≤ (RM 32 mc ms).locals := ⟨by show 1 + 1 ≤ 32; decide, by show 8 + (2 + 11) + 40 * 1 ≤ 40 * 32; decide⟩
theorem rm_32_31_6 {mc ms : Nat} : 31 + 1 ≤ (RM 32 mc ms).frames ∧ 8 + (6 + 11) + 40 * 31 ≤ (RM 32 mc ms).locals := ⟨by show 31 + 1 ≤ 32; decide, by show 8 + (6 + 11) + 40 * 31 ≤ 40 * 32; decide⟩
theorem rm_33_1_2 {mc ms : Nat} : 1 + 1 ≤ (RM 33 mc ms).frames ∧ 8 + (2 + 11) + 40 * 1 ≤ (RM 33 mc ms).locals := ⟨by show 1 + 1 ≤ 33; decide, by show 8 + (2 + 11) + 40 * 1 ≤ 40 * 33; decide⟩
theorem rm_33_32_5 {mc ms : Nat} : 32 + 1 ≤ (RM 33 mc ms).frames ∧ 8 + (5 + 11) + 40 * 32 ≤ (RM 33 mc ms).locals := ⟨by show 32 + 1 ≤ 33; decide, by show 8 + (5 + 11) + 40 * 32 ≤ 40 * 33; decide⟩
theorem rm_34_1_2 {mc ms : Nat} : 1 + 1 ≤ (RM 34 mc ms).frames ∧ 8 + (2 + 11) + 40 * 1 ≤ (RM 34 mc ms).locals := ⟨by show 1 + 1 ≤ 34; decide, by show 8 + (2 + 11) + 40 * 1 ≤ 40 * 34; decide⟩
theorem rm_34_33_6 {mc ms : Nat} : 33 + 1 ≤ (RM 34 mc ms).frames ∧ 8 + (6 + 11) + 40 * 33 ≤ (RM 34 mc ms).locals := ⟨by show 33 + 1 ≤ 34; decide, by show 8 + (6 + 11) + 40 * 33 ≤ 40 * 34; decide⟩
theorem rm_36_1_2 {mc ms : Nat} : 1 + 1 ≤ (RM 36 mc ms).frames ∧ 8 + (2 + 11) + 40 * 1 ≤ (RM 36 mc ms).locals := ⟨by show 1 + 1 ≤ 36; decide, by show 8 + (2 + 11) + 40 * 1 ≤ 40 * 36; decide⟩
theorem rm_36_1_1 {mc ms : Nat} : 1 + 1 ≤ (RM 36 mc ms).frames ∧ 8 + (1 + 11) + 40 * 1 ≤ (RM 36 mc ms).locals := ⟨by show 1 + 1 ≤ 36; decide, by show 8 + (1 + 11) + 40 * 1 ≤ 40 * 36; decide⟩
theorem rm_36_27_6 {mc ms : Nat} : 27 + 1 ≤ (RM 36 mc ms).frames ∧ 8 + (6 + 11) + 40 * 27 ≤ (RM 36 mc ms).locals := ⟨by show 27 + 1 ≤ 36; decide, by show 8 + (6 + 11) + 40 * 27 ≤ 40 * 36; decide⟩
theorem rm_38_28_5 {mc ms : Nat} : 28 + 1 ≤ (RM 38 mc ms).frames ∧ 8 + (5 + 11) + 40 * 28 ≤ (RM 38 mc ms).locals := ⟨by show 28 + 1 ≤ 38; decide, by show 8 + (5 + 11) + 40 * 28 ≤ 40 * 38; decide⟩
theorem rm_38_36_5 {mc ms : Nat} : 36 + 1 ≤ (RM 38 mc ms).frames ∧ 8 + (5 + 11) + 40 * 36 ≤ (RM 38 mc ms).locals := ⟨by show 36 + 1 ≤ 38; decide, by show 8 + (5 + 11) + 40 * 36 ≤ 40 * 38; decide⟩
theorem rm_38_30_5 {mc ms : Nat} : 30 + 1 ≤ (RM 38 mc ms).frames ∧ 8 + (5 + 11) + 40 * 30 ≤ (RM 38 mc ms).locals := ⟨by show 30 + 1 ≤ 38; decide, by show 8 + (5 + 11) + 40 * 30 ≤ 40 * 38; decide⟩
theorem rm_38_32_5 {mc ms : Nat} : 32 + 1 ≤ (RM 38 mc ms).frames ∧ 8 + (5 + 11) + 40 * 32 ≤ (RM 38 mc ms).locals := ⟨by show 32 + 1 ≤ 38; decide, by show 8 + (5 + 11) + 40 * 32 ≤ 40 * 38; decide⟩
theorem rm_38_34_5 {mc ms : Nat} : 34 + 1 ≤ (RM 38 mc ms).frames ∧ 8 + (5 + 11) + 40 * 34 ≤ (RM 38 mc ms).locals := ⟨by show 34 + 1 ≤ 38; decide, by show 8 + (5 + 11) + 40 * 34 ≤ 40 * 38; decide⟩
theorem rm_39_1_2 {mc ms : Nat} : 1 + 1 ≤ (RM 39 mc ms).frames ∧ 8 + (2 + 11) + 40 * 1 ≤ (RM 39 mc ms).locals := ⟨by show 1 + 1 ≤ 39; decide, by show 8 + (2 + 11) + 40 * 1 ≤ 40 * 39; decide⟩
theorem rm_40_39_6 {mc ms : Nat} : 39 + 1 ≤ (RM 40 mc ms).frames ∧ 8 + (6 + 11) + 40 * 39 ≤ (RM 40 mc ms).locals := ⟨by show 39 + 1 ≤ 40; decide, by show 8 + (6 + 11) + 40 * 39 ≤ 40 * 40; decide⟩
theorem rm_42_1_2 {mc ms : Nat} : 1 + 1 ≤ (RM 42 mc ms).frames ∧ 8 + (2 + 11) + 40 * 1 ≤ (RM 42 mc ms).locals := ⟨by show 1 + 1 ≤ 42; decide, by show 8 + (2 + 11) + 40 * 1 ≤ 40 * 42; decide⟩
theorem rm_42_39_6 {mc ms : Nat} : 39 + 1 ≤ (RM 42 mc ms).frames ∧ 8 + (6 + 11) + 40 * 39 ≤ (RM 42 mc ms).locals := ⟨by show 39 + 1 ≤ 42; decide, by show 8 + (6 + 11) + 40 * 39 ≤ 40 * 42; decide⟩
theorem rm_43_1_2 {mc ms : Nat} : 1 + 1 ≤ (RM 43 mc ms).frames ∧ 8 + (2 + 11) + 40 * 1 ≤ (RM 43 mc ms).locals := ⟨by show 1 + 1 ≤ 43; decide, by show 8 + (2 + 11) + 40 * 1 ≤ 40 * 43; decide⟩
theorem rm_43_42_5 {mc ms : Nat} : 42 + 1 ≤ (RM 43 mc ms).frames ∧ 8 + (5 + 11) + 40 * 42 ≤ (RM 43 mc ms).locals := ⟨by show 42 + 1 ≤ 43; decide, by show 8 + (5 + 11) + 40 * 42 ≤ 40 * 43; decide⟩
theorem rm_44_1_2 {mc ms : Nat} : 1 + 1 ≤ (RM 44 mc ms).frames ∧ 8 + (2 + 11) + 40 * 1 ≤ (RM 44 mc ms).locals := ⟨by show 1 + 1 ≤ 44; decide, by show 8 + (2 + 11) + 40 * 1 ≤ 40 * 44; decide⟩
theorem rm_44_43_6 {mc ms : Nat} : 43 + 1 ≤ (RM 44 mc ms).frames ∧ 8 + (6 + 11) + 40 * 43 ≤ (RM 44 mc ms).locals := ⟨by show 43 + 1 ≤ 44; decide, by show 8 + (6 + 11) + 40 * 43 ≤ 40 * 44; decide⟩
theorem rm_45_1_2 {mc ms : Nat} : 1 + 1 ≤ (RM 45 mc ms).frames ∧ 8 + (2 + 11) + 40 * 1 ≤ (RM 45 mc ms).locals := ⟨by show 1 + 1 ≤ 45; decide, by show 8 + (2 + 11) + 40 * 1 ≤ 40 * 45; decide⟩
theorem rm_45_40_5 {mc ms : Nat} : 40 + 1 ≤ (RM 45 mc ms).frames ∧ 8 + (5 + 11) + 40 * 40 ≤ (RM 45 mc ms).locals := ⟨by show 40 + 1 ≤ 45; decide, by show 8 + (5 + 11) + 40 * 40 ≤ 40 * 45; decide⟩
theorem rm_45_14_3 {mc ms : Nat} : 14 + 1 ≤ (RM 45 mc ms).frames ∧ 8 + (3 + 11) + 40 * 14 ≤ (RM 45 mc ms).locals := ⟨by show 14 + 1 ≤ 45; decide, by show 8 + (3 + 11) + 40 * 14 ≤ 40 * 45; decide⟩
theorem rm_46_1_2 {mc ms : Nat} : 1 + 1 ≤ (RM 46 mc ms).frames ∧ 8 + (2 + 11) + 40 * 1 ≤ (RM 46 mc ms).locals := ⟨by show 1 + 1 ≤ 46; decide, by show 8 + (2 + 11) + 40 * 1 ≤ 40 * 46; decide⟩
theorem rm_46_45_6 {mc ms : Nat} : 45 + 1 ≤ (RM 46 mc ms).frames ∧ 8 + (6 + 11) + 40 * 45 ≤ (RM 46 mc ms).locals := ⟨by show 45 + 1 ≤ 46; decide, by show 8 + (6 + 11) + 40 * 45 ≤ 40 * 46; decide⟩
theorem rm_48_1_2 {mc ms : Nat} : 1 + 1 ≤ (RM 48 mc ms).frames ∧ 8 + (2 + 11) + 40 * 1 ≤ (RM 48 mc ms).locals := ⟨by show 1 + 1 ≤ 48; decide, by show 8 + (2 + 11) + 40 * 1 ≤ 40 * 48; decide⟩
theorem rm_48_1_1 {mc ms : Nat} : 1 + 1 ≤ (RM 48 mc ms).frames ∧ 8 + (1 + 11) + 40 * 1 ≤ (RM 48 mc ms).locals := ⟨by show 1 + 1 ≤ 48; decide, by show 8 + (1 + 11) + 40 * 1 ≤ 40 * 48; decide⟩
theorem rm_48_39_6 {mc ms : Nat} : 39 + 1 ≤ (RM 48 mc ms).frames ∧ 8 + (6 + 11) + 40 * 39 ≤ (RM 48 mc ms).locals := ⟨by show 39 + 1 ≤ 48; decide, by show 8 + (6 + 11) + 40 * 39 ≤ 40 * 48; decide⟩
theorem rm_50_40_5 {mc ms : Nat} : 40 + 1 ≤ (RM 50 mc ms).frames ∧ 8 + (5 + 11) + 40 * 40 ≤ (RM 50 mc ms).locals := ⟨by show 40 + 1 ≤ 50; decide, by show 8 + (5 + 11) + 40 * 40 ≤ 40 * 50; decide⟩
theorem rm_50_42_5 {mc ms : Nat} : 42 + 1 ≤ (RM 50 mc ms).frames ∧ 8 + (5 + 11) + 40 * 42 ≤ (RM 50 mc ms).locals := ⟨by show 42 + 1 ≤ 50; decide, by show 8 + (5 + 11) + 40 * 42 ≤ 40 * 50; decide⟩
theorem rm_50_48_5 {mc ms : Nat} : 48 + 1 ≤ (RM 50 mc ms).frames ∧ 8 + (5 + 11) + 40 * 48 ≤ (RM 50 mc ms).locals := ⟨by show 48 + 1 ≤ 50; decide, by show 8 + (5 + 11) + 40 * 48 ≤ 40 * 50; decide⟩
theorem rm_50_44_5 {mc ms : Nat} : 44 + 1 ≤ (RM 50 mc ms).frames ∧ 8 + (5 + 11) + 40 * 44 ≤ (RM 50 mc ms).locals := ⟨by show 44 + 1 ≤ 50; decide, by show 8 + (5 + 11) + 40 * 44 ≤ 40 * 50; decide⟩
theorem rm_50_46_5 {mc ms : Nat} : 46 + 1 ≤ (RM 50 mc ms).frames ∧ 8 + (5 + 11) + 40 * 46 ≤ (RM 50 mc ms).locals := ⟨by show 46 + 1 ≤ 50; decide, by show 8 + (5 + 11) + 40 * 46 ≤ 40 * 50; decide⟩
theorem rm_60_2_1 {mc ms : Nat} : 2 + 1 ≤ (RM 60 mc ms).frames ∧ 8 + (1 + 11) + 40 * 2 ≤ (RM 60 mc ms).locals := ⟨by show 2 + 1 ≤ 60; decide, by show 8 + (1 + 11) + 40 * 2 ≤ 40 * 60; decide⟩
theorem rm_60_3_4 {mc ms : Nat} : 3 + 1 ≤ (RM 60 mc ms).frames ∧ 8 + (4 + 11) + 40 * 3 ≤ (RM 60 mc ms).locals := ⟨by show 3 + 1 ≤ 60; decide, by show 8 + (4 + 11) + 40 * 3 ≤ 40 * 60; decide⟩
theorem rm_60_1_3 {mc ms : Nat} : 1 + 1 ≤ (RM 60 mc ms).frames ∧ 8 + (3 + 11) + 40 * 1 ≤ (RM 60 mc ms).locals := ⟨by show 1 + 1 ≤ 60; decide, by show 8 + (3 + 11) + 40 * 1 ≤ 40 * 60; decide⟩
theorem rm_60_14_3 {mc ms : Nat} : 14 + 1 ≤ (RM 60 mc ms).frames ∧ 8 + (3 + 11) + 40 * 14 ≤ (RM 60 mc ms).locals := ⟨by show 14 + 1 ≤ 60; decide, by show 8 + (3 + 11) + 40 * 14 ≤ 40 * 60; decide⟩
theorem dj_0_4__1_2_3 : ∀ i ∈ ([1, 2, 3] : List Nat), i ∉ ([0, 4] : List Nat) := by decide
theorem rm_60_26_3 {mc ms : Nat} : 26 + 1 ≤ (RM 60 mc ms).frames ∧ 8 + (3 + 11) + 40 * 26 ≤ (RM 60 mc ms).locals := ⟨by show 26 + 1 ≤ 60; decide, by show 8 + (3 + 11) + 40 * 26 ≤ 40 * 60; decide⟩
theorem rm_60_38_3 {mc ms : Nat} : 38 + 1 ≤ (RM 60 mc ms).frames ∧ 8 + (3 + 11) + 40 * 38 ≤ (RM 60 mc ms).locals := ⟨by show 38 + 1 ≤ 60; decide, by show 8 + (3 + 11) + 40 * 38 ≤ 40 * 60; decide⟩
theorem rm_60_50_3 {mc ms : Nat} : 50 + 1 ≤ (RM 60 mc ms).frames ∧ 8 + (3 + 11) + 40 * 50 ≤ (RM 60 mc ms).locals := ⟨by show 50 + 1 ≤ 60; decide, by show 8 + (3 + 11) + 40 * 50 ≤ 40 * 60; decide⟩
theorem rm_10_5_4 {mc ms : Nat} : 5 + 1 ≤ (RM 10 mc ms).frames ∧ 8 + (4 + 11) + 40 * 5 ≤ (RM 10 mc ms).locals := ⟨by show 5 + 1 ≤ 10; decide, by show 8 + (4 + 11) + 40 * 5 ≤ 40 * 10; decide⟩
def K_m_kindOn (l : Launch) (G : GG) (h0 : Nat) (jt : Nat) (nw : Nat) (nk : Nat) (mhasKept : Int32) (nt : Nat) (mtaped : Int32) (nr : Nat) (mrowMany : Int32) (mroundOf : Int32) (mroundFrom : Int32) (mouts : Int32) (nm : Nat) (mfromHour : Int32) (mtoHour : Int32) (ns : Nat) (mfrom : Int32) (mto : Int32) (msort : Int32) (misFault : Int32) (mdeep : Int32) (mcoded : Int32) (mlines : Int32) (nl : Nat) (nc : Nat) (nF : Nat) (np : Nat) (ntr : Nat) (nb : Nat) (mbestCost : Int32) (nso : Nat) (nsi : Nat) (nit : Nat) (nsh : Nat) (nsf : Nat) (nss : Nat) (nrc : Nat) (mtraced : Int32) (mdealer : Int32) (mnumber : Int32) (mwhose : Int32) (msize : Int32) (misParted : Int32) (fnw : Nat → Int32) (fnsh : Nat → Int32) (fnsf : Nat → Int32) : Prop := MP l G yX12_kindOn cX12_kindOn 4 (some .int) 3 [.ref h0, .int (nI jt)] [(h0, oX12 nw nk mhasKept nt mtaped nr mrowMany mroundOf mroundFrom mouts nm mfromHour mtoHour ns mfrom mto msort misFault mdeep mcoded mlines nl nc nF np ntr nb mbestCost nso nsi nit nsh nsf nss nrc mtraced mdealer mnumber mwhose msize misParted), (nw, iA G 1662 fnw), (nsh, iA G 4 fnsh), (nsf, iA G 4 fnsf)] (fun r : Int32 => r = (-1) ∨ (r = 1 ∧ KO1 (fnsh jt) (fnsf jt) 1 12) ∨ (r = 2 ∧ KO1 (fnsh jt) (fnsf jt) 1 12) ∨ (r = 3 ∧ KO1 (fnsh jt) (fnsf jt) 1 12) ∨ (r = 4 ∧ KO1 (fnsh jt) (fnsf jt) 2 16) ∨ (r = 5 ∧ KO1 (fnsh jt) (fnsf jt) 2 16) ∨ (r = 6 ∧ KO1 (fnsh jt) (fnsf jt) 3 12))
set_option maxHeartbeats 4000000 in
set_option maxRecDepth 100000 in
theorem m_kindOn (l : Launch) (G : GG) (h0 : Nat) (jt : Nat) (nw : Nat) (nk : Nat) (mhasKept : Int32) (nt : Nat) (mtaped : Int32) (nr : Nat) (mrowMany : Int32) (mroundOf : Int32) (mroundFrom : Int32) (mouts : Int32) (nm : Nat) (mfromHour : Int32) (mtoHour : Int32) (ns : Nat) (mfrom : Int32) (mto : Int32) (msort : Int32) (misFault : Int32) (mdeep : Int32) (mcoded : Int32) (mlines : Int32) (nl : Nat) (nc : Nat) (nF : Nat) (np : Nat) (ntr : Nat) (nb : Nat) (mbestCost : Int32) (nso : Nat) (nsi : Nat) (nit : Nat) (nsh : Nat) (nsf : Nat) (nss : Nat) (nrc : Nat) (mtraced : Int32) (mdealer : Int32) (mnumber : Int32) (mwhose : Int32) (msize : Int32) (misParted : Int32) (fnw : Nat → Int32) (fnsh : Nat → Int32) (fnsf : Nat → Int32) (hjt : jt < 4) (hN : NI fnw) : K_m_kindOn l G h0 jt nw nk mhasKept nt mtaped nr mrowMany mroundOf mroundFrom mouts nm mfromHour mtoHour ns mfrom mto msort misFault mdeep mcoded mlines nl nc nF np ntr nb mbestCost nso nsi nit nsh nsf nss nrc mtraced mdealer mnumber mwhose msize misParted fnw fnsh fnsf := by
  refine MP.start (by decide +kernel) (Nat.le_of_ble_eq_true rfl) ?_
  intro p e s m below meth c ls hC hK hP hD hl
  refine absQ (fun Q0 hQ0 => ?_)
  have hl : lv_has ls 4 [(0, .ref h0), (1, .int (nI jt))] := hl
  refine Kan8 hC (fun hx hb hr hml hB hown hlocks hnm => ?_)
  obtain ⟨kq, hkq, ekq⟩ := NI.nat hN (i := 5) (B := 12) (by decide +kernel) (by decide)
  obtain ⟨k8, hk8, ek8⟩ := NI.nat hN (i := 8) (B := 16) (by decide +kernel) (by decide)
  obtain ⟨k9, hk9, ek9⟩ := NI.nat hN (i := 9) (B := 12) (by decide +kernel) (by decide)
  refine lv_aload_n hx hb gX12_kindOn_0.1 rfl (lv_at0 hl) ?_
  refine gf_X12_75 hC rfl hK hP 0 rfl rfl gX12_kindOn_0.2.1 ?_
  refine lv_iload_n hx hb gX12_kindOn_0.2.2.1 rfl (lv_at1 hl) ?_
  refine aldN hC hK hP 3 rfl (k := jt) (by omega) (Nat.le_of_ble_eq_true rfl) (v := fnsf jt) rfl gX12_kindOn_0.2.2.2.1 ?_
  refine lv_topi (fun x6483 ex6483 => ?_)
  refine lv_istore_n (lv' := [(2, .int x6483), (0, .ref h0), (1, .int (nI jt))]) hx hb gX12_kindOn_0.2.2.2.2.1 rfl hl (by decide) rfl (fun ls hl => ?_)
  refine lv_aload_n hx hb gX12_kindOn_0.2.2.2.2.2.1 rfl (lv_at1 hl) ?_
  refine gf_X12_72 hC rfl hK hP 0 rfl rfl gX12_kindOn_0.2.2.2.2.2.2.1 ?_
  refine lv_iload_n hx hb gX12_kindOn_0.2.2.2.2.2.2.2.1 rfl (lv_at2 hl) ?_
  refine aldN hC hK hP 2 rfl (k := jt) (by omega) (Nat.le_of_ble_eq_true rfl) (v := fnsh jt) rfl gX12_kindOn_0.2.2.2.2.2.2.2.2.1 ?_
  refine lv_topi (fun x6484 ex6484 => ?_)
  by_cases c_13_6485 : x6484 = 1
  · refine lv_tableIn (tgt := 40) hx hb gX12_kindOn_0.2.2.2.2.2.2.2.2.2 (by rw [c_13_6485]; decide) (by rw [c_13_6485]; decide) (by rw [c_13_6485]; rfl) (by decide) ?_
    refine lv_aload_n hx hb gX12_kindOn_1.1 rfl (lv_at1 hl) ?_
    refine lv_iload_n hx hb gX12_kindOn_1.2.1 rfl (lv_at0 hl) ?_
    refine lv_iconst (v := 5) hx hb gX12_kindOn_1.2.2.1 (by decide) ?_
    refine pV hC hK hl hP hD (m_is l G kq h0 x6483 5 nw nk mhasKept nt mtaped nr mrowMany mroundOf mroundFrom mouts nm mfromHour mtoHour ns mfrom mto msort misFault mdeep mcoded mlines nl nc nF np ntr nb mbestCost nso nsi nit nsh nsf nss nrc mtraced mdealer mnumber mwhose msize misParted fnw (by omega) (ekq) (by omega)) si_X12_120 [0, 1] sm_0_1 fm_0_1 nd_0_1 rfl rfl rfl rfl rfl (Nat.le_of_ble_eq_true rfl) rm_3_2_3 ⟨by first | exact Nat.le_of_ble_eq_true rfl | exact Nat.zero_le _, by first | exact Nat.le_of_ble_eq_true rfl | exact Nat.zero_le _⟩ gX12_kindOn_1.2.2.2.1 (Kors (Keqa fun a6487 => ?_) (Keqa fun a6487 => ?_))
    · refine lv_if_eq (tgt := 73) hx hb gX12_kindOn_1.2.2.2.2.1 (by decide) (fun c9 => absurd c9 (by decide)) (fun _ => ?_)
      refine lv_aload_n hx hb gX12_kindOn_1.2.2.2.2.2.1 rfl (lv_at1 hl) ?_
      refine lv_iload_n hx hb gX12_kindOn_1.2.2.2.2.2.2.1 rfl (lv_at0 hl) ?_
      obtain ⟨jn6488, hjn6488, ek6488⟩ := Hs_nat (by omega) a6487
      refine eqi (x1 := nI jn6488) ek6488 ?_
      refine lv_iconst (v := 1) hx hb gX12_kindOn_1.2.2.2.2.2.2.2.1 (by decide) ?_
      refine pV hC hK hl hP hD (m_paper l G h0 jn6488 1 nw nk mhasKept nt mtaped nr mrowMany mroundOf mroundFrom mouts nm mfromHour mtoHour ns mfrom mto msort misFault mdeep mcoded mlines nl nc nF np ntr nb mbestCost nso nsi nit nsh nsf nss nrc mtraced mdealer mnumber mwhose msize misParted fnw (by omega) (by omega)) si_X12_88 [0, 1] sm_0_1 fm_0_1 nd_0_1 rfl rfl rfl rfl rfl (Nat.le_of_ble_eq_true rfl) rm_3_1_3 ⟨by first | exact Nat.le_of_ble_eq_true rfl | exact Nat.zero_le _, by first | exact Nat.le_of_ble_eq_true rfl | exact Nat.zero_le _⟩ gX12_kindOn_1.2.2.2.2.2.2.2.2.1 (Keqr ?_)
      refine lv_iconst (v := 1) hx hb gX12_kindOn_1.2.2.2.2.2.2.2.2.2 (by decide) ?_
      refine lv_aload_n hx hb gX12_kindOn_2.1 rfl (lv_at1 hl) ?_
      refine lv_iload_n hx hb gX12_kindOn_2.2.1 rfl (lv_at0 hl) ?_
      obtain ⟨jn6491, hjn6491, ek6491⟩ := Hs_nat (by omega) a6487
      refine eqi (x1 := nI jn6491) ek6491 ?_
      refine lv_iconst (v := 0) hx hb gX12_kindOn_2.2.2.1 (by decide) ?_
      refine pV hC hK hl hP hD (m_paper l G h0 jn6491 0 nw nk mhasKept nt mtaped nr mrowMany mroundOf mroundFrom mouts nm mfromHour mtoHour ns mfrom mto msort misFault mdeep mcoded mlines nl nc nF np ntr nb mbestCost nso nsi nit nsh nsf nss nrc mtraced mdealer mnumber mwhose msize misParted fnw (by omega) (by omega)) si_X12_88 [0, 1] sm_0_1 fm_0_1 nd_0_1 rfl rfl rfl rfl rfl (Nat.le_of_ble_eq_true rfl) rm_3_1_3 ⟨by first | exact Nat.le_of_ble_eq_true rfl | exact Nat.zero_le _, by first | exact Nat.le_of_ble_eq_true rfl | exact Nat.zero_le _⟩ gX12_kindOn_2.2.2.2.1 (Keqr ?_)
      refine lv_ishl hx hb gX12_kindOn_2.2.2.2.2.1 ?_
      refine lv_iconst (v := (-1)) hx hb gX12_kindOn_2.2.2.2.2.2.1 (by decide) ?_
      refine lv_ixor hx hb gX12_kindOn_2.2.2.2.2.2.2.1 ?_
      refine lv_iand hx hb gX12_kindOn_2.2.2.2.2.2.2.2.1 ?_
      refine lv_if_eq (tgt := 73) hx hb gX12_kindOn_2.2.2.2.2.2.2.2.2.1 (by decide) (fun c_66_6494 => ?_) (fun c_66_6494 => ?_)
      · refine lv_iconst (v := 0) hx hb gX12_kindOn_3.2.1 (by decide) ?_
        refine lv_istore_n (lv' := [(3, .int 0), (2, .int x6483), (0, .ref h0), (1, .int (nI jt))]) hx hb gX12_kindOn_3.2.2.1 rfl hl (by decide) rfl (fun ls hl => ?_)
        refine lv_aload_n hx hb gX12_kindOn_3.2.2.2.1 rfl (lv_at2 hl) ?_
        refine lv_iload_n hx hb gX12_kindOn_3.2.2.2.2.1 rfl (lv_at1 hl) ?_
        refine lv_iconst (v := 5) hx hb gX12_kindOn_3.2.2.2.2.2.1 (by decide) ?_
        refine pV hC hK hl hP hD (m_is l G kq h0 x6483 5 nw nk mhasKept nt mtaped nr mrowMany mroundOf mroundFrom mouts nm mfromHour mtoHour ns mfrom mto msort misFault mdeep mcoded mlines nl nc nF np ntr nb mbestCost nso nsi nit nsh nsf nss nrc mtraced mdealer mnumber mwhose msize misParted fnw (by omega) (ekq) (by omega)) si_X12_120 [0, 1] sm_0_1 fm_0_1 nd_0_1 rfl rfl rfl rfl rfl (Nat.le_of_ble_eq_true rfl) rm_3_2_3 ⟨by first | exact Nat.le_of_ble_eq_true rfl | exact Nat.zero_le _, by first | exact Nat.le_of_ble_eq_true rfl | exact Nat.zero_le _⟩ gX12_kindOn_3.2.2.2.2.2.2.1 (Kors (Keqa fun a6496 => ?_) (Keqa fun a6496 => ?_))
        · refine lv_if_ne (tgt := 88) hx hb gX12_kindOn_3.2.2.2.2.2.2.2.1 (by decide) (fun _ => ?_) (fun c9 => absurd c9 (by decide))
          refine lv_iload_n hx hb gX12_kindOn_4.1 rfl (lv_at0 hl) ?_
          refine lv_if_ne (tgt := 96) hx hb gX12_kindOn_4.2.1 (by decide) (fun c9 => absurd (by decide) c9) (fun _ => ?_)
          refine lv_iconst (v := 2) hx hb gX12_kindOn_4.2.2.1 (by decide) ?_
          refine lv_goto (tgt := 110) hx hb gX12_kindOn_4.2.2.2.1 (by decide) ?_
          refine toQ hQ0 ?_
          exact RP (v := 2) hC (Or.inr (Or.inr (Or.inl (⟨rfl, KO1.mk (kk := kq) (by omega) (by omega) ex6484 ex6483 c_13_6485 a6496⟩)))) rfl gX12_kindOn_5.2.2.1
        · exact absurd a6487 a6496
      · refine lv_iconst (v := 1) hx hb gX12_kindOn_2.2.2.2.2.2.2.2.2.2 (by decide) ?_
        refine lv_goto (tgt := 74) hx hb gX12_kindOn_3.1 (by decide) ?_
        refine lv_istore_n (lv' := [(3, .int 1), (2, .int x6483), (0, .ref h0), (1, .int (nI jt))]) hx hb gX12_kindOn_3.2.2.1 rfl hl (by decide) rfl (fun ls hl => ?_)
        refine lv_aload_n hx hb gX12_kindOn_3.2.2.2.1 rfl (lv_at2 hl) ?_
        refine lv_iload_n hx hb gX12_kindOn_3.2.2.2.2.1 rfl (lv_at1 hl) ?_
        refine lv_iconst (v := 5) hx hb gX12_kindOn_3.2.2.2.2.2.1 (by decide) ?_
        refine pV hC hK hl hP hD (m_is l G kq h0 x6483 5 nw nk mhasKept nt mtaped nr mrowMany mroundOf mroundFrom mouts nm mfromHour mtoHour ns mfrom mto msort misFault mdeep mcoded mlines nl nc nF np ntr nb mbestCost nso nsi nit nsh nsf nss nrc mtraced mdealer mnumber mwhose msize misParted fnw (by omega) (ekq) (by omega)) si_X12_120 [0, 1] sm_0_1 fm_0_1 nd_0_1 rfl rfl rfl rfl rfl (Nat.le_of_ble_eq_true rfl) rm_3_2_3 ⟨by first | exact Nat.le_of_ble_eq_true rfl | exact Nat.zero_le _, by first | exact Nat.le_of_ble_eq_true rfl | exact Nat.zero_le _⟩ gX12_kindOn_3.2.2.2.2.2.2.1 (Kors (Keqa fun a6498 => ?_) (Keqa fun a6498 => ?_))
        · refine lv_if_ne (tgt := 88) hx hb gX12_kindOn_3.2.2.2.2.2.2.2.1 (by decide) (fun _ => ?_) (fun c9 => absurd c9 (by decide))
          refine lv_iload_n hx hb gX12_kindOn_4.1 rfl (lv_at0 hl) ?_
          refine lv_if_ne (tgt := 96) hx hb gX12_kindOn_4.2.1 (by decide) (fun _ => ?_) (fun c9 => absurd c9 (by decide))
          refine lv_aload_n hx hb gX12_kindOn_4.2.2.2.2.1 rfl (lv_at2 hl) ?_
          refine lv_iload_n hx hb gX12_kindOn_4.2.2.2.2.2.1 rfl (lv_at1 hl) ?_
          obtain ⟨jn6499, hjn6499, ek6499⟩ := Hs_nat (by omega) a6498
          refine eqi (x1 := nI jn6499) ek6499 ?_
          refine lv_iconst (v := 3) hx hb gX12_kindOn_4.2.2.2.2.2.2.1 (by decide) ?_
          refine pV hC hK hl hP hD (m_paper l G h0 jn6499 3 nw nk mhasKept nt mtaped nr mrowMany mroundOf mroundFrom mouts nm mfromHour mtoHour ns mfrom mto msort misFault mdeep mcoded mlines nl nc nF np ntr nb mbestCost nso nsi nit nsh nsf nss nrc mtraced mdealer mnumber mwhose msize misParted fnw (by omega) (by omega)) si_X12_88 [0, 1] sm_0_1 fm_0_1 nd_0_1 rfl rfl rfl rfl rfl (Nat.le_of_ble_eq_true rfl) rm_3_1_3 ⟨by first | exact Nat.le_of_ble_eq_true rfl | exact Nat.zero_le _, by first | exact Nat.le_of_ble_eq_true rfl | exact Nat.zero_le _⟩ gX12_kindOn_4.2.2.2.2.2.2.2.1 (Keqr ?_)
          refine lv_if_le (tgt := 109) hx hb gX12_kindOn_4.2.2.2.2.2.2.2.2.1 (by decide) (fun c_102_6502 => ?_) (fun c_102_6502 => ?_)
          · refine lv_iconst (v := 1) hx hb gX12_kindOn_5.2.1 (by decide) ?_
            refine toQ hQ0 ?_
            exact RP (v := 1) hC (Or.inr (Or.inl (⟨rfl, KO1.mk (kk := kq) (by omega) (by omega) ex6484 ex6483 c_13_6485 a6498⟩))) rfl gX12_kindOn_5.2.2.1
          · refine lv_iconst (v := 3) hx hb gX12_kindOn_4.2.2.2.2.2.2.2.2.2 (by decide) ?_
            refine lv_goto (tgt := 110) hx hb gX12_kindOn_5.1 (by decide) ?_
            refine toQ hQ0 ?_
            exact RP (v := 3) hC (Or.inr (Or.inr (Or.inr (Or.inl (⟨rfl, KO1.mk (kk := kq) (by omega) (by omega) ex6484 ex6483 c_13_6485 a6498⟩))))) rfl gX12_kindOn_5.2.2.1
        · exact absurd a6487 a6498
    · refine lv_if_eq (tgt := 73) hx hb gX12_kindOn_1.2.2.2.2.1 (by decide) (fun _ => ?_) (fun c9 => absurd (by decide) c9)
      refine lv_iconst (v := 0) hx hb gX12_kindOn_3.2.1 (by decide) ?_
      refine lv_istore_n (lv' := [(3, .int 0), (2, .int x6483), (0, .ref h0), (1, .int (nI jt))]) hx hb gX12_kindOn_3.2.2.1 rfl hl (by decide) rfl (fun ls hl => ?_)
      refine lv_aload_n hx hb gX12_kindOn_3.2.2.2.1 rfl (lv_at2 hl) ?_
      refine lv_iload_n hx hb gX12_kindOn_3.2.2.2.2.1 rfl (lv_at1 hl) ?_
      refine lv_iconst (v := 5) hx hb gX12_kindOn_3.2.2.2.2.2.1 (by decide) ?_
      refine pV hC hK hl hP hD (m_is l G kq h0 x6483 5 nw nk mhasKept nt mtaped nr mrowMany mroundOf mroundFrom mouts nm mfromHour mtoHour ns mfrom mto msort misFault mdeep mcoded mlines nl nc nF np ntr nb mbestCost nso nsi nit nsh nsf nss nrc mtraced mdealer mnumber mwhose msize misParted fnw (by omega) (ekq) (by omega)) si_X12_120 [0, 1] sm_0_1 fm_0_1 nd_0_1 rfl rfl rfl rfl rfl (Nat.le_of_ble_eq_true rfl) rm_3_2_3 ⟨by first | exact Nat.le_of_ble_eq_true rfl | exact Nat.zero_le _, by first | exact Nat.le_of_ble_eq_true rfl | exact Nat.zero_le _⟩ gX12_kindOn_3.2.2.2.2.2.2.1 (Kors (Keqa fun a6504 => ?_) (Keqa fun a6504 => ?_))
      · exact absurd a6504 a6487
      · refine lv_if_ne (tgt := 88) hx hb gX12_kindOn_3.2.2.2.2.2.2.2.1 (by decide) (fun c9 => absurd (by decide) c9) (fun _ => ?_)
        refine lv_iconst (v := (-1)) hx hb gX12_kindOn_3.2.2.2.2.2.2.2.2.1 (by decide) ?_
        refine lv_goto (tgt := 110) hx hb gX12_kindOn_3.2.2.2.2.2.2.2.2.2 (by decide) ?_
        refine toQ hQ0 ?_
        exact RP (v := (-1)) hC (Or.inl (rfl)) rfl gX12_kindOn_5.2.2.1
  by_cases c_13_6505 : x6484 = 2
  · refine lv_tableIn (tgt := 111) hx hb gX12_kindOn_0.2.2.2.2.2.2.2.2.2 (by rw [c_13_6505]; decide) (by rw [c_13_6505]; decide) (by rw [c_13_6505]; rfl) (by decide) ?_
    refine lv_aload_n hx hb gX12_kindOn_5.2.2.2.1 rfl (lv_at1 hl) ?_
    refine lv_iload_n hx hb gX12_kindOn_5.2.2.2.2.1 rfl (lv_at0 hl) ?_
    refine lv_bipush (v := 8) hx hb gX12_kindOn_5.2.2.2.2.2.1 (by decide) ?_
    refine pV hC hK hl hP hD (m_is l G k8 h0 x6483 8 nw nk mhasKept nt mtaped nr mrowMany mroundOf mroundFrom mouts nm mfromHour mtoHour ns mfrom mto msort misFault mdeep mcoded mlines nl nc nF np ntr nb mbestCost nso nsi nit nsh nsf nss nrc mtraced mdealer mnumber mwhose msize misParted fnw (by omega) (ek8) (by omega)) si_X12_120 [0, 1] sm_0_1 fm_0_1 nd_0_1 rfl rfl rfl rfl rfl (Nat.le_of_ble_eq_true rfl) rm_3_2_3 ⟨by first | exact Nat.le_of_ble_eq_true rfl | exact Nat.zero_le _, by first | exact Nat.le_of_ble_eq_true rfl | exact Nat.zero_le _⟩ gX12_kindOn_5.2.2.2.2.2.2.1 (Kors (Keqa fun a6507 => ?_) (Keqa fun a6507 => ?_))
    · refine lv_if_ne (tgt := 125) hx hb gX12_kindOn_5.2.2.2.2.2.2.2.1 (by decide) (fun _ => ?_) (fun c9 => absurd c9 (by decide))
      refine lv_aload_n hx hb gX12_kindOn_6.1 rfl (lv_at1 hl) ?_
      refine lv_iload_n hx hb gX12_kindOn_6.2.1 rfl (lv_at0 hl) ?_
      obtain ⟨jn6508, hjn6508, ek6508⟩ := Hs_nat (by omega) a6507
      refine eqi (x1 := nI jn6508) ek6508 ?_
      refine lv_bipush (v := 6) hx hb gX12_kindOn_6.2.2.1 (by decide) ?_
      refine pV hC hK hl hP hD (m_saying l G h0 jn6508 6 nw nk mhasKept nt mtaped nr mrowMany mroundOf mroundFrom mouts nm mfromHour mtoHour ns mfrom mto msort misFault mdeep mcoded mlines nl nc nF np ntr nb mbestCost nso nsi nit nsh nsf nss nrc mtraced mdealer mnumber mwhose msize misParted fnw (by omega) (by omega)) si_X12_114 [0, 1] sm_0_1 fm_0_1 nd_0_1 rfl rfl rfl rfl rfl (Nat.le_of_ble_eq_true rfl) rm_3_1_3 ⟨by first | exact Nat.le_of_ble_eq_true rfl | exact Nat.zero_le _, by first | exact Nat.le_of_ble_eq_true rfl | exact Nat.zero_le _⟩ gX12_kindOn_6.2.2.2.1 (Keqr ?_)
      refine lv_if_ge (tgt := 139) hx hb gX12_kindOn_6.2.2.2.2.1 (by decide) (fun c_132_6511 => ?_) (fun c_132_6511 => ?_)
      · refine lv_iconst (v := 4) hx hb gX12_kindOn_6.2.2.2.2.2.2.2.1 (by decide) ?_
        refine toQ hQ0 ?_
        exact RP (v := 4) hC (Or.inr (Or.inr (Or.inr (Or.inr (Or.inl (⟨rfl, KO1.mk (kk := k8) (by omega) (by omega) ex6484 ex6483 c_13_6505 a6507⟩)))))) rfl gX12_kindOn_6.2.2.2.2.2.2.2.2.1
      · refine lv_iconst (v := 5) hx hb gX12_kindOn_6.2.2.2.2.2.1 (by decide) ?_
        refine lv_goto (tgt := 140) hx hb gX12_kindOn_6.2.2.2.2.2.2.1 (by decide) ?_
        refine toQ hQ0 ?_
        exact RP (v := 5) hC (Or.inr (Or.inr (Or.inr (Or.inr (Or.inr (Or.inl (⟨rfl, KO1.mk (kk := k8) (by omega) (by omega) ex6484 ex6483 c_13_6505 a6507⟩))))))) rfl gX12_kindOn_6.2.2.2.2.2.2.2.2.1
    · refine lv_if_ne (tgt := 125) hx hb gX12_kindOn_5.2.2.2.2.2.2.2.1 (by decide) (fun c9 => absurd (by decide) c9) (fun _ => ?_)
      refine lv_iconst (v := (-1)) hx hb gX12_kindOn_5.2.2.2.2.2.2.2.2.1 (by decide) ?_
      refine lv_goto (tgt := 140) hx hb gX12_kindOn_5.2.2.2.2.2.2.2.2.2 (by decide) ?_
      refine toQ hQ0 ?_
      exact RP (v := (-1)) hC (Or.inl (rfl)) rfl gX12_kindOn_6.2.2.2.2.2.2.2.2.1
  by_cases c_13_6512 : x6484 = 3
  · refine lv_tableIn (tgt := 141) hx hb gX12_kindOn_0.2.2.2.2.2.2.2.2.2 (by rw [c_13_6512]; decide) (by rw [c_13_6512]; decide) (by rw [c_13_6512]; rfl) (by decide) ?_
    refine lv_aload_n hx hb gX12_kindOn_6.2.2.2.2.2.2.2.2.2 rfl (lv_at1 hl) ?_
    refine lv_iload_n hx hb gX12_kindOn_7.1 rfl (lv_at0 hl) ?_
    refine lv_bipush (v := 9) hx hb gX12_kindOn_7.2.1 (by decide) ?_
    refine pV hC hK hl hP hD (m_is l G k9 h0 x6483 9 nw nk mhasKept nt mtaped nr mrowMany mroundOf mroundFrom mouts nm mfromHour mtoHour ns mfrom mto msort misFault mdeep mcoded mlines nl nc nF np ntr nb mbestCost nso nsi nit nsh nsf nss nrc mtraced mdealer mnumber mwhose msize misParted fnw (by omega) (ek9) (by omega)) si_X12_120 [0, 1] sm_0_1 fm_0_1 nd_0_1 rfl rfl rfl rfl rfl (Nat.le_of_ble_eq_true rfl) rm_3_2_3 ⟨by first | exact Nat.le_of_ble_eq_true rfl | exact Nat.zero_le _, by first | exact Nat.le_of_ble_eq_true rfl | exact Nat.zero_le _⟩ gX12_kindOn_7.2.2.1 (Kors (Keqa fun a6514 => ?_) (Keqa fun a6514 => ?_))
    · refine lv_if_eq (tgt := 156) hx hb gX12_kindOn_7.2.2.2.1 (by decide) (fun c9 => absurd c9 (by decide)) (fun _ => ?_)
      refine lv_bipush (v := 6) hx hb gX12_kindOn_7.2.2.2.2.1 (by decide) ?_
      refine lv_goto (tgt := 157) hx hb gX12_kindOn_7.2.2.2.2.2.1 (by decide) ?_
      refine toQ hQ0 ?_
      exact RP (v := 6) hC (Or.inr (Or.inr (Or.inr (Or.inr (Or.inr (Or.inr (⟨rfl, KO1.mk (kk := k9) (by omega) (by omega) ex6484 ex6483 c_13_6512 a6514⟩))))))) rfl gX12_kindOn_7.2.2.2.2.2.2.2.1
    · refine lv_if_eq (tgt := 156) hx hb gX12_kindOn_7.2.2.2.1 (by decide) (fun _ => ?_) (fun c9 => absurd (by decide) c9)
      refine lv_iconst (v := (-1)) hx hb gX12_kindOn_7.2.2.2.2.2.2.1 (by decide) ?_
      refine toQ hQ0 ?_
      exact RP (v := (-1)) hC (Or.inl (rfl)) rfl gX12_kindOn_7.2.2.2.2.2.2.2.1
  refine lv_tableOut (tgt := 158) hx hb gX12_kindOn_0.2.2.2.2.2.2.2.2.2 (by have q9 := sw_1_3 (x := x6484); simp only [c_13_6485, c_13_6505, c_13_6512, not_false_eq_true, true_implies] at q9; exact q9) (by decide) ?_
  refine lv_iconst (v := (-1)) hx hb gX12_kindOn_7.2.2.2.2.2.2.2.2.1 (by decide) ?_
  refine toQ hQ0 ?_
  exact RP (v := (-1)) hC (Or.inl (rfl)) rfl gX12_kindOn_7.2.2.2.2.2.2.2.2.2
def K_m_above0 (l : Launch) (G : GG) : Prop := MP l G yX12_above cX12_above 1 (some .int) 1 [.int 0] [] (fun r : Int32 => r = (-1))
set_option maxHeartbeats 4000000 in
set_option maxRecDepth 100000 in
theorem m_above0 (l : Launch) (G : GG) : K_m_above0 l G := by
  refine MP.start (by decide +kernel) (Nat.le_of_ble_eq_true rfl) ?_
  intro p e s m below meth c ls hC hK hP hD hl
  refine absQ (fun Q0 hQ0 => ?_)
  have hl : lv_has ls 1 [(0, .int 0)] := hl
  refine Kan8 hC (fun hx hb hr hml hB hown hlocks hnm => ?_)
  refine lv_iload_n hx hb gX12_above_0.1 rfl (lv_at0 hl) ?_
  refine lv_iconst (v := 3) hx hb gX12_above_0.2.1 (by decide) ?_
  refine lv_icmp_ne (tgt := 9) hx hb gX12_above_0.2.2.1 (by decide) (fun _ => ?_) (fun c9 => absurd c9 (by decide))
  refine lv_iload_n hx hb gX12_above_0.2.2.2.2.2.1 rfl (lv_at0 hl) ?_
  refine lv_iconst (v := 5) hx hb gX12_above_0.2.2.2.2.2.2.1 (by decide) ?_
  refine lv_icmp_ne (tgt := 18) hx hb gX12_above_0.2.2.2.2.2.2.2.1 (by decide) (fun _ => ?_) (fun c9 => absurd c9 (by decide))
  refine lv_iload_n hx hb gX12_above_1.1 rfl (lv_at0 hl) ?_
  refine lv_if_ne (tgt := 26) hx hb gX12_above_1.2.1 (by decide) (fun c9 => absurd (by decide) c9) (fun _ => ?_)
  refine lv_iconst (v := (-1)) hx hb gX12_above_1.2.2.1 (by decide) ?_
  refine lv_goto (tgt := 27) hx hb gX12_above_1.2.2.2.1 (by decide) ?_
  refine toQ hQ0 ?_
  exact RP (v := (-1)) hC (rfl) rfl gX12_above_1.2.2.2.2.2
def K_m_above1 (l : Launch) (G : GG) : Prop := MP l G yX12_above cX12_above 1 (some .int) 1 [.int 1] [] (fun r : Int32 => r = 0)
set_option maxHeartbeats 4000000 in
set_option maxRecDepth 100000 in
theorem m_above1 (l : Launch) (G : GG) : K_m_above1 l G := by
  refine MP.start (by decide +kernel) (Nat.le_of_ble_eq_true rfl) ?_
  intro p e s m below meth c ls hC hK hP hD hl
  refine absQ (fun Q0 hQ0 => ?_)
  have hl : lv_has ls 1 [(0, .int 1)] := hl
  refine Kan8 hC (fun hx hb hr hml hB hown hlocks hnm => ?_)
  refine lv_iload_n hx hb gX12_above_0.1 rfl (lv_at0 hl) ?_
  refine lv_iconst (v := 3) hx hb gX12_above_0.2.1 (by decide) ?_
  refine lv_icmp_ne (tgt := 9) hx hb gX12_above_0.2.2.1 (by decide) (fun _ => ?_) (fun c9 => absurd c9 (by decide))
  refine lv_iload_n hx hb gX12_above_0.2.2.2.2.2.1 rfl (lv_at0 hl) ?_
  refine lv_iconst (v := 5) hx hb gX12_above_0.2.2.2.2.2.2.1 (by decide) ?_
  refine lv_icmp_ne (tgt := 18) hx hb gX12_above_0.2.2.2.2.2.2.2.1 (by decide) (fun _ => ?_) (fun c9 => absurd c9 (by decide))
  refine lv_iload_n hx hb gX12_above_1.1 rfl (lv_at0 hl) ?_
  refine lv_if_ne (tgt := 26) hx hb gX12_above_1.2.1 (by decide) (fun _ => ?_) (fun c9 => absurd c9 (by decide))
  refine lv_iconst (v := 0) hx hb gX12_above_1.2.2.2.2.1 (by decide) ?_
  refine toQ hQ0 ?_
  exact RP (v := 0) hC (rfl) rfl gX12_above_1.2.2.2.2.2
def K_m_above2 (l : Launch) (G : GG) : Prop := MP l G yX12_above cX12_above 1 (some .int) 1 [.int 2] [] (fun r : Int32 => r = 0)
set_option maxHeartbeats 4000000 in
set_option maxRecDepth 100000 in
theorem m_above2 (l : Launch) (G : GG) : K_m_above2 l G := by
  refine MP.start (by decide +kernel) (Nat.le_of_ble_eq_true rfl) ?_
  intro p e s m below meth c ls hC hK hP hD hl
  refine absQ (fun Q0 hQ0 => ?_)
  have hl : lv_has ls 1 [(0, .int 2)] := hl
  refine Kan8 hC (fun hx hb hr hml hB hown hlocks hnm => ?_)
  refine lv_iload_n hx hb gX12_above_0.1 rfl (lv_at0 hl) ?_
  refine lv_iconst (v := 3) hx hb gX12_above_0.2.1 (by decide) ?_
  refine lv_icmp_ne (tgt := 9) hx hb gX12_above_0.2.2.1 (by decide) (fun _ => ?_) (fun c9 => absurd c9 (by decide))
  refine lv_iload_n hx hb gX12_above_0.2.2.2.2.2.1 rfl (lv_at0 hl) ?_
  refine lv_iconst (v := 5) hx hb gX12_above_0.2.2.2.2.2.2.1 (by decide) ?_
  refine lv_icmp_ne (tgt := 18) hx hb gX12_above_0.2.2.2.2.2.2.2.1 (by decide) (fun _ => ?_) (fun c9 => absurd c9 (by decide))
  refine lv_iload_n hx hb gX12_above_1.1 rfl (lv_at0 hl) ?_
  refine lv_if_ne (tgt := 26) hx hb gX12_above_1.2.1 (by decide) (fun _ => ?_) (fun c9 => absurd c9 (by decide))
  refine lv_iconst (v := 0) hx hb gX12_above_1.2.2.2.2.1 (by decide) ?_
  refine toQ hQ0 ?_
  exact RP (v := 0) hC (rfl) rfl gX12_above_1.2.2.2.2.2
def K_m_above3 (l : Launch) (G : GG) : Prop := MP l G yX12_above cX12_above 1 (some .int) 1 [.int 3] [] (fun r : Int32 => r = 1)
set_option maxHeartbeats 4000000 in
set_option maxRecDepth 100000 in
theorem m_above3 (l : Launch) (G : GG) : K_m_above3 l G := by
  refine MP.start (by decide +kernel) (Nat.le_of_ble_eq_true rfl) ?_
  intro p e s m below meth c ls hC hK hP hD hl
  refine absQ (fun Q0 hQ0 => ?_)
  have hl : lv_has ls 1 [(0, .int 3)] := hl
  refine Kan8 hC (fun hx hb hr hml hB hown hlocks hnm => ?_)
  refine lv_iload_n hx hb gX12_above_0.1 rfl (lv_at0 hl) ?_
  refine lv_iconst (v := 3) hx hb gX12_above_0.2.1 (by decide) ?_
  refine lv_icmp_ne (tgt := 9) hx hb gX12_above_0.2.2.1 (by decide) (fun c9 => absurd (by decide) c9) (fun _ => ?_)
  refine lv_iconst (v := 1) hx hb gX12_above_0.2.2.2.1 (by decide) ?_
  refine lv_goto (tgt := 27) hx hb gX12_above_0.2.2.2.2.1 (by decide) ?_
  refine toQ hQ0 ?_
  exact RP (v := 1) hC (rfl) rfl gX12_above_1.2.2.2.2.2
def K_m_above4 (l : Launch) (G : GG) : Prop := MP l G yX12_above cX12_above 1 (some .int) 1 [.int 4] [] (fun r : Int32 => r = 0)
set_option maxHeartbeats 4000000 in
set_option maxRecDepth 100000 in
theorem m_above4 (l : Launch) (G : GG) : K_m_above4 l G := by
  refine MP.start (by decide +kernel) (Nat.le_of_ble_eq_true rfl) ?_
  intro p e s m below meth c ls hC hK hP hD hl
  refine absQ (fun Q0 hQ0 => ?_)
  have hl : lv_has ls 1 [(0, .int 4)] := hl
  refine Kan8 hC (fun hx hb hr hml hB hown hlocks hnm => ?_)
  refine lv_iload_n hx hb gX12_above_0.1 rfl (lv_at0 hl) ?_
  refine lv_iconst (v := 3) hx hb gX12_above_0.2.1 (by decide) ?_
  refine lv_icmp_ne (tgt := 9) hx hb gX12_above_0.2.2.1 (by decide) (fun _ => ?_) (fun c9 => absurd c9 (by decide))
  refine lv_iload_n hx hb gX12_above_0.2.2.2.2.2.1 rfl (lv_at0 hl) ?_
  refine lv_iconst (v := 5) hx hb gX12_above_0.2.2.2.2.2.2.1 (by decide) ?_
  refine lv_icmp_ne (tgt := 18) hx hb gX12_above_0.2.2.2.2.2.2.2.1 (by decide) (fun _ => ?_) (fun c9 => absurd c9 (by decide))
  refine lv_iload_n hx hb gX12_above_1.1 rfl (lv_at0 hl) ?_
  refine lv_if_ne (tgt := 26) hx hb gX12_above_1.2.1 (by decide) (fun _ => ?_) (fun c9 => absurd c9 (by decide))
  refine lv_iconst (v := 0) hx hb gX12_above_1.2.2.2.2.1 (by decide) ?_
  refine toQ hQ0 ?_
  exact RP (v := 0) hC (rfl) rfl gX12_above_1.2.2.2.2.2
def K_m_above5 (l : Launch) (G : GG) : Prop := MP l G yX12_above cX12_above 1 (some .int) 1 [.int 5] [] (fun r : Int32 => r = 4)
set_option maxHeartbeats 4000000 in
set_option maxRecDepth 100000 in
theorem m_above5 (l : Launch) (G : GG) : K_m_above5 l G := by
  refine MP.start (by decide +kernel) (Nat.le_of_ble_eq_true rfl) ?_
  intro p e s m below meth c ls hC hK hP hD hl
  refine absQ (fun Q0 hQ0 => ?_)
  have hl : lv_has ls 1 [(0, .int 5)] := hl
  refine Kan8 hC (fun hx hb hr hml hB hown hlocks hnm => ?_)
  refine lv_iload_n hx hb gX12_above_0.1 rfl (lv_at0 hl) ?_
  refine lv_iconst (v := 3) hx hb gX12_above_0.2.1 (by decide) ?_
  refine lv_icmp_ne (tgt := 9) hx hb gX12_above_0.2.2.1 (by decide) (fun _ => ?_) (fun c9 => absurd c9 (by decide))
  refine lv_iload_n hx hb gX12_above_0.2.2.2.2.2.1 rfl (lv_at0 hl) ?_
  refine lv_iconst (v := 5) hx hb gX12_above_0.2.2.2.2.2.2.1 (by decide) ?_
  refine lv_icmp_ne (tgt := 18) hx hb gX12_above_0.2.2.2.2.2.2.2.1 (by decide) (fun c9 => absurd (by decide) c9) (fun _ => ?_)
  refine lv_iconst (v := 4) hx hb gX12_above_0.2.2.2.2.2.2.2.2.1 (by decide) ?_
  refine lv_goto (tgt := 27) hx hb gX12_above_0.2.2.2.2.2.2.2.2.2 (by decide) ?_
  refine toQ hQ0 ?_
  exact RP (v := 4) hC (rfl) rfl gX12_above_1.2.2.2.2.2
def K_m_above6 (l : Launch) (G : GG) : Prop := MP l G yX12_above cX12_above 1 (some .int) 1 [.int 6] [] (fun r : Int32 => r = 0)
set_option maxHeartbeats 4000000 in
set_option maxRecDepth 100000 in
theorem m_above6 (l : Launch) (G : GG) : K_m_above6 l G := by
  refine MP.start (by decide +kernel) (Nat.le_of_ble_eq_true rfl) ?_
  intro p e s m below meth c ls hC hK hP hD hl
  refine absQ (fun Q0 hQ0 => ?_)
  have hl : lv_has ls 1 [(0, .int 6)] := hl
  refine Kan8 hC (fun hx hb hr hml hB hown hlocks hnm => ?_)
  refine lv_iload_n hx hb gX12_above_0.1 rfl (lv_at0 hl) ?_
  refine lv_iconst (v := 3) hx hb gX12_above_0.2.1 (by decide) ?_
  refine lv_icmp_ne (tgt := 9) hx hb gX12_above_0.2.2.1 (by decide) (fun _ => ?_) (fun c9 => absurd c9 (by decide))
  refine lv_iload_n hx hb gX12_above_0.2.2.2.2.2.1 rfl (lv_at0 hl) ?_
  refine lv_iconst (v := 5) hx hb gX12_above_0.2.2.2.2.2.2.1 (by decide) ?_
  refine lv_icmp_ne (tgt := 18) hx hb gX12_above_0.2.2.2.2.2.2.2.1 (by decide) (fun _ => ?_) (fun c9 => absurd c9 (by decide))
  refine lv_iload_n hx hb gX12_above_1.1 rfl (lv_at0 hl) ?_
  refine lv_if_ne (tgt := 26) hx hb gX12_above_1.2.1 (by decide) (fun _ => ?_) (fun c9 => absurd c9 (by decide))
  refine lv_iconst (v := 0) hx hb gX12_above_1.2.2.2.2.1 (by decide) ?_
  refine toQ hQ0 ?_
  exact RP (v := 0) hC (rfl) rfl gX12_above_1.2.2.2.2.2
def K_m_hasOwn00 (l : Launch) (G : GG) : Prop := MP l G yX12_hasOwn cX12_hasOwn 2 (some .boolean) 1 [.int 0, .int 0] [] (fun r : Int32 => r = 1)
set_option maxHeartbeats 4000000 in
set_option maxRecDepth 100000 in
theorem m_hasOwn00 (l : Launch) (G : GG) : K_m_hasOwn00 l G := by
  refine MP.start (by decide +kernel) (Nat.le_of_ble_eq_true rfl) ?_
  intro p e s m below meth c ls hC hK hP hD hl
  refine absQ (fun Q0 hQ0 => ?_)
  have hl : lv_has ls 2 [(0, .int 0), (1, .int 0)] := hl
  refine Kan8 hC (fun hx hb hr hml hB hown hlocks hnm => ?_)
  refine lv_iload_n hx hb gX12_hasOwn_0.1 rfl (lv_at0 hl) ?_
  refine lv_tableIn (tgt := 40) hx hb gX12_hasOwn_0.2.1 (by decide) (by decide) rfl (by decide) ?_
  refine lv_iconst (v := 1) hx hb gX12_hasOwn_0.2.2.1 (by decide) ?_
  refine toQ hQ0 ?_
  exact RP (v := 1) hC (rfl) (by decide +kernel) gX12_hasOwn_0.2.2.2.1
def K_m_hasOwn01 (l : Launch) (G : GG) : Prop := MP l G yX12_hasOwn cX12_hasOwn 2 (some .boolean) 1 [.int 0, .int 1] [] (fun r : Int32 => r = 1)
set_option maxHeartbeats 4000000 in
set_option maxRecDepth 100000 in
theorem m_hasOwn01 (l : Launch) (G : GG) : K_m_hasOwn01 l G := by
  refine MP.start (by decide +kernel) (Nat.le_of_ble_eq_true rfl) ?_
  intro p e s m below meth c ls hC hK hP hD hl
  refine absQ (fun Q0 hQ0 => ?_)
  have hl : lv_has ls 2 [(0, .int 0), (1, .int 1)] := hl
  refine Kan8 hC (fun hx hb hr hml hB hown hlocks hnm => ?_)
  refine lv_iload_n hx hb gX12_hasOwn_0.1 rfl (lv_at0 hl) ?_
  refine lv_tableIn (tgt := 40) hx hb gX12_hasOwn_0.2.1 (by decide) (by decide) rfl (by decide) ?_
  refine lv_iconst (v := 1) hx hb gX12_hasOwn_0.2.2.1 (by decide) ?_
  refine toQ hQ0 ?_
  exact RP (v := 1) hC (rfl) (by decide +kernel) gX12_hasOwn_0.2.2.2.1
def K_m_hasOwn02 (l : Launch) (G : GG) : Prop := MP l G yX12_hasOwn cX12_hasOwn 2 (some .boolean) 1 [.int 0, .int 2] [] (fun r : Int32 => r = 1)
set_option maxHeartbeats 4000000 in
set_option maxRecDepth 100000 in
theorem m_hasOwn02 (l : Launch) (G : GG) : K_m_hasOwn02 l G := by
  refine MP.start (by decide +kernel) (Nat.le_of_ble_eq_true rfl) ?_
  intro p e s m below meth c ls hC hK hP hD hl
  refine absQ (fun Q0 hQ0 => ?_)
  have hl : lv_has ls 2 [(0, .int 0), (1, .int 2)] := hl
  refine Kan8 hC (fun hx hb hr hml hB hown hlocks hnm => ?_)
  refine lv_iload_n hx hb gX12_hasOwn_0.1 rfl (lv_at0 hl) ?_
  refine lv_tableIn (tgt := 40) hx hb gX12_hasOwn_0.2.1 (by decide) (by decide) rfl (by decide) ?_
  refine lv_iconst (v := 1) hx hb gX12_hasOwn_0.2.2.1 (by decide) ?_
  refine toQ hQ0 ?_
  exact RP (v := 1) hC (rfl) (by decide +kernel) gX12_hasOwn_0.2.2.2.1
def K_m_hasOwn03 (l : Launch) (G : GG) : Prop := MP l G yX12_hasOwn cX12_hasOwn 2 (some .boolean) 1 [.int 0, .int 3] [] (fun r : Int32 => r = 1)
set_option maxHeartbeats 4000000 in
set_option maxRecDepth 100000 in
theorem m_hasOwn03 (l : Launch) (G : GG) : K_m_hasOwn03 l G := by
  refine MP.start (by decide +kernel) (Nat.le_of_ble_eq_true rfl) ?_
  intro p e s m below meth c ls hC hK hP hD hl
  refine absQ (fun Q0 hQ0 => ?_)
  have hl : lv_has ls 2 [(0, .int 0), (1, .int 3)] := hl
  refine Kan8 hC (fun hx hb hr hml hB hown hlocks hnm => ?_)
  refine lv_iload_n hx hb gX12_hasOwn_0.1 rfl (lv_at0 hl) ?_
  refine lv_tableIn (tgt := 40) hx hb gX12_hasOwn_0.2.1 (by decide) (by decide) rfl (by decide) ?_
  refine lv_iconst (v := 1) hx hb gX12_hasOwn_0.2.2.1 (by decide) ?_
  refine toQ hQ0 ?_
  exact RP (v := 1) hC (rfl) (by decide +kernel) gX12_hasOwn_0.2.2.2.1
def K_m_hasOwn10 (l : Launch) (G : GG) : Prop := MP l G yX12_hasOwn cX12_hasOwn 2 (some .boolean) 1 [.int 1, .int 0] [] (fun r : Int32 => r = 0)
set_option maxHeartbeats 4000000 in
set_option maxRecDepth 100000 in
theorem m_hasOwn10 (l : Launch) (G : GG) : K_m_hasOwn10 l G := by
  refine MP.start (by decide +kernel) (Nat.le_of_ble_eq_true rfl) ?_
  intro p e s m below meth c ls hC hK hP hD hl
  refine absQ (fun Q0 hQ0 => ?_)
  have hl : lv_has ls 2 [(0, .int 1), (1, .int 0)] := hl
  refine Kan8 hC (fun hx hb hr hml hB hown hlocks hnm => ?_)
  refine lv_iload_n hx hb gX12_hasOwn_0.1 rfl (lv_at0 hl) ?_
  refine lv_tableIn (tgt := 42) hx hb gX12_hasOwn_0.2.1 (by decide) (by decide) rfl (by decide) ?_
  refine lv_iload_n hx hb gX12_hasOwn_0.2.2.2.2.1 rfl (lv_at1 hl) ?_
  refine lv_iconst (v := 1) hx hb gX12_hasOwn_0.2.2.2.2.2.1 (by decide) ?_
  refine lv_icmp_ne (tgt := 51) hx hb gX12_hasOwn_0.2.2.2.2.2.2.1 (by decide) (fun _ => ?_) (fun c9 => absurd c9 (by decide))
  refine lv_iconst (v := 0) hx hb gX12_hasOwn_0.2.2.2.2.2.2.2.2.2 (by decide) ?_
  refine toQ hQ0 ?_
  exact RP (v := 0) hC (rfl) (by decide +kernel) gX12_hasOwn_1.1
def K_m_hasOwn11 (l : Launch) (G : GG) : Prop := MP l G yX12_hasOwn cX12_hasOwn 2 (some .boolean) 1 [.int 1, .int 1] [] (fun r : Int32 => r = 1)
set_option maxHeartbeats 4000000 in
set_option maxRecDepth 100000 in
theorem m_hasOwn11 (l : Launch) (G : GG) : K_m_hasOwn11 l G := by
  refine MP.start (by decide +kernel) (Nat.le_of_ble_eq_true rfl) ?_
  intro p e s m below meth c ls hC hK hP hD hl
  refine absQ (fun Q0 hQ0 => ?_)
  have hl : lv_has ls 2 [(0, .int 1), (1, .int 1)] := hl
  refine Kan8 hC (fun hx hb hr hml hB hown hlocks hnm => ?_)
  refine lv_iload_n hx hb gX12_hasOwn_0.1 rfl (lv_at0 hl) ?_
  refine lv_tableIn (tgt := 42) hx hb gX12_hasOwn_0.2.1 (by decide) (by decide) rfl (by decide) ?_
  refine lv_iload_n hx hb gX12_hasOwn_0.2.2.2.2.1 rfl (lv_at1 hl) ?_
  refine lv_iconst (v := 1) hx hb gX12_hasOwn_0.2.2.2.2.2.1 (by decide) ?_
  refine lv_icmp_ne (tgt := 51) hx hb gX12_hasOwn_0.2.2.2.2.2.2.1 (by decide) (fun c9 => absurd (by decide) c9) (fun _ => ?_)
  refine lv_iconst (v := 1) hx hb gX12_hasOwn_0.2.2.2.2.2.2.2.1 (by decide) ?_
  refine lv_goto (tgt := 52) hx hb gX12_hasOwn_0.2.2.2.2.2.2.2.2.1 (by decide) ?_
  refine toQ hQ0 ?_
  exact RP (v := 1) hC (rfl) (by decide +kernel) gX12_hasOwn_1.1
def K_m_hasOwn12 (l : Launch) (G : GG) : Prop := MP l G yX12_hasOwn cX12_hasOwn 2 (some .boolean) 1 [.int 1, .int 2] [] (fun r : Int32 => r = 0)
set_option maxHeartbeats 4000000 in
set_option maxRecDepth 100000 in
theorem m_hasOwn12 (l : Launch) (G : GG) : K_m_hasOwn12 l G := by
  refine MP.start (by decide +kernel) (Nat.le_of_ble_eq_true rfl) ?_
  intro p e s m below meth c ls hC hK hP hD hl
  refine absQ (fun Q0 hQ0 => ?_)
  have hl : lv_has ls 2 [(0, .int 1), (1, .int 2)] := hl
  refine Kan8 hC (fun hx hb hr hml hB hown hlocks hnm => ?_)
  refine lv_iload_n hx hb gX12_hasOwn_0.1 rfl (lv_at0 hl) ?_
  refine lv_tableIn (tgt := 42) hx hb gX12_hasOwn_0.2.1 (by decide) (by decide) rfl (by decide) ?_
  refine lv_iload_n hx hb gX12_hasOwn_0.2.2.2.2.1 rfl (lv_at1 hl) ?_
  refine lv_iconst (v := 1) hx hb gX12_hasOwn_0.2.2.2.2.2.1 (by decide) ?_
  refine lv_icmp_ne (tgt := 51) hx hb gX12_hasOwn_0.2.2.2.2.2.2.1 (by decide) (fun _ => ?_) (fun c9 => absurd c9 (by decide))
  refine lv_iconst (v := 0) hx hb gX12_hasOwn_0.2.2.2.2.2.2.2.2.2 (by decide) ?_
  refine toQ hQ0 ?_
  exact RP (v := 0) hC (rfl) (by decide +kernel) gX12_hasOwn_1.1
def K_m_hasOwn13 (l : Launch) (G : GG) : Prop := MP l G yX12_hasOwn cX12_hasOwn 2 (some .boolean) 1 [.int 1, .int 3] [] (fun r : Int32 => r = 0)
set_option maxHeartbeats 4000000 in
set_option maxRecDepth 100000 in
theorem m_hasOwn13 (l : Launch) (G : GG) : K_m_hasOwn13 l G := by
  refine MP.start (by decide +kernel) (Nat.le_of_ble_eq_true rfl) ?_
  intro p e s m below meth c ls hC hK hP hD hl
  refine absQ (fun Q0 hQ0 => ?_)
  have hl : lv_has ls 2 [(0, .int 1), (1, .int 3)] := hl
  refine Kan8 hC (fun hx hb hr hml hB hown hlocks hnm => ?_)
  refine lv_iload_n hx hb gX12_hasOwn_0.1 rfl (lv_at0 hl) ?_
  refine lv_tableIn (tgt := 42) hx hb gX12_hasOwn_0.2.1 (by decide) (by decide) rfl (by decide) ?_
  refine lv_iload_n hx hb gX12_hasOwn_0.2.2.2.2.1 rfl (lv_at1 hl) ?_
  refine lv_iconst (v := 1) hx hb gX12_hasOwn_0.2.2.2.2.2.1 (by decide) ?_
  refine lv_icmp_ne (tgt := 51) hx hb gX12_hasOwn_0.2.2.2.2.2.2.1 (by decide) (fun _ => ?_) (fun c9 => absurd c9 (by decide))
  refine lv_iconst (v := 0) hx hb gX12_hasOwn_0.2.2.2.2.2.2.2.2.2 (by decide) ?_
  refine toQ hQ0 ?_
  exact RP (v := 0) hC (rfl) (by decide +kernel) gX12_hasOwn_1.1
def K_m_hasOwn20 (l : Launch) (G : GG) : Prop := MP l G yX12_hasOwn cX12_hasOwn 2 (some .boolean) 1 [.int 2, .int 0] [] (fun r : Int32 => r = 0)
set_option maxHeartbeats 4000000 in
set_option maxRecDepth 100000 in
theorem m_hasOwn20 (l : Launch) (G : GG) : K_m_hasOwn20 l G := by
  refine MP.start (by decide +kernel) (Nat.le_of_ble_eq_true rfl) ?_
  intro p e s m below meth c ls hC hK hP hD hl
  refine absQ (fun Q0 hQ0 => ?_)
  have hl : lv_has ls 2 [(0, .int 2), (1, .int 0)] := hl
  refine Kan8 hC (fun hx hb hr hml hB hown hlocks hnm => ?_)
  refine lv_iload_n hx hb gX12_hasOwn_0.1 rfl (lv_at0 hl) ?_
  refine lv_tableIn (tgt := 53) hx hb gX12_hasOwn_0.2.1 (by decide) (by decide) rfl (by decide) ?_
  refine lv_iload_n hx hb gX12_hasOwn_1.2.1 rfl (lv_at1 hl) ?_
  refine lv_iconst (v := 2) hx hb gX12_hasOwn_1.2.2.1 (by decide) ?_
  refine lv_icmp_ne (tgt := 62) hx hb gX12_hasOwn_1.2.2.2.1 (by decide) (fun _ => ?_) (fun c9 => absurd c9 (by decide))
  refine lv_iconst (v := 0) hx hb gX12_hasOwn_1.2.2.2.2.2.2.1 (by decide) ?_
  refine toQ hQ0 ?_
  exact RP (v := 0) hC (rfl) (by decide +kernel) gX12_hasOwn_1.2.2.2.2.2.2.2.1
def K_m_hasOwn21 (l : Launch) (G : GG) : Prop := MP l G yX12_hasOwn cX12_hasOwn 2 (some .boolean) 1 [.int 2, .int 1] [] (fun r : Int32 => r = 0)
set_option maxHeartbeats 4000000 in
set_option maxRecDepth 100000 in
theorem m_hasOwn21 (l : Launch) (G : GG) : K_m_hasOwn21 l G := by
  refine MP.start (by decide +kernel) (Nat.le_of_ble_eq_true rfl) ?_
  intro p e s m below meth c ls hC hK hP hD hl
  refine absQ (fun Q0 hQ0 => ?_)
  have hl : lv_has ls 2 [(0, .int 2), (1, .int 1)] := hl
  refine Kan8 hC (fun hx hb hr hml hB hown hlocks hnm => ?_)
  refine lv_iload_n hx hb gX12_hasOwn_0.1 rfl (lv_at0 hl) ?_
  refine lv_tableIn (tgt := 53) hx hb gX12_hasOwn_0.2.1 (by decide) (by decide) rfl (by decide) ?_
  refine lv_iload_n hx hb gX12_hasOwn_1.2.1 rfl (lv_at1 hl) ?_
  refine lv_iconst (v := 2) hx hb gX12_hasOwn_1.2.2.1 (by decide) ?_
  refine lv_icmp_ne (tgt := 62) hx hb gX12_hasOwn_1.2.2.2.1 (by decide) (fun _ => ?_) (fun c9 => absurd c9 (by decide))
  refine lv_iconst (v := 0) hx hb gX12_hasOwn_1.2.2.2.2.2.2.1 (by decide) ?_
  refine toQ hQ0 ?_
  exact RP (v := 0) hC (rfl) (by decide +kernel) gX12_hasOwn_1.2.2.2.2.2.2.2.1
def K_m_hasOwn22 (l : Launch) (G : GG) : Prop := MP l G yX12_hasOwn cX12_hasOwn 2 (some .boolean) 1 [.int 2, .int 2] [] (fun r : Int32 => r = 1)
set_option maxHeartbeats 4000000 in
set_option maxRecDepth 100000 in
theorem m_hasOwn22 (l : Launch) (G : GG) : K_m_hasOwn22 l G := by
  refine MP.start (by decide +kernel) (Nat.le_of_ble_eq_true rfl) ?_
  intro p e s m below meth c ls hC hK hP hD hl
  refine absQ (fun Q0 hQ0 => ?_)
  have hl : lv_has ls 2 [(0, .int 2), (1, .int 2)] := hl
  refine Kan8 hC (fun hx hb hr hml hB hown hlocks hnm => ?_)
  refine lv_iload_n hx hb gX12_hasOwn_0.1 rfl (lv_at0 hl) ?_
  refine lv_tableIn (tgt := 53) hx hb gX12_hasOwn_0.2.1 (by decide) (by decide) rfl (by decide) ?_
  refine lv_iload_n hx hb gX12_hasOwn_1.2.1 rfl (lv_at1 hl) ?_
  refine lv_iconst (v := 2) hx hb gX12_hasOwn_1.2.2.1 (by decide) ?_
  refine lv_icmp_ne (tgt := 62) hx hb gX12_hasOwn_1.2.2.2.1 (by decide) (fun c9 => absurd (by decide) c9) (fun _ => ?_)
  refine lv_iconst (v := 1) hx hb gX12_hasOwn_1.2.2.2.2.1 (by decide) ?_
  refine lv_goto (tgt := 63) hx hb gX12_hasOwn_1.2.2.2.2.2.1 (by decide) ?_
  refine toQ hQ0 ?_
  exact RP (v := 1) hC (rfl) (by decide +kernel) gX12_hasOwn_1.2.2.2.2.2.2.2.1
def K_m_hasOwn23 (l : Launch) (G : GG) : Prop := MP l G yX12_hasOwn cX12_hasOwn 2 (some .boolean) 1 [.int 2, .int 3] [] (fun r : Int32 => r = 0)
set_option maxHeartbeats 4000000 in
set_option maxRecDepth 100000 in
theorem m_hasOwn23 (l : Launch) (G : GG) : K_m_hasOwn23 l G := by
  refine MP.start (by decide +kernel) (Nat.le_of_ble_eq_true rfl) ?_
  intro p e s m below meth c ls hC hK hP hD hl
  refine absQ (fun Q0 hQ0 => ?_)
  have hl : lv_has ls 2 [(0, .int 2), (1, .int 3)] := hl
  refine Kan8 hC (fun hx hb hr hml hB hown hlocks hnm => ?_)
  refine lv_iload_n hx hb gX12_hasOwn_0.1 rfl (lv_at0 hl) ?_
  refine lv_tableIn (tgt := 53) hx hb gX12_hasOwn_0.2.1 (by decide) (by decide) rfl (by decide) ?_
  refine lv_iload_n hx hb gX12_hasOwn_1.2.1 rfl (lv_at1 hl) ?_
  refine lv_iconst (v := 2) hx hb gX12_hasOwn_1.2.2.1 (by decide) ?_
  refine lv_icmp_ne (tgt := 62) hx hb gX12_hasOwn_1.2.2.2.1 (by decide) (fun _ => ?_) (fun c9 => absurd c9 (by decide))
  refine lv_iconst (v := 0) hx hb gX12_hasOwn_1.2.2.2.2.2.2.1 (by decide) ?_
  refine toQ hQ0 ?_
  exact RP (v := 0) hC (rfl) (by decide +kernel) gX12_hasOwn_1.2.2.2.2.2.2.2.1
def K_m_hasOwn30 (l : Launch) (G : GG) : Prop := MP l G yX12_hasOwn cX12_hasOwn 2 (some .boolean) 1 [.int 3, .int 0] [] (fun r : Int32 => r = 0)
set_option maxHeartbeats 4000000 in
set_option maxRecDepth 100000 in
theorem m_hasOwn30 (l : Launch) (G : GG) : K_m_hasOwn30 l G := by
  refine MP.start (by decide +kernel) (Nat.le_of_ble_eq_true rfl) ?_
  intro p e s m below meth c ls hC hK hP hD hl
  refine absQ (fun Q0 hQ0 => ?_)
  have hl : lv_has ls 2 [(0, .int 3), (1, .int 0)] := hl
  refine Kan8 hC (fun hx hb hr hml hB hown hlocks hnm => ?_)
  refine lv_iload_n hx hb gX12_hasOwn_0.1 rfl (lv_at0 hl) ?_
  refine lv_tableIn (tgt := 64) hx hb gX12_hasOwn_0.2.1 (by decide) (by decide) rfl (by decide) ?_
  refine lv_iload_n hx hb gX12_hasOwn_1.2.2.2.2.2.2.2.2.1 rfl (lv_at1 hl) ?_
  refine lv_iconst (v := 1) hx hb gX12_hasOwn_1.2.2.2.2.2.2.2.2.2 (by decide) ?_
  refine lv_icmp_eq (tgt := 74) hx hb gX12_hasOwn_2.1 (by decide) (fun c9 => absurd c9 (by decide)) (fun _ => ?_)
  refine lv_iload_n hx hb gX12_hasOwn_2.2.1 rfl (lv_at1 hl) ?_
  refine lv_iconst (v := 3) hx hb gX12_hasOwn_2.2.2.1 (by decide) ?_
  refine lv_icmp_ne (tgt := 78) hx hb gX12_hasOwn_2.2.2.2.1 (by decide) (fun _ => ?_) (fun c9 => absurd c9 (by decide))
  refine lv_iconst (v := 0) hx hb gX12_hasOwn_2.2.2.2.2.2.2.1 (by decide) ?_
  refine toQ hQ0 ?_
  exact RP (v := 0) hC (rfl) (by decide +kernel) gX12_hasOwn_2.2.2.2.2.2.2.2.1
def K_m_hasOwn31 (l : Launch) (G : GG) : Prop := MP l G yX12_hasOwn cX12_hasOwn 2 (some .boolean) 1 [.int 3, .int 1] [] (fun r : Int32 => r = 1)
set_option maxHeartbeats 4000000 in
set_option maxRecDepth 100000 in
theorem m_hasOwn31 (l : Launch) (G : GG) : K_m_hasOwn31 l G := by
  refine MP.start (by decide +kernel) (Nat.le_of_ble_eq_true rfl) ?_
  intro p e s m below meth c ls hC hK hP hD hl
  refine absQ (fun Q0 hQ0 => ?_)
  have hl : lv_has ls 2 [(0, .int 3), (1, .int 1)] := hl
  refine Kan8 hC (fun hx hb hr hml hB hown hlocks hnm => ?_)
  refine lv_iload_n hx hb gX12_hasOwn_0.1 rfl (lv_at0 hl) ?_
  refine lv_tableIn (tgt := 64) hx hb gX12_hasOwn_0.2.1 (by decide) (by decide) rfl (by decide) ?_
  refine lv_iload_n hx hb gX12_hasOwn_1.2.2.2.2.2.2.2.2.1 rfl (lv_at1 hl) ?_
  refine lv_iconst (v := 1) hx hb gX12_hasOwn_1.2.2.2.2.2.2.2.2.2 (by decide) ?_
  refine lv_icmp_eq (tgt := 74) hx hb gX12_hasOwn_2.1 (by decide) (fun _ => ?_) (fun c9 => absurd (by decide) c9)
  refine lv_iconst (v := 1) hx hb gX12_hasOwn_2.2.2.2.2.1 (by decide) ?_
  refine lv_goto (tgt := 79) hx hb gX12_hasOwn_2.2.2.2.2.2.1 (by decide) ?_
  refine toQ hQ0 ?_
  exact RP (v := 1) hC (rfl) (by decide +kernel) gX12_hasOwn_2.2.2.2.2.2.2.2.1
def K_m_hasOwn32 (l : Launch) (G : GG) : Prop := MP l G yX12_hasOwn cX12_hasOwn 2 (some .boolean) 1 [.int 3, .int 2] [] (fun r : Int32 => r = 0)
set_option maxHeartbeats 4000000 in
set_option maxRecDepth 100000 in
theorem m_hasOwn32 (l : Launch) (G : GG) : K_m_hasOwn32 l G := by
  refine MP.start (by decide +kernel) (Nat.le_of_ble_eq_true rfl) ?_
  intro p e s m below meth c ls hC hK hP hD hl
  refine absQ (fun Q0 hQ0 => ?_)
  have hl : lv_has ls 2 [(0, .int 3), (1, .int 2)] := hl
  refine Kan8 hC (fun hx hb hr hml hB hown hlocks hnm => ?_)
  refine lv_iload_n hx hb gX12_hasOwn_0.1 rfl (lv_at0 hl) ?_
  refine lv_tableIn (tgt := 64) hx hb gX12_hasOwn_0.2.1 (by decide) (by decide) rfl (by decide) ?_
  refine lv_iload_n hx hb gX12_hasOwn_1.2.2.2.2.2.2.2.2.1 rfl (lv_at1 hl) ?_
  refine lv_iconst (v := 1) hx hb gX12_hasOwn_1.2.2.2.2.2.2.2.2.2 (by decide) ?_
  refine lv_icmp_eq (tgt := 74) hx hb gX12_hasOwn_2.1 (by decide) (fun c9 => absurd c9 (by decide)) (fun _ => ?_)
  refine lv_iload_n hx hb gX12_hasOwn_2.2.1 rfl (lv_at1 hl) ?_
  refine lv_iconst (v := 3) hx hb gX12_hasOwn_2.2.2.1 (by decide) ?_
  refine lv_icmp_ne (tgt := 78) hx hb gX12_hasOwn_2.2.2.2.1 (by decide) (fun _ => ?_) (fun c9 => absurd c9 (by decide))
  refine lv_iconst (v := 0) hx hb gX12_hasOwn_2.2.2.2.2.2.2.1 (by decide) ?_
  refine toQ hQ0 ?_
  exact RP (v := 0) hC (rfl) (by decide +kernel) gX12_hasOwn_2.2.2.2.2.2.2.2.1
def K_m_hasOwn33 (l : Launch) (G : GG) : Prop := MP l G yX12_hasOwn cX12_hasOwn 2 (some .boolean) 1 [.int 3, .int 3] [] (fun r : Int32 => r = 1)
set_option maxHeartbeats 4000000 in
set_option maxRecDepth 100000 in
theorem m_hasOwn33 (l : Launch) (G : GG) : K_m_hasOwn33 l G := by
  refine MP.start (by decide +kernel) (Nat.le_of_ble_eq_true rfl) ?_
  intro p e s m below meth c ls hC hK hP hD hl
  refine absQ (fun Q0 hQ0 => ?_)
  have hl : lv_has ls 2 [(0, .int 3), (1, .int 3)] := hl
  refine Kan8 hC (fun hx hb hr hml hB hown hlocks hnm => ?_)
  refine lv_iload_n hx hb gX12_hasOwn_0.1 rfl (lv_at0 hl) ?_
  refine lv_tableIn (tgt := 64) hx hb gX12_hasOwn_0.2.1 (by decide) (by decide) rfl (by decide) ?_
  refine lv_iload_n hx hb gX12_hasOwn_1.2.2.2.2.2.2.2.2.1 rfl (lv_at1 hl) ?_
  refine lv_iconst (v := 1) hx hb gX12_hasOwn_1.2.2.2.2.2.2.2.2.2 (by decide) ?_
  refine lv_icmp_eq (tgt := 74) hx hb gX12_hasOwn_2.1 (by decide) (fun c9 => absurd c9 (by decide)) (fun _ => ?_)
  refine lv_iload_n hx hb gX12_hasOwn_2.2.1 rfl (lv_at1 hl) ?_
  refine lv_iconst (v := 3) hx hb gX12_hasOwn_2.2.2.1 (by decide) ?_
  refine lv_icmp_ne (tgt := 78) hx hb gX12_hasOwn_2.2.2.2.1 (by decide) (fun c9 => absurd (by decide) c9) (fun _ => ?_)
  refine lv_iconst (v := 1) hx hb gX12_hasOwn_2.2.2.2.2.1 (by decide) ?_
  refine lv_goto (tgt := 79) hx hb gX12_hasOwn_2.2.2.2.2.2.1 (by decide) ?_
  refine toQ hQ0 ?_
  exact RP (v := 1) hC (rfl) (by decide +kernel) gX12_hasOwn_2.2.2.2.2.2.2.2.1
def K_m_hasOwn40 (l : Launch) (G : GG) : Prop := MP l G yX12_hasOwn cX12_hasOwn 2 (some .boolean) 1 [.int 4, .int 0] [] (fun r : Int32 => r = 1)
set_option maxHeartbeats 4000000 in
set_option maxRecDepth 100000 in
theorem m_hasOwn40 (l : Launch) (G : GG) : K_m_hasOwn40 l G := by
  refine MP.start (by decide +kernel) (Nat.le_of_ble_eq_true rfl) ?_
  intro p e s m below meth c ls hC hK hP hD hl
  refine absQ (fun Q0 hQ0 => ?_)
  have hl : lv_has ls 2 [(0, .int 4), (1, .int 0)] := hl
  refine Kan8 hC (fun hx hb hr hml hB hown hlocks hnm => ?_)
  refine lv_iload_n hx hb gX12_hasOwn_0.1 rfl (lv_at0 hl) ?_
  refine lv_tableIn (tgt := 80) hx hb gX12_hasOwn_0.2.1 (by decide) (by decide) rfl (by decide) ?_
  refine lv_iload_n hx hb gX12_hasOwn_2.2.2.2.2.2.2.2.2.1 rfl (lv_at1 hl) ?_
  refine lv_if_eq (tgt := 89) hx hb gX12_hasOwn_2.2.2.2.2.2.2.2.2.2 (by decide) (fun _ => ?_) (fun c9 => absurd (by decide) c9)
  refine lv_iconst (v := 1) hx hb gX12_hasOwn_3.2.2.2.1 (by decide) ?_
  refine lv_goto (tgt := 94) hx hb gX12_hasOwn_3.2.2.2.2.1 (by decide) ?_
  refine toQ hQ0 ?_
  exact RP (v := 1) hC (rfl) (by decide +kernel) gX12_hasOwn_3.2.2.2.2.2.2.1
def K_m_hasOwn41 (l : Launch) (G : GG) : Prop := MP l G yX12_hasOwn cX12_hasOwn 2 (some .boolean) 1 [.int 4, .int 1] [] (fun r : Int32 => r = 0)
set_option maxHeartbeats 4000000 in
set_option maxRecDepth 100000 in
theorem m_hasOwn41 (l : Launch) (G : GG) : K_m_hasOwn41 l G := by
  refine MP.start (by decide +kernel) (Nat.le_of_ble_eq_true rfl) ?_
  intro p e s m below meth c ls hC hK hP hD hl
  refine absQ (fun Q0 hQ0 => ?_)
  have hl : lv_has ls 2 [(0, .int 4), (1, .int 1)] := hl
  refine Kan8 hC (fun hx hb hr hml hB hown hlocks hnm => ?_)
  refine lv_iload_n hx hb gX12_hasOwn_0.1 rfl (lv_at0 hl) ?_
  refine lv_tableIn (tgt := 80) hx hb gX12_hasOwn_0.2.1 (by decide) (by decide) rfl (by decide) ?_
  refine lv_iload_n hx hb gX12_hasOwn_2.2.2.2.2.2.2.2.2.1 rfl (lv_at1 hl) ?_
  refine lv_if_eq (tgt := 89) hx hb gX12_hasOwn_2.2.2.2.2.2.2.2.2.2 (by decide) (fun c9 => absurd c9 (by decide)) (fun _ => ?_)
  refine lv_iload_n hx hb gX12_hasOwn_3.1 rfl (lv_at1 hl) ?_
  refine lv_iconst (v := 2) hx hb gX12_hasOwn_3.2.1 (by decide) ?_
  refine lv_icmp_ne (tgt := 93) hx hb gX12_hasOwn_3.2.2.1 (by decide) (fun _ => ?_) (fun c9 => absurd c9 (by decide))
  refine lv_iconst (v := 0) hx hb gX12_hasOwn_3.2.2.2.2.2.1 (by decide) ?_
  refine toQ hQ0 ?_
  exact RP (v := 0) hC (rfl) (by decide +kernel) gX12_hasOwn_3.2.2.2.2.2.2.1
def K_m_hasOwn42 (l : Launch) (G : GG) : Prop := MP l G yX12_hasOwn cX12_hasOwn 2 (some .boolean) 1 [.int 4, .int 2] [] (fun r : Int32 => r = 1)
set_option maxHeartbeats 4000000 in
set_option maxRecDepth 100000 in
theorem m_hasOwn42 (l : Launch) (G : GG) : K_m_hasOwn42 l G := by
  refine MP.start (by decide +kernel) (Nat.le_of_ble_eq_true rfl) ?_
  intro p e s m below meth c ls hC hK hP hD hl
  refine absQ (fun Q0 hQ0 => ?_)
  have hl : lv_has ls 2 [(0, .int 4), (1, .int 2)] := hl
  refine Kan8 hC (fun hx hb hr hml hB hown hlocks hnm => ?_)
  refine lv_iload_n hx hb gX12_hasOwn_0.1 rfl (lv_at0 hl) ?_
  refine lv_tableIn (tgt := 80) hx hb gX12_hasOwn_0.2.1 (by decide) (by decide) rfl (by decide) ?_
  refine lv_iload_n hx hb gX12_hasOwn_2.2.2.2.2.2.2.2.2.1 rfl (lv_at1 hl) ?_
  refine lv_if_eq (tgt := 89) hx hb gX12_hasOwn_2.2.2.2.2.2.2.2.2.2 (by decide) (fun c9 => absurd c9 (by decide)) (fun _ => ?_)
  refine lv_iload_n hx hb gX12_hasOwn_3.1 rfl (lv_at1 hl) ?_
  refine lv_iconst (v := 2) hx hb gX12_hasOwn_3.2.1 (by decide) ?_
  refine lv_icmp_ne (tgt := 93) hx hb gX12_hasOwn_3.2.2.1 (by decide) (fun c9 => absurd (by decide) c9) (fun _ => ?_)
  refine lv_iconst (v := 1) hx hb gX12_hasOwn_3.2.2.2.1 (by decide) ?_
  refine lv_goto (tgt := 94) hx hb gX12_hasOwn_3.2.2.2.2.1 (by decide) ?_
  refine toQ hQ0 ?_
  exact RP (v := 1) hC (rfl) (by decide +kernel) gX12_hasOwn_3.2.2.2.2.2.2.1
def K_m_hasOwn43 (l : Launch) (G : GG) : Prop := MP l G yX12_hasOwn cX12_hasOwn 2 (some .boolean) 1 [.int 4, .int 3] [] (fun r : Int32 => r = 0)
set_option maxHeartbeats 4000000 in
set_option maxRecDepth 100000 in
theorem m_hasOwn43 (l : Launch) (G : GG) : K_m_hasOwn43 l G := by
  refine MP.start (by decide +kernel) (Nat.le_of_ble_eq_true rfl) ?_
  intro p e s m below meth c ls hC hK hP hD hl
  refine absQ (fun Q0 hQ0 => ?_)
  have hl : lv_has ls 2 [(0, .int 4), (1, .int 3)] := hl
  refine Kan8 hC (fun hx hb hr hml hB hown hlocks hnm => ?_)
  refine lv_iload_n hx hb gX12_hasOwn_0.1 rfl (lv_at0 hl) ?_
  refine lv_tableIn (tgt := 80) hx hb gX12_hasOwn_0.2.1 (by decide) (by decide) rfl (by decide) ?_
  refine lv_iload_n hx hb gX12_hasOwn_2.2.2.2.2.2.2.2.2.1 rfl (lv_at1 hl) ?_
  refine lv_if_eq (tgt := 89) hx hb gX12_hasOwn_2.2.2.2.2.2.2.2.2.2 (by decide) (fun c9 => absurd c9 (by decide)) (fun _ => ?_)
  refine lv_iload_n hx hb gX12_hasOwn_3.1 rfl (lv_at1 hl) ?_
  refine lv_iconst (v := 2) hx hb gX12_hasOwn_3.2.1 (by decide) ?_
  refine lv_icmp_ne (tgt := 93) hx hb gX12_hasOwn_3.2.2.1 (by decide) (fun _ => ?_) (fun c9 => absurd c9 (by decide))
  refine lv_iconst (v := 0) hx hb gX12_hasOwn_3.2.2.2.2.2.1 (by decide) ?_
  refine toQ hQ0 ?_
  exact RP (v := 0) hC (rfl) (by decide +kernel) gX12_hasOwn_3.2.2.2.2.2.2.1
def K_m_hasOwn50 (l : Launch) (G : GG) : Prop := MP l G yX12_hasOwn cX12_hasOwn 2 (some .boolean) 1 [.int 5, .int 0] [] (fun r : Int32 => r = 1)
set_option maxHeartbeats 4000000 in
set_option maxRecDepth 100000 in
theorem m_hasOwn50 (l : Launch) (G : GG) : K_m_hasOwn50 l G := by
  refine MP.start (by decide +kernel) (Nat.le_of_ble_eq_true rfl) ?_
  intro p e s m below meth c ls hC hK hP hD hl
  refine absQ (fun Q0 hQ0 => ?_)
  have hl : lv_has ls 2 [(0, .int 5), (1, .int 0)] := hl
  refine Kan8 hC (fun hx hb hr hml hB hown hlocks hnm => ?_)
  refine lv_iload_n hx hb gX12_hasOwn_0.1 rfl (lv_at0 hl) ?_
  refine lv_tableIn (tgt := 80) hx hb gX12_hasOwn_0.2.1 (by decide) (by decide) rfl (by decide) ?_
  refine lv_iload_n hx hb gX12_hasOwn_2.2.2.2.2.2.2.2.2.1 rfl (lv_at1 hl) ?_
  refine lv_if_eq (tgt := 89) hx hb gX12_hasOwn_2.2.2.2.2.2.2.2.2.2 (by decide) (fun _ => ?_) (fun c9 => absurd (by decide) c9)
  refine lv_iconst (v := 1) hx hb gX12_hasOwn_3.2.2.2.1 (by decide) ?_
  refine lv_goto (tgt := 94) hx hb gX12_hasOwn_3.2.2.2.2.1 (by decide) ?_
  refine toQ hQ0 ?_
  exact RP (v := 1) hC (rfl) (by decide +kernel) gX12_hasOwn_3.2.2.2.2.2.2.1
def K_m_hasOwn51 (l : Launch) (G : GG) : Prop := MP l G yX12_hasOwn cX12_hasOwn 2 (some .boolean) 1 [.int 5, .int 1] [] (fun r : Int32 => r = 0)
set_option maxHeartbeats 4000000 in
set_option maxRecDepth 100000 in
theorem m_hasOwn51 (l : Launch) (G : GG) : K_m_hasOwn51 l G := by
  refine MP.start (by decide +kernel) (Nat.le_of_ble_eq_true rfl) ?_
  intro p e s m below meth c ls hC hK hP hD hl
  refine absQ (fun Q0 hQ0 => ?_)
  have hl : lv_has ls 2 [(0, .int 5), (1, .int 1)] := hl
  refine Kan8 hC (fun hx hb hr hml hB hown hlocks hnm => ?_)
  refine lv_iload_n hx hb gX12_hasOwn_0.1 rfl (lv_at0 hl) ?_
  refine lv_tableIn (tgt := 80) hx hb gX12_hasOwn_0.2.1 (by decide) (by decide) rfl (by decide) ?_
  refine lv_iload_n hx hb gX12_hasOwn_2.2.2.2.2.2.2.2.2.1 rfl (lv_at1 hl) ?_
  refine lv_if_eq (tgt := 89) hx hb gX12_hasOwn_2.2.2.2.2.2.2.2.2.2 (by decide) (fun c9 => absurd c9 (by decide)) (fun _ => ?_)
  refine lv_iload_n hx hb gX12_hasOwn_3.1 rfl (lv_at1 hl) ?_
  refine lv_iconst (v := 2) hx hb gX12_hasOwn_3.2.1 (by decide) ?_
  refine lv_icmp_ne (tgt := 93) hx hb gX12_hasOwn_3.2.2.1 (by decide) (fun _ => ?_) (fun c9 => absurd c9 (by decide))
  refine lv_iconst (v := 0) hx hb gX12_hasOwn_3.2.2.2.2.2.1 (by decide) ?_
  refine toQ hQ0 ?_
  exact RP (v := 0) hC (rfl) (by decide +kernel) gX12_hasOwn_3.2.2.2.2.2.2.1
def K_m_hasOwn52 (l : Launch) (G : GG) : Prop := MP l G yX12_hasOwn cX12_hasOwn 2 (some .boolean) 1 [.int 5, .int 2] [] (fun r : Int32 => r = 1)
set_option maxHeartbeats 4000000 in
set_option maxRecDepth 100000 in
theorem m_hasOwn52 (l : Launch) (G : GG) : K_m_hasOwn52 l G := by
  refine MP.start (by decide +kernel) (Nat.le_of_ble_eq_true rfl) ?_
  intro p e s m below meth c ls hC hK hP hD hl
  refine absQ (fun Q0 hQ0 => ?_)
  have hl : lv_has ls 2 [(0, .int 5), (1, .int 2)] := hl
  refine Kan8 hC (fun hx hb hr hml hB hown hlocks hnm => ?_)
  refine lv_iload_n hx hb gX12_hasOwn_0.1 rfl (lv_at0 hl) ?_
  refine lv_tableIn (tgt := 80) hx hb gX12_hasOwn_0.2.1 (by decide) (by decide) rfl (by decide) ?_
  refine lv_iload_n hx hb gX12_hasOwn_2.2.2.2.2.2.2.2.2.1 rfl (lv_at1 hl) ?_
  refine lv_if_eq (tgt := 89) hx hb gX12_hasOwn_2.2.2.2.2.2.2.2.2.2 (by decide) (fun c9 => absurd c9 (by decide)) (fun _ => ?_)
  refine lv_iload_n hx hb gX12_hasOwn_3.1 rfl (lv_at1 hl) ?_
  refine lv_iconst (v := 2) hx hb gX12_hasOwn_3.2.1 (by decide) ?_
  refine lv_icmp_ne (tgt := 93) hx hb gX12_hasOwn_3.2.2.1 (by decide) (fun c9 => absurd (by decide) c9) (fun _ => ?_)
  refine lv_iconst (v := 1) hx hb gX12_hasOwn_3.2.2.2.1 (by decide) ?_
  refine lv_goto (tgt := 94) hx hb gX12_hasOwn_3.2.2.2.2.1 (by decide) ?_
  refine toQ hQ0 ?_
  exact RP (v := 1) hC (rfl) (by decide +kernel) gX12_hasOwn_3.2.2.2.2.2.2.1
def K_m_hasOwn53 (l : Launch) (G : GG) : Prop := MP l G yX12_hasOwn cX12_hasOwn 2 (some .boolean) 1 [.int 5, .int 3] [] (fun r : Int32 => r = 0)
set_option maxHeartbeats 4000000 in
set_option maxRecDepth 100000 in
theorem m_hasOwn53 (l : Launch) (G : GG) : K_m_hasOwn53 l G := by
  refine MP.start (by decide +kernel) (Nat.le_of_ble_eq_true rfl) ?_
  intro p e s m below meth c ls hC hK hP hD hl
  refine absQ (fun Q0 hQ0 => ?_)
  have hl : lv_has ls 2 [(0, .int 5), (1, .int 3)] := hl
  refine Kan8 hC (fun hx hb hr hml hB hown hlocks hnm => ?_)
  refine lv_iload_n hx hb gX12_hasOwn_0.1 rfl (lv_at0 hl) ?_
  refine lv_tableIn (tgt := 80) hx hb gX12_hasOwn_0.2.1 (by decide) (by decide) rfl (by decide) ?_
  refine lv_iload_n hx hb gX12_hasOwn_2.2.2.2.2.2.2.2.2.1 rfl (lv_at1 hl) ?_
  refine lv_if_eq (tgt := 89) hx hb gX12_hasOwn_2.2.2.2.2.2.2.2.2.2 (by decide) (fun c9 => absurd c9 (by decide)) (fun _ => ?_)
  refine lv_iload_n hx hb gX12_hasOwn_3.1 rfl (lv_at1 hl) ?_
  refine lv_iconst (v := 2) hx hb gX12_hasOwn_3.2.1 (by decide) ?_
  refine lv_icmp_ne (tgt := 93) hx hb gX12_hasOwn_3.2.2.1 (by decide) (fun _ => ?_) (fun c9 => absurd c9 (by decide))
  refine lv_iconst (v := 0) hx hb gX12_hasOwn_3.2.2.2.2.2.1 (by decide) ?_
  refine toQ hQ0 ?_
  exact RP (v := 0) hC (rfl) (by decide +kernel) gX12_hasOwn_3.2.2.2.2.2.2.1
def K_m_hasOwn60 (l : Launch) (G : GG) : Prop := MP l G yX12_hasOwn cX12_hasOwn 2 (some .boolean) 1 [.int 6, .int 0] [] (fun r : Int32 => r = 0)
set_option maxHeartbeats 4000000 in
set_option maxRecDepth 100000 in
theorem m_hasOwn60 (l : Launch) (G : GG) : K_m_hasOwn60 l G := by
  refine MP.start (by decide +kernel) (Nat.le_of_ble_eq_true rfl) ?_
  intro p e s m below meth c ls hC hK hP hD hl
  refine absQ (fun Q0 hQ0 => ?_)
  have hl : lv_has ls 2 [(0, .int 6), (1, .int 0)] := hl
  refine Kan8 hC (fun hx hb hr hml hB hown hlocks hnm => ?_)
  refine lv_iload_n hx hb gX12_hasOwn_0.1 rfl (lv_at0 hl) ?_
  refine lv_tableOut (tgt := 95) hx hb gX12_hasOwn_0.2.1 (by decide) (by decide) ?_
  refine lv_iload_n hx hb gX12_hasOwn_3.2.2.2.2.2.2.2.1 rfl (lv_at1 hl) ?_
  refine lv_iconst (v := 3) hx hb gX12_hasOwn_3.2.2.2.2.2.2.2.2.1 (by decide) ?_
  refine lv_icmp_ne (tgt := 104) hx hb gX12_hasOwn_3.2.2.2.2.2.2.2.2.2 (by decide) (fun _ => ?_) (fun c9 => absurd c9 (by decide))
  refine lv_iconst (v := 0) hx hb gX12_hasOwn_4.2.2.1 (by decide) ?_
  refine toQ hQ0 ?_
  exact RP (v := 0) hC (rfl) (by decide +kernel) gX12_hasOwn_4.2.2.2
def K_m_hasOwn61 (l : Launch) (G : GG) : Prop := MP l G yX12_hasOwn cX12_hasOwn 2 (some .boolean) 1 [.int 6, .int 1] [] (fun r : Int32 => r = 0)
set_option maxHeartbeats 4000000 in
set_option maxRecDepth 100000 in
theorem m_hasOwn61 (l : Launch) (G : GG) : K_m_hasOwn61 l G := by
  refine MP.start (by decide +kernel) (Nat.le_of_ble_eq_true rfl) ?_
  intro p e s m below meth c ls hC hK hP hD hl
  refine absQ (fun Q0 hQ0 => ?_)
  have hl : lv_has ls 2 [(0, .int 6), (1, .int 1)] := hl
  refine Kan8 hC (fun hx hb hr hml hB hown hlocks hnm => ?_)
  refine lv_iload_n hx hb gX12_hasOwn_0.1 rfl (lv_at0 hl) ?_
  refine lv_tableOut (tgt := 95) hx hb gX12_hasOwn_0.2.1 (by decide) (by decide) ?_
  refine lv_iload_n hx hb gX12_hasOwn_3.2.2.2.2.2.2.2.1 rfl (lv_at1 hl) ?_
  refine lv_iconst (v := 3) hx hb gX12_hasOwn_3.2.2.2.2.2.2.2.2.1 (by decide) ?_
  refine lv_icmp_ne (tgt := 104) hx hb gX12_hasOwn_3.2.2.2.2.2.2.2.2.2 (by decide) (fun _ => ?_) (fun c9 => absurd c9 (by decide))
  refine lv_iconst (v := 0) hx hb gX12_hasOwn_4.2.2.1 (by decide) ?_
  refine toQ hQ0 ?_
  exact RP (v := 0) hC (rfl) (by decide +kernel) gX12_hasOwn_4.2.2.2
def K_m_hasOwn62 (l : Launch) (G : GG) : Prop := MP l G yX12_hasOwn cX12_hasOwn 2 (some .boolean) 1 [.int 6, .int 2] [] (fun r : Int32 => r = 0)
set_option maxHeartbeats 4000000 in
set_option maxRecDepth 100000 in
theorem m_hasOwn62 (l : Launch) (G : GG) : K_m_hasOwn62 l G := by
  refine MP.start (by decide +kernel) (Nat.le_of_ble_eq_true rfl) ?_
  intro p e s m below meth c ls hC hK hP hD hl
  refine absQ (fun Q0 hQ0 => ?_)
  have hl : lv_has ls 2 [(0, .int 6), (1, .int 2)] := hl
  refine Kan8 hC (fun hx hb hr hml hB hown hlocks hnm => ?_)
  refine lv_iload_n hx hb gX12_hasOwn_0.1 rfl (lv_at0 hl) ?_
  refine lv_tableOut (tgt := 95) hx hb gX12_hasOwn_0.2.1 (by decide) (by decide) ?_
  refine lv_iload_n hx hb gX12_hasOwn_3.2.2.2.2.2.2.2.1 rfl (lv_at1 hl) ?_
  refine lv_iconst (v := 3) hx hb gX12_hasOwn_3.2.2.2.2.2.2.2.2.1 (by decide) ?_
  refine lv_icmp_ne (tgt := 104) hx hb gX12_hasOwn_3.2.2.2.2.2.2.2.2.2 (by decide) (fun _ => ?_) (fun c9 => absurd c9 (by decide))
  refine lv_iconst (v := 0) hx hb gX12_hasOwn_4.2.2.1 (by decide) ?_
  refine toQ hQ0 ?_
  exact RP (v := 0) hC (rfl) (by decide +kernel) gX12_hasOwn_4.2.2.2
def K_m_hasOwn63 (l : Launch) (G : GG) : Prop := MP l G yX12_hasOwn cX12_hasOwn 2 (some .boolean) 1 [.int 6, .int 3] [] (fun r : Int32 => r = 1)
set_option maxHeartbeats 4000000 in
set_option maxRecDepth 100000 in
theorem m_hasOwn63 (l : Launch) (G : GG) : K_m_hasOwn63 l G := by
  refine MP.start (by decide +kernel) (Nat.le_of_ble_eq_true rfl) ?_
  intro p e s m below meth c ls hC hK hP hD hl
  refine absQ (fun Q0 hQ0 => ?_)
  have hl : lv_has ls 2 [(0, .int 6), (1, .int 3)] := hl
  refine Kan8 hC (fun hx hb hr hml hB hown hlocks hnm => ?_)
  refine lv_iload_n hx hb gX12_hasOwn_0.1 rfl (lv_at0 hl) ?_
  refine lv_tableOut (tgt := 95) hx hb gX12_hasOwn_0.2.1 (by decide) (by decide) ?_
  refine lv_iload_n hx hb gX12_hasOwn_3.2.2.2.2.2.2.2.1 rfl (lv_at1 hl) ?_
  refine lv_iconst (v := 3) hx hb gX12_hasOwn_3.2.2.2.2.2.2.2.2.1 (by decide) ?_
  refine lv_icmp_ne (tgt := 104) hx hb gX12_hasOwn_3.2.2.2.2.2.2.2.2.2 (by decide) (fun c9 => absurd (by decide) c9) (fun _ => ?_)
  refine lv_iconst (v := 1) hx hb gX12_hasOwn_4.1 (by decide) ?_
  refine lv_goto (tgt := 105) hx hb gX12_hasOwn_4.2.1 (by decide) ?_
  refine toQ hQ0 ?_
  exact RP (v := 1) hC (rfl) (by decide +kernel) gX12_hasOwn_4.2.2.2
def K_m_kindOnX (l : Launch) (G : GG) (kq : Nat) (k8 : Nat) (k9 : Nat) (h0 : Nat) (jt : Nat) (nw : Nat) (nk : Nat) (mhasKept : Int32) (nt : Nat) (mtaped : Int32) (nr : Nat) (mrowMany : Int32) (mroundOf : Int32) (mroundFrom : Int32) (mouts : Int32) (nm : Nat) (mfromHour : Int32) (mtoHour : Int32) (ns : Nat) (mfrom : Int32) (mto : Int32) (msort : Int32) (misFault : Int32) (mdeep : Int32) (mcoded : Int32) (mlines : Int32) (nl : Nat) (nc : Nat) (nF : Nat) (np : Nat) (ntr : Nat) (nb : Nat) (mbestCost : Int32) (nso : Nat) (nsi : Nat) (nit : Nat) (nsh : Nat) (nsf : Nat) (nss : Nat) (nrc : Nat) (mtraced : Int32) (mdealer : Int32) (mnumber : Int32) (mwhose : Int32) (msize : Int32) (misParted : Int32) (fnw : Nat → Int32) (fnsh : Nat → Int32) (fnsf : Nat → Int32) : Prop := MP l G yX12_kindOn cX12_kindOn 4 (some .int) 3 [.ref h0, .int (nI jt)] [(h0, oX12 nw nk mhasKept nt mtaped nr mrowMany mroundOf mroundFrom mouts nm mfromHour mtoHour ns mfrom mto msort misFault mdeep mcoded mlines nl nc nF np ntr nb mbestCost nso nsi nit nsh nsf nss nrc mtraced mdealer mnumber mwhose msize misParted), (nw, iA G 1662 fnw), (nsh, iA G 4 fnsh), (nsf, iA G 4 fnsf)] (fun r : Int32 => (r = (-1) ∧ KOM (fnsh jt) (fnsf jt) kq k8 k9 (shf fnw 32) (shf fnw 1424) = (-1)) ∨ (r = 1 ∧ KOM (fnsh jt) (fnsf jt) kq k8 k9 (shf fnw 32) (shf fnw 1424) = 1) ∨ (r = 2 ∧ KOM (fnsh jt) (fnsf jt) kq k8 k9 (shf fnw 32) (shf fnw 1424) = 2) ∨ (r = 3 ∧ KOM (fnsh jt) (fnsf jt) kq k8 k9 (shf fnw 32) (shf fnw 1424) = 3) ∨ (r = 4 ∧ KOM (fnsh jt) (fnsf jt) kq k8 k9 (shf fnw 32) (shf fnw 1424) = 4) ∨ (r = 5 ∧ KOM (fnsh jt) (fnsf jt) kq k8 k9 (shf fnw 32) (shf fnw 1424) = 5) ∨ (r = 6 ∧ KOM (fnsh jt) (fnsf jt) kq k8 k9 (shf fnw 32) (shf fnw 1424) = 6))
set_option maxHeartbeats 4000000 in
set_option maxRecDepth 100000 in
theorem m_kindOnX (l : Launch) (G : GG) (kq : Nat) (k8 : Nat) (k9 : Nat) (h0 : Nat) (jt : Nat) (nw : Nat) (nk : Nat) (mhasKept : Int32) (nt : Nat) (mtaped : Int32) (nr : Nat) (mrowMany : Int32) (mroundOf : Int32) (mroundFrom : Int32) (mouts : Int32) (nm : Nat) (mfromHour : Int32) (mtoHour : Int32) (ns : Nat) (mfrom : Int32) (mto : Int32) (msort : Int32) (misFault : Int32) (mdeep : Int32) (mcoded : Int32) (mlines : Int32) (nl : Nat) (nc : Nat) (nF : Nat) (np : Nat) (ntr : Nat) (nb : Nat) (mbestCost : Int32) (nso : Nat) (nsi : Nat) (nit : Nat) (nsh : Nat) (nsf : Nat) (nss : Nat) (nrc : Nat) (mtraced : Int32) (mdealer : Int32) (mnumber : Int32) (mwhose : Int32) (msize : Int32) (misParted : Int32) (fnw : Nat → Int32) (fnsh : Nat → Int32) (fnsf : Nat → Int32) (hjt : jt < 4) (ekq : fnw 5 = nI kq) (hkq : kq ≤ 12) (ek8 : fnw 8 = nI k8) (hk8 : k8 ≤ 16) (ek9 : fnw 9 = nI k9) (hk9 : k9 ≤ 12) (hN : NI fnw) : K_m_kindOnX l G kq k8 k9 h0 jt nw nk mhasKept nt mtaped nr mrowMany mroundOf mroundFrom mouts nm mfromHour mtoHour ns mfrom mto msort misFault mdeep mcoded mlines nl nc nF np ntr nb mbestCost nso nsi nit nsh nsf nss nrc mtraced mdealer mnumber mwhose msize misParted fnw fnsh fnsf := by
  refine MP.start (by decide +kernel) (Nat.le_of_ble_eq_true rfl) ?_
  intro p e s m below meth c ls hC hK hP hD hl
  refine absQ (fun Q0 hQ0 => ?_)
  have hl : lv_has ls 4 [(0, .ref h0), (1, .int (nI jt))] := hl
  refine Kan8 hC (fun hx hb hr hml hB hown hlocks hnm => ?_)
  refine lv_aload_n hx hb gX12_kindOn_0.1 rfl (lv_at0 hl) ?_
  refine gf_X12_75 hC rfl hK hP 0 rfl rfl gX12_kindOn_0.2.1 ?_
  refine lv_iload_n hx hb gX12_kindOn_0.2.2.1 rfl (lv_at1 hl) ?_
  refine aldN hC hK hP 3 rfl (k := jt) (by omega) (Nat.le_of_ble_eq_true rfl) (v := fnsf jt) rfl gX12_kindOn_0.2.2.2.1 ?_
  refine lv_istore_n (lv' := [(2, .int (fnsf jt)), (0, .ref h0), (1, .int (nI jt))]) hx hb gX12_kindOn_0.2.2.2.2.1 rfl hl (by decide) rfl (fun ls hl => ?_)
  refine lv_aload_n hx hb gX12_kindOn_0.2.2.2.2.2.1 rfl (lv_at1 hl) ?_
  refine gf_X12_72 hC rfl hK hP 0 rfl rfl gX12_kindOn_0.2.2.2.2.2.2.1 ?_
  refine lv_iload_n hx hb gX12_kindOn_0.2.2.2.2.2.2.2.1 rfl (lv_at2 hl) ?_
  refine aldN hC hK hP 2 rfl (k := jt) (by omega) (Nat.le_of_ble_eq_true rfl) (v := fnsh jt) rfl gX12_kindOn_0.2.2.2.2.2.2.2.2.1 ?_
  by_cases c_13_6515 : fnsh jt = 1
  · refine lv_tableIn (tgt := 40) hx hb gX12_kindOn_0.2.2.2.2.2.2.2.2.2 (by rw [c_13_6515]; decide) (by rw [c_13_6515]; decide) (by rw [c_13_6515]; rfl) (by decide) ?_
    refine lv_aload_n hx hb gX12_kindOn_1.1 rfl (lv_at1 hl) ?_
    refine lv_iload_n hx hb gX12_kindOn_1.2.1 rfl (lv_at0 hl) ?_
    refine lv_iconst (v := 5) hx hb gX12_kindOn_1.2.2.1 (by decide) ?_
    refine pV hC hK hl hP hD (m_is l G kq h0 (fnsf jt) 5 nw nk mhasKept nt mtaped nr mrowMany mroundOf mroundFrom mouts nm mfromHour mtoHour ns mfrom mto msort misFault mdeep mcoded mlines nl nc nF np ntr nb mbestCost nso nsi nit nsh nsf nss nrc mtraced mdealer mnumber mwhose msize misParted fnw (by omega) (ekq) (by omega)) si_X12_120 [0, 1] sm_0_1 fm_0_1 nd_0_1 rfl rfl rfl rfl rfl (Nat.le_of_ble_eq_true rfl) rm_3_2_3 ⟨by first | exact Nat.le_of_ble_eq_true rfl | exact Nat.zero_le _, by first | exact Nat.le_of_ble_eq_true rfl | exact Nat.zero_le _⟩ gX12_kindOn_1.2.2.2.1 (Kors (Keqa fun a6517 => ?_) (Keqa fun a6517 => ?_))
    · refine lv_if_eq (tgt := 73) hx hb gX12_kindOn_1.2.2.2.2.1 (by decide) (fun c9 => absurd c9 (by decide)) (fun _ => ?_)
      refine lv_aload_n hx hb gX12_kindOn_1.2.2.2.2.2.1 rfl (lv_at1 hl) ?_
      refine lv_iload_n hx hb gX12_kindOn_1.2.2.2.2.2.2.1 rfl (lv_at0 hl) ?_
      obtain ⟨jn6518, hjn6518, ekjn6518⟩ := Hs_nat (by omega) a6517
      refine eqi (x1 := nI jn6518) ekjn6518 ?_
      refine lv_iconst (v := 1) hx hb gX12_kindOn_1.2.2.2.2.2.2.2.1 (by decide) ?_
      refine pV hC hK hl hP hD (m_paper l G h0 jn6518 1 nw nk mhasKept nt mtaped nr mrowMany mroundOf mroundFrom mouts nm mfromHour mtoHour ns mfrom mto msort misFault mdeep mcoded mlines nl nc nF np ntr nb mbestCost nso nsi nit nsh nsf nss nrc mtraced mdealer mnumber mwhose msize misParted fnw (by omega) (by omega)) si_X12_88 [0, 1] sm_0_1 fm_0_1 nd_0_1 rfl rfl rfl rfl rfl (Nat.le_of_ble_eq_true rfl) rm_3_1_3 ⟨by first | exact Nat.le_of_ble_eq_true rfl | exact Nat.zero_le _, by first | exact Nat.le_of_ble_eq_true rfl | exact Nat.zero_le _⟩ gX12_kindOn_1.2.2.2.2.2.2.2.2.1 (Keqr ?_)
      refine lv_iconst (v := 1) hx hb gX12_kindOn_1.2.2.2.2.2.2.2.2.2 (by decide) ?_
      refine lv_aload_n hx hb gX12_kindOn_2.1 rfl (lv_at1 hl) ?_
      refine lv_iload_n hx hb gX12_kindOn_2.2.1 rfl (lv_at0 hl) ?_
      refine eqi (x1 := nI jn6518) ekjn6518 ?_
      refine lv_iconst (v := 0) hx hb gX12_kindOn_2.2.2.1 (by decide) ?_
      refine pV hC hK hl hP hD (m_paper l G h0 jn6518 0 nw nk mhasKept nt mtaped nr mrowMany mroundOf mroundFrom mouts nm mfromHour mtoHour ns mfrom mto msort misFault mdeep mcoded mlines nl nc nF np ntr nb mbestCost nso nsi nit nsh nsf nss nrc mtraced mdealer mnumber mwhose msize misParted fnw (by omega) (by omega)) si_X12_88 [0, 1] sm_0_1 fm_0_1 nd_0_1 rfl rfl rfl rfl rfl (Nat.le_of_ble_eq_true rfl) rm_3_1_3 ⟨by first | exact Nat.le_of_ble_eq_true rfl | exact Nat.zero_le _, by first | exact Nat.le_of_ble_eq_true rfl | exact Nat.zero_le _⟩ gX12_kindOn_2.2.2.2.1 (Keqr ?_)
      refine lv_ishl hx hb gX12_kindOn_2.2.2.2.2.1 ?_
      refine lv_iconst (v := (-1)) hx hb gX12_kindOn_2.2.2.2.2.2.1 (by decide) ?_
      refine lv_ixor hx hb gX12_kindOn_2.2.2.2.2.2.2.1 ?_
      refine lv_iand hx hb gX12_kindOn_2.2.2.2.2.2.2.2.1 ?_
      refine lv_if_eq (tgt := 73) hx hb gX12_kindOn_2.2.2.2.2.2.2.2.2.1 (by decide) (fun c_66_6523 => ?_) (fun c_66_6523 => ?_)
      · refine lv_iconst (v := 0) hx hb gX12_kindOn_3.2.1 (by decide) ?_
        refine lv_istore_n (lv' := [(3, .int 0), (2, .int (fnsf jt)), (0, .ref h0), (1, .int (nI jt))]) hx hb gX12_kindOn_3.2.2.1 rfl hl (by decide) rfl (fun ls hl => ?_)
        refine lv_aload_n hx hb gX12_kindOn_3.2.2.2.1 rfl (lv_at2 hl) ?_
        refine lv_iload_n hx hb gX12_kindOn_3.2.2.2.2.1 rfl (lv_at1 hl) ?_
        refine lv_iconst (v := 5) hx hb gX12_kindOn_3.2.2.2.2.2.1 (by decide) ?_
        refine pV hC hK hl hP hD (m_is l G kq h0 (fnsf jt) 5 nw nk mhasKept nt mtaped nr mrowMany mroundOf mroundFrom mouts nm mfromHour mtoHour ns mfrom mto msort misFault mdeep mcoded mlines nl nc nF np ntr nb mbestCost nso nsi nit nsh nsf nss nrc mtraced mdealer mnumber mwhose msize misParted fnw (by omega) (ekq) (by omega)) si_X12_120 [0, 1] sm_0_1 fm_0_1 nd_0_1 rfl rfl rfl rfl rfl (Nat.le_of_ble_eq_true rfl) rm_3_2_3 ⟨by first | exact Nat.le_of_ble_eq_true rfl | exact Nat.zero_le _, by first | exact Nat.le_of_ble_eq_true rfl | exact Nat.zero_le _⟩ gX12_kindOn_3.2.2.2.2.2.2.1 (Kors (Keqa fun a6525 => ?_) (Keqa fun a6525 => ?_))
        · refine lv_if_ne (tgt := 88) hx hb gX12_kindOn_3.2.2.2.2.2.2.2.1 (by decide) (fun _ => ?_) (fun c9 => absurd c9 (by decide))
          refine lv_iload_n hx hb gX12_kindOn_4.1 rfl (lv_at0 hl) ?_
          refine lv_if_ne (tgt := 96) hx hb gX12_kindOn_4.2.1 (by decide) (fun c9 => absurd (by decide) c9) (fun _ => ?_)
          refine lv_iconst (v := 2) hx hb gX12_kindOn_4.2.2.1 (by decide) ?_
          refine lv_goto (tgt := 110) hx hb gX12_kindOn_4.2.2.2.1 (by decide) ?_
          refine toQ hQ0 ?_
          exact RP (v := 2) hC (Or.inr (Or.inr (Or.inl (⟨rfl, (by unfold KOM; simp only [ifc_t hjt, ifc_t ekq, ifc_t hkq, ifc_t ek8, ifc_t hk8, ifc_t ek9, ifc_t hk9, ifc_t hN, ifc_t c_13_6515, ifc_t a6525, ifc_t c_66_6523, ifc_f (q := fnsh jt = 2) (by rw [c_13_6515]; decide), ifc_f (q := fnsh jt = 3) (by rw [c_13_6515]; decide)]; unfold PKn; rw [show shf fnw 32 ((fnsf jt).toNatClampNeg * 6 + 1) = fnw (32 + 6 * jn6518 + 1) from congrArg fnw (by rw [ekjn6518, nI_clamp (n := jn6518) (by omega)]; omega), show shf fnw 32 ((fnsf jt).toNatClampNeg * 6 + 0) = fnw (32 + 6 * jn6518 + 0) from congrArg fnw (by rw [ekjn6518, nI_clamp (n := jn6518) (by omega)]; omega), ifn_t c_66_6523]; first | done | rfl)⟩)))) rfl gX12_kindOn_5.2.2.1
        · exact absurd a6517 a6525
      · refine lv_iconst (v := 1) hx hb gX12_kindOn_2.2.2.2.2.2.2.2.2.2 (by decide) ?_
        refine lv_goto (tgt := 74) hx hb gX12_kindOn_3.1 (by decide) ?_
        refine lv_istore_n (lv' := [(3, .int 1), (2, .int (fnsf jt)), (0, .ref h0), (1, .int (nI jt))]) hx hb gX12_kindOn_3.2.2.1 rfl hl (by decide) rfl (fun ls hl => ?_)
        refine lv_aload_n hx hb gX12_kindOn_3.2.2.2.1 rfl (lv_at2 hl) ?_
        refine lv_iload_n hx hb gX12_kindOn_3.2.2.2.2.1 rfl (lv_at1 hl) ?_
        refine lv_iconst (v := 5) hx hb gX12_kindOn_3.2.2.2.2.2.1 (by decide) ?_
        refine pV hC hK hl hP hD (m_is l G kq h0 (fnsf jt) 5 nw nk mhasKept nt mtaped nr mrowMany mroundOf mroundFrom mouts nm mfromHour mtoHour ns mfrom mto msort misFault mdeep mcoded mlines nl nc nF np ntr nb mbestCost nso nsi nit nsh nsf nss nrc mtraced mdealer mnumber mwhose msize misParted fnw (by omega) (ekq) (by omega)) si_X12_120 [0, 1] sm_0_1 fm_0_1 nd_0_1 rfl rfl rfl rfl rfl (Nat.le_of_ble_eq_true rfl) rm_3_2_3 ⟨by first | exact Nat.le_of_ble_eq_true rfl | exact Nat.zero_le _, by first | exact Nat.le_of_ble_eq_true rfl | exact Nat.zero_le _⟩ gX12_kindOn_3.2.2.2.2.2.2.1 (Kors (Keqa fun a6527 => ?_) (Keqa fun a6527 => ?_))
        · refine lv_if_ne (tgt := 88) hx hb gX12_kindOn_3.2.2.2.2.2.2.2.1 (by decide) (fun _ => ?_) (fun c9 => absurd c9 (by decide))
          refine lv_iload_n hx hb gX12_kindOn_4.1 rfl (lv_at0 hl) ?_
          refine lv_if_ne (tgt := 96) hx hb gX12_kindOn_4.2.1 (by decide) (fun _ => ?_) (fun c9 => absurd c9 (by decide))
          refine lv_aload_n hx hb gX12_kindOn_4.2.2.2.2.1 rfl (lv_at2 hl) ?_
          refine lv_iload_n hx hb gX12_kindOn_4.2.2.2.2.2.1 rfl (lv_at1 hl) ?_
          refine eqi (x1 := nI jn6518) ekjn6518 ?_
          refine lv_iconst (v := 3) hx hb gX12_kindOn_4.2.2.2.2.2.2.1 (by decide) ?_
          refine pV hC hK hl hP hD (m_paper l G h0 jn6518 3 nw nk mhasKept nt mtaped nr mrowMany mroundOf mroundFrom mouts nm mfromHour mtoHour ns mfrom mto msort misFault mdeep mcoded mlines nl nc nF np ntr nb mbestCost nso nsi nit nsh nsf nss nrc mtraced mdealer mnumber mwhose msize misParted fnw (by omega) (by omega)) si_X12_88 [0, 1] sm_0_1 fm_0_1 nd_0_1 rfl rfl rfl rfl rfl (Nat.le_of_ble_eq_true rfl) rm_3_1_3 ⟨by first | exact Nat.le_of_ble_eq_true rfl | exact Nat.zero_le _, by first | exact Nat.le_of_ble_eq_true rfl | exact Nat.zero_le _⟩ gX12_kindOn_4.2.2.2.2.2.2.2.1 (Keqr ?_)
          refine lv_if_le (tgt := 109) hx hb gX12_kindOn_4.2.2.2.2.2.2.2.2.1 (by decide) (fun c_102_6530 => ?_) (fun c_102_6530 => ?_)
          · refine lv_iconst (v := 1) hx hb gX12_kindOn_5.2.1 (by decide) ?_
            refine toQ hQ0 ?_
            exact RP (v := 1) hC (Or.inr (Or.inl (⟨rfl, (by unfold KOM; simp only [ifc_t hjt, ifc_t ekq, ifc_t hkq, ifc_t ek8, ifc_t hk8, ifc_t ek9, ifc_t hk9, ifc_t hN, ifc_t c_13_6515, ifc_t a6527, ifc_f c_66_6523, ifc_t c_102_6530, ifc_f (q := fnsh jt = 2) (by rw [c_13_6515]; decide), ifc_f (q := fnsh jt = 3) (by rw [c_13_6515]; decide)]; unfold PKn; rw [show shf fnw 32 ((fnsf jt).toNatClampNeg * 6 + 1) = fnw (32 + 6 * jn6518 + 1) from congrArg fnw (by rw [ekjn6518, nI_clamp (n := jn6518) (by omega)]; omega), show shf fnw 32 ((fnsf jt).toNatClampNeg * 6 + 0) = fnw (32 + 6 * jn6518 + 0) from congrArg fnw (by rw [ekjn6518, nI_clamp (n := jn6518) (by omega)]; omega), show shf fnw 32 ((fnsf jt).toNatClampNeg * 6 + 3) = fnw (32 + 6 * jn6518 + 3) from congrArg fnw (by rw [ekjn6518, nI_clamp (n := jn6518) (by omega)]; omega), ifn_f c_66_6523, ifn_f (Int32.not_lt.mpr c_102_6530)]; first | done | rfl)⟩))) rfl gX12_kindOn_5.2.2.1
          · refine lv_iconst (v := 3) hx hb gX12_kindOn_4.2.2.2.2.2.2.2.2.2 (by decide) ?_
            refine lv_goto (tgt := 110) hx hb gX12_kindOn_5.1 (by decide) ?_
            refine toQ hQ0 ?_
            exact RP (v := 3) hC (Or.inr (Or.inr (Or.inr (Or.inl (⟨rfl, (by unfold KOM; simp only [ifc_t hjt, ifc_t ekq, ifc_t hkq, ifc_t ek8, ifc_t hk8, ifc_t ek9, ifc_t hk9, ifc_t hN, ifc_t c_13_6515, ifc_t a6527, ifc_f c_66_6523, ifc_f c_102_6530, ifc_f (q := fnsh jt = 2) (by rw [c_13_6515]; decide), ifc_f (q := fnsh jt = 3) (by rw [c_13_6515]; decide)]; unfold PKn; rw [show shf fnw 32 ((fnsf jt).toNatClampNeg * 6 + 1) = fnw (32 + 6 * jn6518 + 1) from congrArg fnw (by rw [ekjn6518, nI_clamp (n := jn6518) (by omega)]; omega), show shf fnw 32 ((fnsf jt).toNatClampNeg * 6 + 0) = fnw (32 + 6 * jn6518 + 0) from congrArg fnw (by rw [ekjn6518, nI_clamp (n := jn6518) (by omega)]; omega), show shf fnw 32 ((fnsf jt).toNatClampNeg * 6 + 3) = fnw (32 + 6 * jn6518 + 3) from congrArg fnw (by rw [ekjn6518, nI_clamp (n := jn6518) (by omega)]; omega), ifn_f c_66_6523, ifn_t (Int32.not_le.mp c_102_6530)]; first | done | rfl)⟩))))) rfl gX12_kindOn_5.2.2.1
        · exact absurd a6517 a6527
    · refine lv_if_eq (tgt := 73) hx hb gX12_kindOn_1.2.2.2.2.1 (by decide) (fun _ => ?_) (fun c9 => absurd (by decide) c9)
      refine lv_iconst (v := 0) hx hb gX12_kindOn_3.2.1 (by decide) ?_
      refine lv_istore_n (lv' := [(3, .int 0), (2, .int (fnsf jt)), (0, .ref h0), (1, .int (nI jt))]) hx hb gX12_kindOn_3.2.2.1 rfl hl (by decide) rfl (fun ls hl => ?_)
      refine lv_aload_n hx hb gX12_kindOn_3.2.2.2.1 rfl (lv_at2 hl) ?_
      refine lv_iload_n hx hb gX12_kindOn_3.2.2.2.2.1 rfl (lv_at1 hl) ?_
      refine lv_iconst (v := 5) hx hb gX12_kindOn_3.2.2.2.2.2.1 (by decide) ?_
      refine pV hC hK hl hP hD (m_is l G kq h0 (fnsf jt) 5 nw nk mhasKept nt mtaped nr mrowMany mroundOf mroundFrom mouts nm mfromHour mtoHour ns mfrom mto msort misFault mdeep mcoded mlines nl nc nF np ntr nb mbestCost nso nsi nit nsh nsf nss nrc mtraced mdealer mnumber mwhose msize misParted fnw (by omega) (ekq) (by omega)) si_X12_120 [0, 1] sm_0_1 fm_0_1 nd_0_1 rfl rfl rfl rfl rfl (Nat.le_of_ble_eq_true rfl) rm_3_2_3 ⟨by first | exact Nat.le_of_ble_eq_true rfl | exact Nat.zero_le _, by first | exact Nat.le_of_ble_eq_true rfl | exact Nat.zero_le _⟩ gX12_kindOn_3.2.2.2.2.2.2.1 (Kors (Keqa fun a6532 => ?_) (Keqa fun a6532 => ?_))
      · exact absurd a6532 a6517
      · refine lv_if_ne (tgt := 88) hx hb gX12_kindOn_3.2.2.2.2.2.2.2.1 (by decide) (fun c9 => absurd (by decide) c9) (fun _ => ?_)
        refine lv_iconst (v := (-1)) hx hb gX12_kindOn_3.2.2.2.2.2.2.2.2.1 (by decide) ?_
        refine lv_goto (tgt := 110) hx hb gX12_kindOn_3.2.2.2.2.2.2.2.2.2 (by decide) ?_
        refine toQ hQ0 ?_
        exact RP (v := (-1)) hC (Or.inl (⟨rfl, (by unfold KOM; first | (simp only [ifc_t hjt, ifc_t ekq, ifc_t hkq, ifc_t ek8, ifc_t hk8, ifc_t ek9, ifc_t hk9, ifc_t hN, ifc_t c_13_6515, ifc_f a6532, ifc_f (q := fnsh jt = 2) (by rw [c_13_6515]; decide), ifc_f (q := fnsh jt = 3) (by rw [c_13_6515]; decide)]; done) | (simp only [ifc_t hjt, ifc_t ekq, ifc_t hkq, ifc_t ek8, ifc_t hk8, ifc_t ek9, ifc_t hk9, ifc_t hN, ifc_t c_13_6515, ifc_f a6532, ifc_f (q := fnsh jt = 2) (by rw [c_13_6515]; decide), ifc_f (q := fnsh jt = 3) (by rw [c_13_6515]; decide)]; rfl))⟩)) rfl gX12_kindOn_5.2.2.1
  by_cases c_13_6533 : fnsh jt = 2
  · refine lv_tableIn (tgt := 111) hx hb gX12_kindOn_0.2.2.2.2.2.2.2.2.2 (by rw [c_13_6533]; decide) (by rw [c_13_6533]; decide) (by rw [c_13_6533]; rfl) (by decide) ?_
    refine lv_aload_n hx hb gX12_kindOn_5.2.2.2.1 rfl (lv_at1 hl) ?_
    refine lv_iload_n hx hb gX12_kindOn_5.2.2.2.2.1 rfl (lv_at0 hl) ?_
    refine lv_bipush (v := 8) hx hb gX12_kindOn_5.2.2.2.2.2.1 (by decide) ?_
    refine pV hC hK hl hP hD (m_is l G k8 h0 (fnsf jt) 8 nw nk mhasKept nt mtaped nr mrowMany mroundOf mroundFrom mouts nm mfromHour mtoHour ns mfrom mto msort misFault mdeep mcoded mlines nl nc nF np ntr nb mbestCost nso nsi nit nsh nsf nss nrc mtraced mdealer mnumber mwhose msize misParted fnw (by omega) (ek8) (by omega)) si_X12_120 [0, 1] sm_0_1 fm_0_1 nd_0_1 rfl rfl rfl rfl rfl (Nat.le_of_ble_eq_true rfl) rm_3_2_3 ⟨by first | exact Nat.le_of_ble_eq_true rfl | exact Nat.zero_le _, by first | exact Nat.le_of_ble_eq_true rfl | exact Nat.zero_le _⟩ gX12_kindOn_5.2.2.2.2.2.2.1 (Kors (Keqa fun a6535 => ?_) (Keqa fun a6535 => ?_))
    · refine lv_if_ne (tgt := 125) hx hb gX12_kindOn_5.2.2.2.2.2.2.2.1 (by decide) (fun _ => ?_) (fun c9 => absurd c9 (by decide))
      refine lv_aload_n hx hb gX12_kindOn_6.1 rfl (lv_at1 hl) ?_
      refine lv_iload_n hx hb gX12_kindOn_6.2.1 rfl (lv_at0 hl) ?_
      obtain ⟨jn6536, hjn6536, ekjn6536⟩ := Hs_nat (by omega) a6535
      refine eqi (x1 := nI jn6536) ekjn6536 ?_
      refine lv_bipush (v := 6) hx hb gX12_kindOn_6.2.2.1 (by decide) ?_
      refine pV hC hK hl hP hD (m_saying l G h0 jn6536 6 nw nk mhasKept nt mtaped nr mrowMany mroundOf mroundFrom mouts nm mfromHour mtoHour ns mfrom mto msort misFault mdeep mcoded mlines nl nc nF np ntr nb mbestCost nso nsi nit nsh nsf nss nrc mtraced mdealer mnumber mwhose msize misParted fnw (by omega) (by omega)) si_X12_114 [0, 1] sm_0_1 fm_0_1 nd_0_1 rfl rfl rfl rfl rfl (Nat.le_of_ble_eq_true rfl) rm_3_1_3 ⟨by first | exact Nat.le_of_ble_eq_true rfl | exact Nat.zero_le _, by first | exact Nat.le_of_ble_eq_true rfl | exact Nat.zero_le _⟩ gX12_kindOn_6.2.2.2.1 (Keqr ?_)
      refine lv_if_ge (tgt := 139) hx hb gX12_kindOn_6.2.2.2.2.1 (by decide) (fun c_132_6539 => ?_) (fun c_132_6539 => ?_)
      · refine lv_iconst (v := 4) hx hb gX12_kindOn_6.2.2.2.2.2.2.2.1 (by decide) ?_
        refine toQ hQ0 ?_
        exact RP (v := 4) hC (Or.inr (Or.inr (Or.inr (Or.inr (Or.inl (⟨rfl, (by unfold KOM; simp only [ifc_t hjt, ifc_t ekq, ifc_t hkq, ifc_t ek8, ifc_t hk8, ifc_t ek9, ifc_t hk9, ifc_t hN, ifc_f c_13_6515, ifc_t c_13_6533, ifc_t a6535, ifc_t c_132_6539, ifc_f (q := fnsh jt = 1) (by rw [c_13_6533]; decide), ifc_f (q := fnsh jt = 3) (by rw [c_13_6533]; decide)]; unfold SKn; rw [show shf fnw 1424 ((fnsf jt).toNatClampNeg * 8 + 6) = fnw (1424 + 8 * jn6536 + 6) from congrArg fnw (by rw [ekjn6536, nI_clamp (n := jn6536) (by omega)]; omega), ifn_f (Int32.not_lt.mpr c_132_6539)]; first | done | rfl)⟩)))))) rfl gX12_kindOn_6.2.2.2.2.2.2.2.2.1
      · refine lv_iconst (v := 5) hx hb gX12_kindOn_6.2.2.2.2.2.1 (by decide) ?_
        refine lv_goto (tgt := 140) hx hb gX12_kindOn_6.2.2.2.2.2.2.1 (by decide) ?_
        refine toQ hQ0 ?_
        exact RP (v := 5) hC (Or.inr (Or.inr (Or.inr (Or.inr (Or.inr (Or.inl (⟨rfl, (by unfold KOM; simp only [ifc_t hjt, ifc_t ekq, ifc_t hkq, ifc_t ek8, ifc_t hk8, ifc_t ek9, ifc_t hk9, ifc_t hN, ifc_f c_13_6515, ifc_t c_13_6533, ifc_t a6535, ifc_f c_132_6539, ifc_f (q := fnsh jt = 1) (by rw [c_13_6533]; decide), ifc_f (q := fnsh jt = 3) (by rw [c_13_6533]; decide)]; unfold SKn; rw [show shf fnw 1424 ((fnsf jt).toNatClampNeg * 8 + 6) = fnw (1424 + 8 * jn6536 + 6) from congrArg fnw (by rw [ekjn6536, nI_clamp (n := jn6536) (by omega)]; omega), ifn_t (Int32.not_le.mp c_132_6539)]; first | done | rfl)⟩))))))) rfl gX12_kindOn_6.2.2.2.2.2.2.2.2.1
    · refine lv_if_ne (tgt := 125) hx hb gX12_kindOn_5.2.2.2.2.2.2.2.1 (by decide) (fun c9 => absurd (by decide) c9) (fun _ => ?_)
      refine lv_iconst (v := (-1)) hx hb gX12_kindOn_5.2.2.2.2.2.2.2.2.1 (by decide) ?_
      refine lv_goto (tgt := 140) hx hb gX12_kindOn_5.2.2.2.2.2.2.2.2.2 (by decide) ?_
      refine toQ hQ0 ?_
      exact RP (v := (-1)) hC (Or.inl (⟨rfl, (by unfold KOM; first | (simp only [ifc_t hjt, ifc_t ekq, ifc_t hkq, ifc_t ek8, ifc_t hk8, ifc_t ek9, ifc_t hk9, ifc_t hN, ifc_f c_13_6515, ifc_t c_13_6533, ifc_f a6535, ifc_f (q := fnsh jt = 1) (by rw [c_13_6533]; decide), ifc_f (q := fnsh jt = 3) (by rw [c_13_6533]; decide)]; done) | (simp only [ifc_t hjt, ifc_t ekq, ifc_t hkq, ifc_t ek8, ifc_t hk8, ifc_t ek9, ifc_t hk9, ifc_t hN, ifc_f c_13_6515, ifc_t c_13_6533, ifc_f a6535, ifc_f (q := fnsh jt = 1) (by rw [c_13_6533]; decide), ifc_f (q := fnsh jt = 3) (by rw [c_13_6533]; decide)]; rfl))⟩)) rfl gX12_kindOn_6.2.2.2.2.2.2.2.2.1
  by_cases c_13_6540 : fnsh jt = 3
  · refine lv_tableIn (tgt := 141) hx hb gX12_kindOn_0.2.2.2.2.2.2.2.2.2 (by rw [c_13_6540]; decide) (by rw [c_13_6540]; decide) (by rw [c_13_6540]; rfl) (by decide) ?_
    refine lv_aload_n hx hb gX12_kindOn_6.2.2.2.2.2.2.2.2.2 rfl (lv_at1 hl) ?_
    refine lv_iload_n hx hb gX12_kindOn_7.1 rfl (lv_at0 hl) ?_
    refine lv_bipush (v := 9) hx hb gX12_kindOn_7.2.1 (by decide) ?_
    refine pV hC hK hl hP hD (m_is l G k9 h0 (fnsf jt) 9 nw nk mhasKept nt mtaped nr mrowMany mroundOf mroundFrom mouts nm mfromHour mtoHour ns mfrom mto msort misFault mdeep mcoded mlines nl nc nF np ntr nb mbestCost nso nsi nit nsh nsf nss nrc mtraced mdealer mnumber mwhose msize misParted fnw (by omega) (ek9) (by omega)) si_X12_120 [0, 1] sm_0_1 fm_0_1 nd_0_1 rfl rfl rfl rfl rfl (Nat.le_of_ble_eq_true rfl) rm_3_2_3 ⟨by first | exact Nat.le_of_ble_eq_true rfl | exact Nat.zero_le _, by first | exact Nat.le_of_ble_eq_true rfl | exact Nat.zero_le _⟩ gX12_kindOn_7.2.2.1 (Kors (Keqa fun a6542 => ?_) (Keqa fun a6542 => ?_))
    · refine lv_if_eq (tgt := 156) hx hb gX12_kindOn_7.2.2.2.1 (by decide) (fun c9 => absurd c9 (by decide)) (fun _ => ?_)
      refine lv_bipush (v := 6) hx hb gX12_kindOn_7.2.2.2.2.1 (by decide) ?_
      refine lv_goto (tgt := 157) hx hb gX12_kindOn_7.2.2.2.2.2.1 (by decide) ?_
      refine toQ hQ0 ?_
      exact RP (v := 6) hC (Or.inr (Or.inr (Or.inr (Or.inr (Or.inr (Or.inr (⟨rfl, (by unfold KOM; first | (simp only [ifc_t hjt, ifc_t ekq, ifc_t hkq, ifc_t ek8, ifc_t hk8, ifc_t ek9, ifc_t hk9, ifc_t hN, ifc_f c_13_6515, ifc_f c_13_6533, ifc_t c_13_6540, ifc_t a6542, ifc_f (q := fnsh jt = 1) (by rw [c_13_6540]; decide), ifc_f (q := fnsh jt = 2) (by rw [c_13_6540]; decide)]; done) | (simp only [ifc_t hjt, ifc_t ekq, ifc_t hkq, ifc_t ek8, ifc_t hk8, ifc_t ek9, ifc_t hk9, ifc_t hN, ifc_f c_13_6515, ifc_f c_13_6533, ifc_t c_13_6540, ifc_t a6542, ifc_f (q := fnsh jt = 1) (by rw [c_13_6540]; decide), ifc_f (q := fnsh jt = 2) (by rw [c_13_6540]; decide)]; rfl))⟩))))))) rfl gX12_kindOn_7.2.2.2.2.2.2.2.1
    · refine lv_if_eq (tgt := 156) hx hb gX12_kindOn_7.2.2.2.1 (by decide) (fun _ => ?_) (fun c9 => absurd (by decide) c9)
      refine lv_iconst (v := (-1)) hx hb gX12_kindOn_7.2.2.2.2.2.2.1 (by decide) ?_
      refine toQ hQ0 ?_
      exact RP (v := (-1)) hC (Or.inl (⟨rfl, (by unfold KOM; first | (simp only [ifc_t hjt, ifc_t ekq, ifc_t hkq, ifc_t ek8, ifc_t hk8, ifc_t ek9, ifc_t hk9, ifc_t hN, ifc_f c_13_6515, ifc_f c_13_6533, ifc_t c_13_6540, ifc_f a6542, ifc_f (q := fnsh jt = 1) (by rw [c_13_6540]; decide), ifc_f (q := fnsh jt = 2) (by rw [c_13_6540]; decide)]; done) | (simp only [ifc_t hjt, ifc_t ekq, ifc_t hkq, ifc_t ek8, ifc_t hk8, ifc_t ek9, ifc_t hk9, ifc_t hN, ifc_f c_13_6515, ifc_f c_13_6533, ifc_t c_13_6540, ifc_f a6542, ifc_f (q := fnsh jt = 1) (by rw [c_13_6540]; decide), ifc_f (q := fnsh jt = 2) (by rw [c_13_6540]; decide)]; rfl))⟩)) rfl gX12_kindOn_7.2.2.2.2.2.2.2.1
  refine lv_tableOut (tgt := 158) hx hb gX12_kindOn_0.2.2.2.2.2.2.2.2.2 (by have q9 := sw_1_3 (x := fnsh jt); simp only [c_13_6515, c_13_6533, c_13_6540, not_false_eq_true, true_implies] at q9; exact q9) (by decide) ?_
  refine lv_iconst (v := (-1)) hx hb gX12_kindOn_7.2.2.2.2.2.2.2.2.1 (by decide) ?_
  refine toQ hQ0 ?_
  exact RP (v := (-1)) hC (Or.inl (⟨rfl, (by unfold KOM; first | (simp only [ifc_t hjt, ifc_t ekq, ifc_t hkq, ifc_t ek8, ifc_t hk8, ifc_t ek9, ifc_t hk9, ifc_t hN, ifc_f c_13_6515, ifc_f c_13_6533, ifc_f c_13_6540]; done) | (simp only [ifc_t hjt, ifc_t ekq, ifc_t hkq, ifc_t ek8, ifc_t hk8, ifc_t ek9, ifc_t hk9, ifc_t hN, ifc_f c_13_6515, ifc_f c_13_6533, ifc_f c_13_6540]; rfl))⟩)) rfl gX12_kindOn_7.2.2.2.2.2.2.2.2.2
def K_r_taken (l : Launch) (G : GG) (kq : Nat) (k8 : Nat) (k9 : Nat) (h0 : Nat) (x1 : Int32) (x2 : Int32) (nw : Nat) (nk : Nat) (mhasKept : Int32) (nt : Nat) (mtaped : Int32) (nr : Nat) (mrowMany : Int32) (mroundOf : Int32) (mroundFrom : Int32) (mouts : Int32) (nm : Nat) (mfromHour : Int32) (mtoHour : Int32) (ns : Nat) (mfrom : Int32) (mto : Int32) (msort : Int32) (misFault : Int32) (mdeep : Int32) (mcoded : Int32) (mlines : Int32) (nl : Nat) (nc : Nat) (nF : Nat) (np : Nat) (ntr : Nat) (nb : Nat) (mbestCost : Int32) (nso : Nat) (nsi : Nat) (nit : Nat) (nsh : Nat) (nsf : Nat) (nss : Nat) (nrc : Nat) (mtraced : Int32) (mdealer : Int32) (mnumber : Int32) (mwhose : Int32) (msize : Int32) (misParted : Int32) (fnw : Nat → Int32) (fnsh : Nat → Int32) (fnsf : Nat → Int32) (fnss : Nat → Int32) : Prop := MP l G yX12_taken cX12_taken 4 (some .int) 4 [.ref h0, .int x1, .int x2] [(h0, oX12 nw nk mhasKept nt mtaped nr mrowMany mroundOf mroundFrom mouts nm mfromHour mtoHour ns mfrom mto msort misFault mdeep mcoded mlines nl nc nF np ntr nb mbestCost nso nsi nit nsh nsf nss nrc mtraced mdealer mnumber mwhose msize misParted), (nw, iA G 1662 fnw), (nsh, iA G 4 fnsh), (nsf, iA G 4 fnsf), (nss, iA G 4 fnss)] (fun r : Int32 => r = ifc (Wi x1 0 3) (ifc (Wi x2 0 6 ∨ Wi x2 10 14) (ifc (fnsh x1.toNatClampNeg = 4) (ifc (x2 - 10 = fnsf x1.toNatClampNeg) (fnss x1.toNatClampNeg) (-13)) (ifc (KOM (fnsh x1.toNatClampNeg) (fnsf x1.toNatClampNeg) kq k8 k9 (shf fnw 32) (shf fnw 1424) < 0) (-11) (ifc (UNl (KOM (fnsh x1.toNatClampNeg) (fnsf x1.toNatClampNeg) kq k8 k9 (shf fnw 32) (shf fnw 1424)).toNatClampNeg x2) (fnsf x1.toNatClampNeg) (-13)))) (-1)) (-1))
set_option maxHeartbeats 4000000 in
set_option maxRecDepth 100000 in
theorem r_taken (l : Launch) (G : GG) (kq : Nat) (k8 : Nat) (k9 : Nat) (h0 : Nat) (x1 : Int32) (x2 : Int32) (nw : Nat) (nk : Nat) (mhasKept : Int32) (nt : Nat) (mtaped : Int32) (nr : Nat) (mrowMany : Int32) (mroundOf : Int32) (mroundFrom : Int32) (mouts : Int32) (nm : Nat) (mfromHour : Int32) (mtoHour : Int32) (ns : Nat) (mfrom : Int32) (mto : Int32) (msort : Int32) (misFault : Int32) (mdeep : Int32) (mcoded : Int32) (mlines : Int32) (nl : Nat) (nc : Nat) (nF : Nat) (np : Nat) (ntr : Nat) (nb : Nat) (mbestCost : Int32) (nso : Nat) (nsi : Nat) (nit : Nat) (nsh : Nat) (nsf : Nat) (nss : Nat) (nrc : Nat) (mtraced : Int32) (mdealer : Int32) (mnumber : Int32) (mwhose : Int32) (msize : Int32) (misParted : Int32) (fnw : Nat → Int32) (fnsh : Nat → Int32) (fnsf : Nat → Int32) (fnss : Nat → Int32) (ekq : fnw 5 = nI kq) (hkq : kq ≤ 12) (ek8 : fnw 8 = nI k8) (hk8 : k8 ≤ 16) (ek9 : fnw 9 = nI k9) (hk9 : k9 ≤ 12) (hN : NI fnw) : K_r_taken l G kq k8 k9 h0 x1 x2 nw nk mhasKept nt mtaped nr mrowMany mroundOf mroundFrom mouts nm mfromHour mtoHour ns mfrom mto msort misFault mdeep mcoded mlines nl nc nF np ntr nb mbestCost nso nsi nit nsh nsf nss nrc mtraced mdealer mnumber mwhose msize misParted fnw fnsh fnsf fnss := by
  refine MP.start (by decide +kernel) (Nat.le_of_ble_eq_true rfl) ?_
  intro p e s m below meth c ls hC hK hP hD hl
  refine absQ (fun Q0 hQ0 => ?_)
  have hl : lv_has ls 4 [(0, .ref h0), (1, .int x1), (2, .int x2)] := hl
  refine Kan8 hC (fun hx hb hr hml hB hown hlocks hnm => ?_)
  refine lv_iload_n hx hb gX12_taken_0.1 rfl (lv_at1 hl) ?_
  refine pS hC hK hl (m_isFour l G x1) si_X12_336 rfl rfl (Nat.le_of_ble_eq_true rfl) rm_4_2_1 ⟨by first | exact Nat.le_of_ble_eq_true rfl | exact Nat.zero_le _, by first | exact Nat.le_of_ble_eq_true rfl | exact Nat.zero_le _⟩ gX12_taken_0.2.1 (Kors (Keqa fun a6544 => ?_) (Keqa fun a6544 => ?_))
  · refine lv_if_eq (tgt := 28) hx hb gX12_taken_0.2.2.1 (by decide) (fun c9 => absurd c9 (by decide)) (fun _ => ?_)
    refine lv_iload_n hx hb gX12_taken_0.2.2.2.1 rfl (lv_at2 hl) ?_
    refine lv_iconst (v := 0) hx hb gX12_taken_0.2.2.2.2.1 (by decide) ?_
    refine lv_bipush (v := 6) hx hb gX12_taken_0.2.2.2.2.2.1 (by decide) ?_
    refine pS hC hK hl (m_within l G x2 0 6) si_X12_84 rfl rfl (Nat.le_of_ble_eq_true rfl) rm_4_1_3 ⟨by first | exact Nat.le_of_ble_eq_true rfl | exact Nat.zero_le _, by first | exact Nat.le_of_ble_eq_true rfl | exact Nat.zero_le _⟩ gX12_taken_0.2.2.2.2.2.2.1 (Kors (Keqa fun a6546 => ?_) (Keqa fun a6546 => ?_))
    · refine lv_if_ne (tgt := 30) hx hb gX12_taken_0.2.2.2.2.2.2.2.1 (by decide) (fun _ => ?_) (fun c9 => absurd c9 (by decide))
      obtain ⟨jt, hjt, rfl⟩ := Wi_nat (N := 3) (by decide) a6544
      refine lv_aload_n hx hb gX12_taken_1.2.2.2.2.2.1 rfl (lv_at0 hl) ?_
      refine gf_X12_72 hC rfl hK hP 0 rfl rfl gX12_taken_1.2.2.2.2.2.2.1 ?_
      refine lv_iload_n hx hb gX12_taken_1.2.2.2.2.2.2.2.1 rfl (lv_at1 hl) ?_
      refine aldN hC hK hP 2 rfl (k := jt) (by omega) (Nat.le_of_ble_eq_true rfl) (v := fnsh jt) rfl gX12_taken_1.2.2.2.2.2.2.2.2.1 ?_
      refine lv_iconst (v := 4) hx hb gX12_taken_1.2.2.2.2.2.2.2.2.2 (by decide) ?_
      refine lv_icmp_ne (tgt := 65) hx hb gX12_taken_2.1 (by decide) (fun c_37_6547 => ?_) (fun c_37_6547 => ?_)
      · refine lv_aload_n hx hb gX12_taken_3.2.2.2.2.2.2.1 rfl (lv_at0 hl) ?_
        refine lv_iload_n hx hb gX12_taken_3.2.2.2.2.2.2.2.1 rfl (lv_at1 hl) ?_
        refine pV hC hK hl hP hD (m_kindOnX l G kq k8 k9 h0 jt nw nk mhasKept nt mtaped nr mrowMany mroundOf mroundFrom mouts nm mfromHour mtoHour ns mfrom mto msort misFault mdeep mcoded mlines nl nc nF np ntr nb mbestCost nso nsi nit nsh nsf nss nrc mtraced mdealer mnumber mwhose msize misParted fnw fnsh fnsf (by omega) (ekq) (hkq) (ek8) (hk8) (ek9) (hk9) (hN)) si_X12_345 [0, 1, 2, 3] sm_0_1_2_3 fm_0_1_2_3 nd_0_1_2_3 rfl rfl rfl rfl rfl (Nat.le_of_ble_eq_true rfl) rm_4_3_4 ⟨by first | exact Nat.le_of_ble_eq_true rfl | exact Nat.zero_le _, by first | exact Nat.le_of_ble_eq_true rfl | exact Nat.zero_le _⟩ gX12_taken_3.2.2.2.2.2.2.2.2.1 (Kors (Keqa fun a6549 => ?_) (Kors (Keqa fun a6549 => ?_) (Kors (Keqa fun a6549 => ?_) (Kors (Keqa fun a6549 => ?_) (Kors (Keqa fun a6549 => ?_) (Kors (Keqa fun a6549 => ?_) (Keqa fun a6549 => ?_)))))))
        · refine lv_istore_n (lv' := [(3, .int (-1)), (0, .ref h0), (1, .int (nI jt)), (2, .int x2)]) hx hb gX12_taken_3.2.2.2.2.2.2.2.2.2 rfl hl (by decide) rfl (fun ls hl => ?_)
          refine lv_iload_n hx hb gX12_taken_4.1 rfl (lv_at0 hl) ?_
          refine lv_if_ge (tgt := 78) hx hb gX12_taken_4.2.1 (by decide) (fun c9 => absurd c9 (by decide)) (fun _ => ?_)
          refine lv_bipush (v := (-11)) hx hb gX12_taken_4.2.2.1 (by decide) ?_
          refine toQ hQ0 ?_
          exact RP (v := (-11)) hC ((by first | rfl | (simp only [nI_clamp (n := jt) (by omega), ifc_t ekq, ifc_t hkq, ifc_t ek8, ifc_t hk8, ifc_t ek9, ifc_t hk9, ifc_t hN, ifc_t a6544, ifc_t a6546, ifc_f c_37_6547, ifc_t (q := Wi x2 0 6 ∨ Wi x2 10 14) (Or.inl a6546), a6549, ifc_t (q := (-1 : Int32) < 0) (by decide)]; done) | (simp only [nI_clamp (n := jt) (by omega), ifc_t ekq, ifc_t hkq, ifc_t ek8, ifc_t hk8, ifc_t ek9, ifc_t hk9, ifc_t hN, ifc_t a6544, ifc_t a6546, ifc_f c_37_6547, ifc_t (q := Wi x2 0 6 ∨ Wi x2 10 14) (Or.inl a6546), a6549, ifc_t (q := (-1 : Int32) < 0) (by decide)]; rfl))) rfl gX12_taken_4.2.2.2.1
        · refine lv_istore_n (lv' := [(3, .int 1), (0, .ref h0), (1, .int (nI jt)), (2, .int x2)]) hx hb gX12_taken_3.2.2.2.2.2.2.2.2.2 rfl hl (by decide) rfl (fun ls hl => ?_)
          refine lv_iload_n hx hb gX12_taken_4.1 rfl (lv_at0 hl) ?_
          refine lv_if_ge (tgt := 78) hx hb gX12_taken_4.2.1 (by decide) (fun _ => ?_) (fun c9 => absurd (by decide) c9)
          refine lv_iload_n hx hb gX12_taken_4.2.2.2.2.1 rfl (lv_at0 hl) ?_
          refine lv_if_lt (tgt := 95) hx hb gX12_taken_4.2.2.2.2.2.1 (by decide) (fun c9 => absurd c9 (by decide)) (fun _ => ?_)
          refine lv_iload_n hx hb gX12_taken_4.2.2.2.2.2.2.1 rfl (lv_at0 hl) ?_
          refine lv_iload_n hx hb gX12_taken_4.2.2.2.2.2.2.2.1 rfl (lv_at3 hl) ?_
          refine lv_icmp_eq (tgt := 95) hx hb gX12_taken_4.2.2.2.2.2.2.2.2.1 (by decide) (fun c_84_6550 => ?_) (fun c_84_6550 => ?_)
          · refine lv_iload_n hx hb gX12_taken_5.2.2.2.1 rfl (lv_at0 hl) ?_
            refine lv_iload_n hx hb gX12_taken_5.2.2.2.2.1 rfl (lv_at3 hl) ?_
            refine lv_icmp_ne (tgt := 109) hx hb gX12_taken_5.2.2.2.2.2.1 (by decide) (fun c9 => absurd (c_84_6550) c9) (fun _ => ?_)
            refine lv_aload_n hx hb gX12_taken_5.2.2.2.2.2.2.1 rfl (lv_at1 hl) ?_
            refine gf_X12_75 hC rfl hK hP 0 rfl rfl gX12_taken_5.2.2.2.2.2.2.2.1 ?_
            refine lv_iload_n hx hb gX12_taken_5.2.2.2.2.2.2.2.2.1 rfl (lv_at2 hl) ?_
            refine aldN hC hK hP 3 rfl (k := jt) (by omega) (Nat.le_of_ble_eq_true rfl) (v := fnsf jt) rfl gX12_taken_5.2.2.2.2.2.2.2.2.2 ?_
            refine lv_goto (tgt := 111) hx hb gX12_taken_6.1 (by decide) ?_
            refine toQ hQ0 ?_
            exact RP (v := fnsf jt) hC ((by first | rfl | (simp only [nI_clamp (n := jt) (by omega), ifc_t ekq, ifc_t hkq, ifc_t ek8, ifc_t hk8, ifc_t ek9, ifc_t hk9, ifc_t hN, ifc_t a6544, ifc_t a6546, ifc_f c_37_6547, ifc_t c_84_6550, ifc_t (q := Wi x2 0 6 ∨ Wi x2 10 14) (Or.inl a6546), a6549, ifc_f (q := (1 : Int32) < 0) (by decide), ifc_t (q := UNl (1 : Int32).toNatClampNeg x2) (show UNl 1 x2 from Or.inl (c_84_6550.symm))]; done) | (simp only [nI_clamp (n := jt) (by omega), ifc_t ekq, ifc_t hkq, ifc_t ek8, ifc_t hk8, ifc_t ek9, ifc_t hk9, ifc_t hN, ifc_t a6544, ifc_t a6546, ifc_f c_37_6547, ifc_t c_84_6550, ifc_t (q := Wi x2 0 6 ∨ Wi x2 10 14) (Or.inl a6546), a6549, ifc_f (q := (1 : Int32) < 0) (by decide), ifc_t (q := UNl (1 : Int32).toNatClampNeg x2) (show UNl 1 x2 from Or.inl (c_84_6550.symm))]; rfl))) rfl gX12_taken_6.2.2
          · refine lv_iload_n hx hb gX12_taken_4.2.2.2.2.2.2.2.2.2 rfl (lv_at0 hl) ?_
            refine pS hC hK hl (m_above1 l G) si_X12_348 rfl rfl (Nat.le_of_ble_eq_true rfl) rm_4_1_1 ⟨by first | exact Nat.le_of_ble_eq_true rfl | exact Nat.zero_le _, by first | exact Nat.le_of_ble_eq_true rfl | exact Nat.zero_le _⟩ gX12_taken_5.1 (Keqr ?_)
            refine lv_istore_n (lv' := [(3, .int 0), (0, .ref h0), (1, .int (nI jt)), (2, .int x2)]) hx hb gX12_taken_5.2.1 rfl hl (by decide) rfl (fun ls hl => ?_)
            refine lv_goto (tgt := 78) hx hb gX12_taken_5.2.2.1 (by decide) ?_
            refine lv_iload_n hx hb gX12_taken_4.2.2.2.2.1 rfl (lv_at0 hl) ?_
            refine lv_if_lt (tgt := 95) hx hb gX12_taken_4.2.2.2.2.2.1 (by decide) (fun c9 => absurd c9 (by decide)) (fun _ => ?_)
            refine lv_iload_n hx hb gX12_taken_4.2.2.2.2.2.2.1 rfl (lv_at0 hl) ?_
            refine lv_iload_n hx hb gX12_taken_4.2.2.2.2.2.2.2.1 rfl (lv_at3 hl) ?_
            refine lv_icmp_eq (tgt := 95) hx hb gX12_taken_4.2.2.2.2.2.2.2.2.1 (by decide) (fun c_84_6553 => ?_) (fun c_84_6553 => ?_)
            · refine lv_iload_n hx hb gX12_taken_5.2.2.2.1 rfl (lv_at0 hl) ?_
              refine lv_iload_n hx hb gX12_taken_5.2.2.2.2.1 rfl (lv_at3 hl) ?_
              refine lv_icmp_ne (tgt := 109) hx hb gX12_taken_5.2.2.2.2.2.1 (by decide) (fun c9 => absurd (c_84_6553) c9) (fun _ => ?_)
              refine lv_aload_n hx hb gX12_taken_5.2.2.2.2.2.2.1 rfl (lv_at1 hl) ?_
              refine gf_X12_75 hC rfl hK hP 0 rfl rfl gX12_taken_5.2.2.2.2.2.2.2.1 ?_
              refine lv_iload_n hx hb gX12_taken_5.2.2.2.2.2.2.2.2.1 rfl (lv_at2 hl) ?_
              refine aldN hC hK hP 3 rfl (k := jt) (by omega) (Nat.le_of_ble_eq_true rfl) (v := fnsf jt) rfl gX12_taken_5.2.2.2.2.2.2.2.2.2 ?_
              refine lv_goto (tgt := 111) hx hb gX12_taken_6.1 (by decide) ?_
              refine toQ hQ0 ?_
              exact RP (v := fnsf jt) hC ((by first | rfl | (simp only [nI_clamp (n := jt) (by omega), ifc_t ekq, ifc_t hkq, ifc_t ek8, ifc_t hk8, ifc_t ek9, ifc_t hk9, ifc_t hN, ifc_t a6544, ifc_t a6546, ifc_f c_37_6547, ifc_f c_84_6550, ifc_t c_84_6553, ifc_t (q := Wi x2 0 6 ∨ Wi x2 10 14) (Or.inl a6546), a6549, ifc_f (q := (1 : Int32) < 0) (by decide), ifc_t (q := UNl (1 : Int32).toNatClampNeg x2) (show UNl 1 x2 from Or.inr (c_84_6553.symm))]; done) | (simp only [nI_clamp (n := jt) (by omega), ifc_t ekq, ifc_t hkq, ifc_t ek8, ifc_t hk8, ifc_t ek9, ifc_t hk9, ifc_t hN, ifc_t a6544, ifc_t a6546, ifc_f c_37_6547, ifc_f c_84_6550, ifc_t c_84_6553, ifc_t (q := Wi x2 0 6 ∨ Wi x2 10 14) (Or.inl a6546), a6549, ifc_f (q := (1 : Int32) < 0) (by decide), ifc_t (q := UNl (1 : Int32).toNatClampNeg x2) (show UNl 1 x2 from Or.inr (c_84_6553.symm))]; rfl))) rfl gX12_taken_6.2.2
            · refine lv_iload_n hx hb gX12_taken_4.2.2.2.2.2.2.2.2.2 rfl (lv_at0 hl) ?_
              refine pS hC hK hl (m_above0 l G) si_X12_348 rfl rfl (Nat.le_of_ble_eq_true rfl) rm_4_1_1 ⟨by first | exact Nat.le_of_ble_eq_true rfl | exact Nat.zero_le _, by first | exact Nat.le_of_ble_eq_true rfl | exact Nat.zero_le _⟩ gX12_taken_5.1 (Keqr ?_)
              refine lv_istore_n (lv' := [(3, .int (-1)), (0, .ref h0), (1, .int (nI jt)), (2, .int x2)]) hx hb gX12_taken_5.2.1 rfl hl (by decide) rfl (fun ls hl => ?_)
              refine lv_goto (tgt := 78) hx hb gX12_taken_5.2.2.1 (by decide) ?_
              refine lv_iload_n hx hb gX12_taken_4.2.2.2.2.1 rfl (lv_at0 hl) ?_
              refine lv_if_lt (tgt := 95) hx hb gX12_taken_4.2.2.2.2.2.1 (by decide) (fun _ => ?_) (fun c9 => absurd (by decide) c9)
              refine lv_iload_n hx hb gX12_taken_5.2.2.2.1 rfl (lv_at0 hl) ?_
              refine lv_iload_n hx hb gX12_taken_5.2.2.2.2.1 rfl (lv_at3 hl) ?_
              refine lv_icmp_ne (tgt := 109) hx hb gX12_taken_5.2.2.2.2.2.1 (by decide) (fun c_97_6556 => ?_) (fun c_97_6556 => ?_)
              · refine lv_bipush (v := (-13)) hx hb gX12_taken_6.2.1 (by decide) ?_
                refine toQ hQ0 ?_
                exact RP (v := (-13)) hC ((by first | rfl | (simp only [nI_clamp (n := jt) (by omega), ifc_t ekq, ifc_t hkq, ifc_t ek8, ifc_t hk8, ifc_t ek9, ifc_t hk9, ifc_t hN, ifc_t a6544, ifc_t a6546, ifc_f c_37_6547, ifc_f c_84_6550, ifc_f c_84_6553, ifc_f c_97_6556, ifc_t (q := Wi x2 0 6 ∨ Wi x2 10 14) (Or.inl a6546), a6549, ifc_f (q := (1 : Int32) < 0) (by decide), ifc_f (q := UNl (1 : Int32).toNatClampNeg x2) (fun h9 => (show False from by have h7 : x2 = 1 ∨ x2 = 0 := h9; rcases h7 with h8 | h8 <;> (first | exact c_84_6550 h8.symm | exact c_84_6553 h8.symm)))]; done) | (simp only [nI_clamp (n := jt) (by omega), ifc_t ekq, ifc_t hkq, ifc_t ek8, ifc_t hk8, ifc_t ek9, ifc_t hk9, ifc_t hN, ifc_t a6544, ifc_t a6546, ifc_f c_37_6547, ifc_f c_84_6550, ifc_f c_84_6553, ifc_f c_97_6556, ifc_t (q := Wi x2 0 6 ∨ Wi x2 10 14) (Or.inl a6546), a6549, ifc_f (q := (1 : Int32) < 0) (by decide), ifc_f (q := UNl (1 : Int32).toNatClampNeg x2) (fun h9 => (show False from by have h7 : x2 = 1 ∨ x2 = 0 := h9; rcases h7 with h8 | h8 <;> (first | exact c_84_6550 h8.symm | exact c_84_6553 h8.symm)))]; rfl))) rfl gX12_taken_6.2.2
              · refine lv_aload_n hx hb gX12_taken_5.2.2.2.2.2.2.1 rfl (lv_at1 hl) ?_
                refine gf_X12_75 hC rfl hK hP 0 rfl rfl gX12_taken_5.2.2.2.2.2.2.2.1 ?_
                refine lv_iload_n hx hb gX12_taken_5.2.2.2.2.2.2.2.2.1 rfl (lv_at2 hl) ?_
                refine aldN hC hK hP 3 rfl (k := jt) (by omega) (Nat.le_of_ble_eq_true rfl) (v := fnsf jt) rfl gX12_taken_5.2.2.2.2.2.2.2.2.2 ?_
                refine lv_goto (tgt := 111) hx hb gX12_taken_6.1 (by decide) ?_
                refine toQ hQ0 ?_
                exact RP (v := fnsf jt) hC ((absurd a6546 (by rw [← c_97_6556]; unfold Wi; decide))) rfl gX12_taken_6.2.2
        · refine lv_istore_n (lv' := [(3, .int 2), (0, .ref h0), (1, .int (nI jt)), (2, .int x2)]) hx hb gX12_taken_3.2.2.2.2.2.2.2.2.2 rfl hl (by decide) rfl (fun ls hl => ?_)
          refine lv_iload_n hx hb gX12_taken_4.1 rfl (lv_at0 hl) ?_
          refine lv_if_ge (tgt := 78) hx hb gX12_taken_4.2.1 (by decide) (fun _ => ?_) (fun c9 => absurd (by decide) c9)
          refine lv_iload_n hx hb gX12_taken_4.2.2.2.2.1 rfl (lv_at0 hl) ?_
          refine lv_if_lt (tgt := 95) hx hb gX12_taken_4.2.2.2.2.2.1 (by decide) (fun c9 => absurd c9 (by decide)) (fun _ => ?_)
          refine lv_iload_n hx hb gX12_taken_4.2.2.2.2.2.2.1 rfl (lv_at0 hl) ?_
          refine lv_iload_n hx hb gX12_taken_4.2.2.2.2.2.2.2.1 rfl (lv_at3 hl) ?_
          refine lv_icmp_eq (tgt := 95) hx hb gX12_taken_4.2.2.2.2.2.2.2.2.1 (by decide) (fun c_84_6557 => ?_) (fun c_84_6557 => ?_)
          · refine lv_iload_n hx hb gX12_taken_5.2.2.2.1 rfl (lv_at0 hl) ?_
            refine lv_iload_n hx hb gX12_taken_5.2.2.2.2.1 rfl (lv_at3 hl) ?_
            refine lv_icmp_ne (tgt := 109) hx hb gX12_taken_5.2.2.2.2.2.1 (by decide) (fun c9 => absurd (c_84_6557) c9) (fun _ => ?_)
            refine lv_aload_n hx hb gX12_taken_5.2.2.2.2.2.2.1 rfl (lv_at1 hl) ?_
            refine gf_X12_75 hC rfl hK hP 0 rfl rfl gX12_taken_5.2.2.2.2.2.2.2.1 ?_
            refine lv_iload_n hx hb gX12_taken_5.2.2.2.2.2.2.2.2.1 rfl (lv_at2 hl) ?_
            refine aldN hC hK hP 3 rfl (k := jt) (by omega) (Nat.le_of_ble_eq_true rfl) (v := fnsf jt) rfl gX12_taken_5.2.2.2.2.2.2.2.2.2 ?_
            refine lv_goto (tgt := 111) hx hb gX12_taken_6.1 (by decide) ?_
            refine toQ hQ0 ?_
            exact RP (v := fnsf jt) hC ((by first | rfl | (simp only [nI_clamp (n := jt) (by omega), ifc_t ekq, ifc_t hkq, ifc_t ek8, ifc_t hk8, ifc_t ek9, ifc_t hk9, ifc_t hN, ifc_t a6544, ifc_t a6546, ifc_f c_37_6547, ifc_t c_84_6557, ifc_t (q := Wi x2 0 6 ∨ Wi x2 10 14) (Or.inl a6546), a6549, ifc_f (q := (2 : Int32) < 0) (by decide), ifc_t (q := UNl (2 : Int32).toNatClampNeg x2) (show UNl 2 x2 from Or.inl (c_84_6557.symm))]; done) | (simp only [nI_clamp (n := jt) (by omega), ifc_t ekq, ifc_t hkq, ifc_t ek8, ifc_t hk8, ifc_t ek9, ifc_t hk9, ifc_t hN, ifc_t a6544, ifc_t a6546, ifc_f c_37_6547, ifc_t c_84_6557, ifc_t (q := Wi x2 0 6 ∨ Wi x2 10 14) (Or.inl a6546), a6549, ifc_f (q := (2 : Int32) < 0) (by decide), ifc_t (q := UNl (2 : Int32).toNatClampNeg x2) (show UNl 2 x2 from Or.inl (c_84_6557.symm))]; rfl))) rfl gX12_taken_6.2.2
          · refine lv_iload_n hx hb gX12_taken_4.2.2.2.2.2.2.2.2.2 rfl (lv_at0 hl) ?_
            refine pS hC hK hl (m_above2 l G) si_X12_348 rfl rfl (Nat.le_of_ble_eq_true rfl) rm_4_1_1 ⟨by first | exact Nat.le_of_ble_eq_true rfl | exact Nat.zero_le _, by first | exact Nat.le_of_ble_eq_true rfl | exact Nat.zero_le _⟩ gX12_taken_5.1 (Keqr ?_)
            refine lv_istore_n (lv' := [(3, .int 0), (0, .ref h0), (1, .int (nI jt)), (2, .int x2)]) hx hb gX12_taken_5.2.1 rfl hl (by decide) rfl (fun ls hl => ?_)
            refine lv_goto (tgt := 78) hx hb gX12_taken_5.2.2.1 (by decide) ?_
            refine lv_iload_n hx hb gX12_taken_4.2.2.2.2.1 rfl (lv_at0 hl) ?_
            refine lv_if_lt (tgt := 95) hx hb gX12_taken_4.2.2.2.2.2.1 (by decide) (fun c9 => absurd c9 (by decide)) (fun _ => ?_)
            refine lv_iload_n hx hb gX12_taken_4.2.2.2.2.2.2.1 rfl (lv_at0 hl) ?_
            refine lv_iload_n hx hb gX12_taken_4.2.2.2.2.2.2.2.1 rfl (lv_at3 hl) ?_
            refine lv_icmp_eq (tgt := 95) hx hb gX12_taken_4.2.2.2.2.2.2.2.2.1 (by decide) (fun c_84_6560 => ?_) (fun c_84_6560 => ?_)
            · refine lv_iload_n hx hb gX12_taken_5.2.2.2.1 rfl (lv_at0 hl) ?_
              refine lv_iload_n hx hb gX12_taken_5.2.2.2.2.1 rfl (lv_at3 hl) ?_
              refine lv_icmp_ne (tgt := 109) hx hb gX12_taken_5.2.2.2.2.2.1 (by decide) (fun c9 => absurd (c_84_6560) c9) (fun _ => ?_)
              refine lv_aload_n hx hb gX12_taken_5.2.2.2.2.2.2.1 rfl (lv_at1 hl) ?_
              refine gf_X12_75 hC rfl hK hP 0 rfl rfl gX12_taken_5.2.2.2.2.2.2.2.1 ?_
              refine lv_iload_n hx hb gX12_taken_5.2.2.2.2.2.2.2.2.1 rfl (lv_at2 hl) ?_
              refine aldN hC hK hP 3 rfl (k := jt) (by omega) (Nat.le_of_ble_eq_true rfl) (v := fnsf jt) rfl gX12_taken_5.2.2.2.2.2.2.2.2.2 ?_
              refine lv_goto (tgt := 111) hx hb gX12_taken_6.1 (by decide) ?_
              refine toQ hQ0 ?_
              exact RP (v := fnsf jt) hC ((by first | rfl | (simp only [nI_clamp (n := jt) (by omega), ifc_t ekq, ifc_t hkq, ifc_t ek8, ifc_t hk8, ifc_t ek9, ifc_t hk9, ifc_t hN, ifc_t a6544, ifc_t a6546, ifc_f c_37_6547, ifc_f c_84_6557, ifc_t c_84_6560, ifc_t (q := Wi x2 0 6 ∨ Wi x2 10 14) (Or.inl a6546), a6549, ifc_f (q := (2 : Int32) < 0) (by decide), ifc_t (q := UNl (2 : Int32).toNatClampNeg x2) (show UNl 2 x2 from Or.inr (c_84_6560.symm))]; done) | (simp only [nI_clamp (n := jt) (by omega), ifc_t ekq, ifc_t hkq, ifc_t ek8, ifc_t hk8, ifc_t ek9, ifc_t hk9, ifc_t hN, ifc_t a6544, ifc_t a6546, ifc_f c_37_6547, ifc_f c_84_6557, ifc_t c_84_6560, ifc_t (q := Wi x2 0 6 ∨ Wi x2 10 14) (Or.inl a6546), a6549, ifc_f (q := (2 : Int32) < 0) (by decide), ifc_t (q := UNl (2 : Int32).toNatClampNeg x2) (show UNl 2 x2 from Or.inr (c_84_6560.symm))]; rfl))) rfl gX12_taken_6.2.2
            · refine lv_iload_n hx hb gX12_taken_4.2.2.2.2.2.2.2.2.2 rfl (lv_at0 hl) ?_
              refine pS hC hK hl (m_above0 l G) si_X12_348 rfl rfl (Nat.le_of_ble_eq_true rfl) rm_4_1_1 ⟨by first | exact Nat.le_of_ble_eq_true rfl | exact Nat.zero_le _, by first | exact Nat.le_of_ble_eq_true rfl | exact Nat.zero_le _⟩ gX12_taken_5.1 (Keqr ?_)
              refine lv_istore_n (lv' := [(3, .int (-1)), (0, .ref h0), (1, .int (nI jt)), (2, .int x2)]) hx hb gX12_taken_5.2.1 rfl hl (by decide) rfl (fun ls hl => ?_)
              refine lv_goto (tgt := 78) hx hb gX12_taken_5.2.2.1 (by decide) ?_
              refine lv_iload_n hx hb gX12_taken_4.2.2.2.2.1 rfl (lv_at0 hl) ?_
              refine lv_if_lt (tgt := 95) hx hb gX12_taken_4.2.2.2.2.2.1 (by decide) (fun _ => ?_) (fun c9 => absurd (by decide) c9)
              refine lv_iload_n hx hb gX12_taken_5.2.2.2.1 rfl (lv_at0 hl) ?_
              refine lv_iload_n hx hb gX12_taken_5.2.2.2.2.1 rfl (lv_at3 hl) ?_
              refine lv_icmp_ne (tgt := 109) hx hb gX12_taken_5.2.2.2.2.2.1 (by decide) (fun c_97_6563 => ?_) (fun c_97_6563 => ?_)
              · refine lv_bipush (v := (-13)) hx hb gX12_taken_6.2.1 (by decide) ?_
                refine toQ hQ0 ?_
                exact RP (v := (-13)) hC ((by first | rfl | (simp only [nI_clamp (n := jt) (by omega), ifc_t ekq, ifc_t hkq, ifc_t ek8, ifc_t hk8, ifc_t ek9, ifc_t hk9, ifc_t hN, ifc_t a6544, ifc_t a6546, ifc_f c_37_6547, ifc_f c_84_6557, ifc_f c_84_6560, ifc_f c_97_6563, ifc_t (q := Wi x2 0 6 ∨ Wi x2 10 14) (Or.inl a6546), a6549, ifc_f (q := (2 : Int32) < 0) (by decide), ifc_f (q := UNl (2 : Int32).toNatClampNeg x2) (fun h9 => (show False from by have h7 : x2 = 2 ∨ x2 = 0 := h9; rcases h7 with h8 | h8 <;> (first | exact c_84_6557 h8.symm | exact c_84_6560 h8.symm)))]; done) | (simp only [nI_clamp (n := jt) (by omega), ifc_t ekq, ifc_t hkq, ifc_t ek8, ifc_t hk8, ifc_t ek9, ifc_t hk9, ifc_t hN, ifc_t a6544, ifc_t a6546, ifc_f c_37_6547, ifc_f c_84_6557, ifc_f c_84_6560, ifc_f c_97_6563, ifc_t (q := Wi x2 0 6 ∨ Wi x2 10 14) (Or.inl a6546), a6549, ifc_f (q := (2 : Int32) < 0) (by decide), ifc_f (q := UNl (2 : Int32).toNatClampNeg x2) (fun h9 => (show False from by have h7 : x2 = 2 ∨ x2 = 0 := h9; rcases h7 with h8 | h8 <;> (first | exact c_84_6557 h8.symm | exact c_84_6560 h8.symm)))]; rfl))) rfl gX12_taken_6.2.2
              · refine lv_aload_n hx hb gX12_taken_5.2.2.2.2.2.2.1 rfl (lv_at1 hl) ?_
                refine gf_X12_75 hC rfl hK hP 0 rfl rfl gX12_taken_5.2.2.2.2.2.2.2.1 ?_
                refine lv_iload_n hx hb gX12_taken_5.2.2.2.2.2.2.2.2.1 rfl (lv_at2 hl) ?_
                refine aldN hC hK hP 3 rfl (k := jt) (by omega) (Nat.le_of_ble_eq_true rfl) (v := fnsf jt) rfl gX12_taken_5.2.2.2.2.2.2.2.2.2 ?_
                refine lv_goto (tgt := 111) hx hb gX12_taken_6.1 (by decide) ?_
                refine toQ hQ0 ?_
                exact RP (v := fnsf jt) hC ((absurd a6546 (by rw [← c_97_6563]; unfold Wi; decide))) rfl gX12_taken_6.2.2
        · refine lv_istore_n (lv' := [(3, .int 3), (0, .ref h0), (1, .int (nI jt)), (2, .int x2)]) hx hb gX12_taken_3.2.2.2.2.2.2.2.2.2 rfl hl (by decide) rfl (fun ls hl => ?_)
          refine lv_iload_n hx hb gX12_taken_4.1 rfl (lv_at0 hl) ?_
          refine lv_if_ge (tgt := 78) hx hb gX12_taken_4.2.1 (by decide) (fun _ => ?_) (fun c9 => absurd (by decide) c9)
          refine lv_iload_n hx hb gX12_taken_4.2.2.2.2.1 rfl (lv_at0 hl) ?_
          refine lv_if_lt (tgt := 95) hx hb gX12_taken_4.2.2.2.2.2.1 (by decide) (fun c9 => absurd c9 (by decide)) (fun _ => ?_)
          refine lv_iload_n hx hb gX12_taken_4.2.2.2.2.2.2.1 rfl (lv_at0 hl) ?_
          refine lv_iload_n hx hb gX12_taken_4.2.2.2.2.2.2.2.1 rfl (lv_at3 hl) ?_
          refine lv_icmp_eq (tgt := 95) hx hb gX12_taken_4.2.2.2.2.2.2.2.2.1 (by decide) (fun c_84_6564 => ?_) (fun c_84_6564 => ?_)
          · refine lv_iload_n hx hb gX12_taken_5.2.2.2.1 rfl (lv_at0 hl) ?_
            refine lv_iload_n hx hb gX12_taken_5.2.2.2.2.1 rfl (lv_at3 hl) ?_
            refine lv_icmp_ne (tgt := 109) hx hb gX12_taken_5.2.2.2.2.2.1 (by decide) (fun c9 => absurd (c_84_6564) c9) (fun _ => ?_)
            refine lv_aload_n hx hb gX12_taken_5.2.2.2.2.2.2.1 rfl (lv_at1 hl) ?_
            refine gf_X12_75 hC rfl hK hP 0 rfl rfl gX12_taken_5.2.2.2.2.2.2.2.1 ?_
            refine lv_iload_n hx hb gX12_taken_5.2.2.2.2.2.2.2.2.1 rfl (lv_at2 hl) ?_
            refine aldN hC hK hP 3 rfl (k := jt) (by omega) (Nat.le_of_ble_eq_true rfl) (v := fnsf jt) rfl gX12_taken_5.2.2.2.2.2.2.2.2.2 ?_
            refine lv_goto (tgt := 111) hx hb gX12_taken_6.1 (by decide) ?_
            refine toQ hQ0 ?_
            exact RP (v := fnsf jt) hC ((by first | rfl | (simp only [nI_clamp (n := jt) (by omega), ifc_t ekq, ifc_t hkq, ifc_t ek8, ifc_t hk8, ifc_t ek9, ifc_t hk9, ifc_t hN, ifc_t a6544, ifc_t a6546, ifc_f c_37_6547, ifc_t c_84_6564, ifc_t (q := Wi x2 0 6 ∨ Wi x2 10 14) (Or.inl a6546), a6549, ifc_f (q := (3 : Int32) < 0) (by decide), ifc_t (q := UNl (3 : Int32).toNatClampNeg x2) (show UNl 3 x2 from Or.inl (c_84_6564.symm))]; done) | (simp only [nI_clamp (n := jt) (by omega), ifc_t ekq, ifc_t hkq, ifc_t ek8, ifc_t hk8, ifc_t ek9, ifc_t hk9, ifc_t hN, ifc_t a6544, ifc_t a6546, ifc_f c_37_6547, ifc_t c_84_6564, ifc_t (q := Wi x2 0 6 ∨ Wi x2 10 14) (Or.inl a6546), a6549, ifc_f (q := (3 : Int32) < 0) (by decide), ifc_t (q := UNl (3 : Int32).toNatClampNeg x2) (show UNl 3 x2 from Or.inl (c_84_6564.symm))]; rfl))) rfl gX12_taken_6.2.2
          · refine lv_iload_n hx hb gX12_taken_4.2.2.2.2.2.2.2.2.2 rfl (lv_at0 hl) ?_
            refine pS hC hK hl (m_above3 l G) si_X12_348 rfl rfl (Nat.le_of_ble_eq_true rfl) rm_4_1_1 ⟨by first | exact Nat.le_of_ble_eq_true rfl | exact Nat.zero_le _, by first | exact Nat.le_of_ble_eq_true rfl | exact Nat.zero_le _⟩ gX12_taken_5.1 (Keqr ?_)
            refine lv_istore_n (lv' := [(3, .int 1), (0, .ref h0), (1, .int (nI jt)), (2, .int x2)]) hx hb gX12_taken_5.2.1 rfl hl (by decide) rfl (fun ls hl => ?_)
            refine lv_goto (tgt := 78) hx hb gX12_taken_5.2.2.1 (by decide) ?_
            refine lv_iload_n hx hb gX12_taken_4.2.2.2.2.1 rfl (lv_at0 hl) ?_
            refine lv_if_lt (tgt := 95) hx hb gX12_taken_4.2.2.2.2.2.1 (by decide) (fun c9 => absurd c9 (by decide)) (fun _ => ?_)
            refine lv_iload_n hx hb gX12_taken_4.2.2.2.2.2.2.1 rfl (lv_at0 hl) ?_
            refine lv_iload_n hx hb gX12_taken_4.2.2.2.2.2.2.2.1 rfl (lv_at3 hl) ?_
            refine lv_icmp_eq (tgt := 95) hx hb gX12_taken_4.2.2.2.2.2.2.2.2.1 (by decide) (fun c_84_6567 => ?_) (fun c_84_6567 => ?_)
            · refine lv_iload_n hx hb gX12_taken_5.2.2.2.1 rfl (lv_at0 hl) ?_
              refine lv_iload_n hx hb gX12_taken_5.2.2.2.2.1 rfl (lv_at3 hl) ?_
              refine lv_icmp_ne (tgt := 109) hx hb gX12_taken_5.2.2.2.2.2.1 (by decide) (fun c9 => absurd (c_84_6567) c9) (fun _ => ?_)
              refine lv_aload_n hx hb gX12_taken_5.2.2.2.2.2.2.1 rfl (lv_at1 hl) ?_
              refine gf_X12_75 hC rfl hK hP 0 rfl rfl gX12_taken_5.2.2.2.2.2.2.2.1 ?_
              refine lv_iload_n hx hb gX12_taken_5.2.2.2.2.2.2.2.2.1 rfl (lv_at2 hl) ?_
              refine aldN hC hK hP 3 rfl (k := jt) (by omega) (Nat.le_of_ble_eq_true rfl) (v := fnsf jt) rfl gX12_taken_5.2.2.2.2.2.2.2.2.2 ?_
              refine lv_goto (tgt := 111) hx hb gX12_taken_6.1 (by decide) ?_
              refine toQ hQ0 ?_
              exact RP (v := fnsf jt) hC ((by first | rfl | (simp only [nI_clamp (n := jt) (by omega), ifc_t ekq, ifc_t hkq, ifc_t ek8, ifc_t hk8, ifc_t ek9, ifc_t hk9, ifc_t hN, ifc_t a6544, ifc_t a6546, ifc_f c_37_6547, ifc_f c_84_6564, ifc_t c_84_6567, ifc_t (q := Wi x2 0 6 ∨ Wi x2 10 14) (Or.inl a6546), a6549, ifc_f (q := (3 : Int32) < 0) (by decide), ifc_t (q := UNl (3 : Int32).toNatClampNeg x2) (show UNl 3 x2 from Or.inr (Or.inl (c_84_6567.symm)))]; done) | (simp only [nI_clamp (n := jt) (by omega), ifc_t ekq, ifc_t hkq, ifc_t ek8, ifc_t hk8, ifc_t ek9, ifc_t hk9, ifc_t hN, ifc_t a6544, ifc_t a6546, ifc_f c_37_6547, ifc_f c_84_6564, ifc_t c_84_6567, ifc_t (q := Wi x2 0 6 ∨ Wi x2 10 14) (Or.inl a6546), a6549, ifc_f (q := (3 : Int32) < 0) (by decide), ifc_t (q := UNl (3 : Int32).toNatClampNeg x2) (show UNl 3 x2 from Or.inr (Or.inl (c_84_6567.symm)))]; rfl))) rfl gX12_taken_6.2.2
            · refine lv_iload_n hx hb gX12_taken_4.2.2.2.2.2.2.2.2.2 rfl (lv_at0 hl) ?_
              refine pS hC hK hl (m_above1 l G) si_X12_348 rfl rfl (Nat.le_of_ble_eq_true rfl) rm_4_1_1 ⟨by first | exact Nat.le_of_ble_eq_true rfl | exact Nat.zero_le _, by first | exact Nat.le_of_ble_eq_true rfl | exact Nat.zero_le _⟩ gX12_taken_5.1 (Keqr ?_)
              refine lv_istore_n (lv' := [(3, .int 0), (0, .ref h0), (1, .int (nI jt)), (2, .int x2)]) hx hb gX12_taken_5.2.1 rfl hl (by decide) rfl (fun ls hl => ?_)
              refine lv_goto (tgt := 78) hx hb gX12_taken_5.2.2.1 (by decide) ?_
              refine lv_iload_n hx hb gX12_taken_4.2.2.2.2.1 rfl (lv_at0 hl) ?_
              refine lv_if_lt (tgt := 95) hx hb gX12_taken_4.2.2.2.2.2.1 (by decide) (fun c9 => absurd c9 (by decide)) (fun _ => ?_)
              refine lv_iload_n hx hb gX12_taken_4.2.2.2.2.2.2.1 rfl (lv_at0 hl) ?_
              refine lv_iload_n hx hb gX12_taken_4.2.2.2.2.2.2.2.1 rfl (lv_at3 hl) ?_
              refine lv_icmp_eq (tgt := 95) hx hb gX12_taken_4.2.2.2.2.2.2.2.2.1 (by decide) (fun c_84_6570 => ?_) (fun c_84_6570 => ?_)
              · refine lv_iload_n hx hb gX12_taken_5.2.2.2.1 rfl (lv_at0 hl) ?_
                refine lv_iload_n hx hb gX12_taken_5.2.2.2.2.1 rfl (lv_at3 hl) ?_
                refine lv_icmp_ne (tgt := 109) hx hb gX12_taken_5.2.2.2.2.2.1 (by decide) (fun c9 => absurd (c_84_6570) c9) (fun _ => ?_)
                refine lv_aload_n hx hb gX12_taken_5.2.2.2.2.2.2.1 rfl (lv_at1 hl) ?_
                refine gf_X12_75 hC rfl hK hP 0 rfl rfl gX12_taken_5.2.2.2.2.2.2.2.1 ?_
                refine lv_iload_n hx hb gX12_taken_5.2.2.2.2.2.2.2.2.1 rfl (lv_at2 hl) ?_
                refine aldN hC hK hP 3 rfl (k := jt) (by omega) (Nat.le_of_ble_eq_true rfl) (v := fnsf jt) rfl gX12_taken_5.2.2.2.2.2.2.2.2.2 ?_
                refine lv_goto (tgt := 111) hx hb gX12_taken_6.1 (by decide) ?_
                refine toQ hQ0 ?_
                exact RP (v := fnsf jt) hC ((by first | rfl | (simp only [nI_clamp (n := jt) (by omega), ifc_t ekq, ifc_t hkq, ifc_t ek8, ifc_t hk8, ifc_t ek9, ifc_t hk9, ifc_t hN, ifc_t a6544, ifc_t a6546, ifc_f c_37_6547, ifc_f c_84_6564, ifc_f c_84_6567, ifc_t c_84_6570, ifc_t (q := Wi x2 0 6 ∨ Wi x2 10 14) (Or.inl a6546), a6549, ifc_f (q := (3 : Int32) < 0) (by decide), ifc_t (q := UNl (3 : Int32).toNatClampNeg x2) (show UNl 3 x2 from Or.inr (Or.inr (c_84_6570.symm)))]; done) | (simp only [nI_clamp (n := jt) (by omega), ifc_t ekq, ifc_t hkq, ifc_t ek8, ifc_t hk8, ifc_t ek9, ifc_t hk9, ifc_t hN, ifc_t a6544, ifc_t a6546, ifc_f c_37_6547, ifc_f c_84_6564, ifc_f c_84_6567, ifc_t c_84_6570, ifc_t (q := Wi x2 0 6 ∨ Wi x2 10 14) (Or.inl a6546), a6549, ifc_f (q := (3 : Int32) < 0) (by decide), ifc_t (q := UNl (3 : Int32).toNatClampNeg x2) (show UNl 3 x2 from Or.inr (Or.inr (c_84_6570.symm)))]; rfl))) rfl gX12_taken_6.2.2
              · refine lv_iload_n hx hb gX12_taken_4.2.2.2.2.2.2.2.2.2 rfl (lv_at0 hl) ?_
                refine pS hC hK hl (m_above0 l G) si_X12_348 rfl rfl (Nat.le_of_ble_eq_true rfl) rm_4_1_1 ⟨by first | exact Nat.le_of_ble_eq_true rfl | exact Nat.zero_le _, by first | exact Nat.le_of_ble_eq_true rfl | exact Nat.zero_le _⟩ gX12_taken_5.1 (Keqr ?_)
                refine lv_istore_n (lv' := [(3, .int (-1)), (0, .ref h0), (1, .int (nI jt)), (2, .int x2)]) hx hb gX12_taken_5.2.1 rfl hl (by decide) rfl (fun ls hl => ?_)
                refine lv_goto (tgt := 78) hx hb gX12_taken_5.2.2.1 (by decide) ?_
                refine lv_iload_n hx hb gX12_taken_4.2.2.2.2.1 rfl (lv_at0 hl) ?_
                refine lv_if_lt (tgt := 95) hx hb gX12_taken_4.2.2.2.2.2.1 (by decide) (fun _ => ?_) (fun c9 => absurd (by decide) c9)
                refine lv_iload_n hx hb gX12_taken_5.2.2.2.1 rfl (lv_at0 hl) ?_
                refine lv_iload_n hx hb gX12_taken_5.2.2.2.2.1 rfl (lv_at3 hl) ?_
                refine lv_icmp_ne (tgt := 109) hx hb gX12_taken_5.2.2.2.2.2.1 (by decide) (fun c_97_6573 => ?_) (fun c_97_6573 => ?_)
                · refine lv_bipush (v := (-13)) hx hb gX12_taken_6.2.1 (by decide) ?_
                  refine toQ hQ0 ?_
                  exact RP (v := (-13)) hC ((by first | rfl | (simp only [nI_clamp (n := jt) (by omega), ifc_t ekq, ifc_t hkq, ifc_t ek8, ifc_t hk8, ifc_t ek9, ifc_t hk9, ifc_t hN, ifc_t a6544, ifc_t a6546, ifc_f c_37_6547, ifc_f c_84_6564, ifc_f c_84_6567, ifc_f c_84_6570, ifc_f c_97_6573, ifc_t (q := Wi x2 0 6 ∨ Wi x2 10 14) (Or.inl a6546), a6549, ifc_f (q := (3 : Int32) < 0) (by decide), ifc_f (q := UNl (3 : Int32).toNatClampNeg x2) (fun h9 => (show False from by have h7 : x2 = 3 ∨ x2 = 1 ∨ x2 = 0 := h9; rcases h7 with h8 | h8 | h8 <;> (first | exact c_84_6564 h8.symm | exact c_84_6567 h8.symm | exact c_84_6570 h8.symm)))]; done) | (simp only [nI_clamp (n := jt) (by omega), ifc_t ekq, ifc_t hkq, ifc_t ek8, ifc_t hk8, ifc_t ek9, ifc_t hk9, ifc_t hN, ifc_t a6544, ifc_t a6546, ifc_f c_37_6547, ifc_f c_84_6564, ifc_f c_84_6567, ifc_f c_84_6570, ifc_f c_97_6573, ifc_t (q := Wi x2 0 6 ∨ Wi x2 10 14) (Or.inl a6546), a6549, ifc_f (q := (3 : Int32) < 0) (by decide), ifc_f (q := UNl (3 : Int32).toNatClampNeg x2) (fun h9 => (show False from by have h7 : x2 = 3 ∨ x2 = 1 ∨ x2 = 0 := h9; rcases h7 with h8 | h8 | h8 <;> (first | exact c_84_6564 h8.symm | exact c_84_6567 h8.symm | exact c_84_6570 h8.symm)))]; rfl))) rfl gX12_taken_6.2.2
                · refine lv_aload_n hx hb gX12_taken_5.2.2.2.2.2.2.1 rfl (lv_at1 hl) ?_
                  refine gf_X12_75 hC rfl hK hP 0 rfl rfl gX12_taken_5.2.2.2.2.2.2.2.1 ?_
                  refine lv_iload_n hx hb gX12_taken_5.2.2.2.2.2.2.2.2.1 rfl (lv_at2 hl) ?_
                  refine aldN hC hK hP 3 rfl (k := jt) (by omega) (Nat.le_of_ble_eq_true rfl) (v := fnsf jt) rfl gX12_taken_5.2.2.2.2.2.2.2.2.2 ?_
                  refine lv_goto (tgt := 111) hx hb gX12_taken_6.1 (by decide) ?_
                  refine toQ hQ0 ?_
                  exact RP (v := fnsf jt) hC ((absurd a6546 (by rw [← c_97_6573]; unfold Wi; decide))) rfl gX12_taken_6.2.2
        · refine lv_istore_n (lv' := [(3, .int 4), (0, .ref h0), (1, .int (nI jt)), (2, .int x2)]) hx hb gX12_taken_3.2.2.2.2.2.2.2.2.2 rfl hl (by decide) rfl (fun ls hl => ?_)
          refine lv_iload_n hx hb gX12_taken_4.1 rfl (lv_at0 hl) ?_
          refine lv_if_ge (tgt := 78) hx hb gX12_taken_4.2.1 (by decide) (fun _ => ?_) (fun c9 => absurd (by decide) c9)
          refine lv_iload_n hx hb gX12_taken_4.2.2.2.2.1 rfl (lv_at0 hl) ?_
          refine lv_if_lt (tgt := 95) hx hb gX12_taken_4.2.2.2.2.2.1 (by decide) (fun c9 => absurd c9 (by decide)) (fun _ => ?_)
          refine lv_iload_n hx hb gX12_taken_4.2.2.2.2.2.2.1 rfl (lv_at0 hl) ?_
          refine lv_iload_n hx hb gX12_taken_4.2.2.2.2.2.2.2.1 rfl (lv_at3 hl) ?_
          refine lv_icmp_eq (tgt := 95) hx hb gX12_taken_4.2.2.2.2.2.2.2.2.1 (by decide) (fun c_84_6574 => ?_) (fun c_84_6574 => ?_)
          · refine lv_iload_n hx hb gX12_taken_5.2.2.2.1 rfl (lv_at0 hl) ?_
            refine lv_iload_n hx hb gX12_taken_5.2.2.2.2.1 rfl (lv_at3 hl) ?_
            refine lv_icmp_ne (tgt := 109) hx hb gX12_taken_5.2.2.2.2.2.1 (by decide) (fun c9 => absurd (c_84_6574) c9) (fun _ => ?_)
            refine lv_aload_n hx hb gX12_taken_5.2.2.2.2.2.2.1 rfl (lv_at1 hl) ?_
            refine gf_X12_75 hC rfl hK hP 0 rfl rfl gX12_taken_5.2.2.2.2.2.2.2.1 ?_
            refine lv_iload_n hx hb gX12_taken_5.2.2.2.2.2.2.2.2.1 rfl (lv_at2 hl) ?_
            refine aldN hC hK hP 3 rfl (k := jt) (by omega) (Nat.le_of_ble_eq_true rfl) (v := fnsf jt) rfl gX12_taken_5.2.2.2.2.2.2.2.2.2 ?_
            refine lv_goto (tgt := 111) hx hb gX12_taken_6.1 (by decide) ?_
            refine toQ hQ0 ?_
            exact RP (v := fnsf jt) hC ((by first | rfl | (simp only [nI_clamp (n := jt) (by omega), ifc_t ekq, ifc_t hkq, ifc_t ek8, ifc_t hk8, ifc_t ek9, ifc_t hk9, ifc_t hN, ifc_t a6544, ifc_t a6546, ifc_f c_37_6547, ifc_t c_84_6574, ifc_t (q := Wi x2 0 6 ∨ Wi x2 10 14) (Or.inl a6546), a6549, ifc_f (q := (4 : Int32) < 0) (by decide), ifc_t (q := UNl (4 : Int32).toNatClampNeg x2) (show UNl 4 x2 from Or.inl (c_84_6574.symm))]; done) | (simp only [nI_clamp (n := jt) (by omega), ifc_t ekq, ifc_t hkq, ifc_t ek8, ifc_t hk8, ifc_t ek9, ifc_t hk9, ifc_t hN, ifc_t a6544, ifc_t a6546, ifc_f c_37_6547, ifc_t c_84_6574, ifc_t (q := Wi x2 0 6 ∨ Wi x2 10 14) (Or.inl a6546), a6549, ifc_f (q := (4 : Int32) < 0) (by decide), ifc_t (q := UNl (4 : Int32).toNatClampNeg x2) (show UNl 4 x2 from Or.inl (c_84_6574.symm))]; rfl))) rfl gX12_taken_6.2.2
          · refine lv_iload_n hx hb gX12_taken_4.2.2.2.2.2.2.2.2.2 rfl (lv_at0 hl) ?_
            refine pS hC hK hl (m_above4 l G) si_X12_348 rfl rfl (Nat.le_of_ble_eq_true rfl) rm_4_1_1 ⟨by first | exact Nat.le_of_ble_eq_true rfl | exact Nat.zero_le _, by first | exact Nat.le_of_ble_eq_true rfl | exact Nat.zero_le _⟩ gX12_taken_5.1 (Keqr ?_)
            refine lv_istore_n (lv' := [(3, .int 0), (0, .ref h0), (1, .int (nI jt)), (2, .int x2)]) hx hb gX12_taken_5.2.1 rfl hl (by decide) rfl (fun ls hl => ?_)
            refine lv_goto (tgt := 78) hx hb gX12_taken_5.2.2.1 (by decide) ?_
            refine lv_iload_n hx hb gX12_taken_4.2.2.2.2.1 rfl (lv_at0 hl) ?_
            refine lv_if_lt (tgt := 95) hx hb gX12_taken_4.2.2.2.2.2.1 (by decide) (fun c9 => absurd c9 (by decide)) (fun _ => ?_)
            refine lv_iload_n hx hb gX12_taken_4.2.2.2.2.2.2.1 rfl (lv_at0 hl) ?_
            refine lv_iload_n hx hb gX12_taken_4.2.2.2.2.2.2.2.1 rfl (lv_at3 hl) ?_
            refine lv_icmp_eq (tgt := 95) hx hb gX12_taken_4.2.2.2.2.2.2.2.2.1 (by decide) (fun c_84_6577 => ?_) (fun c_84_6577 => ?_)
            · refine lv_iload_n hx hb gX12_taken_5.2.2.2.1 rfl (lv_at0 hl) ?_
              refine lv_iload_n hx hb gX12_taken_5.2.2.2.2.1 rfl (lv_at3 hl) ?_
              refine lv_icmp_ne (tgt := 109) hx hb gX12_taken_5.2.2.2.2.2.1 (by decide) (fun c9 => absurd (c_84_6577) c9) (fun _ => ?_)
              refine lv_aload_n hx hb gX12_taken_5.2.2.2.2.2.2.1 rfl (lv_at1 hl) ?_
              refine gf_X12_75 hC rfl hK hP 0 rfl rfl gX12_taken_5.2.2.2.2.2.2.2.1 ?_
              refine lv_iload_n hx hb gX12_taken_5.2.2.2.2.2.2.2.2.1 rfl (lv_at2 hl) ?_
              refine aldN hC hK hP 3 rfl (k := jt) (by omega) (Nat.le_of_ble_eq_true rfl) (v := fnsf jt) rfl gX12_taken_5.2.2.2.2.2.2.2.2.2 ?_
              refine lv_goto (tgt := 111) hx hb gX12_taken_6.1 (by decide) ?_
              refine toQ hQ0 ?_
              exact RP (v := fnsf jt) hC ((by first | rfl | (simp only [nI_clamp (n := jt) (by omega), ifc_t ekq, ifc_t hkq, ifc_t ek8, ifc_t hk8, ifc_t ek9, ifc_t hk9, ifc_t hN, ifc_t a6544, ifc_t a6546, ifc_f c_37_6547, ifc_f c_84_6574, ifc_t c_84_6577, ifc_t (q := Wi x2 0 6 ∨ Wi x2 10 14) (Or.inl a6546), a6549, ifc_f (q := (4 : Int32) < 0) (by decide), ifc_t (q := UNl (4 : Int32).toNatClampNeg x2) (show UNl 4 x2 from Or.inr (c_84_6577.symm))]; done) | (simp only [nI_clamp (n := jt) (by omega), ifc_t ekq, ifc_t hkq, ifc_t ek8, ifc_t hk8, ifc_t ek9, ifc_t hk9, ifc_t hN, ifc_t a6544, ifc_t a6546, ifc_f c_37_6547, ifc_f c_84_6574, ifc_t c_84_6577, ifc_t (q := Wi x2 0 6 ∨ Wi x2 10 14) (Or.inl a6546), a6549, ifc_f (q := (4 : Int32) < 0) (by decide), ifc_t (q := UNl (4 : Int32).toNatClampNeg x2) (show UNl 4 x2 from Or.inr (c_84_6577.symm))]; rfl))) rfl gX12_taken_6.2.2
            · refine lv_iload_n hx hb gX12_taken_4.2.2.2.2.2.2.2.2.2 rfl (lv_at0 hl) ?_
              refine pS hC hK hl (m_above0 l G) si_X12_348 rfl rfl (Nat.le_of_ble_eq_true rfl) rm_4_1_1 ⟨by first | exact Nat.le_of_ble_eq_true rfl | exact Nat.zero_le _, by first | exact Nat.le_of_ble_eq_true rfl | exact Nat.zero_le _⟩ gX12_taken_5.1 (Keqr ?_)
              refine lv_istore_n (lv' := [(3, .int (-1)), (0, .ref h0), (1, .int (nI jt)), (2, .int x2)]) hx hb gX12_taken_5.2.1 rfl hl (by decide) rfl (fun ls hl => ?_)
              refine lv_goto (tgt := 78) hx hb gX12_taken_5.2.2.1 (by decide) ?_
              refine lv_iload_n hx hb gX12_taken_4.2.2.2.2.1 rfl (lv_at0 hl) ?_
              refine lv_if_lt (tgt := 95) hx hb gX12_taken_4.2.2.2.2.2.1 (by decide) (fun _ => ?_) (fun c9 => absurd (by decide) c9)
              refine lv_iload_n hx hb gX12_taken_5.2.2.2.1 rfl (lv_at0 hl) ?_
              refine lv_iload_n hx hb gX12_taken_5.2.2.2.2.1 rfl (lv_at3 hl) ?_
              refine lv_icmp_ne (tgt := 109) hx hb gX12_taken_5.2.2.2.2.2.1 (by decide) (fun c_97_6580 => ?_) (fun c_97_6580 => ?_)
              · refine lv_bipush (v := (-13)) hx hb gX12_taken_6.2.1 (by decide) ?_
                refine toQ hQ0 ?_
                exact RP (v := (-13)) hC ((by first | rfl | (simp only [nI_clamp (n := jt) (by omega), ifc_t ekq, ifc_t hkq, ifc_t ek8, ifc_t hk8, ifc_t ek9, ifc_t hk9, ifc_t hN, ifc_t a6544, ifc_t a6546, ifc_f c_37_6547, ifc_f c_84_6574, ifc_f c_84_6577, ifc_f c_97_6580, ifc_t (q := Wi x2 0 6 ∨ Wi x2 10 14) (Or.inl a6546), a6549, ifc_f (q := (4 : Int32) < 0) (by decide), ifc_f (q := UNl (4 : Int32).toNatClampNeg x2) (fun h9 => (show False from by have h7 : x2 = 4 ∨ x2 = 0 := h9; rcases h7 with h8 | h8 <;> (first | exact c_84_6574 h8.symm | exact c_84_6577 h8.symm)))]; done) | (simp only [nI_clamp (n := jt) (by omega), ifc_t ekq, ifc_t hkq, ifc_t ek8, ifc_t hk8, ifc_t ek9, ifc_t hk9, ifc_t hN, ifc_t a6544, ifc_t a6546, ifc_f c_37_6547, ifc_f c_84_6574, ifc_f c_84_6577, ifc_f c_97_6580, ifc_t (q := Wi x2 0 6 ∨ Wi x2 10 14) (Or.inl a6546), a6549, ifc_f (q := (4 : Int32) < 0) (by decide), ifc_f (q := UNl (4 : Int32).toNatClampNeg x2) (fun h9 => (show False from by have h7 : x2 = 4 ∨ x2 = 0 := h9; rcases h7 with h8 | h8 <;> (first | exact c_84_6574 h8.symm | exact c_84_6577 h8.symm)))]; rfl))) rfl gX12_taken_6.2.2
              · refine lv_aload_n hx hb gX12_taken_5.2.2.2.2.2.2.1 rfl (lv_at1 hl) ?_
                refine gf_X12_75 hC rfl hK hP 0 rfl rfl gX12_taken_5.2.2.2.2.2.2.2.1 ?_
                refine lv_iload_n hx hb gX12_taken_5.2.2.2.2.2.2.2.2.1 rfl (lv_at2 hl) ?_
                refine aldN hC hK hP 3 rfl (k := jt) (by omega) (Nat.le_of_ble_eq_true rfl) (v := fnsf jt) rfl gX12_taken_5.2.2.2.2.2.2.2.2.2 ?_
                refine lv_goto (tgt := 111) hx hb gX12_taken_6.1 (by decide) ?_
                refine toQ hQ0 ?_
                exact RP (v := fnsf jt) hC ((absurd a6546 (by rw [← c_97_6580]; unfold Wi; decide))) rfl gX12_taken_6.2.2
        · refine lv_istore_n (lv' := [(3, .int 5), (0, .ref h0), (1, .int (nI jt)), (2, .int x2)]) hx hb gX12_taken_3.2.2.2.2.2.2.2.2.2 rfl hl (by decide) rfl (fun ls hl => ?_)
          refine lv_iload_n hx hb gX12_taken_4.1 rfl (lv_at0 hl) ?_
          refine lv_if_ge (tgt := 78) hx hb gX12_taken_4.2.1 (by decide) (fun _ => ?_) (fun c9 => absurd (by decide) c9)
          refine lv_iload_n hx hb gX12_taken_4.2.2.2.2.1 rfl (lv_at0 hl) ?_
          refine lv_if_lt (tgt := 95) hx hb gX12_taken_4.2.2.2.2.2.1 (by decide) (fun c9 => absurd c9 (by decide)) (fun _ => ?_)
          refine lv_iload_n hx hb gX12_taken_4.2.2.2.2.2.2.1 rfl (lv_at0 hl) ?_
          refine lv_iload_n hx hb gX12_taken_4.2.2.2.2.2.2.2.1 rfl (lv_at3 hl) ?_
          refine lv_icmp_eq (tgt := 95) hx hb gX12_taken_4.2.2.2.2.2.2.2.2.1 (by decide) (fun c_84_6581 => ?_) (fun c_84_6581 => ?_)
          · refine lv_iload_n hx hb gX12_taken_5.2.2.2.1 rfl (lv_at0 hl) ?_
            refine lv_iload_n hx hb gX12_taken_5.2.2.2.2.1 rfl (lv_at3 hl) ?_
            refine lv_icmp_ne (tgt := 109) hx hb gX12_taken_5.2.2.2.2.2.1 (by decide) (fun c9 => absurd (c_84_6581) c9) (fun _ => ?_)
            refine lv_aload_n hx hb gX12_taken_5.2.2.2.2.2.2.1 rfl (lv_at1 hl) ?_
            refine gf_X12_75 hC rfl hK hP 0 rfl rfl gX12_taken_5.2.2.2.2.2.2.2.1 ?_
            refine lv_iload_n hx hb gX12_taken_5.2.2.2.2.2.2.2.2.1 rfl (lv_at2 hl) ?_
            refine aldN hC hK hP 3 rfl (k := jt) (by omega) (Nat.le_of_ble_eq_true rfl) (v := fnsf jt) rfl gX12_taken_5.2.2.2.2.2.2.2.2.2 ?_
            refine lv_goto (tgt := 111) hx hb gX12_taken_6.1 (by decide) ?_
            refine toQ hQ0 ?_
            exact RP (v := fnsf jt) hC ((by first | rfl | (simp only [nI_clamp (n := jt) (by omega), ifc_t ekq, ifc_t hkq, ifc_t ek8, ifc_t hk8, ifc_t ek9, ifc_t hk9, ifc_t hN, ifc_t a6544, ifc_t a6546, ifc_f c_37_6547, ifc_t c_84_6581, ifc_t (q := Wi x2 0 6 ∨ Wi x2 10 14) (Or.inl a6546), a6549, ifc_f (q := (5 : Int32) < 0) (by decide), ifc_t (q := UNl (5 : Int32).toNatClampNeg x2) (show UNl 5 x2 from Or.inl (c_84_6581.symm))]; done) | (simp only [nI_clamp (n := jt) (by omega), ifc_t ekq, ifc_t hkq, ifc_t ek8, ifc_t hk8, ifc_t ek9, ifc_t hk9, ifc_t hN, ifc_t a6544, ifc_t a6546, ifc_f c_37_6547, ifc_t c_84_6581, ifc_t (q := Wi x2 0 6 ∨ Wi x2 10 14) (Or.inl a6546), a6549, ifc_f (q := (5 : Int32) < 0) (by decide), ifc_t (q := UNl (5 : Int32).toNatClampNeg x2) (show UNl 5 x2 from Or.inl (c_84_6581.symm))]; rfl))) rfl gX12_taken_6.2.2
          · refine lv_iload_n hx hb gX12_taken_4.2.2.2.2.2.2.2.2.2 rfl (lv_at0 hl) ?_
            refine pS hC hK hl (m_above5 l G) si_X12_348 rfl rfl (Nat.le_of_ble_eq_true rfl) rm_4_1_1 ⟨by first | exact Nat.le_of_ble_eq_true rfl | exact Nat.zero_le _, by first | exact Nat.le_of_ble_eq_true rfl | exact Nat.zero_le _⟩ gX12_taken_5.1 (Keqr ?_)
            refine lv_istore_n (lv' := [(3, .int 4), (0, .ref h0), (1, .int (nI jt)), (2, .int x2)]) hx hb gX12_taken_5.2.1 rfl hl (by decide) rfl (fun ls hl => ?_)
            refine lv_goto (tgt := 78) hx hb gX12_taken_5.2.2.1 (by decide) ?_
            refine lv_iload_n hx hb gX12_taken_4.2.2.2.2.1 rfl (lv_at0 hl) ?_
            refine lv_if_lt (tgt := 95) hx hb gX12_taken_4.2.2.2.2.2.1 (by decide) (fun c9 => absurd c9 (by decide)) (fun _ => ?_)
            refine lv_iload_n hx hb gX12_taken_4.2.2.2.2.2.2.1 rfl (lv_at0 hl) ?_
            refine lv_iload_n hx hb gX12_taken_4.2.2.2.2.2.2.2.1 rfl (lv_at3 hl) ?_
            refine lv_icmp_eq (tgt := 95) hx hb gX12_taken_4.2.2.2.2.2.2.2.2.1 (by decide) (fun c_84_6584 => ?_) (fun c_84_6584 => ?_)
            · refine lv_iload_n hx hb gX12_taken_5.2.2.2.1 rfl (lv_at0 hl) ?_
              refine lv_iload_n hx hb gX12_taken_5.2.2.2.2.1 rfl (lv_at3 hl) ?_
              refine lv_icmp_ne (tgt := 109) hx hb gX12_taken_5.2.2.2.2.2.1 (by decide) (fun c9 => absurd (c_84_6584) c9) (fun _ => ?_)
              refine lv_aload_n hx hb gX12_taken_5.2.2.2.2.2.2.1 rfl (lv_at1 hl) ?_
              refine gf_X12_75 hC rfl hK hP 0 rfl rfl gX12_taken_5.2.2.2.2.2.2.2.1 ?_
              refine lv_iload_n hx hb gX12_taken_5.2.2.2.2.2.2.2.2.1 rfl (lv_at2 hl) ?_
              refine aldN hC hK hP 3 rfl (k := jt) (by omega) (Nat.le_of_ble_eq_true rfl) (v := fnsf jt) rfl gX12_taken_5.2.2.2.2.2.2.2.2.2 ?_
              refine lv_goto (tgt := 111) hx hb gX12_taken_6.1 (by decide) ?_
              refine toQ hQ0 ?_
              exact RP (v := fnsf jt) hC ((by first | rfl | (simp only [nI_clamp (n := jt) (by omega), ifc_t ekq, ifc_t hkq, ifc_t ek8, ifc_t hk8, ifc_t ek9, ifc_t hk9, ifc_t hN, ifc_t a6544, ifc_t a6546, ifc_f c_37_6547, ifc_f c_84_6581, ifc_t c_84_6584, ifc_t (q := Wi x2 0 6 ∨ Wi x2 10 14) (Or.inl a6546), a6549, ifc_f (q := (5 : Int32) < 0) (by decide), ifc_t (q := UNl (5 : Int32).toNatClampNeg x2) (show UNl 5 x2 from Or.inr (Or.inl (c_84_6584.symm)))]; done) | (simp only [nI_clamp (n := jt) (by omega), ifc_t ekq, ifc_t hkq, ifc_t ek8, ifc_t hk8, ifc_t ek9, ifc_t hk9, ifc_t hN, ifc_t a6544, ifc_t a6546, ifc_f c_37_6547, ifc_f c_84_6581, ifc_t c_84_6584, ifc_t (q := Wi x2 0 6 ∨ Wi x2 10 14) (Or.inl a6546), a6549, ifc_f (q := (5 : Int32) < 0) (by decide), ifc_t (q := UNl (5 : Int32).toNatClampNeg x2) (show UNl 5 x2 from Or.inr (Or.inl (c_84_6584.symm)))]; rfl))) rfl gX12_taken_6.2.2
            · refine lv_iload_n hx hb gX12_taken_4.2.2.2.2.2.2.2.2.2 rfl (lv_at0 hl) ?_
              refine pS hC hK hl (m_above4 l G) si_X12_348 rfl rfl (Nat.le_of_ble_eq_true rfl) rm_4_1_1 ⟨by first | exact Nat.le_of_ble_eq_true rfl | exact Nat.zero_le _, by first | exact Nat.le_of_ble_eq_true rfl | exact Nat.zero_le _⟩ gX12_taken_5.1 (Keqr ?_)
              refine lv_istore_n (lv' := [(3, .int 0), (0, .ref h0), (1, .int (nI jt)), (2, .int x2)]) hx hb gX12_taken_5.2.1 rfl hl (by decide) rfl (fun ls hl => ?_)
              refine lv_goto (tgt := 78) hx hb gX12_taken_5.2.2.1 (by decide) ?_
              refine lv_iload_n hx hb gX12_taken_4.2.2.2.2.1 rfl (lv_at0 hl) ?_
              refine lv_if_lt (tgt := 95) hx hb gX12_taken_4.2.2.2.2.2.1 (by decide) (fun c9 => absurd c9 (by decide)) (fun _ => ?_)
              refine lv_iload_n hx hb gX12_taken_4.2.2.2.2.2.2.1 rfl (lv_at0 hl) ?_
              refine lv_iload_n hx hb gX12_taken_4.2.2.2.2.2.2.2.1 rfl (lv_at3 hl) ?_
              refine lv_icmp_eq (tgt := 95) hx hb gX12_taken_4.2.2.2.2.2.2.2.2.1 (by decide) (fun c_84_6587 => ?_) (fun c_84_6587 => ?_)
              · refine lv_iload_n hx hb gX12_taken_5.2.2.2.1 rfl (lv_at0 hl) ?_
                refine lv_iload_n hx hb gX12_taken_5.2.2.2.2.1 rfl (lv_at3 hl) ?_
                refine lv_icmp_ne (tgt := 109) hx hb gX12_taken_5.2.2.2.2.2.1 (by decide) (fun c9 => absurd (c_84_6587) c9) (fun _ => ?_)
                refine lv_aload_n hx hb gX12_taken_5.2.2.2.2.2.2.1 rfl (lv_at1 hl) ?_
                refine gf_X12_75 hC rfl hK hP 0 rfl rfl gX12_taken_5.2.2.2.2.2.2.2.1 ?_
                refine lv_iload_n hx hb gX12_taken_5.2.2.2.2.2.2.2.2.1 rfl (lv_at2 hl) ?_
                refine aldN hC hK hP 3 rfl (k := jt) (by omega) (Nat.le_of_ble_eq_true rfl) (v := fnsf jt) rfl gX12_taken_5.2.2.2.2.2.2.2.2.2 ?_
                refine lv_goto (tgt := 111) hx hb gX12_taken_6.1 (by decide) ?_
                refine toQ hQ0 ?_
                exact RP (v := fnsf jt) hC ((by first | rfl | (simp only [nI_clamp (n := jt) (by omega), ifc_t ekq, ifc_t hkq, ifc_t ek8, ifc_t hk8, ifc_t ek9, ifc_t hk9, ifc_t hN, ifc_t a6544, ifc_t a6546, ifc_f c_37_6547, ifc_f c_84_6581, ifc_f c_84_6584, ifc_t c_84_6587, ifc_t (q := Wi x2 0 6 ∨ Wi x2 10 14) (Or.inl a6546), a6549, ifc_f (q := (5 : Int32) < 0) (by decide), ifc_t (q := UNl (5 : Int32).toNatClampNeg x2) (show UNl 5 x2 from Or.inr (Or.inr (c_84_6587.symm)))]; done) | (simp only [nI_clamp (n := jt) (by omega), ifc_t ekq, ifc_t hkq, ifc_t ek8, ifc_t hk8, ifc_t ek9, ifc_t hk9, ifc_t hN, ifc_t a6544, ifc_t a6546, ifc_f c_37_6547, ifc_f c_84_6581, ifc_f c_84_6584, ifc_t c_84_6587, ifc_t (q := Wi x2 0 6 ∨ Wi x2 10 14) (Or.inl a6546), a6549, ifc_f (q := (5 : Int32) < 0) (by decide), ifc_t (q := UNl (5 : Int32).toNatClampNeg x2) (show UNl 5 x2 from Or.inr (Or.inr (c_84_6587.symm)))]; rfl))) rfl gX12_taken_6.2.2
              · refine lv_iload_n hx hb gX12_taken_4.2.2.2.2.2.2.2.2.2 rfl (lv_at0 hl) ?_
                refine pS hC hK hl (m_above0 l G) si_X12_348 rfl rfl (Nat.le_of_ble_eq_true rfl) rm_4_1_1 ⟨by first | exact Nat.le_of_ble_eq_true rfl | exact Nat.zero_le _, by first | exact Nat.le_of_ble_eq_true rfl | exact Nat.zero_le _⟩ gX12_taken_5.1 (Keqr ?_)
                refine lv_istore_n (lv' := [(3, .int (-1)), (0, .ref h0), (1, .int (nI jt)), (2, .int x2)]) hx hb gX12_taken_5.2.1 rfl hl (by decide) rfl (fun ls hl => ?_)
                refine lv_goto (tgt := 78) hx hb gX12_taken_5.2.2.1 (by decide) ?_
                refine lv_iload_n hx hb gX12_taken_4.2.2.2.2.1 rfl (lv_at0 hl) ?_
                refine lv_if_lt (tgt := 95) hx hb gX12_taken_4.2.2.2.2.2.1 (by decide) (fun _ => ?_) (fun c9 => absurd (by decide) c9)
                refine lv_iload_n hx hb gX12_taken_5.2.2.2.1 rfl (lv_at0 hl) ?_
                refine lv_iload_n hx hb gX12_taken_5.2.2.2.2.1 rfl (lv_at3 hl) ?_
                refine lv_icmp_ne (tgt := 109) hx hb gX12_taken_5.2.2.2.2.2.1 (by decide) (fun c_97_6590 => ?_) (fun c_97_6590 => ?_)
                · refine lv_bipush (v := (-13)) hx hb gX12_taken_6.2.1 (by decide) ?_
                  refine toQ hQ0 ?_
                  exact RP (v := (-13)) hC ((by first | rfl | (simp only [nI_clamp (n := jt) (by omega), ifc_t ekq, ifc_t hkq, ifc_t ek8, ifc_t hk8, ifc_t ek9, ifc_t hk9, ifc_t hN, ifc_t a6544, ifc_t a6546, ifc_f c_37_6547, ifc_f c_84_6581, ifc_f c_84_6584, ifc_f c_84_6587, ifc_f c_97_6590, ifc_t (q := Wi x2 0 6 ∨ Wi x2 10 14) (Or.inl a6546), a6549, ifc_f (q := (5 : Int32) < 0) (by decide), ifc_f (q := UNl (5 : Int32).toNatClampNeg x2) (fun h9 => (show False from by have h7 : x2 = 5 ∨ x2 = 4 ∨ x2 = 0 := h9; rcases h7 with h8 | h8 | h8 <;> (first | exact c_84_6581 h8.symm | exact c_84_6584 h8.symm | exact c_84_6587 h8.symm)))]; done) | (simp only [nI_clamp (n := jt) (by omega), ifc_t ekq, ifc_t hkq, ifc_t ek8, ifc_t hk8, ifc_t ek9, ifc_t hk9, ifc_t hN, ifc_t a6544, ifc_t a6546, ifc_f c_37_6547, ifc_f c_84_6581, ifc_f c_84_6584, ifc_f c_84_6587, ifc_f c_97_6590, ifc_t (q := Wi x2 0 6 ∨ Wi x2 10 14) (Or.inl a6546), a6549, ifc_f (q := (5 : Int32) < 0) (by decide), ifc_f (q := UNl (5 : Int32).toNatClampNeg x2) (fun h9 => (show False from by have h7 : x2 = 5 ∨ x2 = 4 ∨ x2 = 0 := h9; rcases h7 with h8 | h8 | h8 <;> (first | exact c_84_6581 h8.symm | exact c_84_6584 h8.symm | exact c_84_6587 h8.symm)))]; rfl))) rfl gX12_taken_6.2.2
                · refine lv_aload_n hx hb gX12_taken_5.2.2.2.2.2.2.1 rfl (lv_at1 hl) ?_
                  refine gf_X12_75 hC rfl hK hP 0 rfl rfl gX12_taken_5.2.2.2.2.2.2.2.1 ?_
                  refine lv_iload_n hx hb gX12_taken_5.2.2.2.2.2.2.2.2.1 rfl (lv_at2 hl) ?_
                  refine aldN hC hK hP 3 rfl (k := jt) (by omega) (Nat.le_of_ble_eq_true rfl) (v := fnsf jt) rfl gX12_taken_5.2.2.2.2.2.2.2.2.2 ?_
                  refine lv_goto (tgt := 111) hx hb gX12_taken_6.1 (by decide) ?_
                  refine toQ hQ0 ?_
                  exact RP (v := fnsf jt) hC ((absurd a6546 (by rw [← c_97_6590]; unfold Wi; decide))) rfl gX12_taken_6.2.2
        · refine lv_istore_n (lv' := [(3, .int 6), (0, .ref h0), (1, .int (nI jt)), (2, .int x2)]) hx hb gX12_taken_3.2.2.2.2.2.2.2.2.2 rfl hl (by decide) rfl (fun ls hl => ?_)
          refine lv_iload_n hx hb gX12_taken_4.1 rfl (lv_at0 hl) ?_
          refine lv_if_ge (tgt := 78) hx hb gX12_taken_4.2.1 (by decide) (fun _ => ?_) (fun c9 => absurd (by decide) c9)
          refine lv_iload_n hx hb gX12_taken_4.2.2.2.2.1 rfl (lv_at0 hl) ?_
          refine lv_if_lt (tgt := 95) hx hb gX12_taken_4.2.2.2.2.2.1 (by decide) (fun c9 => absurd c9 (by decide)) (fun _ => ?_)
          refine lv_iload_n hx hb gX12_taken_4.2.2.2.2.2.2.1 rfl (lv_at0 hl) ?_
          refine lv_iload_n hx hb gX12_taken_4.2.2.2.2.2.2.2.1 rfl (lv_at3 hl) ?_
          refine lv_icmp_eq (tgt := 95) hx hb gX12_taken_4.2.2.2.2.2.2.2.2.1 (by decide) (fun c_84_6591 => ?_) (fun c_84_6591 => ?_)
          · refine lv_iload_n hx hb gX12_taken_5.2.2.2.1 rfl (lv_at0 hl) ?_
            refine lv_iload_n hx hb gX12_taken_5.2.2.2.2.1 rfl (lv_at3 hl) ?_
            refine lv_icmp_ne (tgt := 109) hx hb gX12_taken_5.2.2.2.2.2.1 (by decide) (fun c9 => absurd (c_84_6591) c9) (fun _ => ?_)
            refine lv_aload_n hx hb gX12_taken_5.2.2.2.2.2.2.1 rfl (lv_at1 hl) ?_
            refine gf_X12_75 hC rfl hK hP 0 rfl rfl gX12_taken_5.2.2.2.2.2.2.2.1 ?_
            refine lv_iload_n hx hb gX12_taken_5.2.2.2.2.2.2.2.2.1 rfl (lv_at2 hl) ?_
            refine aldN hC hK hP 3 rfl (k := jt) (by omega) (Nat.le_of_ble_eq_true rfl) (v := fnsf jt) rfl gX12_taken_5.2.2.2.2.2.2.2.2.2 ?_
            refine lv_goto (tgt := 111) hx hb gX12_taken_6.1 (by decide) ?_
            refine toQ hQ0 ?_
            exact RP (v := fnsf jt) hC ((by first | rfl | (simp only [nI_clamp (n := jt) (by omega), ifc_t ekq, ifc_t hkq, ifc_t ek8, ifc_t hk8, ifc_t ek9, ifc_t hk9, ifc_t hN, ifc_t a6544, ifc_t a6546, ifc_f c_37_6547, ifc_t c_84_6591, ifc_t (q := Wi x2 0 6 ∨ Wi x2 10 14) (Or.inl a6546), a6549, ifc_f (q := (6 : Int32) < 0) (by decide), ifc_t (q := UNl (6 : Int32).toNatClampNeg x2) (show UNl 6 x2 from Or.inl (c_84_6591.symm))]; done) | (simp only [nI_clamp (n := jt) (by omega), ifc_t ekq, ifc_t hkq, ifc_t ek8, ifc_t hk8, ifc_t ek9, ifc_t hk9, ifc_t hN, ifc_t a6544, ifc_t a6546, ifc_f c_37_6547, ifc_t c_84_6591, ifc_t (q := Wi x2 0 6 ∨ Wi x2 10 14) (Or.inl a6546), a6549, ifc_f (q := (6 : Int32) < 0) (by decide), ifc_t (q := UNl (6 : Int32).toNatClampNeg x2) (show UNl 6 x2 from Or.inl (c_84_6591.symm))]; rfl))) rfl gX12_taken_6.2.2
          · refine lv_iload_n hx hb gX12_taken_4.2.2.2.2.2.2.2.2.2 rfl (lv_at0 hl) ?_
            refine pS hC hK hl (m_above6 l G) si_X12_348 rfl rfl (Nat.le_of_ble_eq_true rfl) rm_4_1_1 ⟨by first | exact Nat.le_of_ble_eq_true rfl | exact Nat.zero_le _, by first | exact Nat.le_of_ble_eq_true rfl | exact Nat.zero_le _⟩ gX12_taken_5.1 (Keqr ?_)
            refine lv_istore_n (lv' := [(3, .int 0), (0, .ref h0), (1, .int (nI jt)), (2, .int x2)]) hx hb gX12_taken_5.2.1 rfl hl (by decide) rfl (fun ls hl => ?_)
            refine lv_goto (tgt := 78) hx hb gX12_taken_5.2.2.1 (by decide) ?_
            refine lv_iload_n hx hb gX12_taken_4.2.2.2.2.1 rfl (lv_at0 hl) ?_
            refine lv_if_lt (tgt := 95) hx hb gX12_taken_4.2.2.2.2.2.1 (by decide) (fun c9 => absurd c9 (by decide)) (fun _ => ?_)
            refine lv_iload_n hx hb gX12_taken_4.2.2.2.2.2.2.1 rfl (lv_at0 hl) ?_
            refine lv_iload_n hx hb gX12_taken_4.2.2.2.2.2.2.2.1 rfl (lv_at3 hl) ?_
            refine lv_icmp_eq (tgt := 95) hx hb gX12_taken_4.2.2.2.2.2.2.2.2.1 (by decide) (fun c_84_6594 => ?_) (fun c_84_6594 => ?_)
            · refine lv_iload_n hx hb gX12_taken_5.2.2.2.1 rfl (lv_at0 hl) ?_
              refine lv_iload_n hx hb gX12_taken_5.2.2.2.2.1 rfl (lv_at3 hl) ?_
              refine lv_icmp_ne (tgt := 109) hx hb gX12_taken_5.2.2.2.2.2.1 (by decide) (fun c9 => absurd (c_84_6594) c9) (fun _ => ?_)
              refine lv_aload_n hx hb gX12_taken_5.2.2.2.2.2.2.1 rfl (lv_at1 hl) ?_
              refine gf_X12_75 hC rfl hK hP 0 rfl rfl gX12_taken_5.2.2.2.2.2.2.2.1 ?_
              refine lv_iload_n hx hb gX12_taken_5.2.2.2.2.2.2.2.2.1 rfl (lv_at2 hl) ?_
              refine aldN hC hK hP 3 rfl (k := jt) (by omega) (Nat.le_of_ble_eq_true rfl) (v := fnsf jt) rfl gX12_taken_5.2.2.2.2.2.2.2.2.2 ?_
              refine lv_goto (tgt := 111) hx hb gX12_taken_6.1 (by decide) ?_
              refine toQ hQ0 ?_
              exact RP (v := fnsf jt) hC ((by first | rfl | (simp only [nI_clamp (n := jt) (by omega), ifc_t ekq, ifc_t hkq, ifc_t ek8, ifc_t hk8, ifc_t ek9, ifc_t hk9, ifc_t hN, ifc_t a6544, ifc_t a6546, ifc_f c_37_6547, ifc_f c_84_6591, ifc_t c_84_6594, ifc_t (q := Wi x2 0 6 ∨ Wi x2 10 14) (Or.inl a6546), a6549, ifc_f (q := (6 : Int32) < 0) (by decide), ifc_t (q := UNl (6 : Int32).toNatClampNeg x2) (show UNl 6 x2 from Or.inr (c_84_6594.symm))]; done) | (simp only [nI_clamp (n := jt) (by omega), ifc_t ekq, ifc_t hkq, ifc_t ek8, ifc_t hk8, ifc_t ek9, ifc_t hk9, ifc_t hN, ifc_t a6544, ifc_t a6546, ifc_f c_37_6547, ifc_f c_84_6591, ifc_t c_84_6594, ifc_t (q := Wi x2 0 6 ∨ Wi x2 10 14) (Or.inl a6546), a6549, ifc_f (q := (6 : Int32) < 0) (by decide), ifc_t (q := UNl (6 : Int32).toNatClampNeg x2) (show UNl 6 x2 from Or.inr (c_84_6594.symm))]; rfl))) rfl gX12_taken_6.2.2
            · refine lv_iload_n hx hb gX12_taken_4.2.2.2.2.2.2.2.2.2 rfl (lv_at0 hl) ?_
              refine pS hC hK hl (m_above0 l G) si_X12_348 rfl rfl (Nat.le_of_ble_eq_true rfl) rm_4_1_1 ⟨by first | exact Nat.le_of_ble_eq_true rfl | exact Nat.zero_le _, by first | exact Nat.le_of_ble_eq_true rfl | exact Nat.zero_le _⟩ gX12_taken_5.1 (Keqr ?_)
              refine lv_istore_n (lv' := [(3, .int (-1)), (0, .ref h0), (1, .int (nI jt)), (2, .int x2)]) hx hb gX12_taken_5.2.1 rfl hl (by decide) rfl (fun ls hl => ?_)
              refine lv_goto (tgt := 78) hx hb gX12_taken_5.2.2.1 (by decide) ?_
              refine lv_iload_n hx hb gX12_taken_4.2.2.2.2.1 rfl (lv_at0 hl) ?_
              refine lv_if_lt (tgt := 95) hx hb gX12_taken_4.2.2.2.2.2.1 (by decide) (fun _ => ?_) (fun c9 => absurd (by decide) c9)
              refine lv_iload_n hx hb gX12_taken_5.2.2.2.1 rfl (lv_at0 hl) ?_
              refine lv_iload_n hx hb gX12_taken_5.2.2.2.2.1 rfl (lv_at3 hl) ?_
              refine lv_icmp_ne (tgt := 109) hx hb gX12_taken_5.2.2.2.2.2.1 (by decide) (fun c_97_6597 => ?_) (fun c_97_6597 => ?_)
              · refine lv_bipush (v := (-13)) hx hb gX12_taken_6.2.1 (by decide) ?_
                refine toQ hQ0 ?_
                exact RP (v := (-13)) hC ((by first | rfl | (simp only [nI_clamp (n := jt) (by omega), ifc_t ekq, ifc_t hkq, ifc_t ek8, ifc_t hk8, ifc_t ek9, ifc_t hk9, ifc_t hN, ifc_t a6544, ifc_t a6546, ifc_f c_37_6547, ifc_f c_84_6591, ifc_f c_84_6594, ifc_f c_97_6597, ifc_t (q := Wi x2 0 6 ∨ Wi x2 10 14) (Or.inl a6546), a6549, ifc_f (q := (6 : Int32) < 0) (by decide), ifc_f (q := UNl (6 : Int32).toNatClampNeg x2) (fun h9 => (show False from by have h7 : x2 = 6 ∨ x2 = 0 := h9; rcases h7 with h8 | h8 <;> (first | exact c_84_6591 h8.symm | exact c_84_6594 h8.symm)))]; done) | (simp only [nI_clamp (n := jt) (by omega), ifc_t ekq, ifc_t hkq, ifc_t ek8, ifc_t hk8, ifc_t ek9, ifc_t hk9, ifc_t hN, ifc_t a6544, ifc_t a6546, ifc_f c_37_6547, ifc_f c_84_6591, ifc_f c_84_6594, ifc_f c_97_6597, ifc_t (q := Wi x2 0 6 ∨ Wi x2 10 14) (Or.inl a6546), a6549, ifc_f (q := (6 : Int32) < 0) (by decide), ifc_f (q := UNl (6 : Int32).toNatClampNeg x2) (fun h9 => (show False from by have h7 : x2 = 6 ∨ x2 = 0 := h9; rcases h7 with h8 | h8 <;> (first | exact c_84_6591 h8.symm | exact c_84_6594 h8.symm)))]; rfl))) rfl gX12_taken_6.2.2
              · refine lv_aload_n hx hb gX12_taken_5.2.2.2.2.2.2.1 rfl (lv_at1 hl) ?_
                refine gf_X12_75 hC rfl hK hP 0 rfl rfl gX12_taken_5.2.2.2.2.2.2.2.1 ?_
                refine lv_iload_n hx hb gX12_taken_5.2.2.2.2.2.2.2.2.1 rfl (lv_at2 hl) ?_
                refine aldN hC hK hP 3 rfl (k := jt) (by omega) (Nat.le_of_ble_eq_true rfl) (v := fnsf jt) rfl gX12_taken_5.2.2.2.2.2.2.2.2.2 ?_
                refine lv_goto (tgt := 111) hx hb gX12_taken_6.1 (by decide) ?_
                refine toQ hQ0 ?_
                exact RP (v := fnsf jt) hC ((absurd a6546 (by rw [← c_97_6597]; unfold Wi; decide))) rfl gX12_taken_6.2.2
      · refine lv_iload_n hx hb gX12_taken_2.2.1 rfl (lv_at2 hl) ?_
        refine lv_bipush (v := 10) hx hb gX12_taken_2.2.2.1 (by decide) ?_
        refine lv_isub hx hb gX12_taken_2.2.2.2.1 ?_
        refine lv_aload_n hx hb gX12_taken_2.2.2.2.2.1 rfl (lv_at0 hl) ?_
        refine gf_X12_75 hC rfl hK hP 0 rfl rfl gX12_taken_2.2.2.2.2.2.1 ?_
        refine lv_iload_n hx hb gX12_taken_2.2.2.2.2.2.2.1 rfl (lv_at1 hl) ?_
        refine aldN hC hK hP 3 rfl (k := jt) (by omega) (Nat.le_of_ble_eq_true rfl) (v := fnsf jt) rfl gX12_taken_2.2.2.2.2.2.2.2.1 ?_
        refine lv_icmp_ne (tgt := 62) hx hb gX12_taken_2.2.2.2.2.2.2.2.2.1 (by decide) (fun c_50_6598 => ?_) (fun c_50_6598 => ?_)
        · refine lv_bipush (v := (-13)) hx hb gX12_taken_3.2.2.2.2.1 (by decide) ?_
          refine toQ hQ0 ?_
          exact RP (v := (-13)) hC ((by first | rfl | (simp only [nI_clamp (n := jt) (by omega), ifc_t ekq, ifc_t hkq, ifc_t ek8, ifc_t hk8, ifc_t ek9, ifc_t hk9, ifc_t hN, ifc_t a6544, ifc_t a6546, ifc_t c_37_6547, ifc_f c_50_6598, ifc_t (q := Wi x2 0 6 ∨ Wi x2 10 14) (Or.inl a6546)]; done) | (simp only [nI_clamp (n := jt) (by omega), ifc_t ekq, ifc_t hkq, ifc_t ek8, ifc_t hk8, ifc_t ek9, ifc_t hk9, ifc_t hN, ifc_t a6544, ifc_t a6546, ifc_t c_37_6547, ifc_f c_50_6598, ifc_t (q := Wi x2 0 6 ∨ Wi x2 10 14) (Or.inl a6546)]; rfl))) rfl gX12_taken_3.2.2.2.2.2.1
        · refine lv_aload_n hx hb gX12_taken_2.2.2.2.2.2.2.2.2.2 rfl (lv_at0 hl) ?_
          refine gf_X12_78 hC rfl hK hP 0 rfl rfl gX12_taken_3.1 ?_
          refine lv_iload_n hx hb gX12_taken_3.2.1 rfl (lv_at1 hl) ?_
          refine aldN hC hK hP 4 rfl (k := jt) (by omega) (Nat.le_of_ble_eq_true rfl) (v := fnss jt) rfl gX12_taken_3.2.2.1 ?_
          refine lv_goto (tgt := 64) hx hb gX12_taken_3.2.2.2.1 (by decide) ?_
          refine toQ hQ0 ?_
          exact RP (v := fnss jt) hC ((by first | rfl | (simp only [nI_clamp (n := jt) (by omega), ifc_t ekq, ifc_t hkq, ifc_t ek8, ifc_t hk8, ifc_t ek9, ifc_t hk9, ifc_t hN, ifc_t a6544, ifc_t a6546, ifc_t c_37_6547, ifc_t c_50_6598, ifc_t (q := Wi x2 0 6 ∨ Wi x2 10 14) (Or.inl a6546)]; done) | (simp only [nI_clamp (n := jt) (by omega), ifc_t ekq, ifc_t hkq, ifc_t ek8, ifc_t hk8, ifc_t ek9, ifc_t hk9, ifc_t hN, ifc_t a6544, ifc_t a6546, ifc_t c_37_6547, ifc_t c_50_6598, ifc_t (q := Wi x2 0 6 ∨ Wi x2 10 14) (Or.inl a6546)]; rfl))) rfl gX12_taken_3.2.2.2.2.2.1
    · refine lv_if_ne (tgt := 30) hx hb gX12_taken_0.2.2.2.2.2.2.2.1 (by decide) (fun c9 => absurd (by decide) c9) (fun _ => ?_)
      refine lv_iload_n hx hb gX12_taken_0.2.2.2.2.2.2.2.2.1 rfl (lv_at2 hl) ?_
      refine lv_bipush (v := 10) hx hb gX12_taken_0.2.2.2.2.2.2.2.2.2 (by decide) ?_
      refine lv_bipush (v := 14) hx hb gX12_taken_1.1 (by decide) ?_
      refine pS hC hK hl (m_within l G x2 10 14) si_X12_84 rfl rfl (Nat.le_of_ble_eq_true rfl) rm_4_1_3 ⟨by first | exact Nat.le_of_ble_eq_true rfl | exact Nat.zero_le _, by first | exact Nat.le_of_ble_eq_true rfl | exact Nat.zero_le _⟩ gX12_taken_1.2.1 (Kors (Keqa fun a6600 => ?_) (Keqa fun a6600 => ?_))
      · refine lv_if_ne (tgt := 30) hx hb gX12_taken_1.2.2.1 (by decide) (fun _ => ?_) (fun c9 => absurd c9 (by decide))
        obtain ⟨jt, hjt, rfl⟩ := Wi_nat (N := 3) (by decide) a6544
        refine lv_aload_n hx hb gX12_taken_1.2.2.2.2.2.1 rfl (lv_at0 hl) ?_
        refine gf_X12_72 hC rfl hK hP 0 rfl rfl gX12_taken_1.2.2.2.2.2.2.1 ?_
        refine lv_iload_n hx hb gX12_taken_1.2.2.2.2.2.2.2.1 rfl (lv_at1 hl) ?_
        refine aldN hC hK hP 2 rfl (k := jt) (by omega) (Nat.le_of_ble_eq_true rfl) (v := fnsh jt) rfl gX12_taken_1.2.2.2.2.2.2.2.2.1 ?_
        refine lv_iconst (v := 4) hx hb gX12_taken_1.2.2.2.2.2.2.2.2.2 (by decide) ?_
        refine lv_icmp_ne (tgt := 65) hx hb gX12_taken_2.1 (by decide) (fun c_37_6601 => ?_) (fun c_37_6601 => ?_)
        · refine lv_aload_n hx hb gX12_taken_3.2.2.2.2.2.2.1 rfl (lv_at0 hl) ?_
          refine lv_iload_n hx hb gX12_taken_3.2.2.2.2.2.2.2.1 rfl (lv_at1 hl) ?_
          refine pV hC hK hl hP hD (m_kindOnX l G kq k8 k9 h0 jt nw nk mhasKept nt mtaped nr mrowMany mroundOf mroundFrom mouts nm mfromHour mtoHour ns mfrom mto msort misFault mdeep mcoded mlines nl nc nF np ntr nb mbestCost nso nsi nit nsh nsf nss nrc mtraced mdealer mnumber mwhose msize misParted fnw fnsh fnsf (by omega) (ekq) (hkq) (ek8) (hk8) (ek9) (hk9) (hN)) si_X12_345 [0, 1, 2, 3] sm_0_1_2_3 fm_0_1_2_3 nd_0_1_2_3 rfl rfl rfl rfl rfl (Nat.le_of_ble_eq_true rfl) rm_4_3_4 ⟨by first | exact Nat.le_of_ble_eq_true rfl | exact Nat.zero_le _, by first | exact Nat.le_of_ble_eq_true rfl | exact Nat.zero_le _⟩ gX12_taken_3.2.2.2.2.2.2.2.2.1 (Kors (Keqa fun a6603 => ?_) (Kors (Keqa fun a6603 => ?_) (Kors (Keqa fun a6603 => ?_) (Kors (Keqa fun a6603 => ?_) (Kors (Keqa fun a6603 => ?_) (Kors (Keqa fun a6603 => ?_) (Keqa fun a6603 => ?_)))))))
          · refine lv_istore_n (lv' := [(3, .int (-1)), (0, .ref h0), (1, .int (nI jt)), (2, .int x2)]) hx hb gX12_taken_3.2.2.2.2.2.2.2.2.2 rfl hl (by decide) rfl (fun ls hl => ?_)
            refine lv_iload_n hx hb gX12_taken_4.1 rfl (lv_at0 hl) ?_
            refine lv_if_ge (tgt := 78) hx hb gX12_taken_4.2.1 (by decide) (fun c9 => absurd c9 (by decide)) (fun _ => ?_)
            refine lv_bipush (v := (-11)) hx hb gX12_taken_4.2.2.1 (by decide) ?_
            refine toQ hQ0 ?_
            exact RP (v := (-11)) hC ((by first | rfl | (simp only [nI_clamp (n := jt) (by omega), ifc_t ekq, ifc_t hkq, ifc_t ek8, ifc_t hk8, ifc_t ek9, ifc_t hk9, ifc_t hN, ifc_t a6544, ifc_f a6546, ifc_t a6600, ifc_f c_37_6601, ifc_t (q := Wi x2 0 6 ∨ Wi x2 10 14) (Or.inr a6600), a6603, ifc_t (q := (-1 : Int32) < 0) (by decide)]; done) | (simp only [nI_clamp (n := jt) (by omega), ifc_t ekq, ifc_t hkq, ifc_t ek8, ifc_t hk8, ifc_t ek9, ifc_t hk9, ifc_t hN, ifc_t a6544, ifc_f a6546, ifc_t a6600, ifc_f c_37_6601, ifc_t (q := Wi x2 0 6 ∨ Wi x2 10 14) (Or.inr a6600), a6603, ifc_t (q := (-1 : Int32) < 0) (by decide)]; rfl))) rfl gX12_taken_4.2.2.2.1
          · refine lv_istore_n (lv' := [(3, .int 1), (0, .ref h0), (1, .int (nI jt)), (2, .int x2)]) hx hb gX12_taken_3.2.2.2.2.2.2.2.2.2 rfl hl (by decide) rfl (fun ls hl => ?_)
            refine lv_iload_n hx hb gX12_taken_4.1 rfl (lv_at0 hl) ?_
            refine lv_if_ge (tgt := 78) hx hb gX12_taken_4.2.1 (by decide) (fun _ => ?_) (fun c9 => absurd (by decide) c9)
            refine lv_iload_n hx hb gX12_taken_4.2.2.2.2.1 rfl (lv_at0 hl) ?_
            refine lv_if_lt (tgt := 95) hx hb gX12_taken_4.2.2.2.2.2.1 (by decide) (fun c9 => absurd c9 (by decide)) (fun _ => ?_)
            refine lv_iload_n hx hb gX12_taken_4.2.2.2.2.2.2.1 rfl (lv_at0 hl) ?_
            refine lv_iload_n hx hb gX12_taken_4.2.2.2.2.2.2.2.1 rfl (lv_at3 hl) ?_
            refine lv_icmp_eq (tgt := 95) hx hb gX12_taken_4.2.2.2.2.2.2.2.2.1 (by decide) (fun c_84_6604 => ?_) (fun c_84_6604 => ?_)
            · refine lv_iload_n hx hb gX12_taken_5.2.2.2.1 rfl (lv_at0 hl) ?_
              refine lv_iload_n hx hb gX12_taken_5.2.2.2.2.1 rfl (lv_at3 hl) ?_
              refine lv_icmp_ne (tgt := 109) hx hb gX12_taken_5.2.2.2.2.2.1 (by decide) (fun c9 => absurd (c_84_6604) c9) (fun _ => ?_)
              refine lv_aload_n hx hb gX12_taken_5.2.2.2.2.2.2.1 rfl (lv_at1 hl) ?_
              refine gf_X12_75 hC rfl hK hP 0 rfl rfl gX12_taken_5.2.2.2.2.2.2.2.1 ?_
              refine lv_iload_n hx hb gX12_taken_5.2.2.2.2.2.2.2.2.1 rfl (lv_at2 hl) ?_
              refine aldN hC hK hP 3 rfl (k := jt) (by omega) (Nat.le_of_ble_eq_true rfl) (v := fnsf jt) rfl gX12_taken_5.2.2.2.2.2.2.2.2.2 ?_
              refine lv_goto (tgt := 111) hx hb gX12_taken_6.1 (by decide) ?_
              refine toQ hQ0 ?_
              exact RP (v := fnsf jt) hC ((by first | rfl | (simp only [nI_clamp (n := jt) (by omega), ifc_t ekq, ifc_t hkq, ifc_t ek8, ifc_t hk8, ifc_t ek9, ifc_t hk9, ifc_t hN, ifc_t a6544, ifc_f a6546, ifc_t a6600, ifc_f c_37_6601, ifc_t c_84_6604, ifc_t (q := Wi x2 0 6 ∨ Wi x2 10 14) (Or.inr a6600), a6603, ifc_f (q := (1 : Int32) < 0) (by decide), ifc_t (q := UNl (1 : Int32).toNatClampNeg x2) (show UNl 1 x2 from Or.inl (c_84_6604.symm))]; done) | (simp only [nI_clamp (n := jt) (by omega), ifc_t ekq, ifc_t hkq, ifc_t ek8, ifc_t hk8, ifc_t ek9, ifc_t hk9, ifc_t hN, ifc_t a6544, ifc_f a6546, ifc_t a6600, ifc_f c_37_6601, ifc_t c_84_6604, ifc_t (q := Wi x2 0 6 ∨ Wi x2 10 14) (Or.inr a6600), a6603, ifc_f (q := (1 : Int32) < 0) (by decide), ifc_t (q := UNl (1 : Int32).toNatClampNeg x2) (show UNl 1 x2 from Or.inl (c_84_6604.symm))]; rfl))) rfl gX12_taken_6.2.2
            · refine lv_iload_n hx hb gX12_taken_4.2.2.2.2.2.2.2.2.2 rfl (lv_at0 hl) ?_
              refine pS hC hK hl (m_above1 l G) si_X12_348 rfl rfl (Nat.le_of_ble_eq_true rfl) rm_4_1_1 ⟨by first | exact Nat.le_of_ble_eq_true rfl | exact Nat.zero_le _, by first | exact Nat.le_of_ble_eq_true rfl | exact Nat.zero_le _⟩ gX12_taken_5.1 (Keqr ?_)
              refine lv_istore_n (lv' := [(3, .int 0), (0, .ref h0), (1, .int (nI jt)), (2, .int x2)]) hx hb gX12_taken_5.2.1 rfl hl (by decide) rfl (fun ls hl => ?_)
              refine lv_goto (tgt := 78) hx hb gX12_taken_5.2.2.1 (by decide) ?_
              refine lv_iload_n hx hb gX12_taken_4.2.2.2.2.1 rfl (lv_at0 hl) ?_
              refine lv_if_lt (tgt := 95) hx hb gX12_taken_4.2.2.2.2.2.1 (by decide) (fun c9 => absurd c9 (by decide)) (fun _ => ?_)
              refine lv_iload_n hx hb gX12_taken_4.2.2.2.2.2.2.1 rfl (lv_at0 hl) ?_
              refine lv_iload_n hx hb gX12_taken_4.2.2.2.2.2.2.2.1 rfl (lv_at3 hl) ?_
              refine lv_icmp_eq (tgt := 95) hx hb gX12_taken_4.2.2.2.2.2.2.2.2.1 (by decide) (fun c_84_6607 => ?_) (fun c_84_6607 => ?_)
              · refine lv_iload_n hx hb gX12_taken_5.2.2.2.1 rfl (lv_at0 hl) ?_
                refine lv_iload_n hx hb gX12_taken_5.2.2.2.2.1 rfl (lv_at3 hl) ?_
                refine lv_icmp_ne (tgt := 109) hx hb gX12_taken_5.2.2.2.2.2.1 (by decide) (fun c9 => absurd (c_84_6607) c9) (fun _ => ?_)
                refine lv_aload_n hx hb gX12_taken_5.2.2.2.2.2.2.1 rfl (lv_at1 hl) ?_
                refine gf_X12_75 hC rfl hK hP 0 rfl rfl gX12_taken_5.2.2.2.2.2.2.2.1 ?_
                refine lv_iload_n hx hb gX12_taken_5.2.2.2.2.2.2.2.2.1 rfl (lv_at2 hl) ?_
                refine aldN hC hK hP 3 rfl (k := jt) (by omega) (Nat.le_of_ble_eq_true rfl) (v := fnsf jt) rfl gX12_taken_5.2.2.2.2.2.2.2.2.2 ?_
                refine lv_goto (tgt := 111) hx hb gX12_taken_6.1 (by decide) ?_
                refine toQ hQ0 ?_
                exact RP (v := fnsf jt) hC ((by first | rfl | (simp only [nI_clamp (n := jt) (by omega), ifc_t ekq, ifc_t hkq, ifc_t ek8, ifc_t hk8, ifc_t ek9, ifc_t hk9, ifc_t hN, ifc_t a6544, ifc_f a6546, ifc_t a6600, ifc_f c_37_6601, ifc_f c_84_6604, ifc_t c_84_6607, ifc_t (q := Wi x2 0 6 ∨ Wi x2 10 14) (Or.inr a6600), a6603, ifc_f (q := (1 : Int32) < 0) (by decide), ifc_t (q := UNl (1 : Int32).toNatClampNeg x2) (show UNl 1 x2 from Or.inr (c_84_6607.symm))]; done) | (simp only [nI_clamp (n := jt) (by omega), ifc_t ekq, ifc_t hkq, ifc_t ek8, ifc_t hk8, ifc_t ek9, ifc_t hk9, ifc_t hN, ifc_t a6544, ifc_f a6546, ifc_t a6600, ifc_f c_37_6601, ifc_f c_84_6604, ifc_t c_84_6607, ifc_t (q := Wi x2 0 6 ∨ Wi x2 10 14) (Or.inr a6600), a6603, ifc_f (q := (1 : Int32) < 0) (by decide), ifc_t (q := UNl (1 : Int32).toNatClampNeg x2) (show UNl 1 x2 from Or.inr (c_84_6607.symm))]; rfl))) rfl gX12_taken_6.2.2
              · refine lv_iload_n hx hb gX12_taken_4.2.2.2.2.2.2.2.2.2 rfl (lv_at0 hl) ?_
                refine pS hC hK hl (m_above0 l G) si_X12_348 rfl rfl (Nat.le_of_ble_eq_true rfl) rm_4_1_1 ⟨by first | exact Nat.le_of_ble_eq_true rfl | exact Nat.zero_le _, by first | exact Nat.le_of_ble_eq_true rfl | exact Nat.zero_le _⟩ gX12_taken_5.1 (Keqr ?_)
                refine lv_istore_n (lv' := [(3, .int (-1)), (0, .ref h0), (1, .int (nI jt)), (2, .int x2)]) hx hb gX12_taken_5.2.1 rfl hl (by decide) rfl (fun ls hl => ?_)
                refine lv_goto (tgt := 78) hx hb gX12_taken_5.2.2.1 (by decide) ?_
                refine lv_iload_n hx hb gX12_taken_4.2.2.2.2.1 rfl (lv_at0 hl) ?_
                refine lv_if_lt (tgt := 95) hx hb gX12_taken_4.2.2.2.2.2.1 (by decide) (fun _ => ?_) (fun c9 => absurd (by decide) c9)
                refine lv_iload_n hx hb gX12_taken_5.2.2.2.1 rfl (lv_at0 hl) ?_
                refine lv_iload_n hx hb gX12_taken_5.2.2.2.2.1 rfl (lv_at3 hl) ?_
                refine lv_icmp_ne (tgt := 109) hx hb gX12_taken_5.2.2.2.2.2.1 (by decide) (fun c_97_6610 => ?_) (fun c_97_6610 => ?_)
                · refine lv_bipush (v := (-13)) hx hb gX12_taken_6.2.1 (by decide) ?_
                  refine toQ hQ0 ?_
                  exact RP (v := (-13)) hC ((by first | rfl | (simp only [nI_clamp (n := jt) (by omega), ifc_t ekq, ifc_t hkq, ifc_t ek8, ifc_t hk8, ifc_t ek9, ifc_t hk9, ifc_t hN, ifc_t a6544, ifc_f a6546, ifc_t a6600, ifc_f c_37_6601, ifc_f c_84_6604, ifc_f c_84_6607, ifc_f c_97_6610, ifc_t (q := Wi x2 0 6 ∨ Wi x2 10 14) (Or.inr a6600), a6603, ifc_f (q := (1 : Int32) < 0) (by decide), ifc_f (q := UNl (1 : Int32).toNatClampNeg x2) (fun h9 => (show False from by have h7 : x2 = 1 ∨ x2 = 0 := h9; rcases h7 with h8 | h8 <;> (first | exact c_84_6604 h8.symm | exact c_84_6607 h8.symm)))]; done) | (simp only [nI_clamp (n := jt) (by omega), ifc_t ekq, ifc_t hkq, ifc_t ek8, ifc_t hk8, ifc_t ek9, ifc_t hk9, ifc_t hN, ifc_t a6544, ifc_f a6546, ifc_t a6600, ifc_f c_37_6601, ifc_f c_84_6604, ifc_f c_84_6607, ifc_f c_97_6610, ifc_t (q := Wi x2 0 6 ∨ Wi x2 10 14) (Or.inr a6600), a6603, ifc_f (q := (1 : Int32) < 0) (by decide), ifc_f (q := UNl (1 : Int32).toNatClampNeg x2) (fun h9 => (show False from by have h7 : x2 = 1 ∨ x2 = 0 := h9; rcases h7 with h8 | h8 <;> (first | exact c_84_6604 h8.symm | exact c_84_6607 h8.symm)))]; rfl))) rfl gX12_taken_6.2.2
                · refine lv_aload_n hx hb gX12_taken_5.2.2.2.2.2.2.1 rfl (lv_at1 hl) ?_
                  refine gf_X12_75 hC rfl hK hP 0 rfl rfl gX12_taken_5.2.2.2.2.2.2.2.1 ?_
                  refine lv_iload_n hx hb gX12_taken_5.2.2.2.2.2.2.2.2.1 rfl (lv_at2 hl) ?_
                  refine aldN hC hK hP 3 rfl (k := jt) (by omega) (Nat.le_of_ble_eq_true rfl) (v := fnsf jt) rfl gX12_taken_5.2.2.2.2.2.2.2.2.2 ?_
                  refine lv_goto (tgt := 111) hx hb gX12_taken_6.1 (by decide) ?_
                  refine toQ hQ0 ?_
                  exact RP (v := fnsf jt) hC ((absurd a6600 (by rw [← c_97_6610]; unfold Wi; decide))) rfl gX12_taken_6.2.2
          · refine lv_istore_n (lv' := [(3, .int 2), (0, .ref h0), (1, .int (nI jt)), (2, .int x2)]) hx hb gX12_taken_3.2.2.2.2.2.2.2.2.2 rfl hl (by decide) rfl (fun ls hl => ?_)
            refine lv_iload_n hx hb gX12_taken_4.1 rfl (lv_at0 hl) ?_
            refine lv_if_ge (tgt := 78) hx hb gX12_taken_4.2.1 (by decide) (fun _ => ?_) (fun c9 => absurd (by decide) c9)
            refine lv_iload_n hx hb gX12_taken_4.2.2.2.2.1 rfl (lv_at0 hl) ?_
            refine lv_if_lt (tgt := 95) hx hb gX12_taken_4.2.2.2.2.2.1 (by decide) (fun c9 => absurd c9 (by decide)) (fun _ => ?_)
            refine lv_iload_n hx hb gX12_taken_4.2.2.2.2.2.2.1 rfl (lv_at0 hl) ?_
            refine lv_iload_n hx hb gX12_taken_4.2.2.2.2.2.2.2.1 rfl (lv_at3 hl) ?_
            refine lv_icmp_eq (tgt := 95) hx hb gX12_taken_4.2.2.2.2.2.2.2.2.1 (by decide) (fun c_84_6611 => ?_) (fun c_84_6611 => ?_)
            · refine lv_iload_n hx hb gX12_taken_5.2.2.2.1 rfl (lv_at0 hl) ?_
              refine lv_iload_n hx hb gX12_taken_5.2.2.2.2.1 rfl (lv_at3 hl) ?_
              refine lv_icmp_ne (tgt := 109) hx hb gX12_taken_5.2.2.2.2.2.1 (by decide) (fun c9 => absurd (c_84_6611) c9) (fun _ => ?_)
              refine lv_aload_n hx hb gX12_taken_5.2.2.2.2.2.2.1 rfl (lv_at1 hl) ?_
              refine gf_X12_75 hC rfl hK hP 0 rfl rfl gX12_taken_5.2.2.2.2.2.2.2.1 ?_
              refine lv_iload_n hx hb gX12_taken_5.2.2.2.2.2.2.2.2.1 rfl (lv_at2 hl) ?_
              refine aldN hC hK hP 3 rfl (k := jt) (by omega) (Nat.le_of_ble_eq_true rfl) (v := fnsf jt) rfl gX12_taken_5.2.2.2.2.2.2.2.2.2 ?_
              refine lv_goto (tgt := 111) hx hb gX12_taken_6.1 (by decide) ?_
              refine toQ hQ0 ?_
              exact RP (v := fnsf jt) hC ((by first | rfl | (simp only [nI_clamp (n := jt) (by omega), ifc_t ekq, ifc_t hkq, ifc_t ek8, ifc_t hk8, ifc_t ek9, ifc_t hk9, ifc_t hN, ifc_t a6544, ifc_f a6546, ifc_t a6600, ifc_f c_37_6601, ifc_t c_84_6611, ifc_t (q := Wi x2 0 6 ∨ Wi x2 10 14) (Or.inr a6600), a6603, ifc_f (q := (2 : Int32) < 0) (by decide), ifc_t (q := UNl (2 : Int32).toNatClampNeg x2) (show UNl 2 x2 from Or.inl (c_84_6611.symm))]; done) | (simp only [nI_clamp (n := jt) (by omega), ifc_t ekq, ifc_t hkq, ifc_t ek8, ifc_t hk8, ifc_t ek9, ifc_t hk9, ifc_t hN, ifc_t a6544, ifc_f a6546, ifc_t a6600, ifc_f c_37_6601, ifc_t c_84_6611, ifc_t (q := Wi x2 0 6 ∨ Wi x2 10 14) (Or.inr a6600), a6603, ifc_f (q := (2 : Int32) < 0) (by decide), ifc_t (q := UNl (2 : Int32).toNatClampNeg x2) (show UNl 2 x2 from Or.inl (c_84_6611.symm))]; rfl))) rfl gX12_taken_6.2.2
            · refine lv_iload_n hx hb gX12_taken_4.2.2.2.2.2.2.2.2.2 rfl (lv_at0 hl) ?_
              refine pS hC hK hl (m_above2 l G) si_X12_348 rfl rfl (Nat.le_of_ble_eq_true rfl) rm_4_1_1 ⟨by first | exact Nat.le_of_ble_eq_true rfl | exact Nat.zero_le _, by first | exact Nat.le_of_ble_eq_true rfl | exact Nat.zero_le _⟩ gX12_taken_5.1 (Keqr ?_)
              refine lv_istore_n (lv' := [(3, .int 0), (0, .ref h0), (1, .int (nI jt)), (2, .int x2)]) hx hb gX12_taken_5.2.1 rfl hl (by decide) rfl (fun ls hl => ?_)
              refine lv_goto (tgt := 78) hx hb gX12_taken_5.2.2.1 (by decide) ?_
              refine lv_iload_n hx hb gX12_taken_4.2.2.2.2.1 rfl (lv_at0 hl) ?_
              refine lv_if_lt (tgt := 95) hx hb gX12_taken_4.2.2.2.2.2.1 (by decide) (fun c9 => absurd c9 (by decide)) (fun _ => ?_)
              refine lv_iload_n hx hb gX12_taken_4.2.2.2.2.2.2.1 rfl (lv_at0 hl) ?_
              refine lv_iload_n hx hb gX12_taken_4.2.2.2.2.2.2.2.1 rfl (lv_at3 hl) ?_
              refine lv_icmp_eq (tgt := 95) hx hb gX12_taken_4.2.2.2.2.2.2.2.2.1 (by decide) (fun c_84_6614 => ?_) (fun c_84_6614 => ?_)
              · refine lv_iload_n hx hb gX12_taken_5.2.2.2.1 rfl (lv_at0 hl) ?_
                refine lv_iload_n hx hb gX12_taken_5.2.2.2.2.1 rfl (lv_at3 hl) ?_
                refine lv_icmp_ne (tgt := 109) hx hb gX12_taken_5.2.2.2.2.2.1 (by decide) (fun c9 => absurd (c_84_6614) c9) (fun _ => ?_)
                refine lv_aload_n hx hb gX12_taken_5.2.2.2.2.2.2.1 rfl (lv_at1 hl) ?_
                refine gf_X12_75 hC rfl hK hP 0 rfl rfl gX12_taken_5.2.2.2.2.2.2.2.1 ?_
                refine lv_iload_n hx hb gX12_taken_5.2.2.2.2.2.2.2.2.1 rfl (lv_at2 hl) ?_
                refine aldN hC hK hP 3 rfl (k := jt) (by omega) (Nat.le_of_ble_eq_true rfl) (v := fnsf jt) rfl gX12_taken_5.2.2.2.2.2.2.2.2.2 ?_
                refine lv_goto (tgt := 111) hx hb gX12_taken_6.1 (by decide) ?_
                refine toQ hQ0 ?_
                exact RP (v := fnsf jt) hC ((by first | rfl | (simp only [nI_clamp (n := jt) (by omega), ifc_t ekq, ifc_t hkq, ifc_t ek8, ifc_t hk8, ifc_t ek9, ifc_t hk9, ifc_t hN, ifc_t a6544, ifc_f a6546, ifc_t a6600, ifc_f c_37_6601, ifc_f c_84_6611, ifc_t c_84_6614, ifc_t (q := Wi x2 0 6 ∨ Wi x2 10 14) (Or.inr a6600), a6603, ifc_f (q := (2 : Int32) < 0) (by decide), ifc_t (q := UNl (2 : Int32).toNatClampNeg x2) (show UNl 2 x2 from Or.inr (c_84_6614.symm))]; done) | (simp only [nI_clamp (n := jt) (by omega), ifc_t ekq, ifc_t hkq, ifc_t ek8, ifc_t hk8, ifc_t ek9, ifc_t hk9, ifc_t hN, ifc_t a6544, ifc_f a6546, ifc_t a6600, ifc_f c_37_6601, ifc_f c_84_6611, ifc_t c_84_6614, ifc_t (q := Wi x2 0 6 ∨ Wi x2 10 14) (Or.inr a6600), a6603, ifc_f (q := (2 : Int32) < 0) (by decide), ifc_t (q := UNl (2 : Int32).toNatClampNeg x2) (show UNl 2 x2 from Or.inr (c_84_6614.symm))]; rfl))) rfl gX12_taken_6.2.2
              · refine lv_iload_n hx hb gX12_taken_4.2.2.2.2.2.2.2.2.2 rfl (lv_at0 hl) ?_
                refine pS hC hK hl (m_above0 l G) si_X12_348 rfl rfl (Nat.le_of_ble_eq_true rfl) rm_4_1_1 ⟨by first | exact Nat.le_of_ble_eq_true rfl | exact Nat.zero_le _, by first | exact Nat.le_of_ble_eq_true rfl | exact Nat.zero_le _⟩ gX12_taken_5.1 (Keqr ?_)
                refine lv_istore_n (lv' := [(3, .int (-1)), (0, .ref h0), (1, .int (nI jt)), (2, .int x2)]) hx hb gX12_taken_5.2.1 rfl hl (by decide) rfl (fun ls hl => ?_)
                refine lv_goto (tgt := 78) hx hb gX12_taken_5.2.2.1 (by decide) ?_
                refine lv_iload_n hx hb gX12_taken_4.2.2.2.2.1 rfl (lv_at0 hl) ?_
                refine lv_if_lt (tgt := 95) hx hb gX12_taken_4.2.2.2.2.2.1 (by decide) (fun _ => ?_) (fun c9 => absurd (by decide) c9)
                refine lv_iload_n hx hb gX12_taken_5.2.2.2.1 rfl (lv_at0 hl) ?_
                refine lv_iload_n hx hb gX12_taken_5.2.2.2.2.1 rfl (lv_at3 hl) ?_
                refine lv_icmp_ne (tgt := 109) hx hb gX12_taken_5.2.2.2.2.2.1 (by decide) (fun c_97_6617 => ?_) (fun c_97_6617 => ?_)
                · refine lv_bipush (v := (-13)) hx hb gX12_taken_6.2.1 (by decide) ?_
                  refine toQ hQ0 ?_
                  exact RP (v := (-13)) hC ((by first | rfl | (simp only [nI_clamp (n := jt) (by omega), ifc_t ekq, ifc_t hkq, ifc_t ek8, ifc_t hk8, ifc_t ek9, ifc_t hk9, ifc_t hN, ifc_t a6544, ifc_f a6546, ifc_t a6600, ifc_f c_37_6601, ifc_f c_84_6611, ifc_f c_84_6614, ifc_f c_97_6617, ifc_t (q := Wi x2 0 6 ∨ Wi x2 10 14) (Or.inr a6600), a6603, ifc_f (q := (2 : Int32) < 0) (by decide), ifc_f (q := UNl (2 : Int32).toNatClampNeg x2) (fun h9 => (show False from by have h7 : x2 = 2 ∨ x2 = 0 := h9; rcases h7 with h8 | h8 <;> (first | exact c_84_6611 h8.symm | exact c_84_6614 h8.symm)))]; done) | (simp only [nI_clamp (n := jt) (by omega), ifc_t ekq, ifc_t hkq, ifc_t ek8, ifc_t hk8, ifc_t ek9, ifc_t hk9, ifc_t hN, ifc_t a6544, ifc_f a6546, ifc_t a6600, ifc_f c_37_6601, ifc_f c_84_6611, ifc_f c_84_6614, ifc_f c_97_6617, ifc_t (q := Wi x2 0 6 ∨ Wi x2 10 14) (Or.inr a6600), a6603, ifc_f (q := (2 : Int32) < 0) (by decide), ifc_f (q := UNl (2 : Int32).toNatClampNeg x2) (fun h9 => (show False from by have h7 : x2 = 2 ∨ x2 = 0 := h9; rcases h7 with h8 | h8 <;> (first | exact c_84_6611 h8.symm | exact c_84_6614 h8.symm)))]; rfl))) rfl gX12_taken_6.2.2
                · refine lv_aload_n hx hb gX12_taken_5.2.2.2.2.2.2.1 rfl (lv_at1 hl) ?_
                  refine gf_X12_75 hC rfl hK hP 0 rfl rfl gX12_taken_5.2.2.2.2.2.2.2.1 ?_
                  refine lv_iload_n hx hb gX12_taken_5.2.2.2.2.2.2.2.2.1 rfl (lv_at2 hl) ?_
                  refine aldN hC hK hP 3 rfl (k := jt) (by omega) (Nat.le_of_ble_eq_true rfl) (v := fnsf jt) rfl gX12_taken_5.2.2.2.2.2.2.2.2.2 ?_
                  refine lv_goto (tgt := 111) hx hb gX12_taken_6.1 (by decide) ?_
                  refine toQ hQ0 ?_
                  exact RP (v := fnsf jt) hC ((absurd a6600 (by rw [← c_97_6617]; unfold Wi; decide))) rfl gX12_taken_6.2.2
          · refine lv_istore_n (lv' := [(3, .int 3), (0, .ref h0), (1, .int (nI jt)), (2, .int x2)]) hx hb gX12_taken_3.2.2.2.2.2.2.2.2.2 rfl hl (by decide) rfl (fun ls hl => ?_)
            refine lv_iload_n hx hb gX12_taken_4.1 rfl (lv_at0 hl) ?_
            refine lv_if_ge (tgt := 78) hx hb gX12_taken_4.2.1 (by decide) (fun _ => ?_) (fun c9 => absurd (by decide) c9)
            refine lv_iload_n hx hb gX12_taken_4.2.2.2.2.1 rfl (lv_at0 hl) ?_
            refine lv_if_lt (tgt := 95) hx hb gX12_taken_4.2.2.2.2.2.1 (by decide) (fun c9 => absurd c9 (by decide)) (fun _ => ?_)
            refine lv_iload_n hx hb gX12_taken_4.2.2.2.2.2.2.1 rfl (lv_at0 hl) ?_
            refine lv_iload_n hx hb gX12_taken_4.2.2.2.2.2.2.2.1 rfl (lv_at3 hl) ?_
            refine lv_icmp_eq (tgt := 95) hx hb gX12_taken_4.2.2.2.2.2.2.2.2.1 (by decide) (fun c_84_6618 => ?_) (fun c_84_6618 => ?_)
            · refine lv_iload_n hx hb gX12_taken_5.2.2.2.1 rfl (lv_at0 hl) ?_
              refine lv_iload_n hx hb gX12_taken_5.2.2.2.2.1 rfl (lv_at3 hl) ?_
              refine lv_icmp_ne (tgt := 109) hx hb gX12_taken_5.2.2.2.2.2.1 (by decide) (fun c9 => absurd (c_84_6618) c9) (fun _ => ?_)
              refine lv_aload_n hx hb gX12_taken_5.2.2.2.2.2.2.1 rfl (lv_at1 hl) ?_
              refine gf_X12_75 hC rfl hK hP 0 rfl rfl gX12_taken_5.2.2.2.2.2.2.2.1 ?_
              refine lv_iload_n hx hb gX12_taken_5.2.2.2.2.2.2.2.2.1 rfl (lv_at2 hl) ?_
              refine aldN hC hK hP 3 rfl (k := jt) (by omega) (Nat.le_of_ble_eq_true rfl) (v := fnsf jt) rfl gX12_taken_5.2.2.2.2.2.2.2.2.2 ?_
              refine lv_goto (tgt := 111) hx hb gX12_taken_6.1 (by decide) ?_
              refine toQ hQ0 ?_
              exact RP (v := fnsf jt) hC ((by first | rfl | (simp only [nI_clamp (n := jt) (by omega), ifc_t ekq, ifc_t hkq, ifc_t ek8, ifc_t hk8, ifc_t ek9, ifc_t hk9, ifc_t hN, ifc_t a6544, ifc_f a6546, ifc_t a6600, ifc_f c_37_6601, ifc_t c_84_6618, ifc_t (q := Wi x2 0 6 ∨ Wi x2 10 14) (Or.inr a6600), a6603, ifc_f (q := (3 : Int32) < 0) (by decide), ifc_t (q := UNl (3 : Int32).toNatClampNeg x2) (show UNl 3 x2 from Or.inl (c_84_6618.symm))]; done) | (simp only [nI_clamp (n := jt) (by omega), ifc_t ekq, ifc_t hkq, ifc_t ek8, ifc_t hk8, ifc_t ek9, ifc_t hk9, ifc_t hN, ifc_t a6544, ifc_f a6546, ifc_t a6600, ifc_f c_37_6601, ifc_t c_84_6618, ifc_t (q := Wi x2 0 6 ∨ Wi x2 10 14) (Or.inr a6600), a6603, ifc_f (q := (3 : Int32) < 0) (by decide), ifc_t (q := UNl (3 : Int32).toNatClampNeg x2) (show UNl 3 x2 from Or.inl (c_84_6618.symm))]; rfl))) rfl gX12_taken_6.2.2
            · refine lv_iload_n hx hb gX12_taken_4.2.2.2.2.2.2.2.2.2 rfl (lv_at0 hl) ?_
              refine pS hC hK hl (m_above3 l G) si_X12_348 rfl rfl (Nat.le_of_ble_eq_true rfl) rm_4_1_1 ⟨by first | exact Nat.le_of_ble_eq_true rfl | exact Nat.zero_le _, by first | exact Nat.le_of_ble_eq_true rfl | exact Nat.zero_le _⟩ gX12_taken_5.1 (Keqr ?_)
              refine lv_istore_n (lv' := [(3, .int 1), (0, .ref h0), (1, .int (nI jt)), (2, .int x2)]) hx hb gX12_taken_5.2.1 rfl hl (by decide) rfl (fun ls hl => ?_)
              refine lv_goto (tgt := 78) hx hb gX12_taken_5.2.2.1 (by decide) ?_
              refine lv_iload_n hx hb gX12_taken_4.2.2.2.2.1 rfl (lv_at0 hl) ?_
              refine lv_if_lt (tgt := 95) hx hb gX12_taken_4.2.2.2.2.2.1 (by decide) (fun c9 => absurd c9 (by decide)) (fun _ => ?_)
              refine lv_iload_n hx hb gX12_taken_4.2.2.2.2.2.2.1 rfl (lv_at0 hl) ?_
              refine lv_iload_n hx hb gX12_taken_4.2.2.2.2.2.2.2.1 rfl (lv_at3 hl) ?_
              refine lv_icmp_eq (tgt := 95) hx hb gX12_taken_4.2.2.2.2.2.2.2.2.1 (by decide) (fun c_84_6621 => ?_) (fun c_84_6621 => ?_)
              · refine lv_iload_n hx hb gX12_taken_5.2.2.2.1 rfl (lv_at0 hl) ?_
                refine lv_iload_n hx hb gX12_taken_5.2.2.2.2.1 rfl (lv_at3 hl) ?_
                refine lv_icmp_ne (tgt := 109) hx hb gX12_taken_5.2.2.2.2.2.1 (by decide) (fun c9 => absurd (c_84_6621) c9) (fun _ => ?_)
                refine lv_aload_n hx hb gX12_taken_5.2.2.2.2.2.2.1 rfl (lv_at1 hl) ?_
                refine gf_X12_75 hC rfl hK hP 0 rfl rfl gX12_taken_5.2.2.2.2.2.2.2.1 ?_
                refine lv_iload_n hx hb gX12_taken_5.2.2.2.2.2.2.2.2.1 rfl (lv_at2 hl) ?_
                refine aldN hC hK hP 3 rfl (k := jt) (by omega) (Nat.le_of_ble_eq_true rfl) (v := fnsf jt) rfl gX12_taken_5.2.2.2.2.2.2.2.2.2 ?_
                refine lv_goto (tgt := 111) hx hb gX12_taken_6.1 (by decide) ?_
                refine toQ hQ0 ?_
                exact RP (v := fnsf jt) hC ((by first | rfl | (simp only [nI_clamp (n := jt) (by omega), ifc_t ekq, ifc_t hkq, ifc_t ek8, ifc_t hk8, ifc_t ek9, ifc_t hk9, ifc_t hN, ifc_t a6544, ifc_f a6546, ifc_t a6600, ifc_f c_37_6601, ifc_f c_84_6618, ifc_t c_84_6621, ifc_t (q := Wi x2 0 6 ∨ Wi x2 10 14) (Or.inr a6600), a6603, ifc_f (q := (3 : Int32) < 0) (by decide), ifc_t (q := UNl (3 : Int32).toNatClampNeg x2) (show UNl 3 x2 from Or.inr (Or.inl (c_84_6621.symm)))]; done) | (simp only [nI_clamp (n := jt) (by omega), ifc_t ekq, ifc_t hkq, ifc_t ek8, ifc_t hk8, ifc_t ek9, ifc_t hk9, ifc_t hN, ifc_t a6544, ifc_f a6546, ifc_t a6600, ifc_f c_37_6601, ifc_f c_84_6618, ifc_t c_84_6621, ifc_t (q := Wi x2 0 6 ∨ Wi x2 10 14) (Or.inr a6600), a6603, ifc_f (q := (3 : Int32) < 0) (by decide), ifc_t (q := UNl (3 : Int32).toNatClampNeg x2) (show UNl 3 x2 from Or.inr (Or.inl (c_84_6621.symm)))]; rfl))) rfl gX12_taken_6.2.2
              · refine lv_iload_n hx hb gX12_taken_4.2.2.2.2.2.2.2.2.2 rfl (lv_at0 hl) ?_
                refine pS hC hK hl (m_above1 l G) si_X12_348 rfl rfl (Nat.le_of_ble_eq_true rfl) rm_4_1_1 ⟨by first | exact Nat.le_of_ble_eq_true rfl | exact Nat.zero_le _, by first | exact Nat.le_of_ble_eq_true rfl | exact Nat.zero_le _⟩ gX12_taken_5.1 (Keqr ?_)
                refine lv_istore_n (lv' := [(3, .int 0), (0, .ref h0), (1, .int (nI jt)), (2, .int x2)]) hx hb gX12_taken_5.2.1 rfl hl (by decide) rfl (fun ls hl => ?_)
                refine lv_goto (tgt := 78) hx hb gX12_taken_5.2.2.1 (by decide) ?_
                refine lv_iload_n hx hb gX12_taken_4.2.2.2.2.1 rfl (lv_at0 hl) ?_
                refine lv_if_lt (tgt := 95) hx hb gX12_taken_4.2.2.2.2.2.1 (by decide) (fun c9 => absurd c9 (by decide)) (fun _ => ?_)
                refine lv_iload_n hx hb gX12_taken_4.2.2.2.2.2.2.1 rfl (lv_at0 hl) ?_
                refine lv_iload_n hx hb gX12_taken_4.2.2.2.2.2.2.2.1 rfl (lv_at3 hl) ?_
                refine lv_icmp_eq (tgt := 95) hx hb gX12_taken_4.2.2.2.2.2.2.2.2.1 (by decide) (fun c_84_6624 => ?_) (fun c_84_6624 => ?_)
                · refine lv_iload_n hx hb gX12_taken_5.2.2.2.1 rfl (lv_at0 hl) ?_
                  refine lv_iload_n hx hb gX12_taken_5.2.2.2.2.1 rfl (lv_at3 hl) ?_
                  refine lv_icmp_ne (tgt := 109) hx hb gX12_taken_5.2.2.2.2.2.1 (by decide) (fun c9 => absurd (c_84_6624) c9) (fun _ => ?_)
                  refine lv_aload_n hx hb gX12_taken_5.2.2.2.2.2.2.1 rfl (lv_at1 hl) ?_
                  refine gf_X12_75 hC rfl hK hP 0 rfl rfl gX12_taken_5.2.2.2.2.2.2.2.1 ?_
                  refine lv_iload_n hx hb gX12_taken_5.2.2.2.2.2.2.2.2.1 rfl (lv_at2 hl) ?_
                  refine aldN hC hK hP 3 rfl (k := jt) (by omega) (Nat.le_of_ble_eq_true rfl) (v := fnsf jt) rfl gX12_taken_5.2.2.2.2.2.2.2.2.2 ?_
                  refine lv_goto (tgt := 111) hx hb gX12_taken_6.1 (by decide) ?_
                  refine toQ hQ0 ?_
                  exact RP (v := fnsf jt) hC ((by first | rfl | (simp only [nI_clamp (n := jt) (by omega), ifc_t ekq, ifc_t hkq, ifc_t ek8, ifc_t hk8, ifc_t ek9, ifc_t hk9, ifc_t hN, ifc_t a6544, ifc_f a6546, ifc_t a6600, ifc_f c_37_6601, ifc_f c_84_6618, ifc_f c_84_6621, ifc_t c_84_6624, ifc_t (q := Wi x2 0 6 ∨ Wi x2 10 14) (Or.inr a6600), a6603, ifc_f (q := (3 : Int32) < 0) (by decide), ifc_t (q := UNl (3 : Int32).toNatClampNeg x2) (show UNl 3 x2 from Or.inr (Or.inr (c_84_6624.symm)))]; done) | (simp only [nI_clamp (n := jt) (by omega), ifc_t ekq, ifc_t hkq, ifc_t ek8, ifc_t hk8, ifc_t ek9, ifc_t hk9, ifc_t hN, ifc_t a6544, ifc_f a6546, ifc_t a6600, ifc_f c_37_6601, ifc_f c_84_6618, ifc_f c_84_6621, ifc_t c_84_6624, ifc_t (q := Wi x2 0 6 ∨ Wi x2 10 14) (Or.inr a6600), a6603, ifc_f (q := (3 : Int32) < 0) (by decide), ifc_t (q := UNl (3 : Int32).toNatClampNeg x2) (show UNl 3 x2 from Or.inr (Or.inr (c_84_6624.symm)))]; rfl))) rfl gX12_taken_6.2.2
                · refine lv_iload_n hx hb gX12_taken_4.2.2.2.2.2.2.2.2.2 rfl (lv_at0 hl) ?_
                  refine pS hC hK hl (m_above0 l G) si_X12_348 rfl rfl (Nat.le_of_ble_eq_true rfl) rm_4_1_1 ⟨by first | exact Nat.le_of_ble_eq_true rfl | exact Nat.zero_le _, by first | exact Nat.le_of_ble_eq_true rfl | exact Nat.zero_le _⟩ gX12_taken_5.1 (Keqr ?_)
                  refine lv_istore_n (lv' := [(3, .int (-1)), (0, .ref h0), (1, .int (nI jt)), (2, .int x2)]) hx hb gX12_taken_5.2.1 rfl hl (by decide) rfl (fun ls hl => ?_)
                  refine lv_goto (tgt := 78) hx hb gX12_taken_5.2.2.1 (by decide) ?_
                  refine lv_iload_n hx hb gX12_taken_4.2.2.2.2.1 rfl (lv_at0 hl) ?_
                  refine lv_if_lt (tgt := 95) hx hb gX12_taken_4.2.2.2.2.2.1 (by decide) (fun _ => ?_) (fun c9 => absurd (by decide) c9)
                  refine lv_iload_n hx hb gX12_taken_5.2.2.2.1 rfl (lv_at0 hl) ?_
                  refine lv_iload_n hx hb gX12_taken_5.2.2.2.2.1 rfl (lv_at3 hl) ?_
                  refine lv_icmp_ne (tgt := 109) hx hb gX12_taken_5.2.2.2.2.2.1 (by decide) (fun c_97_6627 => ?_) (fun c_97_6627 => ?_)
                  · refine lv_bipush (v := (-13)) hx hb gX12_taken_6.2.1 (by decide) ?_
                    refine toQ hQ0 ?_
                    exact RP (v := (-13)) hC ((by first | rfl | (simp only [nI_clamp (n := jt) (by omega), ifc_t ekq, ifc_t hkq, ifc_t ek8, ifc_t hk8, ifc_t ek9, ifc_t hk9, ifc_t hN, ifc_t a6544, ifc_f a6546, ifc_t a6600, ifc_f c_37_6601, ifc_f c_84_6618, ifc_f c_84_6621, ifc_f c_84_6624, ifc_f c_97_6627, ifc_t (q := Wi x2 0 6 ∨ Wi x2 10 14) (Or.inr a6600), a6603, ifc_f (q := (3 : Int32) < 0) (by decide), ifc_f (q := UNl (3 : Int32).toNatClampNeg x2) (fun h9 => (show False from by have h7 : x2 = 3 ∨ x2 = 1 ∨ x2 = 0 := h9; rcases h7 with h8 | h8 | h8 <;> (first | exact c_84_6618 h8.symm | exact c_84_6621 h8.symm | exact c_84_6624 h8.symm)))]; done) | (simp only [nI_clamp (n := jt) (by omega), ifc_t ekq, ifc_t hkq, ifc_t ek8, ifc_t hk8, ifc_t ek9, ifc_t hk9, ifc_t hN, ifc_t a6544, ifc_f a6546, ifc_t a6600, ifc_f c_37_6601, ifc_f c_84_6618, ifc_f c_84_6621, ifc_f c_84_6624, ifc_f c_97_6627, ifc_t (q := Wi x2 0 6 ∨ Wi x2 10 14) (Or.inr a6600), a6603, ifc_f (q := (3 : Int32) < 0) (by decide), ifc_f (q := UNl (3 : Int32).toNatClampNeg x2) (fun h9 => (show False from by have h7 : x2 = 3 ∨ x2 = 1 ∨ x2 = 0 := h9; rcases h7 with h8 | h8 | h8 <;> (first | exact c_84_6618 h8.symm | exact c_84_6621 h8.symm | exact c_84_6624 h8.symm)))]; rfl))) rfl gX12_taken_6.2.2
                  · refine lv_aload_n hx hb gX12_taken_5.2.2.2.2.2.2.1 rfl (lv_at1 hl) ?_
                    refine gf_X12_75 hC rfl hK hP 0 rfl rfl gX12_taken_5.2.2.2.2.2.2.2.1 ?_
                    refine lv_iload_n hx hb gX12_taken_5.2.2.2.2.2.2.2.2.1 rfl (lv_at2 hl) ?_
                    refine aldN hC hK hP 3 rfl (k := jt) (by omega) (Nat.le_of_ble_eq_true rfl) (v := fnsf jt) rfl gX12_taken_5.2.2.2.2.2.2.2.2.2 ?_
                    refine lv_goto (tgt := 111) hx hb gX12_taken_6.1 (by decide) ?_
                    refine toQ hQ0 ?_
                    exact RP (v := fnsf jt) hC ((absurd a6600 (by rw [← c_97_6627]; unfold Wi; decide))) rfl gX12_taken_6.2.2
          · refine lv_istore_n (lv' := [(3, .int 4), (0, .ref h0), (1, .int (nI jt)), (2, .int x2)]) hx hb gX12_taken_3.2.2.2.2.2.2.2.2.2 rfl hl (by decide) rfl (fun ls hl => ?_)
            refine lv_iload_n hx hb gX12_taken_4.1 rfl (lv_at0 hl) ?_
            refine lv_if_ge (tgt := 78) hx hb gX12_taken_4.2.1 (by decide) (fun _ => ?_) (fun c9 => absurd (by decide) c9)
            refine lv_iload_n hx hb gX12_taken_4.2.2.2.2.1 rfl (lv_at0 hl) ?_
            refine lv_if_lt (tgt := 95) hx hb gX12_taken_4.2.2.2.2.2.1 (by decide) (fun c9 => absurd c9 (by decide)) (fun _ => ?_)
            refine lv_iload_n hx hb gX12_taken_4.2.2.2.2.2.2.1 rfl (lv_at0 hl) ?_
            refine lv_iload_n hx hb gX12_taken_4.2.2.2.2.2.2.2.1 rfl (lv_at3 hl) ?_
            refine lv_icmp_eq (tgt := 95) hx hb gX12_taken_4.2.2.2.2.2.2.2.2.1 (by decide) (fun c_84_6628 => ?_) (fun c_84_6628 => ?_)
            · refine lv_iload_n hx hb gX12_taken_5.2.2.2.1 rfl (lv_at0 hl) ?_
              refine lv_iload_n hx hb gX12_taken_5.2.2.2.2.1 rfl (lv_at3 hl) ?_
              refine lv_icmp_ne (tgt := 109) hx hb gX12_taken_5.2.2.2.2.2.1 (by decide) (fun c9 => absurd (c_84_6628) c9) (fun _ => ?_)
              refine lv_aload_n hx hb gX12_taken_5.2.2.2.2.2.2.1 rfl (lv_at1 hl) ?_
              refine gf_X12_75 hC rfl hK hP 0 rfl rfl gX12_taken_5.2.2.2.2.2.2.2.1 ?_
              refine lv_iload_n hx hb gX12_taken_5.2.2.2.2.2.2.2.2.1 rfl (lv_at2 hl) ?_
              refine aldN hC hK hP 3 rfl (k := jt) (by omega) (Nat.le_of_ble_eq_true rfl) (v := fnsf jt) rfl gX12_taken_5.2.2.2.2.2.2.2.2.2 ?_
              refine lv_goto (tgt := 111) hx hb gX12_taken_6.1 (by decide) ?_
              refine toQ hQ0 ?_
              exact RP (v := fnsf jt) hC ((by first | rfl | (simp only [nI_clamp (n := jt) (by omega), ifc_t ekq, ifc_t hkq, ifc_t ek8, ifc_t hk8, ifc_t ek9, ifc_t hk9, ifc_t hN, ifc_t a6544, ifc_f a6546, ifc_t a6600, ifc_f c_37_6601, ifc_t c_84_6628, ifc_t (q := Wi x2 0 6 ∨ Wi x2 10 14) (Or.inr a6600), a6603, ifc_f (q := (4 : Int32) < 0) (by decide), ifc_t (q := UNl (4 : Int32).toNatClampNeg x2) (show UNl 4 x2 from Or.inl (c_84_6628.symm))]; done) | (simp only [nI_clamp (n := jt) (by omega), ifc_t ekq, ifc_t hkq, ifc_t ek8, ifc_t hk8, ifc_t ek9, ifc_t hk9, ifc_t hN, ifc_t a6544, ifc_f a6546, ifc_t a6600, ifc_f c_37_6601, ifc_t c_84_6628, ifc_t (q := Wi x2 0 6 ∨ Wi x2 10 14) (Or.inr a6600), a6603, ifc_f (q := (4 : Int32) < 0) (by decide), ifc_t (q := UNl (4 : Int32).toNatClampNeg x2) (show UNl 4 x2 from Or.inl (c_84_6628.symm))]; rfl))) rfl gX12_taken_6.2.2
            · refine lv_iload_n hx hb gX12_taken_4.2.2.2.2.2.2.2.2.2 rfl (lv_at0 hl) ?_
              refine pS hC hK hl (m_above4 l G) si_X12_348 rfl rfl (Nat.le_of_ble_eq_true rfl) rm_4_1_1 ⟨by first | exact Nat.le_of_ble_eq_true rfl | exact Nat.zero_le _, by first | exact Nat.le_of_ble_eq_true rfl | exact Nat.zero_le _⟩ gX12_taken_5.1 (Keqr ?_)
              refine lv_istore_n (lv' := [(3, .int 0), (0, .ref h0), (1, .int (nI jt)), (2, .int x2)]) hx hb gX12_taken_5.2.1 rfl hl (by decide) rfl (fun ls hl => ?_)
              refine lv_goto (tgt := 78) hx hb gX12_taken_5.2.2.1 (by decide) ?_
              refine lv_iload_n hx hb gX12_taken_4.2.2.2.2.1 rfl (lv_at0 hl) ?_
              refine lv_if_lt (tgt := 95) hx hb gX12_taken_4.2.2.2.2.2.1 (by decide) (fun c9 => absurd c9 (by decide)) (fun _ => ?_)
              refine lv_iload_n hx hb gX12_taken_4.2.2.2.2.2.2.1 rfl (lv_at0 hl) ?_
              refine lv_iload_n hx hb gX12_taken_4.2.2.2.2.2.2.2.1 rfl (lv_at3 hl) ?_
              refine lv_icmp_eq (tgt := 95) hx hb gX12_taken_4.2.2.2.2.2.2.2.2.1 (by decide) (fun c_84_6631 => ?_) (fun c_84_6631 => ?_)
              · refine lv_iload_n hx hb gX12_taken_5.2.2.2.1 rfl (lv_at0 hl) ?_
                refine lv_iload_n hx hb gX12_taken_5.2.2.2.2.1 rfl (lv_at3 hl) ?_
                refine lv_icmp_ne (tgt := 109) hx hb gX12_taken_5.2.2.2.2.2.1 (by decide) (fun c9 => absurd (c_84_6631) c9) (fun _ => ?_)
                refine lv_aload_n hx hb gX12_taken_5.2.2.2.2.2.2.1 rfl (lv_at1 hl) ?_
                refine gf_X12_75 hC rfl hK hP 0 rfl rfl gX12_taken_5.2.2.2.2.2.2.2.1 ?_
                refine lv_iload_n hx hb gX12_taken_5.2.2.2.2.2.2.2.2.1 rfl (lv_at2 hl) ?_
                refine aldN hC hK hP 3 rfl (k := jt) (by omega) (Nat.le_of_ble_eq_true rfl) (v := fnsf jt) rfl gX12_taken_5.2.2.2.2.2.2.2.2.2 ?_
                refine lv_goto (tgt := 111) hx hb gX12_taken_6.1 (by decide) ?_
                refine toQ hQ0 ?_
                exact RP (v := fnsf jt) hC ((by first | rfl | (simp only [nI_clamp (n := jt) (by omega), ifc_t ekq, ifc_t hkq, ifc_t ek8, ifc_t hk8, ifc_t ek9, ifc_t hk9, ifc_t hN, ifc_t a6544, ifc_f a6546, ifc_t a6600, ifc_f c_37_6601, ifc_f c_84_6628, ifc_t c_84_6631, ifc_t (q := Wi x2 0 6 ∨ Wi x2 10 14) (Or.inr a6600), a6603, ifc_f (q := (4 : Int32) < 0) (by decide), ifc_t (q := UNl (4 : Int32).toNatClampNeg x2) (show UNl 4 x2 from Or.inr (c_84_6631.symm))]; done) | (simp only [nI_clamp (n := jt) (by omega), ifc_t ekq, ifc_t hkq, ifc_t ek8, ifc_t hk8, ifc_t ek9, ifc_t hk9, ifc_t hN, ifc_t a6544, ifc_f a6546, ifc_t a6600, ifc_f c_37_6601, ifc_f c_84_6628, ifc_t c_84_6631, ifc_t (q := Wi x2 0 6 ∨ Wi x2 10 14) (Or.inr a6600), a6603, ifc_f (q := (4 : Int32) < 0) (by decide), ifc_t (q := UNl (4 : Int32).toNatClampNeg x2) (show UNl 4 x2 from Or.inr (c_84_6631.symm))]; rfl))) rfl gX12_taken_6.2.2
              · refine lv_iload_n hx hb gX12_taken_4.2.2.2.2.2.2.2.2.2 rfl (lv_at0 hl) ?_
                refine pS hC hK hl (m_above0 l G) si_X12_348 rfl rfl (Nat.le_of_ble_eq_true rfl) rm_4_1_1 ⟨by first | exact Nat.le_of_ble_eq_true rfl | exact Nat.zero_le _, by first | exact Nat.le_of_ble_eq_true rfl | exact Nat.zero_le _⟩ gX12_taken_5.1 (Keqr ?_)
                refine lv_istore_n (lv' := [(3, .int (-1)), (0, .ref h0), (1, .int (nI jt)), (2, .int x2)]) hx hb gX12_taken_5.2.1 rfl hl (by decide) rfl (fun ls hl => ?_)
                refine lv_goto (tgt := 78) hx hb gX12_taken_5.2.2.1 (by decide) ?_
                refine lv_iload_n hx hb gX12_taken_4.2.2.2.2.1 rfl (lv_at0 hl) ?_
                refine lv_if_lt (tgt := 95) hx hb gX12_taken_4.2.2.2.2.2.1 (by decide) (fun _ => ?_) (fun c9 => absurd (by decide) c9)
                refine lv_iload_n hx hb gX12_taken_5.2.2.2.1 rfl (lv_at0 hl) ?_
                refine lv_iload_n hx hb gX12_taken_5.2.2.2.2.1 rfl (lv_at3 hl) ?_
                refine lv_icmp_ne (tgt := 109) hx hb gX12_taken_5.2.2.2.2.2.1 (by decide) (fun c_97_6634 => ?_) (fun c_97_6634 => ?_)
                · refine lv_bipush (v := (-13)) hx hb gX12_taken_6.2.1 (by decide) ?_
                  refine toQ hQ0 ?_
                  exact RP (v := (-13)) hC ((by first | rfl | (simp only [nI_clamp (n := jt) (by omega), ifc_t ekq, ifc_t hkq, ifc_t ek8, ifc_t hk8, ifc_t ek9, ifc_t hk9, ifc_t hN, ifc_t a6544, ifc_f a6546, ifc_t a6600, ifc_f c_37_6601, ifc_f c_84_6628, ifc_f c_84_6631, ifc_f c_97_6634, ifc_t (q := Wi x2 0 6 ∨ Wi x2 10 14) (Or.inr a6600), a6603, ifc_f (q := (4 : Int32) < 0) (by decide), ifc_f (q := UNl (4 : Int32).toNatClampNeg x2) (fun h9 => (show False from by have h7 : x2 = 4 ∨ x2 = 0 := h9; rcases h7 with h8 | h8 <;> (first | exact c_84_6628 h8.symm | exact c_84_6631 h8.symm)))]; done) | (simp only [nI_clamp (n := jt) (by omega), ifc_t ekq, ifc_t hkq, ifc_t ek8, ifc_t hk8, ifc_t ek9, ifc_t hk9, ifc_t hN, ifc_t a6544, ifc_f a6546, ifc_t a6600, ifc_f c_37_6601, ifc_f c_84_6628, ifc_f c_84_6631, ifc_f c_97_6634, ifc_t (q := Wi x2 0 6 ∨ Wi x2 10 14) (Or.inr a6600), a6603, ifc_f (q := (4 : Int32) < 0) (by decide), ifc_f (q := UNl (4 : Int32).toNatClampNeg x2) (fun h9 => (show False from by have h7 : x2 = 4 ∨ x2 = 0 := h9; rcases h7 with h8 | h8 <;> (first | exact c_84_6628 h8.symm | exact c_84_6631 h8.symm)))]; rfl))) rfl gX12_taken_6.2.2
                · refine lv_aload_n hx hb gX12_taken_5.2.2.2.2.2.2.1 rfl (lv_at1 hl) ?_
                  refine gf_X12_75 hC rfl hK hP 0 rfl rfl gX12_taken_5.2.2.2.2.2.2.2.1 ?_
                  refine lv_iload_n hx hb gX12_taken_5.2.2.2.2.2.2.2.2.1 rfl (lv_at2 hl) ?_
                  refine aldN hC hK hP 3 rfl (k := jt) (by omega) (Nat.le_of_ble_eq_true rfl) (v := fnsf jt) rfl gX12_taken_5.2.2.2.2.2.2.2.2.2 ?_
                  refine lv_goto (tgt := 111) hx hb gX12_taken_6.1 (by decide) ?_
                  refine toQ hQ0 ?_
                  exact RP (v := fnsf jt) hC ((absurd a6600 (by rw [← c_97_6634]; unfold Wi; decide))) rfl gX12_taken_6.2.2
          · refine lv_istore_n (lv' := [(3, .int 5), (0, .ref h0), (1, .int (nI jt)), (2, .int x2)]) hx hb gX12_taken_3.2.2.2.2.2.2.2.2.2 rfl hl (by decide) rfl (fun ls hl => ?_)
            refine lv_iload_n hx hb gX12_taken_4.1 rfl (lv_at0 hl) ?_
            refine lv_if_ge (tgt := 78) hx hb gX12_taken_4.2.1 (by decide) (fun _ => ?_) (fun c9 => absurd (by decide) c9)
            refine lv_iload_n hx hb gX12_taken_4.2.2.2.2.1 rfl (lv_at0 hl) ?_
            refine lv_if_lt (tgt := 95) hx hb gX12_taken_4.2.2.2.2.2.1 (by decide) (fun c9 => absurd c9 (by decide)) (fun _ => ?_)
            refine lv_iload_n hx hb gX12_taken_4.2.2.2.2.2.2.1 rfl (lv_at0 hl) ?_
            refine lv_iload_n hx hb gX12_taken_4.2.2.2.2.2.2.2.1 rfl (lv_at3 hl) ?_
            refine lv_icmp_eq (tgt := 95) hx hb gX12_taken_4.2.2.2.2.2.2.2.2.1 (by decide) (fun c_84_6635 => ?_) (fun c_84_6635 => ?_)
            · refine lv_iload_n hx hb gX12_taken_5.2.2.2.1 rfl (lv_at0 hl) ?_
              refine lv_iload_n hx hb gX12_taken_5.2.2.2.2.1 rfl (lv_at3 hl) ?_
              refine lv_icmp_ne (tgt := 109) hx hb gX12_taken_5.2.2.2.2.2.1 (by decide) (fun c9 => absurd (c_84_6635) c9) (fun _ => ?_)
              refine lv_aload_n hx hb gX12_taken_5.2.2.2.2.2.2.1 rfl (lv_at1 hl) ?_
              refine gf_X12_75 hC rfl hK hP 0 rfl rfl gX12_taken_5.2.2.2.2.2.2.2.1 ?_
              refine lv_iload_n hx hb gX12_taken_5.2.2.2.2.2.2.2.2.1 rfl (lv_at2 hl) ?_
              refine aldN hC hK hP 3 rfl (k := jt) (by omega) (Nat.le_of_ble_eq_true rfl) (v := fnsf jt) rfl gX12_taken_5.2.2.2.2.2.2.2.2.2 ?_
              refine lv_goto (tgt := 111) hx hb gX12_taken_6.1 (by decide) ?_
              refine toQ hQ0 ?_
              exact RP (v := fnsf jt) hC ((by first | rfl | (simp only [nI_clamp (n := jt) (by omega), ifc_t ekq, ifc_t hkq, ifc_t ek8, ifc_t hk8, ifc_t ek9, ifc_t hk9, ifc_t hN, ifc_t a6544, ifc_f a6546, ifc_t a6600, ifc_f c_37_6601, ifc_t c_84_6635, ifc_t (q := Wi x2 0 6 ∨ Wi x2 10 14) (Or.inr a6600), a6603, ifc_f (q := (5 : Int32) < 0) (by decide), ifc_t (q := UNl (5 : Int32).toNatClampNeg x2) (show UNl 5 x2 from Or.inl (c_84_6635.symm))]; done) | (simp only [nI_clamp (n := jt) (by omega), ifc_t ekq, ifc_t hkq, ifc_t ek8, ifc_t hk8, ifc_t ek9, ifc_t hk9, ifc_t hN, ifc_t a6544, ifc_f a6546, ifc_t a6600, ifc_f c_37_6601, ifc_t c_84_6635, ifc_t (q := Wi x2 0 6 ∨ Wi x2 10 14) (Or.inr a6600), a6603, ifc_f (q := (5 : Int32) < 0) (by decide), ifc_t (q := UNl (5 : Int32).toNatClampNeg x2) (show UNl 5 x2 from Or.inl (c_84_6635.symm))]; rfl))) rfl gX12_taken_6.2.2
            · refine lv_iload_n hx hb gX12_taken_4.2.2.2.2.2.2.2.2.2 rfl (lv_at0 hl) ?_
              refine pS hC hK hl (m_above5 l G) si_X12_348 rfl rfl (Nat.le_of_ble_eq_true rfl) rm_4_1_1 ⟨by first | exact Nat.le_of_ble_eq_true rfl | exact Nat.zero_le _, by first | exact Nat.le_of_ble_eq_true rfl | exact Nat.zero_le _⟩ gX12_taken_5.1 (Keqr ?_)
              refine lv_istore_n (lv' := [(3, .int 4), (0, .ref h0), (1, .int (nI jt)), (2, .int x2)]) hx hb gX12_taken_5.2.1 rfl hl (by decide) rfl (fun ls hl => ?_)
              refine lv_goto (tgt := 78) hx hb gX12_taken_5.2.2.1 (by decide) ?_
              refine lv_iload_n hx hb gX12_taken_4.2.2.2.2.1 rfl (lv_at0 hl) ?_
              refine lv_if_lt (tgt := 95) hx hb gX12_taken_4.2.2.2.2.2.1 (by decide) (fun c9 => absurd c9 (by decide)) (fun _ => ?_)
              refine lv_iload_n hx hb gX12_taken_4.2.2.2.2.2.2.1 rfl (lv_at0 hl) ?_
              refine lv_iload_n hx hb gX12_taken_4.2.2.2.2.2.2.2.1 rfl (lv_at3 hl) ?_
              refine lv_icmp_eq (tgt := 95) hx hb gX12_taken_4.2.2.2.2.2.2.2.2.1 (by decide) (fun c_84_6638 => ?_) (fun c_84_6638 => ?_)
              · refine lv_iload_n hx hb gX12_taken_5.2.2.2.1 rfl (lv_at0 hl) ?_
                refine lv_iload_n hx hb gX12_taken_5.2.2.2.2.1 rfl (lv_at3 hl) ?_
                refine lv_icmp_ne (tgt := 109) hx hb gX12_taken_5.2.2.2.2.2.1 (by decide) (fun c9 => absurd (c_84_6638) c9) (fun _ => ?_)
                refine lv_aload_n hx hb gX12_taken_5.2.2.2.2.2.2.1 rfl (lv_at1 hl) ?_
                refine gf_X12_75 hC rfl hK hP 0 rfl rfl gX12_taken_5.2.2.2.2.2.2.2.1 ?_
                refine lv_iload_n hx hb gX12_taken_5.2.2.2.2.2.2.2.2.1 rfl (lv_at2 hl) ?_
                refine aldN hC hK hP 3 rfl (k := jt) (by omega) (Nat.le_of_ble_eq_true rfl) (v := fnsf jt) rfl gX12_taken_5.2.2.2.2.2.2.2.2.2 ?_
                refine lv_goto (tgt := 111) hx hb gX12_taken_6.1 (by decide) ?_
                refine toQ hQ0 ?_
                exact RP (v := fnsf jt) hC ((by first | rfl | (simp only [nI_clamp (n := jt) (by omega), ifc_t ekq, ifc_t hkq, ifc_t ek8, ifc_t hk8, ifc_t ek9, ifc_t hk9, ifc_t hN, ifc_t a6544, ifc_f a6546, ifc_t a6600, ifc_f c_37_6601, ifc_f c_84_6635, ifc_t c_84_6638, ifc_t (q := Wi x2 0 6 ∨ Wi x2 10 14) (Or.inr a6600), a6603, ifc_f (q := (5 : Int32) < 0) (by decide), ifc_t (q := UNl (5 : Int32).toNatClampNeg x2) (show UNl 5 x2 from Or.inr (Or.inl (c_84_6638.symm)))]; done) | (simp only [nI_clamp (n := jt) (by omega), ifc_t ekq, ifc_t hkq, ifc_t ek8, ifc_t hk8, ifc_t ek9, ifc_t hk9, ifc_t hN, ifc_t a6544, ifc_f a6546, ifc_t a6600, ifc_f c_37_6601, ifc_f c_84_6635, ifc_t c_84_6638, ifc_t (q := Wi x2 0 6 ∨ Wi x2 10 14) (Or.inr a6600), a6603, ifc_f (q := (5 : Int32) < 0) (by decide), ifc_t (q := UNl (5 : Int32).toNatClampNeg x2) (show UNl 5 x2 from Or.inr (Or.inl (c_84_6638.symm)))]; rfl))) rfl gX12_taken_6.2.2
              · refine lv_iload_n hx hb gX12_taken_4.2.2.2.2.2.2.2.2.2 rfl (lv_at0 hl) ?_
                refine pS hC hK hl (m_above4 l G) si_X12_348 rfl rfl (Nat.le_of_ble_eq_true rfl) rm_4_1_1 ⟨by first | exact Nat.le_of_ble_eq_true rfl | exact Nat.zero_le _, by first | exact Nat.le_of_ble_eq_true rfl | exact Nat.zero_le _⟩ gX12_taken_5.1 (Keqr ?_)
                refine lv_istore_n (lv' := [(3, .int 0), (0, .ref h0), (1, .int (nI jt)), (2, .int x2)]) hx hb gX12_taken_5.2.1 rfl hl (by decide) rfl (fun ls hl => ?_)
                refine lv_goto (tgt := 78) hx hb gX12_taken_5.2.2.1 (by decide) ?_
                refine lv_iload_n hx hb gX12_taken_4.2.2.2.2.1 rfl (lv_at0 hl) ?_
                refine lv_if_lt (tgt := 95) hx hb gX12_taken_4.2.2.2.2.2.1 (by decide) (fun c9 => absurd c9 (by decide)) (fun _ => ?_)
                refine lv_iload_n hx hb gX12_taken_4.2.2.2.2.2.2.1 rfl (lv_at0 hl) ?_
                refine lv_iload_n hx hb gX12_taken_4.2.2.2.2.2.2.2.1 rfl (lv_at3 hl) ?_
                refine lv_icmp_eq (tgt := 95) hx hb gX12_taken_4.2.2.2.2.2.2.2.2.1 (by decide) (fun c_84_6641 => ?_) (fun c_84_6641 => ?_)
                · refine lv_iload_n hx hb gX12_taken_5.2.2.2.1 rfl (lv_at0 hl) ?_
                  refine lv_iload_n hx hb gX12_taken_5.2.2.2.2.1 rfl (lv_at3 hl) ?_
                  refine lv_icmp_ne (tgt := 109) hx hb gX12_taken_5.2.2.2.2.2.1 (by decide) (fun c9 => absurd (c_84_6641) c9) (fun _ => ?_)
                  refine lv_aload_n hx hb gX12_taken_5.2.2.2.2.2.2.1 rfl (lv_at1 hl) ?_
                  refine gf_X12_75 hC rfl hK hP 0 rfl rfl gX12_taken_5.2.2.2.2.2.2.2.1 ?_
                  refine lv_iload_n hx hb gX12_taken_5.2.2.2.2.2.2.2.2.1 rfl (lv_at2 hl) ?_
                  refine aldN hC hK hP 3 rfl (k := jt) (by omega) (Nat.le_of_ble_eq_true rfl) (v := fnsf jt) rfl gX12_taken_5.2.2.2.2.2.2.2.2.2 ?_
                  refine lv_goto (tgt := 111) hx hb gX12_taken_6.1 (by decide) ?_
                  refine toQ hQ0 ?_
                  exact RP (v := fnsf jt) hC ((by first | rfl | (simp only [nI_clamp (n := jt) (by omega), ifc_t ekq, ifc_t hkq, ifc_t ek8, ifc_t hk8, ifc_t ek9, ifc_t hk9, ifc_t hN, ifc_t a6544, ifc_f a6546, ifc_t a6600, ifc_f c_37_6601, ifc_f c_84_6635, ifc_f c_84_6638, ifc_t c_84_6641, ifc_t (q := Wi x2 0 6 ∨ Wi x2 10 14) (Or.inr a6600), a6603, ifc_f (q := (5 : Int32) < 0) (by decide), ifc_t (q := UNl (5 : Int32).toNatClampNeg x2) (show UNl 5 x2 from Or.inr (Or.inr (c_84_6641.symm)))]; done) | (simp only [nI_clamp (n := jt) (by omega), ifc_t ekq, ifc_t hkq, ifc_t ek8, ifc_t hk8, ifc_t ek9, ifc_t hk9, ifc_t hN, ifc_t a6544, ifc_f a6546, ifc_t a6600, ifc_f c_37_6601, ifc_f c_84_6635, ifc_f c_84_6638, ifc_t c_84_6641, ifc_t (q := Wi x2 0 6 ∨ Wi x2 10 14) (Or.inr a6600), a6603, ifc_f (q := (5 : Int32) < 0) (by decide), ifc_t (q := UNl (5 : Int32).toNatClampNeg x2) (show UNl 5 x2 from Or.inr (Or.inr (c_84_6641.symm)))]; rfl))) rfl gX12_taken_6.2.2
                · refine lv_iload_n hx hb gX12_taken_4.2.2.2.2.2.2.2.2.2 rfl (lv_at0 hl) ?_
                  refine pS hC hK hl (m_above0 l G) si_X12_348 rfl rfl (Nat.le_of_ble_eq_true rfl) rm_4_1_1 ⟨by first | exact Nat.le_of_ble_eq_true rfl | exact Nat.zero_le _, by first | exact Nat.le_of_ble_eq_true rfl | exact Nat.zero_le _⟩ gX12_taken_5.1 (Keqr ?_)
                  refine lv_istore_n (lv' := [(3, .int (-1)), (0, .ref h0), (1, .int (nI jt)), (2, .int x2)]) hx hb gX12_taken_5.2.1 rfl hl (by decide) rfl (fun ls hl => ?_)
                  refine lv_goto (tgt := 78) hx hb gX12_taken_5.2.2.1 (by decide) ?_
                  refine lv_iload_n hx hb gX12_taken_4.2.2.2.2.1 rfl (lv_at0 hl) ?_
                  refine lv_if_lt (tgt := 95) hx hb gX12_taken_4.2.2.2.2.2.1 (by decide) (fun _ => ?_) (fun c9 => absurd (by decide) c9)
                  refine lv_iload_n hx hb gX12_taken_5.2.2.2.1 rfl (lv_at0 hl) ?_
                  refine lv_iload_n hx hb gX12_taken_5.2.2.2.2.1 rfl (lv_at3 hl) ?_
                  refine lv_icmp_ne (tgt := 109) hx hb gX12_taken_5.2.2.2.2.2.1 (by decide) (fun c_97_6644 => ?_) (fun c_97_6644 => ?_)
                  · refine lv_bipush (v := (-13)) hx hb gX12_taken_6.2.1 (by decide) ?_
                    refine toQ hQ0 ?_
                    exact RP (v := (-13)) hC ((by first | rfl | (simp only [nI_clamp (n := jt) (by omega), ifc_t ekq, ifc_t hkq, ifc_t ek8, ifc_t hk8, ifc_t ek9, ifc_t hk9, ifc_t hN, ifc_t a6544, ifc_f a6546, ifc_t a6600, ifc_f c_37_6601, ifc_f c_84_6635, ifc_f c_84_6638, ifc_f c_84_6641, ifc_f c_97_6644, ifc_t (q := Wi x2 0 6 ∨ Wi x2 10 14) (Or.inr a6600), a6603, ifc_f (q := (5 : Int32) < 0) (by decide), ifc_f (q := UNl (5 : Int32).toNatClampNeg x2) (fun h9 => (show False from by have h7 : x2 = 5 ∨ x2 = 4 ∨ x2 = 0 := h9; rcases h7 with h8 | h8 | h8 <;> (first | exact c_84_6635 h8.symm | exact c_84_6638 h8.symm | exact c_84_6641 h8.symm)))]; done) | (simp only [nI_clamp (n := jt) (by omega), ifc_t ekq, ifc_t hkq, ifc_t ek8, ifc_t hk8, ifc_t ek9, ifc_t hk9, ifc_t hN, ifc_t a6544, ifc_f a6546, ifc_t a6600, ifc_f c_37_6601, ifc_f c_84_6635, ifc_f c_84_6638, ifc_f c_84_6641, ifc_f c_97_6644, ifc_t (q := Wi x2 0 6 ∨ Wi x2 10 14) (Or.inr a6600), a6603, ifc_f (q := (5 : Int32) < 0) (by decide), ifc_f (q := UNl (5 : Int32).toNatClampNeg x2) (fun h9 => (show False from by have h7 : x2 = 5 ∨ x2 = 4 ∨ x2 = 0 := h9; rcases h7 with h8 | h8 | h8 <;> (first | exact c_84_6635 h8.symm | exact c_84_6638 h8.symm | exact c_84_6641 h8.symm)))]; rfl))) rfl gX12_taken_6.2.2
                  · refine lv_aload_n hx hb gX12_taken_5.2.2.2.2.2.2.1 rfl (lv_at1 hl) ?_
                    refine gf_X12_75 hC rfl hK hP 0 rfl rfl gX12_taken_5.2.2.2.2.2.2.2.1 ?_
                    refine lv_iload_n hx hb gX12_taken_5.2.2.2.2.2.2.2.2.1 rfl (lv_at2 hl) ?_
                    refine aldN hC hK hP 3 rfl (k := jt) (by omega) (Nat.le_of_ble_eq_true rfl) (v := fnsf jt) rfl gX12_taken_5.2.2.2.2.2.2.2.2.2 ?_
                    refine lv_goto (tgt := 111) hx hb gX12_taken_6.1 (by decide) ?_
                    refine toQ hQ0 ?_
                    exact RP (v := fnsf jt) hC ((absurd a6600 (by rw [← c_97_6644]; unfold Wi; decide))) rfl gX12_taken_6.2.2
          · refine lv_istore_n (lv' := [(3, .int 6), (0, .ref h0), (1, .int (nI jt)), (2, .int x2)]) hx hb gX12_taken_3.2.2.2.2.2.2.2.2.2 rfl hl (by decide) rfl (fun ls hl => ?_)
            refine lv_iload_n hx hb gX12_taken_4.1 rfl (lv_at0 hl) ?_
            refine lv_if_ge (tgt := 78) hx hb gX12_taken_4.2.1 (by decide) (fun _ => ?_) (fun c9 => absurd (by decide) c9)
            refine lv_iload_n hx hb gX12_taken_4.2.2.2.2.1 rfl (lv_at0 hl) ?_
            refine lv_if_lt (tgt := 95) hx hb gX12_taken_4.2.2.2.2.2.1 (by decide) (fun c9 => absurd c9 (by decide)) (fun _ => ?_)
            refine lv_iload_n hx hb gX12_taken_4.2.2.2.2.2.2.1 rfl (lv_at0 hl) ?_
            refine lv_iload_n hx hb gX12_taken_4.2.2.2.2.2.2.2.1 rfl (lv_at3 hl) ?_
            refine lv_icmp_eq (tgt := 95) hx hb gX12_taken_4.2.2.2.2.2.2.2.2.1 (by decide) (fun c_84_6645 => ?_) (fun c_84_6645 => ?_)
            · refine lv_iload_n hx hb gX12_taken_5.2.2.2.1 rfl (lv_at0 hl) ?_
              refine lv_iload_n hx hb gX12_taken_5.2.2.2.2.1 rfl (lv_at3 hl) ?_
              refine lv_icmp_ne (tgt := 109) hx hb gX12_taken_5.2.2.2.2.2.1 (by decide) (fun c9 => absurd (c_84_6645) c9) (fun _ => ?_)
              refine lv_aload_n hx hb gX12_taken_5.2.2.2.2.2.2.1 rfl (lv_at1 hl) ?_
              refine gf_X12_75 hC rfl hK hP 0 rfl rfl gX12_taken_5.2.2.2.2.2.2.2.1 ?_
              refine lv_iload_n hx hb gX12_taken_5.2.2.2.2.2.2.2.2.1 rfl (lv_at2 hl) ?_
              refine aldN hC hK hP 3 rfl (k := jt) (by omega) (Nat.le_of_ble_eq_true rfl) (v := fnsf jt) rfl gX12_taken_5.2.2.2.2.2.2.2.2.2 ?_
              refine lv_goto (tgt := 111) hx hb gX12_taken_6.1 (by decide) ?_
              refine toQ hQ0 ?_
              exact RP (v := fnsf jt) hC ((by first | rfl | (simp only [nI_clamp (n := jt) (by omega), ifc_t ekq, ifc_t hkq, ifc_t ek8, ifc_t hk8, ifc_t ek9, ifc_t hk9, ifc_t hN, ifc_t a6544, ifc_f a6546, ifc_t a6600, ifc_f c_37_6601, ifc_t c_84_6645, ifc_t (q := Wi x2 0 6 ∨ Wi x2 10 14) (Or.inr a6600), a6603, ifc_f (q := (6 : Int32) < 0) (by decide), ifc_t (q := UNl (6 : Int32).toNatClampNeg x2) (show UNl 6 x2 from Or.inl (c_84_6645.symm))]; done) | (simp only [nI_clamp (n := jt) (by omega), ifc_t ekq, ifc_t hkq, ifc_t ek8, ifc_t hk8, ifc_t ek9, ifc_t hk9, ifc_t hN, ifc_t a6544, ifc_f a6546, ifc_t a6600, ifc_f c_37_6601, ifc_t c_84_6645, ifc_t (q := Wi x2 0 6 ∨ Wi x2 10 14) (Or.inr a6600), a6603, ifc_f (q := (6 : Int32) < 0) (by decide), ifc_t (q := UNl (6 : Int32).toNatClampNeg x2) (show UNl 6 x2 from Or.inl (c_84_6645.symm))]; rfl))) rfl gX12_taken_6.2.2
            · refine lv_iload_n hx hb gX12_taken_4.2.2.2.2.2.2.2.2.2 rfl (lv_at0 hl) ?_
              refine pS hC hK hl (m_above6 l G) si_X12_348 rfl rfl (Nat.le_of_ble_eq_true rfl) rm_4_1_1 ⟨by first | exact Nat.le_of_ble_eq_true rfl | exact Nat.zero_le _, by first | exact Nat.le_of_ble_eq_true rfl | exact Nat.zero_le _⟩ gX12_taken_5.1 (Keqr ?_)
              refine lv_istore_n (lv' := [(3, .int 0), (0, .ref h0), (1, .int (nI jt)), (2, .int x2)]) hx hb gX12_taken_5.2.1 rfl hl (by decide) rfl (fun ls hl => ?_)
              refine lv_goto (tgt := 78) hx hb gX12_taken_5.2.2.1 (by decide) ?_
              refine lv_iload_n hx hb gX12_taken_4.2.2.2.2.1 rfl (lv_at0 hl) ?_
              refine lv_if_lt (tgt := 95) hx hb gX12_taken_4.2.2.2.2.2.1 (by decide) (fun c9 => absurd c9 (by decide)) (fun _ => ?_)
              refine lv_iload_n hx hb gX12_taken_4.2.2.2.2.2.2.1 rfl (lv_at0 hl) ?_
              refine lv_iload_n hx hb gX12_taken_4.2.2.2.2.2.2.2.1 rfl (lv_at3 hl) ?_
              refine lv_icmp_eq (tgt := 95) hx hb gX12_taken_4.2.2.2.2.2.2.2.2.1 (by decide) (fun c_84_6648 => ?_) (fun c_84_6648 => ?_)
              · refine lv_iload_n hx hb gX12_taken_5.2.2.2.1 rfl (lv_at0 hl) ?_
                refine lv_iload_n hx hb gX12_taken_5.2.2.2.2.1 rfl (lv_at3 hl) ?_
                refine lv_icmp_ne (tgt := 109) hx hb gX12_taken_5.2.2.2.2.2.1 (by decide) (fun c9 => absurd (c_84_6648) c9) (fun _ => ?_)
                refine lv_aload_n hx hb gX12_taken_5.2.2.2.2.2.2.1 rfl (lv_at1 hl) ?_
                refine gf_X12_75 hC rfl hK hP 0 rfl rfl gX12_taken_5.2.2.2.2.2.2.2.1 ?_
                refine lv_iload_n hx hb gX12_taken_5.2.2.2.2.2.2.2.2.1 rfl (lv_at2 hl) ?_
                refine aldN hC hK hP 3 rfl (k := jt) (by omega) (Nat.le_of_ble_eq_true rfl) (v := fnsf jt) rfl gX12_taken_5.2.2.2.2.2.2.2.2.2 ?_
                refine lv_goto (tgt := 111) hx hb gX12_taken_6.1 (by decide) ?_
                refine toQ hQ0 ?_
                exact RP (v := fnsf jt) hC ((by first | rfl | (simp only [nI_clamp (n := jt) (by omega), ifc_t ekq, ifc_t hkq, ifc_t ek8, ifc_t hk8, ifc_t ek9, ifc_t hk9, ifc_t hN, ifc_t a6544, ifc_f a6546, ifc_t a6600, ifc_f c_37_6601, ifc_f c_84_6645, ifc_t c_84_6648, ifc_t (q := Wi x2 0 6 ∨ Wi x2 10 14) (Or.inr a6600), a6603, ifc_f (q := (6 : Int32) < 0) (by decide), ifc_t (q := UNl (6 : Int32).toNatClampNeg x2) (show UNl 6 x2 from Or.inr (c_84_6648.symm))]; done) | (simp only [nI_clamp (n := jt) (by omega), ifc_t ekq, ifc_t hkq, ifc_t ek8, ifc_t hk8, ifc_t ek9, ifc_t hk9, ifc_t hN, ifc_t a6544, ifc_f a6546, ifc_t a6600, ifc_f c_37_6601, ifc_f c_84_6645, ifc_t c_84_6648, ifc_t (q := Wi x2 0 6 ∨ Wi x2 10 14) (Or.inr a6600), a6603, ifc_f (q := (6 : Int32) < 0) (by decide), ifc_t (q := UNl (6 : Int32).toNatClampNeg x2) (show UNl 6 x2 from Or.inr (c_84_6648.symm))]; rfl))) rfl gX12_taken_6.2.2
              · refine lv_iload_n hx hb gX12_taken_4.2.2.2.2.2.2.2.2.2 rfl (lv_at0 hl) ?_
                refine pS hC hK hl (m_above0 l G) si_X12_348 rfl rfl (Nat.le_of_ble_eq_true rfl) rm_4_1_1 ⟨by first | exact Nat.le_of_ble_eq_true rfl | exact Nat.zero_le _, by first | exact Nat.le_of_ble_eq_true rfl | exact Nat.zero_le _⟩ gX12_taken_5.1 (Keqr ?_)
                refine lv_istore_n (lv' := [(3, .int (-1)), (0, .ref h0), (1, .int (nI jt)), (2, .int x2)]) hx hb gX12_taken_5.2.1 rfl hl (by decide) rfl (fun ls hl => ?_)
                refine lv_goto (tgt := 78) hx hb gX12_taken_5.2.2.1 (by decide) ?_
                refine lv_iload_n hx hb gX12_taken_4.2.2.2.2.1 rfl (lv_at0 hl) ?_
                refine lv_if_lt (tgt := 95) hx hb gX12_taken_4.2.2.2.2.2.1 (by decide) (fun _ => ?_) (fun c9 => absurd (by decide) c9)
                refine lv_iload_n hx hb gX12_taken_5.2.2.2.1 rfl (lv_at0 hl) ?_
                refine lv_iload_n hx hb gX12_taken_5.2.2.2.2.1 rfl (lv_at3 hl) ?_
                refine lv_icmp_ne (tgt := 109) hx hb gX12_taken_5.2.2.2.2.2.1 (by decide) (fun c_97_6651 => ?_) (fun c_97_6651 => ?_)
                · refine lv_bipush (v := (-13)) hx hb gX12_taken_6.2.1 (by decide) ?_
                  refine toQ hQ0 ?_
                  exact RP (v := (-13)) hC ((by first | rfl | (simp only [nI_clamp (n := jt) (by omega), ifc_t ekq, ifc_t hkq, ifc_t ek8, ifc_t hk8, ifc_t ek9, ifc_t hk9, ifc_t hN, ifc_t a6544, ifc_f a6546, ifc_t a6600, ifc_f c_37_6601, ifc_f c_84_6645, ifc_f c_84_6648, ifc_f c_97_6651, ifc_t (q := Wi x2 0 6 ∨ Wi x2 10 14) (Or.inr a6600), a6603, ifc_f (q := (6 : Int32) < 0) (by decide), ifc_f (q := UNl (6 : Int32).toNatClampNeg x2) (fun h9 => (show False from by have h7 : x2 = 6 ∨ x2 = 0 := h9; rcases h7 with h8 | h8 <;> (first | exact c_84_6645 h8.symm | exact c_84_6648 h8.symm)))]; done) | (simp only [nI_clamp (n := jt) (by omega), ifc_t ekq, ifc_t hkq, ifc_t ek8, ifc_t hk8, ifc_t ek9, ifc_t hk9, ifc_t hN, ifc_t a6544, ifc_f a6546, ifc_t a6600, ifc_f c_37_6601, ifc_f c_84_6645, ifc_f c_84_6648, ifc_f c_97_6651, ifc_t (q := Wi x2 0 6 ∨ Wi x2 10 14) (Or.inr a6600), a6603, ifc_f (q := (6 : Int32) < 0) (by decide), ifc_f (q := UNl (6 : Int32).toNatClampNeg x2) (fun h9 => (show False from by have h7 : x2 = 6 ∨ x2 = 0 := h9; rcases h7 with h8 | h8 <;> (first | exact c_84_6645 h8.symm | exact c_84_6648 h8.symm)))]; rfl))) rfl gX12_taken_6.2.2
                · refine lv_aload_n hx hb gX12_taken_5.2.2.2.2.2.2.1 rfl (lv_at1 hl) ?_
                  refine gf_X12_75 hC rfl hK hP 0 rfl rfl gX12_taken_5.2.2.2.2.2.2.2.1 ?_
                  refine lv_iload_n hx hb gX12_taken_5.2.2.2.2.2.2.2.2.1 rfl (lv_at2 hl) ?_
                  refine aldN hC hK hP 3 rfl (k := jt) (by omega) (Nat.le_of_ble_eq_true rfl) (v := fnsf jt) rfl gX12_taken_5.2.2.2.2.2.2.2.2.2 ?_
                  refine lv_goto (tgt := 111) hx hb gX12_taken_6.1 (by decide) ?_
                  refine toQ hQ0 ?_
                  exact RP (v := fnsf jt) hC ((absurd a6600 (by rw [← c_97_6651]; unfold Wi; decide))) rfl gX12_taken_6.2.2
        · refine lv_iload_n hx hb gX12_taken_2.2.1 rfl (lv_at2 hl) ?_
          refine lv_bipush (v := 10) hx hb gX12_taken_2.2.2.1 (by decide) ?_
          refine lv_isub hx hb gX12_taken_2.2.2.2.1 ?_
          refine lv_aload_n hx hb gX12_taken_2.2.2.2.2.1 rfl (lv_at0 hl) ?_
          refine gf_X12_75 hC rfl hK hP 0 rfl rfl gX12_taken_2.2.2.2.2.2.1 ?_
          refine lv_iload_n hx hb gX12_taken_2.2.2.2.2.2.2.1 rfl (lv_at1 hl) ?_
          refine aldN hC hK hP 3 rfl (k := jt) (by omega) (Nat.le_of_ble_eq_true rfl) (v := fnsf jt) rfl gX12_taken_2.2.2.2.2.2.2.2.1 ?_
          refine lv_icmp_ne (tgt := 62) hx hb gX12_taken_2.2.2.2.2.2.2.2.2.1 (by decide) (fun c_50_6652 => ?_) (fun c_50_6652 => ?_)
          · refine lv_bipush (v := (-13)) hx hb gX12_taken_3.2.2.2.2.1 (by decide) ?_
            refine toQ hQ0 ?_
            exact RP (v := (-13)) hC ((by first | rfl | (simp only [nI_clamp (n := jt) (by omega), ifc_t ekq, ifc_t hkq, ifc_t ek8, ifc_t hk8, ifc_t ek9, ifc_t hk9, ifc_t hN, ifc_t a6544, ifc_f a6546, ifc_t a6600, ifc_t c_37_6601, ifc_f c_50_6652, ifc_t (q := Wi x2 0 6 ∨ Wi x2 10 14) (Or.inr a6600)]; done) | (simp only [nI_clamp (n := jt) (by omega), ifc_t ekq, ifc_t hkq, ifc_t ek8, ifc_t hk8, ifc_t ek9, ifc_t hk9, ifc_t hN, ifc_t a6544, ifc_f a6546, ifc_t a6600, ifc_t c_37_6601, ifc_f c_50_6652, ifc_t (q := Wi x2 0 6 ∨ Wi x2 10 14) (Or.inr a6600)]; rfl))) rfl gX12_taken_3.2.2.2.2.2.1
          · refine lv_aload_n hx hb gX12_taken_2.2.2.2.2.2.2.2.2.2 rfl (lv_at0 hl) ?_
            refine gf_X12_78 hC rfl hK hP 0 rfl rfl gX12_taken_3.1 ?_
            refine lv_iload_n hx hb gX12_taken_3.2.1 rfl (lv_at1 hl) ?_
            refine aldN hC hK hP 4 rfl (k := jt) (by omega) (Nat.le_of_ble_eq_true rfl) (v := fnss jt) rfl gX12_taken_3.2.2.1 ?_
            refine lv_goto (tgt := 64) hx hb gX12_taken_3.2.2.2.1 (by decide) ?_
            refine toQ hQ0 ?_
            exact RP (v := fnss jt) hC ((by first | rfl | (simp only [nI_clamp (n := jt) (by omega), ifc_t ekq, ifc_t hkq, ifc_t ek8, ifc_t hk8, ifc_t ek9, ifc_t hk9, ifc_t hN, ifc_t a6544, ifc_f a6546, ifc_t a6600, ifc_t c_37_6601, ifc_t c_50_6652, ifc_t (q := Wi x2 0 6 ∨ Wi x2 10 14) (Or.inr a6600)]; done) | (simp only [nI_clamp (n := jt) (by omega), ifc_t ekq, ifc_t hkq, ifc_t ek8, ifc_t hk8, ifc_t ek9, ifc_t hk9, ifc_t hN, ifc_t a6544, ifc_f a6546, ifc_t a6600, ifc_t c_37_6601, ifc_t c_50_6652, ifc_t (q := Wi x2 0 6 ∨ Wi x2 10 14) (Or.inr a6600)]; rfl))) rfl gX12_taken_3.2.2.2.2.2.1
      · refine lv_if_ne (tgt := 30) hx hb gX12_taken_1.2.2.1 (by decide) (fun c9 => absurd (by decide) c9) (fun _ => ?_)
        refine lv_iconst (v := (-1)) hx hb gX12_taken_1.2.2.2.1 (by decide) ?_
        refine toQ hQ0 ?_
        exact RP (v := (-1)) hC ((by first | rfl | (simp only [ifc_t ekq, ifc_t hkq, ifc_t ek8, ifc_t hk8, ifc_t ek9, ifc_t hk9, ifc_t hN, ifc_t a6544, ifc_f a6546, ifc_f a6600, ifc_f (q := Wi x2 0 6 ∨ Wi x2 10 14) (not_or.mpr ⟨a6546, a6600⟩)]; done) | (simp only [ifc_t ekq, ifc_t hkq, ifc_t ek8, ifc_t hk8, ifc_t ek9, ifc_t hk9, ifc_t hN, ifc_t a6544, ifc_f a6546, ifc_f a6600, ifc_f (q := Wi x2 0 6 ∨ Wi x2 10 14) (not_or.mpr ⟨a6546, a6600⟩)]; rfl))) rfl gX12_taken_1.2.2.2.2.1
  · refine lv_if_eq (tgt := 28) hx hb gX12_taken_0.2.2.1 (by decide) (fun _ => ?_) (fun c9 => absurd (by decide) c9)
    refine lv_iconst (v := (-1)) hx hb gX12_taken_1.2.2.2.1 (by decide) ?_
    refine toQ hQ0 ?_
    exact RP (v := (-1)) hC ((by first | rfl | (simp only [ifc_t ekq, ifc_t hkq, ifc_t ek8, ifc_t hk8, ifc_t ek9, ifc_t hk9, ifc_t hN, ifc_f a6544]; done) | (simp only [ifc_t ekq, ifc_t hkq, ifc_t ek8, ifc_t hk8, ifc_t ek9, ifc_t hk9, ifc_t hN, ifc_f a6544]; rfl))) rfl gX12_taken_1.2.2.2.2.1
def K_m_began (l : Launch) (G : GG) (h0 : Nat) (bo : Int32) (nw : Nat) (nk : Nat) (mhasKept : Int32) (nt : Nat) (mtaped : Int32) (nr : Nat) (mrowMany : Int32) (mroundOf : Int32) (mroundFrom : Int32) (mouts : Int32) (nm : Nat) (mfromHour : Int32) (mtoHour : Int32) (ns : Nat) (mfrom : Int32) (mto : Int32) (msort : Int32) (misFault : Int32) (mdeep : Int32) (mcoded : Int32) (mlines : Int32) (nl : Nat) (nc : Nat) (nF : Nat) (np : Nat) (ntr : Nat) (nb : Nat) (mbestCost : Int32) (nso : Nat) (nsi : Nat) (nit : Nat) (nsh : Nat) (nsf : Nat) (nss : Nat) (nrc : Nat) (jr : Nat) (mdealer : Int32) (mnumber : Int32) (mwhose : Int32) (msize : Int32) (misParted : Int32) (fnrc : Nat → Int32) : Prop := MV l G yX12_began cX12_began 2 1 0 0 [.ref h0, .int bo] [(h0, oX12 nw nk mhasKept nt mtaped nr mrowMany mroundOf mroundFrom mouts nm mfromHour mtoHour ns mfrom mto msort misFault mdeep mcoded mlines nl nc nF np ntr nb mbestCost nso nsi nit nsh nsf nss nrc (nI jr) mdealer mnumber mwhose msize misParted), (nrc, iA G 30 fnrc)] (fun u : Nat × (Nat → Int32) => u.1 ≤ 30) (fun u : Nat × (Nat → Int32) => [(h0, oX12 nw nk mhasKept nt mtaped nr mrowMany mroundOf mroundFrom mouts nm mfromHour mtoHour ns mfrom mto msort misFault mdeep mcoded mlines nl nc nF np ntr nb mbestCost nso nsi nit nsh nsf nss nrc (nI u.1) mdealer mnumber mwhose msize misParted), (nrc, iA G 30 u.2)])
set_option maxHeartbeats 4000000 in
set_option maxRecDepth 100000 in
theorem m_began (l : Launch) (G : GG) (h0 : Nat) (bo : Int32) (nw : Nat) (nk : Nat) (mhasKept : Int32) (nt : Nat) (mtaped : Int32) (nr : Nat) (mrowMany : Int32) (mroundOf : Int32) (mroundFrom : Int32) (mouts : Int32) (nm : Nat) (mfromHour : Int32) (mtoHour : Int32) (ns : Nat) (mfrom : Int32) (mto : Int32) (msort : Int32) (misFault : Int32) (mdeep : Int32) (mcoded : Int32) (mlines : Int32) (nl : Nat) (nc : Nat) (nF : Nat) (np : Nat) (ntr : Nat) (nb : Nat) (mbestCost : Int32) (nso : Nat) (nsi : Nat) (nit : Nat) (nsh : Nat) (nsf : Nat) (nss : Nat) (nrc : Nat) (jr : Nat) (mdealer : Int32) (mnumber : Int32) (mwhose : Int32) (msize : Int32) (misParted : Int32) (fnrc : Nat → Int32) (hjr : jr ≤ 30) : K_m_began l G h0 bo nw nk mhasKept nt mtaped nr mrowMany mroundOf mroundFrom mouts nm mfromHour mtoHour ns mfrom mto msort misFault mdeep mcoded mlines nl nc nF np ntr nb mbestCost nso nsi nit nsh nsf nss nrc jr mdealer mnumber mwhose msize misParted fnrc := by
  refine MV.start (by decide +kernel) (Nat.le_of_ble_eq_true rfl) ?_
  intro p e s m below meth c A ls hC hK hP hD hS hA hl
  refine absQ (fun Q0 hQ0 => ?_)
  have hl : lv_has ls 2 [(0, .ref h0), (1, .int bo)] := hl
  refine Kan8 hC (fun hx hb hr hml hB hown hlocks hnm => ?_)
  refine lv_aload_n hx hb gX12_began_0.1 rfl (lv_at0 hl) ?_
  refine gf_X12_351 hC rfl hK hP 0 rfl rfl gX12_began_0.2.1 ?_
  refine lv_bipush (v := 30) hx hb gX12_began_0.2.2.1 (by decide) ?_
  refine lv_icmp_ge (tgt := 29) hx hb gX12_began_0.2.2.2.1 (by decide) (fun c_6_6653 => ?_) (fun c_6_6653 => ?_)
  · refine toQ hQ0 ?_
    exact RV hC hP hD hS [0, 1] (jr, fnrc) rfl rfl (by decide) (by omega) gX12_began_1.2.2.2.2.2.2
  · have hjr9 := nge_nat (R := 30) (k := jr) (by decide) (by omega) c_6_6653
    refine lv_aload_n hx hb gX12_began_0.2.2.2.2.1 rfl (lv_at0 hl) ?_
    refine gf_X12_81 hC rfl hK hP 0 rfl rfl gX12_began_0.2.2.2.2.2.1 ?_
    refine lv_aload_n hx hb gX12_began_0.2.2.2.2.2.2.1 rfl (lv_at0 hl) ?_
    refine gf_X12_351 hC rfl hK hP 0 rfl rfl gX12_began_0.2.2.2.2.2.2.2.1 ?_
    refine lv_iload_n hx hb gX12_began_0.2.2.2.2.2.2.2.2.1 rfl (lv_at1 hl) ?_
    refine astN hC hK hP hD hS 1 (ws' := [(h0, oX12 nw nk mhasKept nt mtaped nr mrowMany mroundOf mroundFrom mouts nm mfromHour mtoHour ns mfrom mto msort misFault mdeep mcoded mlines nl nc nF np ntr nb mbestCost nso nsi nit nsh nsf nss nrc (nI jr) mdealer mnumber mwhose msize misParted), (nrc, iA G 30 (upd fnrc jr bo))]) rfl (k := jr) (by omega) (Nat.le_of_ble_eq_true rfl) (rfl) gX12_began_0.2.2.2.2.2.2.2.2.2 (fun H locs hP hD hS => ?_)
    refine lv_aload_n hx hb gX12_began_1.1 rfl (lv_at0 hl) ?_
    refine lv_dup hx hb gX12_began_1.2.1 rfl ?_
    refine gf_X12_351 hC rfl hK hP 0 rfl rfl gX12_began_1.2.2.1 ?_
    refine lv_iconst (v := 1) hx hb gX12_began_1.2.2.2.1 (by decide) ?_
    refine lv_iadd hx hb gX12_began_1.2.2.2.2.1 ?_
    refine eqi (x1 := nI (jr + 1)) (nI_add jr 1) ?_
    refine pf_X12_351 hC rfl hK hP hD hS 0 (ws' := [(h0, oX12 nw nk mhasKept nt mtaped nr mrowMany mroundOf mroundFrom mouts nm mfromHour mtoHour ns mfrom mto msort misFault mdeep mcoded mlines nl nc nF np ntr nb mbestCost nso nsi nit nsh nsf nss nrc (nI (jr + 1)) mdealer mnumber mwhose msize misParted), (nrc, iA G 30 (upd fnrc jr bo))]) rfl (Nat.le_of_ble_eq_true rfl) rfl rfl rfl gX12_began_1.2.2.2.2.2.1 (fun H locs hP hD hS => ?_)
    refine toQ hQ0 ?_
    exact RV hC hP hD hS [0, 1] ((jr + 1), upd fnrc jr bo) rfl rfl (by decide) (by omega) gX12_began_1.2.2.2.2.2.2
def K_m_body00 (l : Launch) (G : GG) (h0 : Nat) (xx : Int32) (nw : Nat) (nk : Nat) (mhasKept : Int32) (nt : Nat) (mtaped : Int32) (nr : Nat) (mrowMany : Int32) (mroundOf : Int32) (mroundFrom : Int32) (mouts : Int32) (nm : Nat) (mfromHour : Int32) (mtoHour : Int32) (ns : Nat) (mfrom : Int32) (mto : Int32) (msort : Int32) (misFault : Int32) (mdeep : Int32) (mcoded : Int32) (mlines : Int32) (nl : Nat) (nc : Nat) (nF : Nat) (np : Nat) (ntr : Nat) (nb : Nat) (mbestCost : Int32) (nso : Nat) (nsi : Nat) (nit : Nat) (nsh : Nat) (nsf : Nat) (nss : Nat) (nrc : Nat) (jr : Nat) (jd : Nat) (mnumber : Int32) (mwhose : Int32) (msize : Int32) (misParted : Int32) (fnrc : Nat → Int32) : Prop := MI l G yX12_body cX12_body 6 (some .int) 3 0 0 [.ref h0, .int 0, .int 0, .int xx] [(h0, oX12 nw nk mhasKept nt mtaped nr mrowMany mroundOf mroundFrom mouts nm mfromHour mtoHour ns mfrom mto msort misFault mdeep mcoded mlines nl nc nF np ntr nb mbestCost nso nsi nit nsh nsf nss nrc (nI jr) (nI jd) mnumber mwhose msize misParted), (nrc, iA G 30 fnrc)] (fun (r : Int32) (u : Nat × Int32 × (Nat → Int32)) => (True) ∧ (u.1 ≤ 30)) (fun u : Nat × Int32 × (Nat → Int32) => [(h0, oX12 nw nk mhasKept nt mtaped nr mrowMany mroundOf mroundFrom mouts nm mfromHour mtoHour ns mfrom mto msort misFault mdeep mcoded mlines nl nc nF np ntr nb mbestCost nso nsi nit nsh nsf nss nrc (nI u.1) (nI jd) mnumber mwhose msize u.2.1), (nrc, iA G 30 u.2.2)])
set_option maxHeartbeats 4000000 in
set_option maxRecDepth 100000 in
theorem m_body00 (l : Launch) (G : GG) (h0 : Nat) (xx : Int32) (nw : Nat) (nk : Nat) (mhasKept : Int32) (nt : Nat) (mtaped : Int32) (nr : Nat) (mrowMany : Int32) (mroundOf : Int32) (mroundFrom : Int32) (mouts : Int32) (nm : Nat) (mfromHour : Int32) (mtoHour : Int32) (ns : Nat) (mfrom : Int32) (mto : Int32) (msort : Int32) (misFault : Int32) (mdeep : Int32) (mcoded : Int32) (mlines : Int32) (nl : Nat) (nc : Nat) (nF : Nat) (np : Nat) (ntr : Nat) (nb : Nat) (mbestCost : Int32) (nso : Nat) (nsi : Nat) (nit : Nat) (nsh : Nat) (nsf : Nat) (nss : Nat) (nrc : Nat) (jr : Nat) (jd : Nat) (mnumber : Int32) (mwhose : Int32) (msize : Int32) (misParted : Int32) (fnrc : Nat → Int32) (hjr : jr ≤ 30) (hjd : jd < 7) : K_m_body00 l G h0 xx nw nk mhasKept nt mtaped nr mrowMany mroundOf mroundFrom mouts nm mfromHour mtoHour ns mfrom mto msort misFault mdeep mcoded mlines nl nc nF np ntr nb mbestCost nso nsi nit nsh nsf nss nrc jr jd mnumber mwhose msize misParted fnrc := by
  refine MI.start (by decide +kernel) (Nat.le_of_ble_eq_true rfl) ?_
  intro p e s m below meth c A ls hC hK hP hD hS hA hl
  refine absQ (fun Q0 hQ0 => ?_)
  have hl : lv_has ls 6 [(0, .ref h0), (1, .int 0), (2, .int 0), (3, .int xx)] := hl
  refine Kan8 hC (fun hx hb hr hml hB hown hlocks hnm => ?_)
  refine lv_iconst (v := 4) hx hb gX12_body_0.1 (by decide) ?_
  refine lv_iload_n hx hb gX12_body_0.2.1 rfl (lv_at1 hl) ?_
  refine lv_imul hx hb gX12_body_0.2.2.1 ?_
  refine eqi (x1 := 0) (by decide) ?_
  refine lv_iload_n hx hb gX12_body_0.2.2.2.1 rfl (lv_at2 hl) ?_
  refine lv_iadd hx hb gX12_body_0.2.2.2.2.1 ?_
  refine eqi (x1 := 0) (by decide) ?_
  refine lv_tableIn (tgt := 112) hx hb gX12_body_0.2.2.2.2.2.1 (by decide) (by decide) rfl (by decide) ?_
  refine lv_aload_n hx hb gX12_body_0.2.2.2.2.2.2.1 rfl (lv_at0 hl) ?_
  refine lv_bipush (v := 10) hx hb gX12_body_0.2.2.2.2.2.2.2.1 (by decide) ?_
  refine vV (wr := []) hC hK hl hP hD hS hA (m_began l G h0 10 nw nk mhasKept nt mtaped nr mrowMany mroundOf mroundFrom mouts nm mfromHour mtoHour ns mfrom mto msort misFault mdeep mcoded mlines nl nc nF np ntr nb mbestCost nso nsi nit nsh nsf nss nrc jr (nI jd) mnumber mwhose msize misParted fnrc (hjr)) si_X12_366 [0, 1] [] sm_0_1 fm_0_1 nd_0_1 rfl rfl (by decide) rfl rfl rfl rfl rfl (Nat.le_of_ble_eq_true rfl) rm_3_1_2 ⟨Nat.le_of_ble_eq_true rfl, Nat.le_of_ble_eq_true rfl⟩ gX12_body_0.2.2.2.2.2.2.2.2.1 (Ktu2 fun jr16656 gtrc6657 => ?_)
  intro H locs hr6654 hP hD hS
  try dsimp only at hr6654
  refine Kpdr (ws := [(h0, oX12 nw nk mhasKept nt mtaped nr mrowMany mroundOf mroundFrom mouts nm mfromHour mtoHour ns mfrom mto msort misFault mdeep mcoded mlines nl nc nF np ntr nb mbestCost nso nsi nit nsh nsf nss nrc (nI jr16656) (nI jd) mnumber mwhose msize misParted), (nrc, iA G 30 gtrc6657)]) hP hD (fun hP hD => ?_)
  have w6658 := hr6654
  refine lv_iload_n hx hb gX12_body_0.2.2.2.2.2.2.2.2.2 rfl (lv_at3 hl) ?_
  refine lv_aload_n hx hb gX12_body_1.1 rfl (lv_at0 hl) ?_
  refine gf_X12_369 hC rfl hK hP 0 rfl rfl gX12_body_1.2.1 ?_
  refine lv_iadd hx hb gX12_body_1.2.2.1 ?_
  refine toQ hQ0 ?_
  exact RI (v := xx + msize) hC hP hD hS [0, 1] (jr16656, misParted, gtrc6657) rfl rfl (by decide) (⟨trivial, by omega⟩) rfl gX12_body_1.2.2.2.1
def K_m_from00 (l : Launch) (G : GG) (h0 : Nat) (xx : Int32) (nw : Nat) (nk : Nat) (mhasKept : Int32) (nt : Nat) (mtaped : Int32) (nr : Nat) (mrowMany : Int32) (mroundOf : Int32) (mroundFrom : Int32) (mouts : Int32) (nm : Nat) (mfromHour : Int32) (mtoHour : Int32) (ns : Nat) (mfrom : Int32) (mto : Int32) (msort : Int32) (misFault : Int32) (mdeep : Int32) (mcoded : Int32) (mlines : Int32) (nl : Nat) (nc : Nat) (nF : Nat) (np : Nat) (ntr : Nat) (nb : Nat) (mbestCost : Int32) (nso : Nat) (nsi : Nat) (nit : Nat) (nsh : Nat) (nsf : Nat) (nss : Nat) (nrc : Nat) (jr : Nat) (jd : Nat) (mnumber : Int32) (mwhose : Int32) (msize : Int32) (misParted : Int32) (fnrc : Nat → Int32) : Prop := MI l G yX12_bodyFrom cX12_bodyFrom 5 (some .int) 4 0 0 [.ref h0, .int 0, .int 0, .int xx] [(h0, oX12 nw nk mhasKept nt mtaped nr mrowMany mroundOf mroundFrom mouts nm mfromHour mtoHour ns mfrom mto msort misFault mdeep mcoded mlines nl nc nF np ntr nb mbestCost nso nsi nit nsh nsf nss nrc (nI jr) (nI jd) mnumber mwhose msize misParted), (nrc, iA G 30 fnrc)] (fun (r : Int32) (u : Nat × Int32 × (Nat → Int32)) => (True) ∧ (u.1 ≤ 30)) (fun u : Nat × Int32 × (Nat → Int32) => [(h0, oX12 nw nk mhasKept nt mtaped nr mrowMany mroundOf mroundFrom mouts nm mfromHour mtoHour ns mfrom mto msort misFault mdeep mcoded mlines nl nc nF np ntr nb mbestCost nso nsi nit nsh nsf nss nrc (nI u.1) (nI jd) mnumber mwhose msize u.2.1), (nrc, iA G 30 u.2.2)])
set_option maxHeartbeats 4000000 in
set_option maxRecDepth 100000 in
theorem m_from00 (l : Launch) (G : GG) (h0 : Nat) (xx : Int32) (nw : Nat) (nk : Nat) (mhasKept : Int32) (nt : Nat) (mtaped : Int32) (nr : Nat) (mrowMany : Int32) (mroundOf : Int32) (mroundFrom : Int32) (mouts : Int32) (nm : Nat) (mfromHour : Int32) (mtoHour : Int32) (ns : Nat) (mfrom : Int32) (mto : Int32) (msort : Int32) (misFault : Int32) (mdeep : Int32) (mcoded : Int32) (mlines : Int32) (nl : Nat) (nc : Nat) (nF : Nat) (np : Nat) (ntr : Nat) (nb : Nat) (mbestCost : Int32) (nso : Nat) (nsi : Nat) (nit : Nat) (nsh : Nat) (nsf : Nat) (nss : Nat) (nrc : Nat) (jr : Nat) (jd : Nat) (mnumber : Int32) (mwhose : Int32) (msize : Int32) (misParted : Int32) (fnrc : Nat → Int32) (hjr : jr ≤ 30) (hjd : jd < 7) : K_m_from00 l G h0 xx nw nk mhasKept nt mtaped nr mrowMany mroundOf mroundFrom mouts nm mfromHour mtoHour ns mfrom mto msort misFault mdeep mcoded mlines nl nc nF np ntr nb mbestCost nso nsi nit nsh nsf nss nrc jr jd mnumber mwhose msize misParted fnrc := by
  refine MI.start (by decide +kernel) (Nat.le_of_ble_eq_true rfl) ?_
  intro p e s m below meth c A ls hC hK hP hD hS hA hl
  refine absQ (fun Q0 hQ0 => ?_)
  have hl : lv_has ls 5 [(0, .ref h0), (1, .int 0), (2, .int 0), (3, .int xx)] := hl
  refine Kan8 hC (fun hx hb hr hml hB hown hlocks hnm => ?_)
  refine lv_iload_n hx hb gX12_bodyFrom_0.1 rfl (lv_at1 hl) ?_
  refine lv_istore (lv' := [(4, .int 0), (0, .ref h0), (1, .int 0), (2, .int 0), (3, .int xx)]) hx hb gX12_bodyFrom_0.2.1 hl (by decide) rfl (fun ls hl => ?_)
  refine lv_iload hx hb gX12_bodyFrom_0.2.2.1 (lv_at0 hl) ?_
  refine lv_iload_n hx hb gX12_bodyFrom_0.2.2.2.1 rfl (lv_at3 hl) ?_
  refine pS hC hK hl (m_hasOwn00 l G) si_X12_360 rfl rfl (Nat.le_of_ble_eq_true rfl) rm_4_1_2 ⟨by first | exact Nat.le_of_ble_eq_true rfl | exact Nat.zero_le _, by first | exact Nat.le_of_ble_eq_true rfl | exact Nat.zero_le _⟩ gX12_bodyFrom_0.2.2.2.2.1 (Keqr ?_)
  refine lv_if_ne (tgt := 22) hx hb gX12_bodyFrom_0.2.2.2.2.2.1 (by decide) (fun _ => ?_) (fun c9 => absurd c9 (by decide))
  refine lv_aload_n hx hb gX12_bodyFrom_1.1 rfl (lv_at1 hl) ?_
  refine lv_iload hx hb gX12_bodyFrom_1.2.1 (lv_at0 hl) ?_
  refine lv_iload_n hx hb gX12_bodyFrom_1.2.2.1 rfl (lv_at3 hl) ?_
  refine lv_iload_n hx hb gX12_bodyFrom_1.2.2.2.1 rfl (lv_at4 hl) ?_
  refine iV (wr := []) hC hK hl hP hD hS hA (m_body00 l G h0 xx nw nk mhasKept nt mtaped nr mrowMany mroundOf mroundFrom mouts nm mfromHour mtoHour ns mfrom mto msort misFault mdeep mcoded mlines nl nc nF np ntr nb mbestCost nso nsi nit nsh nsf nss nrc jr jd mnumber mwhose msize misParted fnrc (hjr) (hjd)) si_X12_363 [0, 1] [] sm_0_1 fm_0_1 nd_0_1 rfl rfl (by decide) rfl rfl rfl rfl rfl (Nat.le_of_ble_eq_true rfl) rm_4_3_6 ⟨Nat.le_of_ble_eq_true rfl, Nat.le_of_ble_eq_true rfl⟩ gX12_bodyFrom_1.2.2.2.2.1 (fun r6661 => Ktu3 fun jr16663 ip16664 gtrc6665 => ?_)
  intro H locs hr6661 hP hD hS
  try dsimp only at hr6661
  refine Kpdr (ws := [(h0, oX12 nw nk mhasKept nt mtaped nr mrowMany mroundOf mroundFrom mouts nm mfromHour mtoHour ns mfrom mto msort misFault mdeep mcoded mlines nl nc nF np ntr nb mbestCost nso nsi nit nsh nsf nss nrc (nI jr16663) (nI jd) mnumber mwhose msize ip16664), (nrc, iA G 30 gtrc6665)]) hP hD (fun hP hD => ?_)
  obtain ⟨hr6661, w6666⟩ := hr6661
  refine toQ hQ0 ?_
  exact RI (v := r6661) hC hP hD hS [0, 1] (jr16663, ip16664, gtrc6665) rfl rfl (by decide) (⟨trivial, by omega⟩) rfl gX12_bodyFrom_1.2.2.2.2.2
def K_m_body40 (l : Launch) (G : GG) (h0 : Nat) (xx : Int32) (nw : Nat) (nk : Nat) (mhasKept : Int32) (nt : Nat) (mtaped : Int32) (nr : Nat) (mrowMany : Int32) (mroundOf : Int32) (mroundFrom : Int32) (mouts : Int32) (nm : Nat) (mfromHour : Int32) (mtoHour : Int32) (ns : Nat) (mfrom : Int32) (mto : Int32) (msort : Int32) (misFault : Int32) (mdeep : Int32) (mcoded : Int32) (mlines : Int32) (nl : Nat) (nc : Nat) (nF : Nat) (np : Nat) (ntr : Nat) (nb : Nat) (mbestCost : Int32) (nso : Nat) (nsi : Nat) (nit : Nat) (nsh : Nat) (nsf : Nat) (nss : Nat) (nrc : Nat) (jr : Nat) (jd : Nat) (mnumber : Int32) (mwhose : Int32) (msize : Int32) (misParted : Int32) (fnrc : Nat → Int32) : Prop := MI l G yX12_body cX12_body 6 (some .int) 5 0 0 [.ref h0, .int 4, .int 0, .int xx] [(h0, oX12 nw nk mhasKept nt mtaped nr mrowMany mroundOf mroundFrom mouts nm mfromHour mtoHour ns mfrom mto msort misFault mdeep mcoded mlines nl nc nF np ntr nb mbestCost nso nsi nit nsh nsf nss nrc (nI jr) (nI jd) mnumber mwhose msize misParted), (nrc, iA G 30 fnrc)] (fun (r : Int32) (u : Nat × Int32 × (Nat → Int32)) => (True) ∧ (u.1 ≤ 30)) (fun u : Nat × Int32 × (Nat → Int32) => [(h0, oX12 nw nk mhasKept nt mtaped nr mrowMany mroundOf mroundFrom mouts nm mfromHour mtoHour ns mfrom mto msort misFault mdeep mcoded mlines nl nc nF np ntr nb mbestCost nso nsi nit nsh nsf nss nrc (nI u.1) (nI jd) mnumber mwhose msize u.2.1), (nrc, iA G 30 u.2.2)])
set_option maxHeartbeats 4000000 in
set_option maxRecDepth 100000 in
theorem m_body40 (l : Launch) (G : GG) (h0 : Nat) (xx : Int32) (nw : Nat) (nk : Nat) (mhasKept : Int32) (nt : Nat) (mtaped : Int32) (nr : Nat) (mrowMany : Int32) (mroundOf : Int32) (mroundFrom : Int32) (mouts : Int32) (nm : Nat) (mfromHour : Int32) (mtoHour : Int32) (ns : Nat) (mfrom : Int32) (mto : Int32) (msort : Int32) (misFault : Int32) (mdeep : Int32) (mcoded : Int32) (mlines : Int32) (nl : Nat) (nc : Nat) (nF : Nat) (np : Nat) (ntr : Nat) (nb : Nat) (mbestCost : Int32) (nso : Nat) (nsi : Nat) (nit : Nat) (nsh : Nat) (nsf : Nat) (nss : Nat) (nrc : Nat) (jr : Nat) (jd : Nat) (mnumber : Int32) (mwhose : Int32) (msize : Int32) (misParted : Int32) (fnrc : Nat → Int32) (hjr : jr ≤ 30) (hjd : jd < 7) : K_m_body40 l G h0 xx nw nk mhasKept nt mtaped nr mrowMany mroundOf mroundFrom mouts nm mfromHour mtoHour ns mfrom mto msort misFault mdeep mcoded mlines nl nc nF np ntr nb mbestCost nso nsi nit nsh nsf nss nrc jr jd mnumber mwhose msize misParted fnrc := by
  refine MI.start (by decide +kernel) (Nat.le_of_ble_eq_true rfl) ?_
  intro p e s m below meth c A ls hC hK hP hD hS hA hl
  refine absQ (fun Q0 hQ0 => ?_)
  have hl : lv_has ls 6 [(0, .ref h0), (1, .int 4), (2, .int 0), (3, .int xx)] := hl
  refine Kan8 hC (fun hx hb hr hml hB hown hlocks hnm => ?_)
  refine lv_iconst (v := 4) hx hb gX12_body_0.1 (by decide) ?_
  refine lv_iload_n hx hb gX12_body_0.2.1 rfl (lv_at1 hl) ?_
  refine lv_imul hx hb gX12_body_0.2.2.1 ?_
  refine eqi (x1 := 16) (by decide) ?_
  refine lv_iload_n hx hb gX12_body_0.2.2.2.1 rfl (lv_at2 hl) ?_
  refine lv_iadd hx hb gX12_body_0.2.2.2.2.1 ?_
  refine eqi (x1 := 16) (by decide) ?_
  refine lv_tableIn (tgt := 274) hx hb gX12_body_0.2.2.2.2.2.1 (by decide) (by decide) rfl (by decide) ?_
  refine lv_aload_n hx hb gX12_body_10.2.2.2.2.2.2.1 rfl (lv_at0 hl) ?_
  refine lv_bipush (v := 50) hx hb gX12_body_10.2.2.2.2.2.2.2.1 (by decide) ?_
  refine vV (wr := []) hC hK hl hP hD hS hA (m_began l G h0 50 nw nk mhasKept nt mtaped nr mrowMany mroundOf mroundFrom mouts nm mfromHour mtoHour ns mfrom mto msort misFault mdeep mcoded mlines nl nc nF np ntr nb mbestCost nso nsi nit nsh nsf nss nrc jr (nI jd) mnumber mwhose msize misParted fnrc (hjr)) si_X12_366 [0, 1] [] sm_0_1 fm_0_1 nd_0_1 rfl rfl (by decide) rfl rfl rfl rfl rfl (Nat.le_of_ble_eq_true rfl) rm_5_1_2 ⟨Nat.le_of_ble_eq_true rfl, Nat.le_of_ble_eq_true rfl⟩ gX12_body_10.2.2.2.2.2.2.2.2.1 (Ktu2 fun jr16669 gtrc6670 => ?_)
  intro H locs hr6667 hP hD hS
  try dsimp only at hr6667
  refine Kpdr (ws := [(h0, oX12 nw nk mhasKept nt mtaped nr mrowMany mroundOf mroundFrom mouts nm mfromHour mtoHour ns mfrom mto msort misFault mdeep mcoded mlines nl nc nF np ntr nb mbestCost nso nsi nit nsh nsf nss nrc (nI jr16669) (nI jd) mnumber mwhose msize misParted), (nrc, iA G 30 gtrc6670)]) hP hD (fun hP hD => ?_)
  have w6671 := hr6667
  refine lv_aload_n hx hb gX12_body_10.2.2.2.2.2.2.2.2.2 rfl (lv_at0 hl) ?_
  refine lv_iconst (v := 0) hx hb gX12_body_11.1 (by decide) ?_
  refine lv_iconst (v := 0) hx hb gX12_body_11.2.1 (by decide) ?_
  refine lv_iload_n hx hb gX12_body_11.2.2.1 rfl (lv_at3 hl) ?_
  refine iV (wr := []) hC hK hl hP hD hS hA (m_from00 l G h0 xx nw nk mhasKept nt mtaped nr mrowMany mroundOf mroundFrom mouts nm mfromHour mtoHour ns mfrom mto msort misFault mdeep mcoded mlines nl nc nF np ntr nb mbestCost nso nsi nit nsh nsf nss nrc jr16669 jd mnumber mwhose msize misParted gtrc6670 (w6671) (hjd)) si_X12_357 [0, 1] [] sm_0_1 fm_0_1 nd_0_1 rfl rfl (by decide) rfl rfl rfl rfl rfl (Nat.le_of_ble_eq_true rfl) rm_5_4_5 ⟨Nat.le_of_ble_eq_true rfl, Nat.le_of_ble_eq_true rfl⟩ gX12_body_11.2.2.2.1 (fun r6672 => Ktu3 fun jr16674 ip16675 gtrc6676 => ?_)
  intro H locs hr6672 hP hD hS
  try dsimp only at hr6672
  refine Kpdr (ws := [(h0, oX12 nw nk mhasKept nt mtaped nr mrowMany mroundOf mroundFrom mouts nm mfromHour mtoHour ns mfrom mto msort misFault mdeep mcoded mlines nl nc nF np ntr nb mbestCost nso nsi nit nsh nsf nss nrc (nI jr16674) (nI jd) mnumber mwhose msize ip16675), (nrc, iA G 30 gtrc6676)]) hP hD (fun hP hD => ?_)
  obtain ⟨hr6672, w6677⟩ := hr6672
  refine lv_aload_n hx hb gX12_body_11.2.2.2.2.1 rfl (lv_at0 hl) ?_
  refine gf_X12_378 hC rfl hK hP 0 rfl rfl gX12_body_11.2.2.2.2.2.1 ?_
  refine lv_isub hx hb gX12_body_11.2.2.2.2.2.2.1 ?_
  refine toQ hQ0 ?_
  exact RI (v := r6672 - mnumber) hC hP hD hS [0, 1] (jr16674, ip16675, gtrc6676) rfl rfl (by decide) (⟨trivial, by omega⟩) rfl gX12_body_11.2.2.2.2.2.2.2.1
def K_m_from40 (l : Launch) (G : GG) (h0 : Nat) (xx : Int32) (nw : Nat) (nk : Nat) (mhasKept : Int32) (nt : Nat) (mtaped : Int32) (nr : Nat) (mrowMany : Int32) (mroundOf : Int32) (mroundFrom : Int32) (mouts : Int32) (nm : Nat) (mfromHour : Int32) (mtoHour : Int32) (ns : Nat) (mfrom : Int32) (mto : Int32) (msort : Int32) (misFault : Int32) (mdeep : Int32) (mcoded : Int32) (mlines : Int32) (nl : Nat) (nc : Nat) (nF : Nat) (np : Nat) (ntr : Nat) (nb : Nat) (mbestCost : Int32) (nso : Nat) (nsi : Nat) (nit : Nat) (nsh : Nat) (nsf : Nat) (nss : Nat) (nrc : Nat) (jr : Nat) (jd : Nat) (mnumber : Int32) (mwhose : Int32) (msize : Int32) (misParted : Int32) (fnrc : Nat → Int32) : Prop := MI l G yX12_bodyFrom cX12_bodyFrom 5 (some .int) 6 0 0 [.ref h0, .int 4, .int 0, .int xx] [(h0, oX12 nw nk mhasKept nt mtaped nr mrowMany mroundOf mroundFrom mouts nm mfromHour mtoHour ns mfrom mto msort misFault mdeep mcoded mlines nl nc nF np ntr nb mbestCost nso nsi nit nsh nsf nss nrc (nI jr) (nI jd) mnumber mwhose msize misParted), (nrc, iA G 30 fnrc)] (fun (r : Int32) (u : Nat × Int32 × (Nat → Int32)) => (True) ∧ (u.1 ≤ 30)) (fun u : Nat × Int32 × (Nat → Int32) => [(h0, oX12 nw nk mhasKept nt mtaped nr mrowMany mroundOf mroundFrom mouts nm mfromHour mtoHour ns mfrom mto msort misFault mdeep mcoded mlines nl nc nF np ntr nb mbestCost nso nsi nit nsh nsf nss nrc (nI u.1) (nI jd) mnumber mwhose msize u.2.1), (nrc, iA G 30 u.2.2)])
set_option maxHeartbeats 4000000 in
set_option maxRecDepth 100000 in
theorem m_from40 (l : Launch) (G : GG) (h0 : Nat) (xx : Int32) (nw : Nat) (nk : Nat) (mhasKept : Int32) (nt : Nat) (mtaped : Int32) (nr : Nat) (mrowMany : Int32) (mroundOf : Int32) (mroundFrom : Int32) (mouts : Int32) (nm : Nat) (mfromHour : Int32) (mtoHour : Int32) (ns : Nat) (mfrom : Int32) (mto : Int32) (msort : Int32) (misFault : Int32) (mdeep : Int32) (mcoded : Int32) (mlines : Int32) (nl : Nat) (nc : Nat) (nF : Nat) (np : Nat) (ntr : Nat) (nb : Nat) (mbestCost : Int32) (nso : Nat) (nsi : Nat) (nit : Nat) (nsh : Nat) (nsf : Nat) (nss : Nat) (nrc : Nat) (jr : Nat) (jd : Nat) (mnumber : Int32) (mwhose : Int32) (msize : Int32) (misParted : Int32) (fnrc : Nat → Int32) (hjr : jr ≤ 30) (hjd : jd < 7) : K_m_from40 l G h0 xx nw nk mhasKept nt mtaped nr mrowMany mroundOf mroundFrom mouts nm mfromHour mtoHour ns mfrom mto msort misFault mdeep mcoded mlines nl nc nF np ntr nb mbestCost nso nsi nit nsh nsf nss nrc jr jd mnumber mwhose msize misParted fnrc := by
  refine MI.start (by decide +kernel) (Nat.le_of_ble_eq_true rfl) ?_
  intro p e s m below meth c A ls hC hK hP hD hS hA hl
  refine absQ (fun Q0 hQ0 => ?_)
  have hl : lv_has ls 5 [(0, .ref h0), (1, .int 4), (2, .int 0), (3, .int xx)] := hl
  refine Kan8 hC (fun hx hb hr hml hB hown hlocks hnm => ?_)
  refine lv_iload_n hx hb gX12_bodyFrom_0.1 rfl (lv_at1 hl) ?_
  refine lv_istore (lv' := [(4, .int 4), (0, .ref h0), (1, .int 4), (2, .int 0), (3, .int xx)]) hx hb gX12_bodyFrom_0.2.1 hl (by decide) rfl (fun ls hl => ?_)
  refine lv_iload hx hb gX12_bodyFrom_0.2.2.1 (lv_at0 hl) ?_
  refine lv_iload_n hx hb gX12_bodyFrom_0.2.2.2.1 rfl (lv_at3 hl) ?_
  refine pS hC hK hl (m_hasOwn40 l G) si_X12_360 rfl rfl (Nat.le_of_ble_eq_true rfl) rm_6_1_2 ⟨by first | exact Nat.le_of_ble_eq_true rfl | exact Nat.zero_le _, by first | exact Nat.le_of_ble_eq_true rfl | exact Nat.zero_le _⟩ gX12_bodyFrom_0.2.2.2.2.1 (Keqr ?_)
  refine lv_if_ne (tgt := 22) hx hb gX12_bodyFrom_0.2.2.2.2.2.1 (by decide) (fun _ => ?_) (fun c9 => absurd c9 (by decide))
  refine lv_aload_n hx hb gX12_bodyFrom_1.1 rfl (lv_at1 hl) ?_
  refine lv_iload hx hb gX12_bodyFrom_1.2.1 (lv_at0 hl) ?_
  refine lv_iload_n hx hb gX12_bodyFrom_1.2.2.1 rfl (lv_at3 hl) ?_
  refine lv_iload_n hx hb gX12_bodyFrom_1.2.2.2.1 rfl (lv_at4 hl) ?_
  refine iV (wr := []) hC hK hl hP hD hS hA (m_body40 l G h0 xx nw nk mhasKept nt mtaped nr mrowMany mroundOf mroundFrom mouts nm mfromHour mtoHour ns mfrom mto msort misFault mdeep mcoded mlines nl nc nF np ntr nb mbestCost nso nsi nit nsh nsf nss nrc jr jd mnumber mwhose msize misParted fnrc (hjr) (hjd)) si_X12_363 [0, 1] [] sm_0_1 fm_0_1 nd_0_1 rfl rfl (by decide) rfl rfl rfl rfl rfl (Nat.le_of_ble_eq_true rfl) rm_6_5_6 ⟨Nat.le_of_ble_eq_true rfl, Nat.le_of_ble_eq_true rfl⟩ gX12_bodyFrom_1.2.2.2.2.1 (fun r6680 => Ktu3 fun jr16682 ip16683 gtrc6684 => ?_)
  intro H locs hr6680 hP hD hS
  try dsimp only at hr6680
  refine Kpdr (ws := [(h0, oX12 nw nk mhasKept nt mtaped nr mrowMany mroundOf mroundFrom mouts nm mfromHour mtoHour ns mfrom mto msort misFault mdeep mcoded mlines nl nc nF np ntr nb mbestCost nso nsi nit nsh nsf nss nrc (nI jr16682) (nI jd) mnumber mwhose msize ip16683), (nrc, iA G 30 gtrc6684)]) hP hD (fun hP hD => ?_)
  obtain ⟨hr6680, w6685⟩ := hr6680
  refine toQ hQ0 ?_
  exact RI (v := r6680) hC hP hD hS [0, 1] (jr16682, ip16683, gtrc6684) rfl rfl (by decide) (⟨trivial, by omega⟩) rfl gX12_bodyFrom_1.2.2.2.2.2
def K_m_body50 (l : Launch) (G : GG) (h0 : Nat) (xx : Int32) (nw : Nat) (nk : Nat) (mhasKept : Int32) (nt : Nat) (mtaped : Int32) (nr : Nat) (mrowMany : Int32) (mroundOf : Int32) (mroundFrom : Int32) (mouts : Int32) (nm : Nat) (mfromHour : Int32) (mtoHour : Int32) (ns : Nat) (mfrom : Int32) (mto : Int32) (msort : Int32) (misFault : Int32) (mdeep : Int32) (mcoded : Int32) (mlines : Int32) (nl : Nat) (nc : Nat) (nF : Nat) (np : Nat) (ntr : Nat) (nb : Nat) (mbestCost : Int32) (nso : Nat) (nsi : Nat) (nit : Nat) (nsh : Nat) (nsf : Nat) (nss : Nat) (nrc : Nat) (jr : Nat) (jd : Nat) (mnumber : Int32) (mwhose : Int32) (msize : Int32) (misParted : Int32) (fnrc : Nat → Int32) : Prop := MI l G yX12_body cX12_body 6 (some .int) 7 0 0 [.ref h0, .int 5, .int 0, .int xx] [(h0, oX12 nw nk mhasKept nt mtaped nr mrowMany mroundOf mroundFrom mouts nm mfromHour mtoHour ns mfrom mto msort misFault mdeep mcoded mlines nl nc nF np ntr nb mbestCost nso nsi nit nsh nsf nss nrc (nI jr) (nI jd) mnumber mwhose msize misParted), (nrc, iA G 30 fnrc)] (fun (r : Int32) (u : Nat × Int32 × (Nat → Int32)) => (True) ∧ (u.1 ≤ 30)) (fun u : Nat × Int32 × (Nat → Int32) => [(h0, oX12 nw nk mhasKept nt mtaped nr mrowMany mroundOf mroundFrom mouts nm mfromHour mtoHour ns mfrom mto msort misFault mdeep mcoded mlines nl nc nF np ntr nb mbestCost nso nsi nit nsh nsf nss nrc (nI u.1) (nI jd) mnumber mwhose msize u.2.1), (nrc, iA G 30 u.2.2)])
set_option maxHeartbeats 4000000 in
set_option maxRecDepth 100000 in
theorem m_body50 (l : Launch) (G : GG) (h0 : Nat) (xx : Int32) (nw : Nat) (nk : Nat) (mhasKept : Int32) (nt : Nat) (mtaped : Int32) (nr : Nat) (mrowMany : Int32) (mroundOf : Int32) (mroundFrom : Int32) (mouts : Int32) (nm : Nat) (mfromHour : Int32) (mtoHour : Int32) (ns : Nat) (mfrom : Int32) (mto : Int32) (msort : Int32) (misFault : Int32) (mdeep : Int32) (mcoded : Int32) (mlines : Int32) (nl : Nat) (nc : Nat) (nF : Nat) (np : Nat) (ntr : Nat) (nb : Nat) (mbestCost : Int32) (nso : Nat) (nsi : Nat) (nit : Nat) (nsh : Nat) (nsf : Nat) (nss : Nat) (nrc : Nat) (jr : Nat) (jd : Nat) (mnumber : Int32) (mwhose : Int32) (msize : Int32) (misParted : Int32) (fnrc : Nat → Int32) (hjr : jr ≤ 30) (hjd : jd < 7) : K_m_body50 l G h0 xx nw nk mhasKept nt mtaped nr mrowMany mroundOf mroundFrom mouts nm mfromHour mtoHour ns mfrom mto msort misFault mdeep mcoded mlines nl nc nF np ntr nb mbestCost nso nsi nit nsh nsf nss nrc jr jd mnumber mwhose msize misParted fnrc := by
  refine MI.start (by decide +kernel) (Nat.le_of_ble_eq_true rfl) ?_
  intro p e s m below meth c A ls hC hK hP hD hS hA hl
  refine absQ (fun Q0 hQ0 => ?_)
  have hl : lv_has ls 6 [(0, .ref h0), (1, .int 5), (2, .int 0), (3, .int xx)] := hl
  refine Kan8 hC (fun hx hb hr hml hB hown hlocks hnm => ?_)
  refine lv_iconst (v := 4) hx hb gX12_body_0.1 (by decide) ?_
  refine lv_iload_n hx hb gX12_body_0.2.1 rfl (lv_at1 hl) ?_
  refine lv_imul hx hb gX12_body_0.2.2.1 ?_
  refine eqi (x1 := 20) (by decide) ?_
  refine lv_iload_n hx hb gX12_body_0.2.2.2.1 rfl (lv_at2 hl) ?_
  refine lv_iadd hx hb gX12_body_0.2.2.2.2.1 ?_
  refine eqi (x1 := 20) (by decide) ?_
  refine lv_tableIn (tgt := 334) hx hb gX12_body_0.2.2.2.2.2.1 (by decide) (by decide) rfl (by decide) ?_
  refine lv_aload_n hx hb gX12_body_14.2.2.2.2.2.1 rfl (lv_at0 hl) ?_
  refine lv_bipush (v := 61) hx hb gX12_body_14.2.2.2.2.2.2.1 (by decide) ?_
  refine vV (wr := []) hC hK hl hP hD hS hA (m_began l G h0 61 nw nk mhasKept nt mtaped nr mrowMany mroundOf mroundFrom mouts nm mfromHour mtoHour ns mfrom mto msort misFault mdeep mcoded mlines nl nc nF np ntr nb mbestCost nso nsi nit nsh nsf nss nrc jr (nI jd) mnumber mwhose msize misParted fnrc (hjr)) si_X12_366 [0, 1] [] sm_0_1 fm_0_1 nd_0_1 rfl rfl (by decide) rfl rfl rfl rfl rfl (Nat.le_of_ble_eq_true rfl) rm_7_1_2 ⟨Nat.le_of_ble_eq_true rfl, Nat.le_of_ble_eq_true rfl⟩ gX12_body_14.2.2.2.2.2.2.2.1 (Ktu2 fun jr16688 gtrc6689 => ?_)
  intro H locs hr6686 hP hD hS
  try dsimp only at hr6686
  refine Kpdr (ws := [(h0, oX12 nw nk mhasKept nt mtaped nr mrowMany mroundOf mroundFrom mouts nm mfromHour mtoHour ns mfrom mto msort misFault mdeep mcoded mlines nl nc nF np ntr nb mbestCost nso nsi nit nsh nsf nss nrc (nI jr16688) (nI jd) mnumber mwhose msize misParted), (nrc, iA G 30 gtrc6689)]) hP hD (fun hP hD => ?_)
  have w6690 := hr6686
  refine lv_aload_n hx hb gX12_body_14.2.2.2.2.2.2.2.2.1 rfl (lv_at0 hl) ?_
  refine lv_iconst (v := 4) hx hb gX12_body_14.2.2.2.2.2.2.2.2.2 (by decide) ?_
  refine lv_iconst (v := 0) hx hb gX12_body_15.1 (by decide) ?_
  refine lv_iload_n hx hb gX12_body_15.2.1 rfl (lv_at3 hl) ?_
  refine lv_aload_n hx hb gX12_body_15.2.2.1 rfl (lv_at0 hl) ?_
  refine gf_X12_375 hC rfl hK hP 0 rfl rfl gX12_body_15.2.2.2.1 ?_
  refine lv_iadd hx hb gX12_body_15.2.2.2.2.1 ?_
  refine iV (wr := []) hC hK hl hP hD hS hA (m_from40 l G h0 (xx + mwhose) nw nk mhasKept nt mtaped nr mrowMany mroundOf mroundFrom mouts nm mfromHour mtoHour ns mfrom mto msort misFault mdeep mcoded mlines nl nc nF np ntr nb mbestCost nso nsi nit nsh nsf nss nrc jr16688 jd mnumber mwhose msize misParted gtrc6689 (w6690) (hjd)) si_X12_357 [0, 1] [] sm_0_1 fm_0_1 nd_0_1 rfl rfl (by decide) rfl rfl rfl rfl rfl (Nat.le_of_ble_eq_true rfl) rm_7_6_5 ⟨Nat.le_of_ble_eq_true rfl, Nat.le_of_ble_eq_true rfl⟩ gX12_body_15.2.2.2.2.2.1 (fun r6691 => Ktu3 fun jr16693 ip16694 gtrc6695 => ?_)
  intro H locs hr6691 hP hD hS
  try dsimp only at hr6691
  refine Kpdr (ws := [(h0, oX12 nw nk mhasKept nt mtaped nr mrowMany mroundOf mroundFrom mouts nm mfromHour mtoHour ns mfrom mto msort misFault mdeep mcoded mlines nl nc nF np ntr nb mbestCost nso nsi nit nsh nsf nss nrc (nI jr16693) (nI jd) mnumber mwhose msize ip16694), (nrc, iA G 30 gtrc6695)]) hP hD (fun hP hD => ?_)
  obtain ⟨hr6691, w6696⟩ := hr6691
  refine toQ hQ0 ?_
  exact RI (v := r6691) hC hP hD hS [0, 1] (jr16693, ip16694, gtrc6695) rfl rfl (by decide) (⟨trivial, by omega⟩) rfl gX12_body_15.2.2.2.2.2.2.1
def K_m_from50 (l : Launch) (G : GG) (h0 : Nat) (xx : Int32) (nw : Nat) (nk : Nat) (mhasKept : Int32) (nt : Nat) (mtaped : Int32) (nr : Nat) (mrowMany : Int32) (mroundOf : Int32) (mroundFrom : Int32) (mouts : Int32) (nm : Nat) (mfromHour : Int32) (mtoHour : Int32) (ns : Nat) (mfrom : Int32) (mto : Int32) (msort : Int32) (misFault : Int32) (mdeep : Int32) (mcoded : Int32) (mlines : Int32) (nl : Nat) (nc : Nat) (nF : Nat) (np : Nat) (ntr : Nat) (nb : Nat) (mbestCost : Int32) (nso : Nat) (nsi : Nat) (nit : Nat) (nsh : Nat) (nsf : Nat) (nss : Nat) (nrc : Nat) (jr : Nat) (jd : Nat) (mnumber : Int32) (mwhose : Int32) (msize : Int32) (misParted : Int32) (fnrc : Nat → Int32) : Prop := MI l G yX12_bodyFrom cX12_bodyFrom 5 (some .int) 8 0 0 [.ref h0, .int 5, .int 0, .int xx] [(h0, oX12 nw nk mhasKept nt mtaped nr mrowMany mroundOf mroundFrom mouts nm mfromHour mtoHour ns mfrom mto msort misFault mdeep mcoded mlines nl nc nF np ntr nb mbestCost nso nsi nit nsh nsf nss nrc (nI jr) (nI jd) mnumber mwhose msize misParted), (nrc, iA G 30 fnrc)] (fun (r : Int32) (u : Nat × Int32 × (Nat → Int32)) => (True) ∧ (u.1 ≤ 30)) (fun u : Nat × Int32 × (Nat → Int32) => [(h0, oX12 nw nk mhasKept nt mtaped nr mrowMany mroundOf mroundFrom mouts nm mfromHour mtoHour ns mfrom mto msort misFault mdeep mcoded mlines nl nc nF np ntr nb mbestCost nso nsi nit nsh nsf nss nrc (nI u.1) (nI jd) mnumber mwhose msize u.2.1), (nrc, iA G 30 u.2.2)])
set_option maxHeartbeats 4000000 in
set_option maxRecDepth 100000 in
theorem m_from50 (l : Launch) (G : GG) (h0 : Nat) (xx : Int32) (nw : Nat) (nk : Nat) (mhasKept : Int32) (nt : Nat) (mtaped : Int32) (nr : Nat) (mrowMany : Int32) (mroundOf : Int32) (mroundFrom : Int32) (mouts : Int32) (nm : Nat) (mfromHour : Int32) (mtoHour : Int32) (ns : Nat) (mfrom : Int32) (mto : Int32) (msort : Int32) (misFault : Int32) (mdeep : Int32) (mcoded : Int32) (mlines : Int32) (nl : Nat) (nc : Nat) (nF : Nat) (np : Nat) (ntr : Nat) (nb : Nat) (mbestCost : Int32) (nso : Nat) (nsi : Nat) (nit : Nat) (nsh : Nat) (nsf : Nat) (nss : Nat) (nrc : Nat) (jr : Nat) (jd : Nat) (mnumber : Int32) (mwhose : Int32) (msize : Int32) (misParted : Int32) (fnrc : Nat → Int32) (hjr : jr ≤ 30) (hjd : jd < 7) : K_m_from50 l G h0 xx nw nk mhasKept nt mtaped nr mrowMany mroundOf mroundFrom mouts nm mfromHour mtoHour ns mfrom mto msort misFault mdeep mcoded mlines nl nc nF np ntr nb mbestCost nso nsi nit nsh nsf nss nrc jr jd mnumber mwhose msize misParted fnrc := by
  refine MI.start (by decide +kernel) (Nat.le_of_ble_eq_true rfl) ?_
  intro p e s m below meth c A ls hC hK hP hD hS hA hl
  refine absQ (fun Q0 hQ0 => ?_)
  have hl : lv_has ls 5 [(0, .ref h0), (1, .int 5), (2, .int 0), (3, .int xx)] := hl
  refine Kan8 hC (fun hx hb hr hml hB hown hlocks hnm => ?_)
  refine lv_iload_n hx hb gX12_bodyFrom_0.1 rfl (lv_at1 hl) ?_
  refine lv_istore (lv' := [(4, .int 5), (0, .ref h0), (1, .int 5), (2, .int 0), (3, .int xx)]) hx hb gX12_bodyFrom_0.2.1 hl (by decide) rfl (fun ls hl => ?_)
  refine lv_iload hx hb gX12_bodyFrom_0.2.2.1 (lv_at0 hl) ?_
  refine lv_iload_n hx hb gX12_bodyFrom_0.2.2.2.1 rfl (lv_at3 hl) ?_
  refine pS hC hK hl (m_hasOwn50 l G) si_X12_360 rfl rfl (Nat.le_of_ble_eq_true rfl) rm_8_1_2 ⟨by first | exact Nat.le_of_ble_eq_true rfl | exact Nat.zero_le _, by first | exact Nat.le_of_ble_eq_true rfl | exact Nat.zero_le _⟩ gX12_bodyFrom_0.2.2.2.2.1 (Keqr ?_)
  refine lv_if_ne (tgt := 22) hx hb gX12_bodyFrom_0.2.2.2.2.2.1 (by decide) (fun _ => ?_) (fun c9 => absurd c9 (by decide))
  refine lv_aload_n hx hb gX12_bodyFrom_1.1 rfl (lv_at1 hl) ?_
  refine lv_iload hx hb gX12_bodyFrom_1.2.1 (lv_at0 hl) ?_
  refine lv_iload_n hx hb gX12_bodyFrom_1.2.2.1 rfl (lv_at3 hl) ?_
  refine lv_iload_n hx hb gX12_bodyFrom_1.2.2.2.1 rfl (lv_at4 hl) ?_
  refine iV (wr := []) hC hK hl hP hD hS hA (m_body50 l G h0 xx nw nk mhasKept nt mtaped nr mrowMany mroundOf mroundFrom mouts nm mfromHour mtoHour ns mfrom mto msort misFault mdeep mcoded mlines nl nc nF np ntr nb mbestCost nso nsi nit nsh nsf nss nrc jr jd mnumber mwhose msize misParted fnrc (hjr) (hjd)) si_X12_363 [0, 1] [] sm_0_1 fm_0_1 nd_0_1 rfl rfl (by decide) rfl rfl rfl rfl rfl (Nat.le_of_ble_eq_true rfl) rm_8_7_6 ⟨Nat.le_of_ble_eq_true rfl, Nat.le_of_ble_eq_true rfl⟩ gX12_bodyFrom_1.2.2.2.2.1 (fun r6699 => Ktu3 fun jr16701 ip16702 gtrc6703 => ?_)
  intro H locs hr6699 hP hD hS
  try dsimp only at hr6699
  refine Kpdr (ws := [(h0, oX12 nw nk mhasKept nt mtaped nr mrowMany mroundOf mroundFrom mouts nm mfromHour mtoHour ns mfrom mto msort misFault mdeep mcoded mlines nl nc nF np ntr nb mbestCost nso nsi nit nsh nsf nss nrc (nI jr16701) (nI jd) mnumber mwhose msize ip16702), (nrc, iA G 30 gtrc6703)]) hP hD (fun hP hD => ?_)
  obtain ⟨hr6699, w6704⟩ := hr6699
  refine toQ hQ0 ?_
  exact RI (v := r6699) hC hP hD hS [0, 1] (jr16701, ip16702, gtrc6703) rfl rfl (by decide) (⟨trivial, by omega⟩) rfl gX12_bodyFrom_1.2.2.2.2.2
def K_m_from10 (l : Launch) (G : GG) (h0 : Nat) (xx : Int32) (nw : Nat) (nk : Nat) (mhasKept : Int32) (nt : Nat) (mtaped : Int32) (nr : Nat) (mrowMany : Int32) (mroundOf : Int32) (mroundFrom : Int32) (mouts : Int32) (nm : Nat) (mfromHour : Int32) (mtoHour : Int32) (ns : Nat) (mfrom : Int32) (mto : Int32) (msort : Int32) (misFault : Int32) (mdeep : Int32) (mcoded : Int32) (mlines : Int32) (nl : Nat) (nc : Nat) (nF : Nat) (np : Nat) (ntr : Nat) (nb : Nat) (mbestCost : Int32) (nso : Nat) (nsi : Nat) (nit : Nat) (nsh : Nat) (nsf : Nat) (nss : Nat) (nrc : Nat) (jr : Nat) (jd : Nat) (mnumber : Int32) (mwhose : Int32) (msize : Int32) (misParted : Int32) (fnrc : Nat → Int32) : Prop := MI l G yX12_bodyFrom cX12_bodyFrom 5 (some .int) 12 0 0 [.ref h0, .int 1, .int 0, .int xx] [(h0, oX12 nw nk mhasKept nt mtaped nr mrowMany mroundOf mroundFrom mouts nm mfromHour mtoHour ns mfrom mto msort misFault mdeep mcoded mlines nl nc nF np ntr nb mbestCost nso nsi nit nsh nsf nss nrc (nI jr) (nI jd) mnumber mwhose msize misParted), (nrc, iA G 30 fnrc)] (fun (r : Int32) (u : Nat × Int32 × (Nat → Int32)) => (True) ∧ (u.1 ≤ 30)) (fun u : Nat × Int32 × (Nat → Int32) => [(h0, oX12 nw nk mhasKept nt mtaped nr mrowMany mroundOf mroundFrom mouts nm mfromHour mtoHour ns mfrom mto msort misFault mdeep mcoded mlines nl nc nF np ntr nb mbestCost nso nsi nit nsh nsf nss nrc (nI u.1) (nI jd) mnumber mwhose msize u.2.1), (nrc, iA G 30 u.2.2)])
set_option maxHeartbeats 4000000 in
set_option maxRecDepth 100000 in
theorem m_from10 (l : Launch) (G : GG) (h0 : Nat) (xx : Int32) (nw : Nat) (nk : Nat) (mhasKept : Int32) (nt : Nat) (mtaped : Int32) (nr : Nat) (mrowMany : Int32) (mroundOf : Int32) (mroundFrom : Int32) (mouts : Int32) (nm : Nat) (mfromHour : Int32) (mtoHour : Int32) (ns : Nat) (mfrom : Int32) (mto : Int32) (msort : Int32) (misFault : Int32) (mdeep : Int32) (mcoded : Int32) (mlines : Int32) (nl : Nat) (nc : Nat) (nF : Nat) (np : Nat) (ntr : Nat) (nb : Nat) (mbestCost : Int32) (nso : Nat) (nsi : Nat) (nit : Nat) (nsh : Nat) (nsf : Nat) (nss : Nat) (nrc : Nat) (jr : Nat) (jd : Nat) (mnumber : Int32) (mwhose : Int32) (msize : Int32) (misParted : Int32) (fnrc : Nat → Int32) (hjr : jr ≤ 30) (hjd : jd < 7) : K_m_from10 l G h0 xx nw nk mhasKept nt mtaped nr mrowMany mroundOf mroundFrom mouts nm mfromHour mtoHour ns mfrom mto msort misFault mdeep mcoded mlines nl nc nF np ntr nb mbestCost nso nsi nit nsh nsf nss nrc jr jd mnumber mwhose msize misParted fnrc := by
  refine MI.start (by decide +kernel) (Nat.le_of_ble_eq_true rfl) ?_
  intro p e s m below meth c A ls hC hK hP hD hS hA hl
  refine absQ (fun Q0 hQ0 => ?_)
  have hl : lv_has ls 5 [(0, .ref h0), (1, .int 1), (2, .int 0), (3, .int xx)] := hl
  refine Kan8 hC (fun hx hb hr hml hB hown hlocks hnm => ?_)
  refine lv_iload_n hx hb gX12_bodyFrom_0.1 rfl (lv_at1 hl) ?_
  refine lv_istore (lv' := [(4, .int 1), (0, .ref h0), (1, .int 1), (2, .int 0), (3, .int xx)]) hx hb gX12_bodyFrom_0.2.1 hl (by decide) rfl (fun ls hl => ?_)
  refine lv_iload hx hb gX12_bodyFrom_0.2.2.1 (lv_at0 hl) ?_
  refine lv_iload_n hx hb gX12_bodyFrom_0.2.2.2.1 rfl (lv_at3 hl) ?_
  refine pS hC hK hl (m_hasOwn10 l G) si_X12_360 rfl rfl (Nat.le_of_ble_eq_true rfl) rm_12_1_2 ⟨by first | exact Nat.le_of_ble_eq_true rfl | exact Nat.zero_le _, by first | exact Nat.le_of_ble_eq_true rfl | exact Nat.zero_le _⟩ gX12_bodyFrom_0.2.2.2.2.1 (Keqr ?_)
  refine lv_if_ne (tgt := 22) hx hb gX12_bodyFrom_0.2.2.2.2.2.1 (by decide) (fun c9 => absurd (by decide) c9) (fun _ => ?_)
  refine lv_iload hx hb gX12_bodyFrom_0.2.2.2.2.2.2.1 (lv_at0 hl) ?_
  refine pS hC hK hl (m_above1 l G) si_X12_348 rfl rfl (Nat.le_of_ble_eq_true rfl) rm_12_1_1 ⟨by first | exact Nat.le_of_ble_eq_true rfl | exact Nat.zero_le _, by first | exact Nat.le_of_ble_eq_true rfl | exact Nat.zero_le _⟩ gX12_bodyFrom_0.2.2.2.2.2.2.2.1 (Keqr ?_)
  refine lv_istore (lv' := [(4, .int 0), (0, .ref h0), (1, .int 1), (2, .int 0), (3, .int xx)]) hx hb gX12_bodyFrom_0.2.2.2.2.2.2.2.2.1 hl (by decide) rfl (fun ls hl => ?_)
  refine lv_goto (tgt := 3) hx hb gX12_bodyFrom_0.2.2.2.2.2.2.2.2.2 (by decide) ?_
  refine lv_iload hx hb gX12_bodyFrom_0.2.2.1 (lv_at0 hl) ?_
  refine lv_iload_n hx hb gX12_bodyFrom_0.2.2.2.1 rfl (lv_at3 hl) ?_
  refine pS hC hK hl (m_hasOwn00 l G) si_X12_360 rfl rfl (Nat.le_of_ble_eq_true rfl) rm_12_1_2 ⟨by first | exact Nat.le_of_ble_eq_true rfl | exact Nat.zero_le _, by first | exact Nat.le_of_ble_eq_true rfl | exact Nat.zero_le _⟩ gX12_bodyFrom_0.2.2.2.2.1 (Keqr ?_)
  refine lv_if_ne (tgt := 22) hx hb gX12_bodyFrom_0.2.2.2.2.2.1 (by decide) (fun _ => ?_) (fun c9 => absurd c9 (by decide))
  refine lv_aload_n hx hb gX12_bodyFrom_1.1 rfl (lv_at1 hl) ?_
  refine lv_iload hx hb gX12_bodyFrom_1.2.1 (lv_at0 hl) ?_
  refine lv_iload_n hx hb gX12_bodyFrom_1.2.2.1 rfl (lv_at3 hl) ?_
  refine lv_iload_n hx hb gX12_bodyFrom_1.2.2.2.1 rfl (lv_at4 hl) ?_
  refine iV (wr := []) hC hK hl hP hD hS hA (m_body00 l G h0 xx nw nk mhasKept nt mtaped nr mrowMany mroundOf mroundFrom mouts nm mfromHour mtoHour ns mfrom mto msort misFault mdeep mcoded mlines nl nc nF np ntr nb mbestCost nso nsi nit nsh nsf nss nrc jr jd mnumber mwhose msize misParted fnrc (hjr) (hjd)) si_X12_363 [0, 1] [] sm_0_1 fm_0_1 nd_0_1 rfl rfl (by decide) rfl rfl rfl rfl rfl (Nat.le_of_ble_eq_true rfl) rm_12_3_6 ⟨Nat.le_of_ble_eq_true rfl, Nat.le_of_ble_eq_true rfl⟩ gX12_bodyFrom_1.2.2.2.2.1 (fun r6711 => Ktu3 fun jr16713 ip16714 gtrc6715 => ?_)
  intro H locs hr6711 hP hD hS
  try dsimp only at hr6711
  refine Kpdr (ws := [(h0, oX12 nw nk mhasKept nt mtaped nr mrowMany mroundOf mroundFrom mouts nm mfromHour mtoHour ns mfrom mto msort misFault mdeep mcoded mlines nl nc nF np ntr nb mbestCost nso nsi nit nsh nsf nss nrc (nI jr16713) (nI jd) mnumber mwhose msize ip16714), (nrc, iA G 30 gtrc6715)]) hP hD (fun hP hD => ?_)
  obtain ⟨hr6711, w6716⟩ := hr6711
  refine toQ hQ0 ?_
  exact RI (v := r6711) hC hP hD hS [0, 1] (jr16713, ip16714, gtrc6715) rfl rfl (by decide) (⟨trivial, by omega⟩) rfl gX12_bodyFrom_1.2.2.2.2.2
def K_m_from20 (l : Launch) (G : GG) (h0 : Nat) (xx : Int32) (nw : Nat) (nk : Nat) (mhasKept : Int32) (nt : Nat) (mtaped : Int32) (nr : Nat) (mrowMany : Int32) (mroundOf : Int32) (mroundFrom : Int32) (mouts : Int32) (nm : Nat) (mfromHour : Int32) (mtoHour : Int32) (ns : Nat) (mfrom : Int32) (mto : Int32) (msort : Int32) (misFault : Int32) (mdeep : Int32) (mcoded : Int32) (mlines : Int32) (nl : Nat) (nc : Nat) (nF : Nat) (np : Nat) (ntr : Nat) (nb : Nat) (mbestCost : Int32) (nso : Nat) (nsi : Nat) (nit : Nat) (nsh : Nat) (nsf : Nat) (nss : Nat) (nrc : Nat) (jr : Nat) (jd : Nat) (mnumber : Int32) (mwhose : Int32) (msize : Int32) (misParted : Int32) (fnrc : Nat → Int32) : Prop := MI l G yX12_bodyFrom cX12_bodyFrom 5 (some .int) 12 0 0 [.ref h0, .int 2, .int 0, .int xx] [(h0, oX12 nw nk mhasKept nt mtaped nr mrowMany mroundOf mroundFrom mouts nm mfromHour mtoHour ns mfrom mto msort misFault mdeep mcoded mlines nl nc nF np ntr nb mbestCost nso nsi nit nsh nsf nss nrc (nI jr) (nI jd) mnumber mwhose msize misParted), (nrc, iA G 30 fnrc)] (fun (r : Int32) (u : Nat × Int32 × (Nat → Int32)) => (True) ∧ (u.1 ≤ 30)) (fun u : Nat × Int32 × (Nat → Int32) => [(h0, oX12 nw nk mhasKept nt mtaped nr mrowMany mroundOf mroundFrom mouts nm mfromHour mtoHour ns mfrom mto msort misFault mdeep mcoded mlines nl nc nF np ntr nb mbestCost nso nsi nit nsh nsf nss nrc (nI u.1) (nI jd) mnumber mwhose msize u.2.1), (nrc, iA G 30 u.2.2)])
set_option maxHeartbeats 4000000 in
set_option maxRecDepth 100000 in
theorem m_from20 (l : Launch) (G : GG) (h0 : Nat) (xx : Int32) (nw : Nat) (nk : Nat) (mhasKept : Int32) (nt : Nat) (mtaped : Int32) (nr : Nat) (mrowMany : Int32) (mroundOf : Int32) (mroundFrom : Int32) (mouts : Int32) (nm : Nat) (mfromHour : Int32) (mtoHour : Int32) (ns : Nat) (mfrom : Int32) (mto : Int32) (msort : Int32) (misFault : Int32) (mdeep : Int32) (mcoded : Int32) (mlines : Int32) (nl : Nat) (nc : Nat) (nF : Nat) (np : Nat) (ntr : Nat) (nb : Nat) (mbestCost : Int32) (nso : Nat) (nsi : Nat) (nit : Nat) (nsh : Nat) (nsf : Nat) (nss : Nat) (nrc : Nat) (jr : Nat) (jd : Nat) (mnumber : Int32) (mwhose : Int32) (msize : Int32) (misParted : Int32) (fnrc : Nat → Int32) (hjr : jr ≤ 30) (hjd : jd < 7) : K_m_from20 l G h0 xx nw nk mhasKept nt mtaped nr mrowMany mroundOf mroundFrom mouts nm mfromHour mtoHour ns mfrom mto msort misFault mdeep mcoded mlines nl nc nF np ntr nb mbestCost nso nsi nit nsh nsf nss nrc jr jd mnumber mwhose msize misParted fnrc := by
  refine MI.start (by decide +kernel) (Nat.le_of_ble_eq_true rfl) ?_
  intro p e s m below meth c A ls hC hK hP hD hS hA hl
  refine absQ (fun Q0 hQ0 => ?_)
  have hl : lv_has ls 5 [(0, .ref h0), (1, .int 2), (2, .int 0), (3, .int xx)] := hl
  refine Kan8 hC (fun hx hb hr hml hB hown hlocks hnm => ?_)
  refine lv_iload_n hx hb gX12_bodyFrom_0.1 rfl (lv_at1 hl) ?_
  refine lv_istore (lv' := [(4, .int 2), (0, .ref h0), (1, .int 2), (2, .int 0), (3, .int xx)]) hx hb gX12_bodyFrom_0.2.1 hl (by decide) rfl (fun ls hl => ?_)
  refine lv_iload hx hb gX12_bodyFrom_0.2.2.1 (lv_at0 hl) ?_
  refine lv_iload_n hx hb gX12_bodyFrom_0.2.2.2.1 rfl (lv_at3 hl) ?_
  refine pS hC hK hl (m_hasOwn20 l G) si_X12_360 rfl rfl (Nat.le_of_ble_eq_true rfl) rm_12_1_2 ⟨by first | exact Nat.le_of_ble_eq_true rfl | exact Nat.zero_le _, by first | exact Nat.le_of_ble_eq_true rfl | exact Nat.zero_le _⟩ gX12_bodyFrom_0.2.2.2.2.1 (Keqr ?_)
  refine lv_if_ne (tgt := 22) hx hb gX12_bodyFrom_0.2.2.2.2.2.1 (by decide) (fun c9 => absurd (by decide) c9) (fun _ => ?_)
  refine lv_iload hx hb gX12_bodyFrom_0.2.2.2.2.2.2.1 (lv_at0 hl) ?_
  refine pS hC hK hl (m_above2 l G) si_X12_348 rfl rfl (Nat.le_of_ble_eq_true rfl) rm_12_1_1 ⟨by first | exact Nat.le_of_ble_eq_true rfl | exact Nat.zero_le _, by first | exact Nat.le_of_ble_eq_true rfl | exact Nat.zero_le _⟩ gX12_bodyFrom_0.2.2.2.2.2.2.2.1 (Keqr ?_)
  refine lv_istore (lv' := [(4, .int 0), (0, .ref h0), (1, .int 2), (2, .int 0), (3, .int xx)]) hx hb gX12_bodyFrom_0.2.2.2.2.2.2.2.2.1 hl (by decide) rfl (fun ls hl => ?_)
  refine lv_goto (tgt := 3) hx hb gX12_bodyFrom_0.2.2.2.2.2.2.2.2.2 (by decide) ?_
  refine lv_iload hx hb gX12_bodyFrom_0.2.2.1 (lv_at0 hl) ?_
  refine lv_iload_n hx hb gX12_bodyFrom_0.2.2.2.1 rfl (lv_at3 hl) ?_
  refine pS hC hK hl (m_hasOwn00 l G) si_X12_360 rfl rfl (Nat.le_of_ble_eq_true rfl) rm_12_1_2 ⟨by first | exact Nat.le_of_ble_eq_true rfl | exact Nat.zero_le _, by first | exact Nat.le_of_ble_eq_true rfl | exact Nat.zero_le _⟩ gX12_bodyFrom_0.2.2.2.2.1 (Keqr ?_)
  refine lv_if_ne (tgt := 22) hx hb gX12_bodyFrom_0.2.2.2.2.2.1 (by decide) (fun _ => ?_) (fun c9 => absurd c9 (by decide))
  refine lv_aload_n hx hb gX12_bodyFrom_1.1 rfl (lv_at1 hl) ?_
  refine lv_iload hx hb gX12_bodyFrom_1.2.1 (lv_at0 hl) ?_
  refine lv_iload_n hx hb gX12_bodyFrom_1.2.2.1 rfl (lv_at3 hl) ?_
  refine lv_iload_n hx hb gX12_bodyFrom_1.2.2.2.1 rfl (lv_at4 hl) ?_
  refine iV (wr := []) hC hK hl hP hD hS hA (m_body00 l G h0 xx nw nk mhasKept nt mtaped nr mrowMany mroundOf mroundFrom mouts nm mfromHour mtoHour ns mfrom mto msort misFault mdeep mcoded mlines nl nc nF np ntr nb mbestCost nso nsi nit nsh nsf nss nrc jr jd mnumber mwhose msize misParted fnrc (hjr) (hjd)) si_X12_363 [0, 1] [] sm_0_1 fm_0_1 nd_0_1 rfl rfl (by decide) rfl rfl rfl rfl rfl (Nat.le_of_ble_eq_true rfl) rm_12_3_6 ⟨Nat.le_of_ble_eq_true rfl, Nat.le_of_ble_eq_true rfl⟩ gX12_bodyFrom_1.2.2.2.2.1 (fun r6723 => Ktu3 fun jr16725 ip16726 gtrc6727 => ?_)
  intro H locs hr6723 hP hD hS
  try dsimp only at hr6723
  refine Kpdr (ws := [(h0, oX12 nw nk mhasKept nt mtaped nr mrowMany mroundOf mroundFrom mouts nm mfromHour mtoHour ns mfrom mto msort misFault mdeep mcoded mlines nl nc nF np ntr nb mbestCost nso nsi nit nsh nsf nss nrc (nI jr16725) (nI jd) mnumber mwhose msize ip16726), (nrc, iA G 30 gtrc6727)]) hP hD (fun hP hD => ?_)
  obtain ⟨hr6723, w6728⟩ := hr6723
  refine toQ hQ0 ?_
  exact RI (v := r6723) hC hP hD hS [0, 1] (jr16725, ip16726, gtrc6727) rfl rfl (by decide) (⟨trivial, by omega⟩) rfl gX12_bodyFrom_1.2.2.2.2.2
def K_m_from30 (l : Launch) (G : GG) (h0 : Nat) (xx : Int32) (nw : Nat) (nk : Nat) (mhasKept : Int32) (nt : Nat) (mtaped : Int32) (nr : Nat) (mrowMany : Int32) (mroundOf : Int32) (mroundFrom : Int32) (mouts : Int32) (nm : Nat) (mfromHour : Int32) (mtoHour : Int32) (ns : Nat) (mfrom : Int32) (mto : Int32) (msort : Int32) (misFault : Int32) (mdeep : Int32) (mcoded : Int32) (mlines : Int32) (nl : Nat) (nc : Nat) (nF : Nat) (np : Nat) (ntr : Nat) (nb : Nat) (mbestCost : Int32) (nso : Nat) (nsi : Nat) (nit : Nat) (nsh : Nat) (nsf : Nat) (nss : Nat) (nrc : Nat) (jr : Nat) (jd : Nat) (mnumber : Int32) (mwhose : Int32) (msize : Int32) (misParted : Int32) (fnrc : Nat → Int32) : Prop := MI l G yX12_bodyFrom cX12_bodyFrom 5 (some .int) 12 0 0 [.ref h0, .int 3, .int 0, .int xx] [(h0, oX12 nw nk mhasKept nt mtaped nr mrowMany mroundOf mroundFrom mouts nm mfromHour mtoHour ns mfrom mto msort misFault mdeep mcoded mlines nl nc nF np ntr nb mbestCost nso nsi nit nsh nsf nss nrc (nI jr) (nI jd) mnumber mwhose msize misParted), (nrc, iA G 30 fnrc)] (fun (r : Int32) (u : Nat × Int32 × (Nat → Int32)) => (True) ∧ (u.1 ≤ 30)) (fun u : Nat × Int32 × (Nat → Int32) => [(h0, oX12 nw nk mhasKept nt mtaped nr mrowMany mroundOf mroundFrom mouts nm mfromHour mtoHour ns mfrom mto msort misFault mdeep mcoded mlines nl nc nF np ntr nb mbestCost nso nsi nit nsh nsf nss nrc (nI u.1) (nI jd) mnumber mwhose msize u.2.1), (nrc, iA G 30 u.2.2)])
set_option maxHeartbeats 4000000 in
set_option maxRecDepth 100000 in
theorem m_from30 (l : Launch) (G : GG) (h0 : Nat) (xx : Int32) (nw : Nat) (nk : Nat) (mhasKept : Int32) (nt : Nat) (mtaped : Int32) (nr : Nat) (mrowMany : Int32) (mroundOf : Int32) (mroundFrom : Int32) (mouts : Int32) (nm : Nat) (mfromHour : Int32) (mtoHour : Int32) (ns : Nat) (mfrom : Int32) (mto : Int32) (msort : Int32) (misFault : Int32) (mdeep : Int32) (mcoded : Int32) (mlines : Int32) (nl : Nat) (nc : Nat) (nF : Nat) (np : Nat) (ntr : Nat) (nb : Nat) (mbestCost : Int32) (nso : Nat) (nsi : Nat) (nit : Nat) (nsh : Nat) (nsf : Nat) (nss : Nat) (nrc : Nat) (jr : Nat) (jd : Nat) (mnumber : Int32) (mwhose : Int32) (msize : Int32) (misParted : Int32) (fnrc : Nat → Int32) (hjr : jr ≤ 30) (hjd : jd < 7) : K_m_from30 l G h0 xx nw nk mhasKept nt mtaped nr mrowMany mroundOf mroundFrom mouts nm mfromHour mtoHour ns mfrom mto msort misFault mdeep mcoded mlines nl nc nF np ntr nb mbestCost nso nsi nit nsh nsf nss nrc jr jd mnumber mwhose msize misParted fnrc := by
  refine MI.start (by decide +kernel) (Nat.le_of_ble_eq_true rfl) ?_
  intro p e s m below meth c A ls hC hK hP hD hS hA hl
  refine absQ (fun Q0 hQ0 => ?_)
  have hl : lv_has ls 5 [(0, .ref h0), (1, .int 3), (2, .int 0), (3, .int xx)] := hl
  refine Kan8 hC (fun hx hb hr hml hB hown hlocks hnm => ?_)
  refine lv_iload_n hx hb gX12_bodyFrom_0.1 rfl (lv_at1 hl) ?_
  refine lv_istore (lv' := [(4, .int 3), (0, .ref h0), (1, .int 3), (2, .int 0), (3, .int xx)]) hx hb gX12_bodyFrom_0.2.1 hl (by decide) rfl (fun ls hl => ?_)
  refine lv_iload hx hb gX12_bodyFrom_0.2.2.1 (lv_at0 hl) ?_
  refine lv_iload_n hx hb gX12_bodyFrom_0.2.2.2.1 rfl (lv_at3 hl) ?_
  refine pS hC hK hl (m_hasOwn30 l G) si_X12_360 rfl rfl (Nat.le_of_ble_eq_true rfl) rm_12_1_2 ⟨by first | exact Nat.le_of_ble_eq_true rfl | exact Nat.zero_le _, by first | exact Nat.le_of_ble_eq_true rfl | exact Nat.zero_le _⟩ gX12_bodyFrom_0.2.2.2.2.1 (Keqr ?_)
  refine lv_if_ne (tgt := 22) hx hb gX12_bodyFrom_0.2.2.2.2.2.1 (by decide) (fun c9 => absurd (by decide) c9) (fun _ => ?_)
  refine lv_iload hx hb gX12_bodyFrom_0.2.2.2.2.2.2.1 (lv_at0 hl) ?_
  refine pS hC hK hl (m_above3 l G) si_X12_348 rfl rfl (Nat.le_of_ble_eq_true rfl) rm_12_1_1 ⟨by first | exact Nat.le_of_ble_eq_true rfl | exact Nat.zero_le _, by first | exact Nat.le_of_ble_eq_true rfl | exact Nat.zero_le _⟩ gX12_bodyFrom_0.2.2.2.2.2.2.2.1 (Keqr ?_)
  refine lv_istore (lv' := [(4, .int 1), (0, .ref h0), (1, .int 3), (2, .int 0), (3, .int xx)]) hx hb gX12_bodyFrom_0.2.2.2.2.2.2.2.2.1 hl (by decide) rfl (fun ls hl => ?_)
  refine lv_goto (tgt := 3) hx hb gX12_bodyFrom_0.2.2.2.2.2.2.2.2.2 (by decide) ?_
  refine lv_iload hx hb gX12_bodyFrom_0.2.2.1 (lv_at0 hl) ?_
  refine lv_iload_n hx hb gX12_bodyFrom_0.2.2.2.1 rfl (lv_at3 hl) ?_
  refine pS hC hK hl (m_hasOwn10 l G) si_X12_360 rfl rfl (Nat.le_of_ble_eq_true rfl) rm_12_1_2 ⟨by first | exact Nat.le_of_ble_eq_true rfl | exact Nat.zero_le _, by first | exact Nat.le_of_ble_eq_true rfl | exact Nat.zero_le _⟩ gX12_bodyFrom_0.2.2.2.2.1 (Keqr ?_)
  refine lv_if_ne (tgt := 22) hx hb gX12_bodyFrom_0.2.2.2.2.2.1 (by decide) (fun c9 => absurd (by decide) c9) (fun _ => ?_)
  refine lv_iload hx hb gX12_bodyFrom_0.2.2.2.2.2.2.1 (lv_at0 hl) ?_
  refine pS hC hK hl (m_above1 l G) si_X12_348 rfl rfl (Nat.le_of_ble_eq_true rfl) rm_12_1_1 ⟨by first | exact Nat.le_of_ble_eq_true rfl | exact Nat.zero_le _, by first | exact Nat.le_of_ble_eq_true rfl | exact Nat.zero_le _⟩ gX12_bodyFrom_0.2.2.2.2.2.2.2.1 (Keqr ?_)
  refine lv_istore (lv' := [(4, .int 0), (0, .ref h0), (1, .int 3), (2, .int 0), (3, .int xx)]) hx hb gX12_bodyFrom_0.2.2.2.2.2.2.2.2.1 hl (by decide) rfl (fun ls hl => ?_)
  refine lv_goto (tgt := 3) hx hb gX12_bodyFrom_0.2.2.2.2.2.2.2.2.2 (by decide) ?_
  refine lv_iload hx hb gX12_bodyFrom_0.2.2.1 (lv_at0 hl) ?_
  refine lv_iload_n hx hb gX12_bodyFrom_0.2.2.2.1 rfl (lv_at3 hl) ?_
  refine pS hC hK hl (m_hasOwn00 l G) si_X12_360 rfl rfl (Nat.le_of_ble_eq_true rfl) rm_12_1_2 ⟨by first | exact Nat.le_of_ble_eq_true rfl | exact Nat.zero_le _, by first | exact Nat.le_of_ble_eq_true rfl | exact Nat.zero_le _⟩ gX12_bodyFrom_0.2.2.2.2.1 (Keqr ?_)
  refine lv_if_ne (tgt := 22) hx hb gX12_bodyFrom_0.2.2.2.2.2.1 (by decide) (fun _ => ?_) (fun c9 => absurd c9 (by decide))
  refine lv_aload_n hx hb gX12_bodyFrom_1.1 rfl (lv_at1 hl) ?_
  refine lv_iload hx hb gX12_bodyFrom_1.2.1 (lv_at0 hl) ?_
  refine lv_iload_n hx hb gX12_bodyFrom_1.2.2.1 rfl (lv_at3 hl) ?_
  refine lv_iload_n hx hb gX12_bodyFrom_1.2.2.2.1 rfl (lv_at4 hl) ?_
  refine iV (wr := []) hC hK hl hP hD hS hA (m_body00 l G h0 xx nw nk mhasKept nt mtaped nr mrowMany mroundOf mroundFrom mouts nm mfromHour mtoHour ns mfrom mto msort misFault mdeep mcoded mlines nl nc nF np ntr nb mbestCost nso nsi nit nsh nsf nss nrc jr jd mnumber mwhose msize misParted fnrc (hjr) (hjd)) si_X12_363 [0, 1] [] sm_0_1 fm_0_1 nd_0_1 rfl rfl (by decide) rfl rfl rfl rfl rfl (Nat.le_of_ble_eq_true rfl) rm_12_3_6 ⟨Nat.le_of_ble_eq_true rfl, Nat.le_of_ble_eq_true rfl⟩ gX12_bodyFrom_1.2.2.2.2.1 (fun r6739 => Ktu3 fun jr16741 ip16742 gtrc6743 => ?_)
  intro H locs hr6739 hP hD hS
  try dsimp only at hr6739
  refine Kpdr (ws := [(h0, oX12 nw nk mhasKept nt mtaped nr mrowMany mroundOf mroundFrom mouts nm mfromHour mtoHour ns mfrom mto msort misFault mdeep mcoded mlines nl nc nF np ntr nb mbestCost nso nsi nit nsh nsf nss nrc (nI jr16741) (nI jd) mnumber mwhose msize ip16742), (nrc, iA G 30 gtrc6743)]) hP hD (fun hP hD => ?_)
  obtain ⟨hr6739, w6744⟩ := hr6739
  refine toQ hQ0 ?_
  exact RI (v := r6739) hC hP hD hS [0, 1] (jr16741, ip16742, gtrc6743) rfl rfl (by decide) (⟨trivial, by omega⟩) rfl gX12_bodyFrom_1.2.2.2.2.2
def K_m_from60 (l : Launch) (G : GG) (h0 : Nat) (xx : Int32) (nw : Nat) (nk : Nat) (mhasKept : Int32) (nt : Nat) (mtaped : Int32) (nr : Nat) (mrowMany : Int32) (mroundOf : Int32) (mroundFrom : Int32) (mouts : Int32) (nm : Nat) (mfromHour : Int32) (mtoHour : Int32) (ns : Nat) (mfrom : Int32) (mto : Int32) (msort : Int32) (misFault : Int32) (mdeep : Int32) (mcoded : Int32) (mlines : Int32) (nl : Nat) (nc : Nat) (nF : Nat) (np : Nat) (ntr : Nat) (nb : Nat) (mbestCost : Int32) (nso : Nat) (nsi : Nat) (nit : Nat) (nsh : Nat) (nsf : Nat) (nss : Nat) (nrc : Nat) (jr : Nat) (jd : Nat) (mnumber : Int32) (mwhose : Int32) (msize : Int32) (misParted : Int32) (fnrc : Nat → Int32) : Prop := MI l G yX12_bodyFrom cX12_bodyFrom 5 (some .int) 12 0 0 [.ref h0, .int 6, .int 0, .int xx] [(h0, oX12 nw nk mhasKept nt mtaped nr mrowMany mroundOf mroundFrom mouts nm mfromHour mtoHour ns mfrom mto msort misFault mdeep mcoded mlines nl nc nF np ntr nb mbestCost nso nsi nit nsh nsf nss nrc (nI jr) (nI jd) mnumber mwhose msize misParted), (nrc, iA G 30 fnrc)] (fun (r : Int32) (u : Nat × Int32 × (Nat → Int32)) => (True) ∧ (u.1 ≤ 30)) (fun u : Nat × Int32 × (Nat → Int32) => [(h0, oX12 nw nk mhasKept nt mtaped nr mrowMany mroundOf mroundFrom mouts nm mfromHour mtoHour ns mfrom mto msort misFault mdeep mcoded mlines nl nc nF np ntr nb mbestCost nso nsi nit nsh nsf nss nrc (nI u.1) (nI jd) mnumber mwhose msize u.2.1), (nrc, iA G 30 u.2.2)])
set_option maxHeartbeats 4000000 in
set_option maxRecDepth 100000 in
theorem m_from60 (l : Launch) (G : GG) (h0 : Nat) (xx : Int32) (nw : Nat) (nk : Nat) (mhasKept : Int32) (nt : Nat) (mtaped : Int32) (nr : Nat) (mrowMany : Int32) (mroundOf : Int32) (mroundFrom : Int32) (mouts : Int32) (nm : Nat) (mfromHour : Int32) (mtoHour : Int32) (ns : Nat) (mfrom : Int32) (mto : Int32) (msort : Int32) (misFault : Int32) (mdeep : Int32) (mcoded : Int32) (mlines : Int32) (nl : Nat) (nc : Nat) (nF : Nat) (np : Nat) (ntr : Nat) (nb : Nat) (mbestCost : Int32) (nso : Nat) (nsi : Nat) (nit : Nat) (nsh : Nat) (nsf : Nat) (nss : Nat) (nrc : Nat) (jr : Nat) (jd : Nat) (mnumber : Int32) (mwhose : Int32) (msize : Int32) (misParted : Int32) (fnrc : Nat → Int32) (hjr : jr ≤ 30) (hjd : jd < 7) : K_m_from60 l G h0 xx nw nk mhasKept nt mtaped nr mrowMany mroundOf mroundFrom mouts nm mfromHour mtoHour ns mfrom mto msort misFault mdeep mcoded mlines nl nc nF np ntr nb mbestCost nso nsi nit nsh nsf nss nrc jr jd mnumber mwhose msize misParted fnrc := by
  refine MI.start (by decide +kernel) (Nat.le_of_ble_eq_true rfl) ?_
  intro p e s m below meth c A ls hC hK hP hD hS hA hl
  refine absQ (fun Q0 hQ0 => ?_)
  have hl : lv_has ls 5 [(0, .ref h0), (1, .int 6), (2, .int 0), (3, .int xx)] := hl
  refine Kan8 hC (fun hx hb hr hml hB hown hlocks hnm => ?_)
  refine lv_iload_n hx hb gX12_bodyFrom_0.1 rfl (lv_at1 hl) ?_
  refine lv_istore (lv' := [(4, .int 6), (0, .ref h0), (1, .int 6), (2, .int 0), (3, .int xx)]) hx hb gX12_bodyFrom_0.2.1 hl (by decide) rfl (fun ls hl => ?_)
  refine lv_iload hx hb gX12_bodyFrom_0.2.2.1 (lv_at0 hl) ?_
  refine lv_iload_n hx hb gX12_bodyFrom_0.2.2.2.1 rfl (lv_at3 hl) ?_
  refine pS hC hK hl (m_hasOwn60 l G) si_X12_360 rfl rfl (Nat.le_of_ble_eq_true rfl) rm_12_1_2 ⟨by first | exact Nat.le_of_ble_eq_true rfl | exact Nat.zero_le _, by first | exact Nat.le_of_ble_eq_true rfl | exact Nat.zero_le _⟩ gX12_bodyFrom_0.2.2.2.2.1 (Keqr ?_)
  refine lv_if_ne (tgt := 22) hx hb gX12_bodyFrom_0.2.2.2.2.2.1 (by decide) (fun c9 => absurd (by decide) c9) (fun _ => ?_)
  refine lv_iload hx hb gX12_bodyFrom_0.2.2.2.2.2.2.1 (lv_at0 hl) ?_
  refine pS hC hK hl (m_above6 l G) si_X12_348 rfl rfl (Nat.le_of_ble_eq_true rfl) rm_12_1_1 ⟨by first | exact Nat.le_of_ble_eq_true rfl | exact Nat.zero_le _, by first | exact Nat.le_of_ble_eq_true rfl | exact Nat.zero_le _⟩ gX12_bodyFrom_0.2.2.2.2.2.2.2.1 (Keqr ?_)
  refine lv_istore (lv' := [(4, .int 0), (0, .ref h0), (1, .int 6), (2, .int 0), (3, .int xx)]) hx hb gX12_bodyFrom_0.2.2.2.2.2.2.2.2.1 hl (by decide) rfl (fun ls hl => ?_)
  refine lv_goto (tgt := 3) hx hb gX12_bodyFrom_0.2.2.2.2.2.2.2.2.2 (by decide) ?_
  refine lv_iload hx hb gX12_bodyFrom_0.2.2.1 (lv_at0 hl) ?_
  refine lv_iload_n hx hb gX12_bodyFrom_0.2.2.2.1 rfl (lv_at3 hl) ?_
  refine pS hC hK hl (m_hasOwn00 l G) si_X12_360 rfl rfl (Nat.le_of_ble_eq_true rfl) rm_12_1_2 ⟨by first | exact Nat.le_of_ble_eq_true rfl | exact Nat.zero_le _, by first | exact Nat.le_of_ble_eq_true rfl | exact Nat.zero_le _⟩ gX12_bodyFrom_0.2.2.2.2.1 (Keqr ?_)
  refine lv_if_ne (tgt := 22) hx hb gX12_bodyFrom_0.2.2.2.2.2.1 (by decide) (fun _ => ?_) (fun c9 => absurd c9 (by decide))
  refine lv_aload_n hx hb gX12_bodyFrom_1.1 rfl (lv_at1 hl) ?_
  refine lv_iload hx hb gX12_bodyFrom_1.2.1 (lv_at0 hl) ?_
  refine lv_iload_n hx hb gX12_bodyFrom_1.2.2.1 rfl (lv_at3 hl) ?_
  refine lv_iload_n hx hb gX12_bodyFrom_1.2.2.2.1 rfl (lv_at4 hl) ?_
  refine iV (wr := []) hC hK hl hP hD hS hA (m_body00 l G h0 xx nw nk mhasKept nt mtaped nr mrowMany mroundOf mroundFrom mouts nm mfromHour mtoHour ns mfrom mto msort misFault mdeep mcoded mlines nl nc nF np ntr nb mbestCost nso nsi nit nsh nsf nss nrc jr jd mnumber mwhose msize misParted fnrc (hjr) (hjd)) si_X12_363 [0, 1] [] sm_0_1 fm_0_1 nd_0_1 rfl rfl (by decide) rfl rfl rfl rfl rfl (Nat.le_of_ble_eq_true rfl) rm_12_3_6 ⟨Nat.le_of_ble_eq_true rfl, Nat.le_of_ble_eq_true rfl⟩ gX12_bodyFrom_1.2.2.2.2.1 (fun r6751 => Ktu3 fun jr16753 ip16754 gtrc6755 => ?_)
  intro H locs hr6751 hP hD hS
  try dsimp only at hr6751
  refine Kpdr (ws := [(h0, oX12 nw nk mhasKept nt mtaped nr mrowMany mroundOf mroundFrom mouts nm mfromHour mtoHour ns mfrom mto msort misFault mdeep mcoded mlines nl nc nF np ntr nb mbestCost nso nsi nit nsh nsf nss nrc (nI jr16753) (nI jd) mnumber mwhose msize ip16754), (nrc, iA G 30 gtrc6755)]) hP hD (fun hP hD => ?_)
  obtain ⟨hr6751, w6756⟩ := hr6751
  refine toQ hQ0 ?_
  exact RI (v := r6751) hC hP hD hS [0, 1] (jr16753, ip16754, gtrc6755) rfl rfl (by decide) (⟨trivial, by omega⟩) rfl gX12_bodyFrom_1.2.2.2.2.2
def K_m_dealt0 (l : Launch) (G : GG) (h0 : Nat) (xx : Int32) (nw : Nat) (nk : Nat) (mhasKept : Int32) (nt : Nat) (mtaped : Int32) (nr : Nat) (mrowMany : Int32) (mroundOf : Int32) (mroundFrom : Int32) (mouts : Int32) (nm : Nat) (mfromHour : Int32) (mtoHour : Int32) (ns : Nat) (mfrom : Int32) (mto : Int32) (msort : Int32) (misFault : Int32) (mdeep : Int32) (mcoded : Int32) (mlines : Int32) (nl : Nat) (nc : Nat) (nF : Nat) (np : Nat) (ntr : Nat) (nb : Nat) (mbestCost : Int32) (nso : Nat) (nsi : Nat) (nit : Nat) (nsh : Nat) (nsf : Nat) (nss : Nat) (nrc : Nat) (jr : Nat) (jd : Nat) (mnumber : Int32) (mwhose : Int32) (msize : Int32) (misParted : Int32) (fnrc : Nat → Int32) : Prop := MI l G yX12_dealt cX12_dealt 3 (some .int) 14 0 0 [.ref h0, .int 0, .int xx] [(h0, oX12 nw nk mhasKept nt mtaped nr mrowMany mroundOf mroundFrom mouts nm mfromHour mtoHour ns mfrom mto msort misFault mdeep mcoded mlines nl nc nF np ntr nb mbestCost nso nsi nit nsh nsf nss nrc (nI jr) (nI jd) mnumber mwhose msize misParted), (nrc, iA G 30 fnrc)] (fun (r : Int32) (u : Nat × Int32 × (Nat → Int32)) => (True) ∧ (u.1 ≤ 30)) (fun u : Nat × Int32 × (Nat → Int32) => [(h0, oX12 nw nk mhasKept nt mtaped nr mrowMany mroundOf mroundFrom mouts nm mfromHour mtoHour ns mfrom mto msort misFault mdeep mcoded mlines nl nc nF np ntr nb mbestCost nso nsi nit nsh nsf nss nrc (nI u.1) (nI jd) mnumber mwhose msize u.2.1), (nrc, iA G 30 u.2.2)])
set_option maxHeartbeats 4000000 in
set_option maxRecDepth 100000 in
theorem m_dealt0 (l : Launch) (G : GG) (h0 : Nat) (xx : Int32) (nw : Nat) (nk : Nat) (mhasKept : Int32) (nt : Nat) (mtaped : Int32) (nr : Nat) (mrowMany : Int32) (mroundOf : Int32) (mroundFrom : Int32) (mouts : Int32) (nm : Nat) (mfromHour : Int32) (mtoHour : Int32) (ns : Nat) (mfrom : Int32) (mto : Int32) (msort : Int32) (misFault : Int32) (mdeep : Int32) (mcoded : Int32) (mlines : Int32) (nl : Nat) (nc : Nat) (nF : Nat) (np : Nat) (ntr : Nat) (nb : Nat) (mbestCost : Int32) (nso : Nat) (nsi : Nat) (nit : Nat) (nsh : Nat) (nsf : Nat) (nss : Nat) (nrc : Nat) (jr : Nat) (jd : Nat) (mnumber : Int32) (mwhose : Int32) (msize : Int32) (misParted : Int32) (fnrc : Nat → Int32) (hjr : jr ≤ 30) (hjd : jd < 7) : K_m_dealt0 l G h0 xx nw nk mhasKept nt mtaped nr mrowMany mroundOf mroundFrom mouts nm mfromHour mtoHour ns mfrom mto msort misFault mdeep mcoded mlines nl nc nF np ntr nb mbestCost nso nsi nit nsh nsf nss nrc jr jd mnumber mwhose msize misParted fnrc := by
  refine MI.start (by decide +kernel) (Nat.le_of_ble_eq_true rfl) ?_
  intro p e s m below meth c A ls hC hK hP hD hS hA hl
  refine absQ (fun Q0 hQ0 => ?_)
  have hl : lv_has ls 3 [(0, .ref h0), (1, .int 0), (2, .int xx)] := hl
  refine Kan8 hC (fun hx hb hr hml hB hown hlocks hnm => ?_)
  refine lv_aload_n hx hb gX12_dealt_0.1 rfl (lv_at0 hl) ?_
  refine lv_aload_n hx hb gX12_dealt_0.2.1 rfl (lv_at0 hl) ?_
  refine gf_X12_354 hC rfl hK hP 0 rfl rfl gX12_dealt_0.2.2.1 ?_
  refine lv_iload_n hx hb gX12_dealt_0.2.2.2.1 rfl (lv_at1 hl) ?_
  refine lv_iload_n hx hb gX12_dealt_0.2.2.2.2.1 rfl (lv_at2 hl) ?_
  rcases (show jd = 0 ∨ jd = 1 ∨ jd = 2 ∨ jd = 3 ∨ jd = 4 ∨ jd = 5 ∨ jd = 6 by omega) with rfl | rfl | rfl | rfl | rfl | rfl | rfl
  · refine iV (wr := []) hC hK hl hP hD hS hA (m_from00 l G h0 xx nw nk mhasKept nt mtaped nr mrowMany mroundOf mroundFrom mouts nm mfromHour mtoHour ns mfrom mto msort misFault mdeep mcoded mlines nl nc nF np ntr nb mbestCost nso nsi nit nsh nsf nss nrc jr 0 mnumber mwhose msize misParted fnrc (hjr) (hjd)) si_X12_357 [0, 1] [] sm_0_1 fm_0_1 nd_0_1 rfl rfl (by decide) rfl rfl rfl rfl rfl (Nat.le_of_ble_eq_true rfl) rm_14_4_5 ⟨Nat.le_of_ble_eq_true rfl, Nat.le_of_ble_eq_true rfl⟩ gX12_dealt_0.2.2.2.2.2.1 (fun r6757 => Ktu3 fun jr16759 ip16760 gtrc6761 => ?_)
    intro H locs hr6757 hP hD hS
    try dsimp only at hr6757
    refine Kpdr (ws := [(h0, oX12 nw nk mhasKept nt mtaped nr mrowMany mroundOf mroundFrom mouts nm mfromHour mtoHour ns mfrom mto msort misFault mdeep mcoded mlines nl nc nF np ntr nb mbestCost nso nsi nit nsh nsf nss nrc (nI jr16759) 0 mnumber mwhose msize ip16760), (nrc, iA G 30 gtrc6761)]) hP hD (fun hP hD => ?_)
    obtain ⟨hr6757, w6762⟩ := hr6757
    refine toQ hQ0 ?_
    exact RI (v := r6757) hC hP hD hS [0, 1] (jr16759, ip16760, gtrc6761) rfl rfl (by decide) (⟨trivial, by omega⟩) rfl gX12_dealt_0.2.2.2.2.2.2
  · refine iV (wr := []) hC hK hl hP hD hS hA (m_from10 l G h0 xx nw nk mhasKept nt mtaped nr mrowMany mroundOf mroundFrom mouts nm mfromHour mtoHour ns mfrom mto msort misFault mdeep mcoded mlines nl nc nF np ntr nb mbestCost nso nsi nit nsh nsf nss nrc jr 1 mnumber mwhose msize misParted fnrc (hjr) (hjd)) si_X12_357 [0, 1] [] sm_0_1 fm_0_1 nd_0_1 rfl rfl (by decide) rfl rfl rfl rfl rfl (Nat.le_of_ble_eq_true rfl) rm_14_12_5 ⟨Nat.le_of_ble_eq_true rfl, Nat.le_of_ble_eq_true rfl⟩ gX12_dealt_0.2.2.2.2.2.1 (fun r6763 => Ktu3 fun jr16765 ip16766 gtrc6767 => ?_)
    intro H locs hr6763 hP hD hS
    try dsimp only at hr6763
    refine Kpdr (ws := [(h0, oX12 nw nk mhasKept nt mtaped nr mrowMany mroundOf mroundFrom mouts nm mfromHour mtoHour ns mfrom mto msort misFault mdeep mcoded mlines nl nc nF np ntr nb mbestCost nso nsi nit nsh nsf nss nrc (nI jr16765) 1 mnumber mwhose msize ip16766), (nrc, iA G 30 gtrc6767)]) hP hD (fun hP hD => ?_)
    obtain ⟨hr6763, w6768⟩ := hr6763
    refine toQ hQ0 ?_
    exact RI (v := r6763) hC hP hD hS [0, 1] (jr16765, ip16766, gtrc6767) rfl rfl (by decide) (⟨trivial, by omega⟩) rfl gX12_dealt_0.2.2.2.2.2.2
  · refine iV (wr := []) hC hK hl hP hD hS hA (m_from20 l G h0 xx nw nk mhasKept nt mtaped nr mrowMany mroundOf mroundFrom mouts nm mfromHour mtoHour ns mfrom mto msort misFault mdeep mcoded mlines nl nc nF np ntr nb mbestCost nso nsi nit nsh nsf nss nrc jr 2 mnumber mwhose msize misParted fnrc (hjr) (hjd)) si_X12_357 [0, 1] [] sm_0_1 fm_0_1 nd_0_1 rfl rfl (by decide) rfl rfl rfl rfl rfl (Nat.le_of_ble_eq_true rfl) rm_14_12_5 ⟨Nat.le_of_ble_eq_true rfl, Nat.le_of_ble_eq_true rfl⟩ gX12_dealt_0.2.2.2.2.2.1 (fun r6769 => Ktu3 fun jr16771 ip16772 gtrc6773 => ?_)
    intro H locs hr6769 hP hD hS
    try dsimp only at hr6769
    refine Kpdr (ws := [(h0, oX12 nw nk mhasKept nt mtaped nr mrowMany mroundOf mroundFrom mouts nm mfromHour mtoHour ns mfrom mto msort misFault mdeep mcoded mlines nl nc nF np ntr nb mbestCost nso nsi nit nsh nsf nss nrc (nI jr16771) 2 mnumber mwhose msize ip16772), (nrc, iA G 30 gtrc6773)]) hP hD (fun hP hD => ?_)
    obtain ⟨hr6769, w6774⟩ := hr6769
    refine toQ hQ0 ?_
    exact RI (v := r6769) hC hP hD hS [0, 1] (jr16771, ip16772, gtrc6773) rfl rfl (by decide) (⟨trivial, by omega⟩) rfl gX12_dealt_0.2.2.2.2.2.2
  · refine iV (wr := []) hC hK hl hP hD hS hA (m_from30 l G h0 xx nw nk mhasKept nt mtaped nr mrowMany mroundOf mroundFrom mouts nm mfromHour mtoHour ns mfrom mto msort misFault mdeep mcoded mlines nl nc nF np ntr nb mbestCost nso nsi nit nsh nsf nss nrc jr 3 mnumber mwhose msize misParted fnrc (hjr) (hjd)) si_X12_357 [0, 1] [] sm_0_1 fm_0_1 nd_0_1 rfl rfl (by decide) rfl rfl rfl rfl rfl (Nat.le_of_ble_eq_true rfl) rm_14_12_5 ⟨Nat.le_of_ble_eq_true rfl, Nat.le_of_ble_eq_true rfl⟩ gX12_dealt_0.2.2.2.2.2.1 (fun r6775 => Ktu3 fun jr16777 ip16778 gtrc6779 => ?_)
    intro H locs hr6775 hP hD hS
    try dsimp only at hr6775
    refine Kpdr (ws := [(h0, oX12 nw nk mhasKept nt mtaped nr mrowMany mroundOf mroundFrom mouts nm mfromHour mtoHour ns mfrom mto msort misFault mdeep mcoded mlines nl nc nF np ntr nb mbestCost nso nsi nit nsh nsf nss nrc (nI jr16777) 3 mnumber mwhose msize ip16778), (nrc, iA G 30 gtrc6779)]) hP hD (fun hP hD => ?_)
    obtain ⟨hr6775, w6780⟩ := hr6775
    refine toQ hQ0 ?_
    exact RI (v := r6775) hC hP hD hS [0, 1] (jr16777, ip16778, gtrc6779) rfl rfl (by decide) (⟨trivial, by omega⟩) rfl gX12_dealt_0.2.2.2.2.2.2
  · refine iV (wr := []) hC hK hl hP hD hS hA (m_from40 l G h0 xx nw nk mhasKept nt mtaped nr mrowMany mroundOf mroundFrom mouts nm mfromHour mtoHour ns mfrom mto msort misFault mdeep mcoded mlines nl nc nF np ntr nb mbestCost nso nsi nit nsh nsf nss nrc jr 4 mnumber mwhose msize misParted fnrc (hjr) (hjd)) si_X12_357 [0, 1] [] sm_0_1 fm_0_1 nd_0_1 rfl rfl (by decide) rfl rfl rfl rfl rfl (Nat.le_of_ble_eq_true rfl) rm_14_6_5 ⟨Nat.le_of_ble_eq_true rfl, Nat.le_of_ble_eq_true rfl⟩ gX12_dealt_0.2.2.2.2.2.1 (fun r6781 => Ktu3 fun jr16783 ip16784 gtrc6785 => ?_)
    intro H locs hr6781 hP hD hS
    try dsimp only at hr6781
    refine Kpdr (ws := [(h0, oX12 nw nk mhasKept nt mtaped nr mrowMany mroundOf mroundFrom mouts nm mfromHour mtoHour ns mfrom mto msort misFault mdeep mcoded mlines nl nc nF np ntr nb mbestCost nso nsi nit nsh nsf nss nrc (nI jr16783) 4 mnumber mwhose msize ip16784), (nrc, iA G 30 gtrc6785)]) hP hD (fun hP hD => ?_)
    obtain ⟨hr6781, w6786⟩ := hr6781
    refine toQ hQ0 ?_
    exact RI (v := r6781) hC hP hD hS [0, 1] (jr16783, ip16784, gtrc6785) rfl rfl (by decide) (⟨trivial, by omega⟩) rfl gX12_dealt_0.2.2.2.2.2.2
  · refine iV (wr := []) hC hK hl hP hD hS hA (m_from50 l G h0 xx nw nk mhasKept nt mtaped nr mrowMany mroundOf mroundFrom mouts nm mfromHour mtoHour ns mfrom mto msort misFault mdeep mcoded mlines nl nc nF np ntr nb mbestCost nso nsi nit nsh nsf nss nrc jr 5 mnumber mwhose msize misParted fnrc (hjr) (hjd)) si_X12_357 [0, 1] [] sm_0_1 fm_0_1 nd_0_1 rfl rfl (by decide) rfl rfl rfl rfl rfl (Nat.le_of_ble_eq_true rfl) rm_14_8_5 ⟨Nat.le_of_ble_eq_true rfl, Nat.le_of_ble_eq_true rfl⟩ gX12_dealt_0.2.2.2.2.2.1 (fun r6787 => Ktu3 fun jr16789 ip16790 gtrc6791 => ?_)
    intro H locs hr6787 hP hD hS
    try dsimp only at hr6787
    refine Kpdr (ws := [(h0, oX12 nw nk mhasKept nt mtaped nr mrowMany mroundOf mroundFrom mouts nm mfromHour mtoHour ns mfrom mto msort misFault mdeep mcoded mlines nl nc nF np ntr nb mbestCost nso nsi nit nsh nsf nss nrc (nI jr16789) 5 mnumber mwhose msize ip16790), (nrc, iA G 30 gtrc6791)]) hP hD (fun hP hD => ?_)
    obtain ⟨hr6787, w6792⟩ := hr6787
    refine toQ hQ0 ?_
    exact RI (v := r6787) hC hP hD hS [0, 1] (jr16789, ip16790, gtrc6791) rfl rfl (by decide) (⟨trivial, by omega⟩) rfl gX12_dealt_0.2.2.2.2.2.2
  · refine iV (wr := []) hC hK hl hP hD hS hA (m_from60 l G h0 xx nw nk mhasKept nt mtaped nr mrowMany mroundOf mroundFrom mouts nm mfromHour mtoHour ns mfrom mto msort misFault mdeep mcoded mlines nl nc nF np ntr nb mbestCost nso nsi nit nsh nsf nss nrc jr 6 mnumber mwhose msize misParted fnrc (hjr) (hjd)) si_X12_357 [0, 1] [] sm_0_1 fm_0_1 nd_0_1 rfl rfl (by decide) rfl rfl rfl rfl rfl (Nat.le_of_ble_eq_true rfl) rm_14_12_5 ⟨Nat.le_of_ble_eq_true rfl, Nat.le_of_ble_eq_true rfl⟩ gX12_dealt_0.2.2.2.2.2.1 (fun r6793 => Ktu3 fun jr16795 ip16796 gtrc6797 => ?_)
    intro H locs hr6793 hP hD hS
    try dsimp only at hr6793
    refine Kpdr (ws := [(h0, oX12 nw nk mhasKept nt mtaped nr mrowMany mroundOf mroundFrom mouts nm mfromHour mtoHour ns mfrom mto msort misFault mdeep mcoded mlines nl nc nF np ntr nb mbestCost nso nsi nit nsh nsf nss nrc (nI jr16795) 6 mnumber mwhose msize ip16796), (nrc, iA G 30 gtrc6797)]) hP hD (fun hP hD => ?_)
    obtain ⟨hr6793, w6798⟩ := hr6793
    refine toQ hQ0 ?_
    exact RI (v := r6793) hC hP hD hS [0, 1] (jr16795, ip16796, gtrc6797) rfl rfl (by decide) (⟨trivial, by omega⟩) rfl gX12_dealt_0.2.2.2.2.2.2
def K_m_body01 (l : Launch) (G : GG) (h0 : Nat) (xx : Int32) (nw : Nat) (nk : Nat) (mhasKept : Int32) (nt : Nat) (mtaped : Int32) (nr : Nat) (mrowMany : Int32) (mroundOf : Int32) (mroundFrom : Int32) (mouts : Int32) (nm : Nat) (mfromHour : Int32) (mtoHour : Int32) (ns : Nat) (mfrom : Int32) (mto : Int32) (msort : Int32) (misFault : Int32) (mdeep : Int32) (mcoded : Int32) (mlines : Int32) (nl : Nat) (nc : Nat) (nF : Nat) (np : Nat) (ntr : Nat) (nb : Nat) (mbestCost : Int32) (nso : Nat) (nsi : Nat) (nit : Nat) (nsh : Nat) (nsf : Nat) (nss : Nat) (nrc : Nat) (jr : Nat) (jd : Nat) (mnumber : Int32) (mwhose : Int32) (msize : Int32) (misParted : Int32) (fnrc : Nat → Int32) : Prop := MI l G yX12_body cX12_body 6 (some .int) 15 0 0 [.ref h0, .int 0, .int 1, .int xx] [(h0, oX12 nw nk mhasKept nt mtaped nr mrowMany mroundOf mroundFrom mouts nm mfromHour mtoHour ns mfrom mto msort misFault mdeep mcoded mlines nl nc nF np ntr nb mbestCost nso nsi nit nsh nsf nss nrc (nI jr) (nI jd) mnumber mwhose msize misParted), (nrc, iA G 30 fnrc)] (fun (r : Int32) (u : Nat × Int32 × (Nat → Int32)) => (True) ∧ (u.1 ≤ 30)) (fun u : Nat × Int32 × (Nat → Int32) => [(h0, oX12 nw nk mhasKept nt mtaped nr mrowMany mroundOf mroundFrom mouts nm mfromHour mtoHour ns mfrom mto msort misFault mdeep mcoded mlines nl nc nF np ntr nb mbestCost nso nsi nit nsh nsf nss nrc (nI u.1) (nI jd) mnumber mwhose msize u.2.1), (nrc, iA G 30 u.2.2)])
set_option maxHeartbeats 4000000 in
set_option maxRecDepth 100000 in
theorem m_body01 (l : Launch) (G : GG) (h0 : Nat) (xx : Int32) (nw : Nat) (nk : Nat) (mhasKept : Int32) (nt : Nat) (mtaped : Int32) (nr : Nat) (mrowMany : Int32) (mroundOf : Int32) (mroundFrom : Int32) (mouts : Int32) (nm : Nat) (mfromHour : Int32) (mtoHour : Int32) (ns : Nat) (mfrom : Int32) (mto : Int32) (msort : Int32) (misFault : Int32) (mdeep : Int32) (mcoded : Int32) (mlines : Int32) (nl : Nat) (nc : Nat) (nF : Nat) (np : Nat) (ntr : Nat) (nb : Nat) (mbestCost : Int32) (nso : Nat) (nsi : Nat) (nit : Nat) (nsh : Nat) (nsf : Nat) (nss : Nat) (nrc : Nat) (jr : Nat) (jd : Nat) (mnumber : Int32) (mwhose : Int32) (msize : Int32) (misParted : Int32) (fnrc : Nat → Int32) (hjr : jr ≤ 30) (hjd : jd < 7) : K_m_body01 l G h0 xx nw nk mhasKept nt mtaped nr mrowMany mroundOf mroundFrom mouts nm mfromHour mtoHour ns mfrom mto msort misFault mdeep mcoded mlines nl nc nF np ntr nb mbestCost nso nsi nit nsh nsf nss nrc jr jd mnumber mwhose msize misParted fnrc := by
  refine MI.start (by decide +kernel) (Nat.le_of_ble_eq_true rfl) ?_
  intro p e s m below meth c A ls hC hK hP hD hS hA hl
  refine absQ (fun Q0 hQ0 => ?_)
  have hl : lv_has ls 6 [(0, .ref h0), (1, .int 0), (2, .int 1), (3, .int xx)] := hl
  refine Kan8 hC (fun hx hb hr hml hB hown hlocks hnm => ?_)
  refine lv_iconst (v := 4) hx hb gX12_body_0.1 (by decide) ?_
  refine lv_iload_n hx hb gX12_body_0.2.1 rfl (lv_at1 hl) ?_
  refine lv_imul hx hb gX12_body_0.2.2.1 ?_
  refine eqi (x1 := 0) (by decide) ?_
  refine lv_iload_n hx hb gX12_body_0.2.2.2.1 rfl (lv_at2 hl) ?_
  refine lv_iadd hx hb gX12_body_0.2.2.2.2.1 ?_
  refine eqi (x1 := 1) (by decide) ?_
  refine lv_tableIn (tgt := 125) hx hb gX12_body_0.2.2.2.2.2.1 (by decide) (by decide) rfl (by decide) ?_
  refine lv_aload_n hx hb gX12_body_1.2.2.2.2.1 rfl (lv_at0 hl) ?_
  refine lv_bipush (v := 11) hx hb gX12_body_1.2.2.2.2.2.1 (by decide) ?_
  refine vV (wr := []) hC hK hl hP hD hS hA (m_began l G h0 11 nw nk mhasKept nt mtaped nr mrowMany mroundOf mroundFrom mouts nm mfromHour mtoHour ns mfrom mto msort misFault mdeep mcoded mlines nl nc nF np ntr nb mbestCost nso nsi nit nsh nsf nss nrc jr (nI jd) mnumber mwhose msize misParted fnrc (hjr)) si_X12_366 [0, 1] [] sm_0_1 fm_0_1 nd_0_1 rfl rfl (by decide) rfl rfl rfl rfl rfl (Nat.le_of_ble_eq_true rfl) rm_15_1_2 ⟨Nat.le_of_ble_eq_true rfl, Nat.le_of_ble_eq_true rfl⟩ gX12_body_1.2.2.2.2.2.2.1 (Ktu2 fun jr16801 gtrc6802 => ?_)
  intro H locs hr6799 hP hD hS
  try dsimp only at hr6799
  refine Kpdr (ws := [(h0, oX12 nw nk mhasKept nt mtaped nr mrowMany mroundOf mroundFrom mouts nm mfromHour mtoHour ns mfrom mto msort misFault mdeep mcoded mlines nl nc nF np ntr nb mbestCost nso nsi nit nsh nsf nss nrc (nI jr16801) (nI jd) mnumber mwhose msize misParted), (nrc, iA G 30 gtrc6802)]) hP hD (fun hP hD => ?_)
  have w6803 := hr6799
  refine lv_aload_n hx hb gX12_body_1.2.2.2.2.2.2.2.1 rfl (lv_at0 hl) ?_
  refine lv_iconst (v := 0) hx hb gX12_body_1.2.2.2.2.2.2.2.2.1 (by decide) ?_
  refine lv_iload_n hx hb gX12_body_1.2.2.2.2.2.2.2.2.2 rfl (lv_at3 hl) ?_
  refine iV (wr := []) hC hK hl hP hD hS hA (m_dealt0 l G h0 xx nw nk mhasKept nt mtaped nr mrowMany mroundOf mroundFrom mouts nm mfromHour mtoHour ns mfrom mto msort misFault mdeep mcoded mlines nl nc nF np ntr nb mbestCost nso nsi nit nsh nsf nss nrc jr16801 jd mnumber mwhose msize misParted gtrc6802 (w6803) (hjd)) si_X12_372 [0, 1] [] sm_0_1 fm_0_1 nd_0_1 rfl rfl (by decide) rfl rfl rfl rfl rfl (Nat.le_of_ble_eq_true rfl) rm_15_14_3 ⟨Nat.le_of_ble_eq_true rfl, Nat.le_of_ble_eq_true rfl⟩ gX12_body_2.1 (fun r6804 => Ktu3 fun jr16806 ip16807 gtrc6808 => ?_)
  intro H locs hr6804 hP hD hS
  try dsimp only at hr6804
  refine Kpdr (ws := [(h0, oX12 nw nk mhasKept nt mtaped nr mrowMany mroundOf mroundFrom mouts nm mfromHour mtoHour ns mfrom mto msort misFault mdeep mcoded mlines nl nc nF np ntr nb mbestCost nso nsi nit nsh nsf nss nrc (nI jr16806) (nI jd) mnumber mwhose msize ip16807), (nrc, iA G 30 gtrc6808)]) hP hD (fun hP hD => ?_)
  obtain ⟨hr6804, w6809⟩ := hr6804
  refine lv_iconst (v := 2) hx hb gX12_body_2.2.1 (by decide) ?_
  refine lv_imul hx hb gX12_body_2.2.2.1 ?_
  refine toQ hQ0 ?_
  exact RI (v := r6804 * 2) hC hP hD hS [0, 1] (jr16806, ip16807, gtrc6808) rfl rfl (by decide) (⟨trivial, by omega⟩) rfl gX12_body_2.2.2.2.1
def K_m_from01 (l : Launch) (G : GG) (h0 : Nat) (xx : Int32) (nw : Nat) (nk : Nat) (mhasKept : Int32) (nt : Nat) (mtaped : Int32) (nr : Nat) (mrowMany : Int32) (mroundOf : Int32) (mroundFrom : Int32) (mouts : Int32) (nm : Nat) (mfromHour : Int32) (mtoHour : Int32) (ns : Nat) (mfrom : Int32) (mto : Int32) (msort : Int32) (misFault : Int32) (mdeep : Int32) (mcoded : Int32) (mlines : Int32) (nl : Nat) (nc : Nat) (nF : Nat) (np : Nat) (ntr : Nat) (nb : Nat) (mbestCost : Int32) (nso : Nat) (nsi : Nat) (nit : Nat) (nsh : Nat) (nsf : Nat) (nss : Nat) (nrc : Nat) (jr : Nat) (jd : Nat) (mnumber : Int32) (mwhose : Int32) (msize : Int32) (misParted : Int32) (fnrc : Nat → Int32) : Prop := MI l G yX12_bodyFrom cX12_bodyFrom 5 (some .int) 16 0 0 [.ref h0, .int 0, .int 1, .int xx] [(h0, oX12 nw nk mhasKept nt mtaped nr mrowMany mroundOf mroundFrom mouts nm mfromHour mtoHour ns mfrom mto msort misFault mdeep mcoded mlines nl nc nF np ntr nb mbestCost nso nsi nit nsh nsf nss nrc (nI jr) (nI jd) mnumber mwhose msize misParted), (nrc, iA G 30 fnrc)] (fun (r : Int32) (u : Nat × Int32 × (Nat → Int32)) => (True) ∧ (u.1 ≤ 30)) (fun u : Nat × Int32 × (Nat → Int32) => [(h0, oX12 nw nk mhasKept nt mtaped nr mrowMany mroundOf mroundFrom mouts nm mfromHour mtoHour ns mfrom mto msort misFault mdeep mcoded mlines nl nc nF np ntr nb mbestCost nso nsi nit nsh nsf nss nrc (nI u.1) (nI jd) mnumber mwhose msize u.2.1), (nrc, iA G 30 u.2.2)])
set_option maxHeartbeats 4000000 in
set_option maxRecDepth 100000 in
theorem m_from01 (l : Launch) (G : GG) (h0 : Nat) (xx : Int32) (nw : Nat) (nk : Nat) (mhasKept : Int32) (nt : Nat) (mtaped : Int32) (nr : Nat) (mrowMany : Int32) (mroundOf : Int32) (mroundFrom : Int32) (mouts : Int32) (nm : Nat) (mfromHour : Int32) (mtoHour : Int32) (ns : Nat) (mfrom : Int32) (mto : Int32) (msort : Int32) (misFault : Int32) (mdeep : Int32) (mcoded : Int32) (mlines : Int32) (nl : Nat) (nc : Nat) (nF : Nat) (np : Nat) (ntr : Nat) (nb : Nat) (mbestCost : Int32) (nso : Nat) (nsi : Nat) (nit : Nat) (nsh : Nat) (nsf : Nat) (nss : Nat) (nrc : Nat) (jr : Nat) (jd : Nat) (mnumber : Int32) (mwhose : Int32) (msize : Int32) (misParted : Int32) (fnrc : Nat → Int32) (hjr : jr ≤ 30) (hjd : jd < 7) : K_m_from01 l G h0 xx nw nk mhasKept nt mtaped nr mrowMany mroundOf mroundFrom mouts nm mfromHour mtoHour ns mfrom mto msort misFault mdeep mcoded mlines nl nc nF np ntr nb mbestCost nso nsi nit nsh nsf nss nrc jr jd mnumber mwhose msize misParted fnrc := by
  refine MI.start (by decide +kernel) (Nat.le_of_ble_eq_true rfl) ?_
  intro p e s m below meth c A ls hC hK hP hD hS hA hl
  refine absQ (fun Q0 hQ0 => ?_)
  have hl : lv_has ls 5 [(0, .ref h0), (1, .int 0), (2, .int 1), (3, .int xx)] := hl
  refine Kan8 hC (fun hx hb hr hml hB hown hlocks hnm => ?_)
  refine lv_iload_n hx hb gX12_bodyFrom_0.1 rfl (lv_at1 hl) ?_
  refine lv_istore (lv' := [(4, .int 0), (0, .ref h0), (1, .int 0), (2, .int 1), (3, .int xx)]) hx hb gX12_bodyFrom_0.2.1 hl (by decide) rfl (fun ls hl => ?_)
  refine lv_iload hx hb gX12_bodyFrom_0.2.2.1 (lv_at0 hl) ?_
  refine lv_iload_n hx hb gX12_bodyFrom_0.2.2.2.1 rfl (lv_at3 hl) ?_
  refine pS hC hK hl (m_hasOwn01 l G) si_X12_360 rfl rfl (Nat.le_of_ble_eq_true rfl) rm_16_1_2 ⟨by first | exact Nat.le_of_ble_eq_true rfl | exact Nat.zero_le _, by first | exact Nat.le_of_ble_eq_true rfl | exact Nat.zero_le _⟩ gX12_bodyFrom_0.2.2.2.2.1 (Keqr ?_)
  refine lv_if_ne (tgt := 22) hx hb gX12_bodyFrom_0.2.2.2.2.2.1 (by decide) (fun _ => ?_) (fun c9 => absurd c9 (by decide))
  refine lv_aload_n hx hb gX12_bodyFrom_1.1 rfl (lv_at1 hl) ?_
  refine lv_iload hx hb gX12_bodyFrom_1.2.1 (lv_at0 hl) ?_
  refine lv_iload_n hx hb gX12_bodyFrom_1.2.2.1 rfl (lv_at3 hl) ?_
  refine lv_iload_n hx hb gX12_bodyFrom_1.2.2.2.1 rfl (lv_at4 hl) ?_
  refine iV (wr := []) hC hK hl hP hD hS hA (m_body01 l G h0 xx nw nk mhasKept nt mtaped nr mrowMany mroundOf mroundFrom mouts nm mfromHour mtoHour ns mfrom mto msort misFault mdeep mcoded mlines nl nc nF np ntr nb mbestCost nso nsi nit nsh nsf nss nrc jr jd mnumber mwhose msize misParted fnrc (hjr) (hjd)) si_X12_363 [0, 1] [] sm_0_1 fm_0_1 nd_0_1 rfl rfl (by decide) rfl rfl rfl rfl rfl (Nat.le_of_ble_eq_true rfl) rm_16_15_6 ⟨Nat.le_of_ble_eq_true rfl, Nat.le_of_ble_eq_true rfl⟩ gX12_bodyFrom_1.2.2.2.2.1 (fun r6812 => Ktu3 fun jr16814 ip16815 gtrc6816 => ?_)
  intro H locs hr6812 hP hD hS
  try dsimp only at hr6812
  refine Kpdr (ws := [(h0, oX12 nw nk mhasKept nt mtaped nr mrowMany mroundOf mroundFrom mouts nm mfromHour mtoHour ns mfrom mto msort misFault mdeep mcoded mlines nl nc nF np ntr nb mbestCost nso nsi nit nsh nsf nss nrc (nI jr16814) (nI jd) mnumber mwhose msize ip16815), (nrc, iA G 30 gtrc6816)]) hP hD (fun hP hD => ?_)
  obtain ⟨hr6812, w6817⟩ := hr6812
  refine toQ hQ0 ?_
  exact RI (v := r6812) hC hP hD hS [0, 1] (jr16814, ip16815, gtrc6816) rfl rfl (by decide) (⟨trivial, by omega⟩) rfl gX12_bodyFrom_1.2.2.2.2.2
def K_m_body11 (l : Launch) (G : GG) (h0 : Nat) (xx : Int32) (nw : Nat) (nk : Nat) (mhasKept : Int32) (nt : Nat) (mtaped : Int32) (nr : Nat) (mrowMany : Int32) (mroundOf : Int32) (mroundFrom : Int32) (mouts : Int32) (nm : Nat) (mfromHour : Int32) (mtoHour : Int32) (ns : Nat) (mfrom : Int32) (mto : Int32) (msort : Int32) (misFault : Int32) (mdeep : Int32) (mcoded : Int32) (mlines : Int32) (nl : Nat) (nc : Nat) (nF : Nat) (np : Nat) (ntr : Nat) (nb : Nat) (mbestCost : Int32) (nso : Nat) (nsi : Nat) (nit : Nat) (nsh : Nat) (nsf : Nat) (nss : Nat) (nrc : Nat) (jr : Nat) (jd : Nat) (mnumber : Int32) (mwhose : Int32) (msize : Int32) (misParted : Int32) (fnrc : Nat → Int32) : Prop := MI l G yX12_body cX12_body 6 (some .int) 17 0 0 [.ref h0, .int 1, .int 1, .int xx] [(h0, oX12 nw nk mhasKept nt mtaped nr mrowMany mroundOf mroundFrom mouts nm mfromHour mtoHour ns mfrom mto msort misFault mdeep mcoded mlines nl nc nF np ntr nb mbestCost nso nsi nit nsh nsf nss nrc (nI jr) (nI jd) mnumber mwhose msize misParted), (nrc, iA G 30 fnrc)] (fun (r : Int32) (u : Nat × Int32 × (Nat → Int32)) => (True) ∧ (u.1 ≤ 30)) (fun u : Nat × Int32 × (Nat → Int32) => [(h0, oX12 nw nk mhasKept nt mtaped nr mrowMany mroundOf mroundFrom mouts nm mfromHour mtoHour ns mfrom mto msort misFault mdeep mcoded mlines nl nc nF np ntr nb mbestCost nso nsi nit nsh nsf nss nrc (nI u.1) (nI jd) mnumber mwhose msize u.2.1), (nrc, iA G 30 u.2.2)])
set_option maxHeartbeats 4000000 in
set_option maxRecDepth 100000 in
theorem m_body11 (l : Launch) (G : GG) (h0 : Nat) (xx : Int32) (nw : Nat) (nk : Nat) (mhasKept : Int32) (nt : Nat) (mtaped : Int32) (nr : Nat) (mrowMany : Int32) (mroundOf : Int32) (mroundFrom : Int32) (mouts : Int32) (nm : Nat) (mfromHour : Int32) (mtoHour : Int32) (ns : Nat) (mfrom : Int32) (mto : Int32) (msort : Int32) (misFault : Int32) (mdeep : Int32) (mcoded : Int32) (mlines : Int32) (nl : Nat) (nc : Nat) (nF : Nat) (np : Nat) (ntr : Nat) (nb : Nat) (mbestCost : Int32) (nso : Nat) (nsi : Nat) (nit : Nat) (nsh : Nat) (nsf : Nat) (nss : Nat) (nrc : Nat) (jr : Nat) (jd : Nat) (mnumber : Int32) (mwhose : Int32) (msize : Int32) (misParted : Int32) (fnrc : Nat → Int32) (hjr : jr ≤ 30) (hjd : jd < 7) : K_m_body11 l G h0 xx nw nk mhasKept nt mtaped nr mrowMany mroundOf mroundFrom mouts nm mfromHour mtoHour ns mfrom mto msort misFault mdeep mcoded mlines nl nc nF np ntr nb mbestCost nso nsi nit nsh nsf nss nrc jr jd mnumber mwhose msize misParted fnrc := by
  refine MI.start (by decide +kernel) (Nat.le_of_ble_eq_true rfl) ?_
  intro p e s m below meth c A ls hC hK hP hD hS hA hl
  refine absQ (fun Q0 hQ0 => ?_)
  have hl : lv_has ls 6 [(0, .ref h0), (1, .int 1), (2, .int 1), (3, .int xx)] := hl
  refine Kan8 hC (fun hx hb hr hml hB hown hlocks hnm => ?_)
  refine lv_iconst (v := 4) hx hb gX12_body_0.1 (by decide) ?_
  refine lv_iload_n hx hb gX12_body_0.2.1 rfl (lv_at1 hl) ?_
  refine lv_imul hx hb gX12_body_0.2.2.1 ?_
  refine eqi (x1 := 4) (by decide) ?_
  refine lv_iload_n hx hb gX12_body_0.2.2.2.1 rfl (lv_at2 hl) ?_
  refine lv_iadd hx hb gX12_body_0.2.2.2.2.1 ?_
  refine eqi (x1 := 5) (by decide) ?_
  refine lv_tableIn (tgt := 207) hx hb gX12_body_0.2.2.2.2.2.1 (by decide) (by decide) rfl (by decide) ?_
  refine lv_aload_n hx hb gX12_body_6.2.1 rfl (lv_at0 hl) ?_
  refine lv_bipush (v := 20) hx hb gX12_body_6.2.2.1 (by decide) ?_
  refine vV (wr := []) hC hK hl hP hD hS hA (m_began l G h0 20 nw nk mhasKept nt mtaped nr mrowMany mroundOf mroundFrom mouts nm mfromHour mtoHour ns mfrom mto msort misFault mdeep mcoded mlines nl nc nF np ntr nb mbestCost nso nsi nit nsh nsf nss nrc jr (nI jd) mnumber mwhose msize misParted fnrc (hjr)) si_X12_366 [0, 1] [] sm_0_1 fm_0_1 nd_0_1 rfl rfl (by decide) rfl rfl rfl rfl rfl (Nat.le_of_ble_eq_true rfl) rm_17_1_2 ⟨Nat.le_of_ble_eq_true rfl, Nat.le_of_ble_eq_true rfl⟩ gX12_body_6.2.2.2.1 (Ktu2 fun jr16820 gtrc6821 => ?_)
  intro H locs hr6818 hP hD hS
  try dsimp only at hr6818
  refine Kpdr (ws := [(h0, oX12 nw nk mhasKept nt mtaped nr mrowMany mroundOf mroundFrom mouts nm mfromHour mtoHour ns mfrom mto msort misFault mdeep mcoded mlines nl nc nF np ntr nb mbestCost nso nsi nit nsh nsf nss nrc (nI jr16820) (nI jd) mnumber mwhose msize misParted), (nrc, iA G 30 gtrc6821)]) hP hD (fun hP hD => ?_)
  have w6822 := hr6818
  refine lv_aload_n hx hb gX12_body_6.2.2.2.2.1 rfl (lv_at0 hl) ?_
  refine lv_iconst (v := 0) hx hb gX12_body_6.2.2.2.2.2.1 (by decide) ?_
  refine lv_iconst (v := 1) hx hb gX12_body_6.2.2.2.2.2.2.1 (by decide) ?_
  refine lv_iload_n hx hb gX12_body_6.2.2.2.2.2.2.2.1 rfl (lv_at3 hl) ?_
  refine iV (wr := []) hC hK hl hP hD hS hA (m_from01 l G h0 xx nw nk mhasKept nt mtaped nr mrowMany mroundOf mroundFrom mouts nm mfromHour mtoHour ns mfrom mto msort misFault mdeep mcoded mlines nl nc nF np ntr nb mbestCost nso nsi nit nsh nsf nss nrc jr16820 jd mnumber mwhose msize misParted gtrc6821 (w6822) (hjd)) si_X12_357 [0, 1] [] sm_0_1 fm_0_1 nd_0_1 rfl rfl (by decide) rfl rfl rfl rfl rfl (Nat.le_of_ble_eq_true rfl) rm_17_16_5 ⟨Nat.le_of_ble_eq_true rfl, Nat.le_of_ble_eq_true rfl⟩ gX12_body_6.2.2.2.2.2.2.2.2.1 (fun r6823 => Ktu3 fun jr16825 ip16826 gtrc6827 => ?_)
  intro H locs hr6823 hP hD hS
  try dsimp only at hr6823
  refine Kpdr (ws := [(h0, oX12 nw nk mhasKept nt mtaped nr mrowMany mroundOf mroundFrom mouts nm mfromHour mtoHour ns mfrom mto msort misFault mdeep mcoded mlines nl nc nF np ntr nb mbestCost nso nsi nit nsh nsf nss nrc (nI jr16825) (nI jd) mnumber mwhose msize ip16826), (nrc, iA G 30 gtrc6827)]) hP hD (fun hP hD => ?_)
  obtain ⟨hr6823, w6828⟩ := hr6823
  refine lv_aload_n hx hb gX12_body_6.2.2.2.2.2.2.2.2.2 rfl (lv_at0 hl) ?_
  refine gf_X12_378 hC rfl hK hP 0 rfl rfl gX12_body_7.1 ?_
  refine lv_ixor hx hb gX12_body_7.2.1 ?_
  refine toQ hQ0 ?_
  exact RI (v := r6823 ^^^ mnumber) hC hP hD hS [0, 1] (jr16825, ip16826, gtrc6827) rfl rfl (by decide) (⟨trivial, by omega⟩) rfl gX12_body_7.2.2.1
def K_m_from11 (l : Launch) (G : GG) (h0 : Nat) (xx : Int32) (nw : Nat) (nk : Nat) (mhasKept : Int32) (nt : Nat) (mtaped : Int32) (nr : Nat) (mrowMany : Int32) (mroundOf : Int32) (mroundFrom : Int32) (mouts : Int32) (nm : Nat) (mfromHour : Int32) (mtoHour : Int32) (ns : Nat) (mfrom : Int32) (mto : Int32) (msort : Int32) (misFault : Int32) (mdeep : Int32) (mcoded : Int32) (mlines : Int32) (nl : Nat) (nc : Nat) (nF : Nat) (np : Nat) (ntr : Nat) (nb : Nat) (mbestCost : Int32) (nso : Nat) (nsi : Nat) (nit : Nat) (nsh : Nat) (nsf : Nat) (nss : Nat) (nrc : Nat) (jr : Nat) (jd : Nat) (mnumber : Int32) (mwhose : Int32) (msize : Int32) (misParted : Int32) (fnrc : Nat → Int32) : Prop := MI l G yX12_bodyFrom cX12_bodyFrom 5 (some .int) 18 0 0 [.ref h0, .int 1, .int 1, .int xx] [(h0, oX12 nw nk mhasKept nt mtaped nr mrowMany mroundOf mroundFrom mouts nm mfromHour mtoHour ns mfrom mto msort misFault mdeep mcoded mlines nl nc nF np ntr nb mbestCost nso nsi nit nsh nsf nss nrc (nI jr) (nI jd) mnumber mwhose msize misParted), (nrc, iA G 30 fnrc)] (fun (r : Int32) (u : Nat × Int32 × (Nat → Int32)) => (True) ∧ (u.1 ≤ 30)) (fun u : Nat × Int32 × (Nat → Int32) => [(h0, oX12 nw nk mhasKept nt mtaped nr mrowMany mroundOf mroundFrom mouts nm mfromHour mtoHour ns mfrom mto msort misFault mdeep mcoded mlines nl nc nF np ntr nb mbestCost nso nsi nit nsh nsf nss nrc (nI u.1) (nI jd) mnumber mwhose msize u.2.1), (nrc, iA G 30 u.2.2)])
set_option maxHeartbeats 4000000 in
set_option maxRecDepth 100000 in
theorem m_from11 (l : Launch) (G : GG) (h0 : Nat) (xx : Int32) (nw : Nat) (nk : Nat) (mhasKept : Int32) (nt : Nat) (mtaped : Int32) (nr : Nat) (mrowMany : Int32) (mroundOf : Int32) (mroundFrom : Int32) (mouts : Int32) (nm : Nat) (mfromHour : Int32) (mtoHour : Int32) (ns : Nat) (mfrom : Int32) (mto : Int32) (msort : Int32) (misFault : Int32) (mdeep : Int32) (mcoded : Int32) (mlines : Int32) (nl : Nat) (nc : Nat) (nF : Nat) (np : Nat) (ntr : Nat) (nb : Nat) (mbestCost : Int32) (nso : Nat) (nsi : Nat) (nit : Nat) (nsh : Nat) (nsf : Nat) (nss : Nat) (nrc : Nat) (jr : Nat) (jd : Nat) (mnumber : Int32) (mwhose : Int32) (msize : Int32) (misParted : Int32) (fnrc : Nat → Int32) (hjr : jr ≤ 30) (hjd : jd < 7) : K_m_from11 l G h0 xx nw nk mhasKept nt mtaped nr mrowMany mroundOf mroundFrom mouts nm mfromHour mtoHour ns mfrom mto msort misFault mdeep mcoded mlines nl nc nF np ntr nb mbestCost nso nsi nit nsh nsf nss nrc jr jd mnumber mwhose msize misParted fnrc := by
  refine MI.start (by decide +kernel) (Nat.le_of_ble_eq_true rfl) ?_
  intro p e s m below meth c A ls hC hK hP hD hS hA hl
  refine absQ (fun Q0 hQ0 => ?_)
  have hl : lv_has ls 5 [(0, .ref h0), (1, .int 1), (2, .int 1), (3, .int xx)] := hl
  refine Kan8 hC (fun hx hb hr hml hB hown hlocks hnm => ?_)
  refine lv_iload_n hx hb gX12_bodyFrom_0.1 rfl (lv_at1 hl) ?_
  refine lv_istore (lv' := [(4, .int 1), (0, .ref h0), (1, .int 1), (2, .int 1), (3, .int xx)]) hx hb gX12_bodyFrom_0.2.1 hl (by decide) rfl (fun ls hl => ?_)
  refine lv_iload hx hb gX12_bodyFrom_0.2.2.1 (lv_at0 hl) ?_
  refine lv_iload_n hx hb gX12_bodyFrom_0.2.2.2.1 rfl (lv_at3 hl) ?_
  refine pS hC hK hl (m_hasOwn11 l G) si_X12_360 rfl rfl (Nat.le_of_ble_eq_true rfl) rm_18_1_2 ⟨by first | exact Nat.le_of_ble_eq_true rfl | exact Nat.zero_le _, by first | exact Nat.le_of_ble_eq_true rfl | exact Nat.zero_le _⟩ gX12_bodyFrom_0.2.2.2.2.1 (Keqr ?_)
  refine lv_if_ne (tgt := 22) hx hb gX12_bodyFrom_0.2.2.2.2.2.1 (by decide) (fun _ => ?_) (fun c9 => absurd c9 (by decide))
  refine lv_aload_n hx hb gX12_bodyFrom_1.1 rfl (lv_at1 hl) ?_
  refine lv_iload hx hb gX12_bodyFrom_1.2.1 (lv_at0 hl) ?_
  refine lv_iload_n hx hb gX12_bodyFrom_1.2.2.1 rfl (lv_at3 hl) ?_
  refine lv_iload_n hx hb gX12_bodyFrom_1.2.2.2.1 rfl (lv_at4 hl) ?_
  refine iV (wr := []) hC hK hl hP hD hS hA (m_body11 l G h0 xx nw nk mhasKept nt mtaped nr mrowMany mroundOf mroundFrom mouts nm mfromHour mtoHour ns mfrom mto msort misFault mdeep mcoded mlines nl nc nF np ntr nb mbestCost nso nsi nit nsh nsf nss nrc jr jd mnumber mwhose msize misParted fnrc (hjr) (hjd)) si_X12_363 [0, 1] [] sm_0_1 fm_0_1 nd_0_1 rfl rfl (by decide) rfl rfl rfl rfl rfl (Nat.le_of_ble_eq_true rfl) rm_18_17_6 ⟨Nat.le_of_ble_eq_true rfl, Nat.le_of_ble_eq_true rfl⟩ gX12_bodyFrom_1.2.2.2.2.1 (fun r6831 => Ktu3 fun jr16833 ip16834 gtrc6835 => ?_)
  intro H locs hr6831 hP hD hS
  try dsimp only at hr6831
  refine Kpdr (ws := [(h0, oX12 nw nk mhasKept nt mtaped nr mrowMany mroundOf mroundFrom mouts nm mfromHour mtoHour ns mfrom mto msort misFault mdeep mcoded mlines nl nc nF np ntr nb mbestCost nso nsi nit nsh nsf nss nrc (nI jr16833) (nI jd) mnumber mwhose msize ip16834), (nrc, iA G 30 gtrc6835)]) hP hD (fun hP hD => ?_)
  obtain ⟨hr6831, w6836⟩ := hr6831
  refine toQ hQ0 ?_
  exact RI (v := r6831) hC hP hD hS [0, 1] (jr16833, ip16834, gtrc6835) rfl rfl (by decide) (⟨trivial, by omega⟩) rfl gX12_bodyFrom_1.2.2.2.2.2
def K_m_body31 (l : Launch) (G : GG) (h0 : Nat) (xx : Int32) (nw : Nat) (nk : Nat) (mhasKept : Int32) (nt : Nat) (mtaped : Int32) (nr : Nat) (mrowMany : Int32) (mroundOf : Int32) (mroundFrom : Int32) (mouts : Int32) (nm : Nat) (mfromHour : Int32) (mtoHour : Int32) (ns : Nat) (mfrom : Int32) (mto : Int32) (msort : Int32) (misFault : Int32) (mdeep : Int32) (mcoded : Int32) (mlines : Int32) (nl : Nat) (nc : Nat) (nF : Nat) (np : Nat) (ntr : Nat) (nb : Nat) (mbestCost : Int32) (nso : Nat) (nsi : Nat) (nit : Nat) (nsh : Nat) (nsf : Nat) (nss : Nat) (nrc : Nat) (jr : Nat) (jd : Nat) (mnumber : Int32) (mwhose : Int32) (msize : Int32) (misParted : Int32) (fnrc : Nat → Int32) : Prop := MI l G yX12_body cX12_body 6 (some .int) 19 0 0 [.ref h0, .int 3, .int 1, .int xx] [(h0, oX12 nw nk mhasKept nt mtaped nr mrowMany mroundOf mroundFrom mouts nm mfromHour mtoHour ns mfrom mto msort misFault mdeep mcoded mlines nl nc nF np ntr nb mbestCost nso nsi nit nsh nsf nss nrc (nI jr) (nI jd) mnumber mwhose msize misParted), (nrc, iA G 30 fnrc)] (fun (r : Int32) (u : Nat × Int32 × (Nat → Int32)) => (True) ∧ (u.1 ≤ 30)) (fun u : Nat × Int32 × (Nat → Int32) => [(h0, oX12 nw nk mhasKept nt mtaped nr mrowMany mroundOf mroundFrom mouts nm mfromHour mtoHour ns mfrom mto msort misFault mdeep mcoded mlines nl nc nF np ntr nb mbestCost nso nsi nit nsh nsf nss nrc (nI u.1) (nI jd) mnumber mwhose msize u.2.1), (nrc, iA G 30 u.2.2)])
set_option maxHeartbeats 4000000 in
set_option maxRecDepth 100000 in
theorem m_body31 (l : Launch) (G : GG) (h0 : Nat) (xx : Int32) (nw : Nat) (nk : Nat) (mhasKept : Int32) (nt : Nat) (mtaped : Int32) (nr : Nat) (mrowMany : Int32) (mroundOf : Int32) (mroundFrom : Int32) (mouts : Int32) (nm : Nat) (mfromHour : Int32) (mtoHour : Int32) (ns : Nat) (mfrom : Int32) (mto : Int32) (msort : Int32) (misFault : Int32) (mdeep : Int32) (mcoded : Int32) (mlines : Int32) (nl : Nat) (nc : Nat) (nF : Nat) (np : Nat) (ntr : Nat) (nb : Nat) (mbestCost : Int32) (nso : Nat) (nsi : Nat) (nit : Nat) (nsh : Nat) (nsf : Nat) (nss : Nat) (nrc : Nat) (jr : Nat) (jd : Nat) (mnumber : Int32) (mwhose : Int32) (msize : Int32) (misParted : Int32) (fnrc : Nat → Int32) (hjr : jr ≤ 30) (hjd : jd < 7) : K_m_body31 l G h0 xx nw nk mhasKept nt mtaped nr mrowMany mroundOf mroundFrom mouts nm mfromHour mtoHour ns mfrom mto msort misFault mdeep mcoded mlines nl nc nF np ntr nb mbestCost nso nsi nit nsh nsf nss nrc jr jd mnumber mwhose msize misParted fnrc := by
  refine MI.start (by decide +kernel) (Nat.le_of_ble_eq_true rfl) ?_
  intro p e s m below meth c A ls hC hK hP hD hS hA hl
  refine absQ (fun Q0 hQ0 => ?_)
  have hl : lv_has ls 6 [(0, .ref h0), (1, .int 3), (2, .int 1), (3, .int xx)] := hl
  refine Kan8 hC (fun hx hb hr hml hB hown hlocks hnm => ?_)
  refine lv_iconst (v := 4) hx hb gX12_body_0.1 (by decide) ?_
  refine lv_iload_n hx hb gX12_body_0.2.1 rfl (lv_at1 hl) ?_
  refine lv_imul hx hb gX12_body_0.2.2.1 ?_
  refine eqi (x1 := 12) (by decide) ?_
  refine lv_iload_n hx hb gX12_body_0.2.2.2.1 rfl (lv_at2 hl) ?_
  refine lv_iadd hx hb gX12_body_0.2.2.2.2.1 ?_
  refine eqi (x1 := 13) (by decide) ?_
  refine lv_tableIn (tgt := 242) hx hb gX12_body_0.2.2.2.2.2.1 (by decide) (by decide) rfl (by decide) ?_
  refine lv_aload_n hx hb gX12_body_8.2.2.2.2.1 rfl (lv_at0 hl) ?_
  refine lv_bipush (v := 40) hx hb gX12_body_8.2.2.2.2.2.1 (by decide) ?_
  refine vV (wr := []) hC hK hl hP hD hS hA (m_began l G h0 40 nw nk mhasKept nt mtaped nr mrowMany mroundOf mroundFrom mouts nm mfromHour mtoHour ns mfrom mto msort misFault mdeep mcoded mlines nl nc nF np ntr nb mbestCost nso nsi nit nsh nsf nss nrc jr (nI jd) mnumber mwhose msize misParted fnrc (hjr)) si_X12_366 [0, 1] [] sm_0_1 fm_0_1 nd_0_1 rfl rfl (by decide) rfl rfl rfl rfl rfl (Nat.le_of_ble_eq_true rfl) rm_19_1_2 ⟨Nat.le_of_ble_eq_true rfl, Nat.le_of_ble_eq_true rfl⟩ gX12_body_8.2.2.2.2.2.2.1 (Ktu2 fun jr16839 gtrc6840 => ?_)
  intro H locs hr6837 hP hD hS
  try dsimp only at hr6837
  refine Kpdr (ws := [(h0, oX12 nw nk mhasKept nt mtaped nr mrowMany mroundOf mroundFrom mouts nm mfromHour mtoHour ns mfrom mto msort misFault mdeep mcoded mlines nl nc nF np ntr nb mbestCost nso nsi nit nsh nsf nss nrc (nI jr16839) (nI jd) mnumber mwhose msize misParted), (nrc, iA G 30 gtrc6840)]) hP hD (fun hP hD => ?_)
  have w6841 := hr6837
  refine lv_iconst (v := 0) hx hb gX12_body_8.2.2.2.2.2.2.2.1 (by decide) ?_
  refine lv_aload_n hx hb gX12_body_8.2.2.2.2.2.2.2.2.1 rfl (lv_at0 hl) ?_
  refine lv_iconst (v := 1) hx hb gX12_body_8.2.2.2.2.2.2.2.2.2 (by decide) ?_
  refine lv_iconst (v := 1) hx hb gX12_body_9.1 (by decide) ?_
  refine lv_iload_n hx hb gX12_body_9.2.1 rfl (lv_at3 hl) ?_
  refine iV (wr := []) hC hK hl hP hD hS hA (m_from11 l G h0 xx nw nk mhasKept nt mtaped nr mrowMany mroundOf mroundFrom mouts nm mfromHour mtoHour ns mfrom mto msort misFault mdeep mcoded mlines nl nc nF np ntr nb mbestCost nso nsi nit nsh nsf nss nrc jr16839 jd mnumber mwhose msize misParted gtrc6840 (w6841) (hjd)) si_X12_357 [0, 1] [] sm_0_1 fm_0_1 nd_0_1 rfl rfl (by decide) rfl rfl rfl rfl rfl (Nat.le_of_ble_eq_true rfl) rm_19_18_5 ⟨Nat.le_of_ble_eq_true rfl, Nat.le_of_ble_eq_true rfl⟩ gX12_body_9.2.2.1 (fun r6842 => Ktu3 fun jr16844 ip16845 gtrc6846 => ?_)
  intro H locs hr6842 hP hD hS
  try dsimp only at hr6842
  refine Kpdr (ws := [(h0, oX12 nw nk mhasKept nt mtaped nr mrowMany mroundOf mroundFrom mouts nm mfromHour mtoHour ns mfrom mto msort misFault mdeep mcoded mlines nl nc nF np ntr nb mbestCost nso nsi nit nsh nsf nss nrc (nI jr16844) (nI jd) mnumber mwhose msize ip16845), (nrc, iA G 30 gtrc6846)]) hP hD (fun hP hD => ?_)
  obtain ⟨hr6842, w6847⟩ := hr6842
  refine lv_isub hx hb gX12_body_9.2.2.2.1 ?_
  refine toQ hQ0 ?_
  exact RI (v := 0 - r6842) hC hP hD hS [0, 1] (jr16844, ip16845, gtrc6846) rfl rfl (by decide) (⟨trivial, by omega⟩) rfl gX12_body_9.2.2.2.2.1
def K_m_from31 (l : Launch) (G : GG) (h0 : Nat) (xx : Int32) (nw : Nat) (nk : Nat) (mhasKept : Int32) (nt : Nat) (mtaped : Int32) (nr : Nat) (mrowMany : Int32) (mroundOf : Int32) (mroundFrom : Int32) (mouts : Int32) (nm : Nat) (mfromHour : Int32) (mtoHour : Int32) (ns : Nat) (mfrom : Int32) (mto : Int32) (msort : Int32) (misFault : Int32) (mdeep : Int32) (mcoded : Int32) (mlines : Int32) (nl : Nat) (nc : Nat) (nF : Nat) (np : Nat) (ntr : Nat) (nb : Nat) (mbestCost : Int32) (nso : Nat) (nsi : Nat) (nit : Nat) (nsh : Nat) (nsf : Nat) (nss : Nat) (nrc : Nat) (jr : Nat) (jd : Nat) (mnumber : Int32) (mwhose : Int32) (msize : Int32) (misParted : Int32) (fnrc : Nat → Int32) : Prop := MI l G yX12_bodyFrom cX12_bodyFrom 5 (some .int) 20 0 0 [.ref h0, .int 3, .int 1, .int xx] [(h0, oX12 nw nk mhasKept nt mtaped nr mrowMany mroundOf mroundFrom mouts nm mfromHour mtoHour ns mfrom mto msort misFault mdeep mcoded mlines nl nc nF np ntr nb mbestCost nso nsi nit nsh nsf nss nrc (nI jr) (nI jd) mnumber mwhose msize misParted), (nrc, iA G 30 fnrc)] (fun (r : Int32) (u : Nat × Int32 × (Nat → Int32)) => (True) ∧ (u.1 ≤ 30)) (fun u : Nat × Int32 × (Nat → Int32) => [(h0, oX12 nw nk mhasKept nt mtaped nr mrowMany mroundOf mroundFrom mouts nm mfromHour mtoHour ns mfrom mto msort misFault mdeep mcoded mlines nl nc nF np ntr nb mbestCost nso nsi nit nsh nsf nss nrc (nI u.1) (nI jd) mnumber mwhose msize u.2.1), (nrc, iA G 30 u.2.2)])
set_option maxHeartbeats 4000000 in
set_option maxRecDepth 100000 in
theorem m_from31 (l : Launch) (G : GG) (h0 : Nat) (xx : Int32) (nw : Nat) (nk : Nat) (mhasKept : Int32) (nt : Nat) (mtaped : Int32) (nr : Nat) (mrowMany : Int32) (mroundOf : Int32) (mroundFrom : Int32) (mouts : Int32) (nm : Nat) (mfromHour : Int32) (mtoHour : Int32) (ns : Nat) (mfrom : Int32) (mto : Int32) (msort : Int32) (misFault : Int32) (mdeep : Int32) (mcoded : Int32) (mlines : Int32) (nl : Nat) (nc : Nat) (nF : Nat) (np : Nat) (ntr : Nat) (nb : Nat) (mbestCost : Int32) (nso : Nat) (nsi : Nat) (nit : Nat) (nsh : Nat) (nsf : Nat) (nss : Nat) (nrc : Nat) (jr : Nat) (jd : Nat) (mnumber : Int32) (mwhose : Int32) (msize : Int32) (misParted : Int32) (fnrc : Nat → Int32) (hjr : jr ≤ 30) (hjd : jd < 7) : K_m_from31 l G h0 xx nw nk mhasKept nt mtaped nr mrowMany mroundOf mroundFrom mouts nm mfromHour mtoHour ns mfrom mto msort misFault mdeep mcoded mlines nl nc nF np ntr nb mbestCost nso nsi nit nsh nsf nss nrc jr jd mnumber mwhose msize misParted fnrc := by
  refine MI.start (by decide +kernel) (Nat.le_of_ble_eq_true rfl) ?_
  intro p e s m below meth c A ls hC hK hP hD hS hA hl
  refine absQ (fun Q0 hQ0 => ?_)
  have hl : lv_has ls 5 [(0, .ref h0), (1, .int 3), (2, .int 1), (3, .int xx)] := hl
  refine Kan8 hC (fun hx hb hr hml hB hown hlocks hnm => ?_)
  refine lv_iload_n hx hb gX12_bodyFrom_0.1 rfl (lv_at1 hl) ?_
  refine lv_istore (lv' := [(4, .int 3), (0, .ref h0), (1, .int 3), (2, .int 1), (3, .int xx)]) hx hb gX12_bodyFrom_0.2.1 hl (by decide) rfl (fun ls hl => ?_)
  refine lv_iload hx hb gX12_bodyFrom_0.2.2.1 (lv_at0 hl) ?_
  refine lv_iload_n hx hb gX12_bodyFrom_0.2.2.2.1 rfl (lv_at3 hl) ?_
  refine pS hC hK hl (m_hasOwn31 l G) si_X12_360 rfl rfl (Nat.le_of_ble_eq_true rfl) rm_20_1_2 ⟨by first | exact Nat.le_of_ble_eq_true rfl | exact Nat.zero_le _, by first | exact Nat.le_of_ble_eq_true rfl | exact Nat.zero_le _⟩ gX12_bodyFrom_0.2.2.2.2.1 (Keqr ?_)
  refine lv_if_ne (tgt := 22) hx hb gX12_bodyFrom_0.2.2.2.2.2.1 (by decide) (fun _ => ?_) (fun c9 => absurd c9 (by decide))
  refine lv_aload_n hx hb gX12_bodyFrom_1.1 rfl (lv_at1 hl) ?_
  refine lv_iload hx hb gX12_bodyFrom_1.2.1 (lv_at0 hl) ?_
  refine lv_iload_n hx hb gX12_bodyFrom_1.2.2.1 rfl (lv_at3 hl) ?_
  refine lv_iload_n hx hb gX12_bodyFrom_1.2.2.2.1 rfl (lv_at4 hl) ?_
  refine iV (wr := []) hC hK hl hP hD hS hA (m_body31 l G h0 xx nw nk mhasKept nt mtaped nr mrowMany mroundOf mroundFrom mouts nm mfromHour mtoHour ns mfrom mto msort misFault mdeep mcoded mlines nl nc nF np ntr nb mbestCost nso nsi nit nsh nsf nss nrc jr jd mnumber mwhose msize misParted fnrc (hjr) (hjd)) si_X12_363 [0, 1] [] sm_0_1 fm_0_1 nd_0_1 rfl rfl (by decide) rfl rfl rfl rfl rfl (Nat.le_of_ble_eq_true rfl) rm_20_19_6 ⟨Nat.le_of_ble_eq_true rfl, Nat.le_of_ble_eq_true rfl⟩ gX12_bodyFrom_1.2.2.2.2.1 (fun r6850 => Ktu3 fun jr16852 ip16853 gtrc6854 => ?_)
  intro H locs hr6850 hP hD hS
  try dsimp only at hr6850
  refine Kpdr (ws := [(h0, oX12 nw nk mhasKept nt mtaped nr mrowMany mroundOf mroundFrom mouts nm mfromHour mtoHour ns mfrom mto msort misFault mdeep mcoded mlines nl nc nF np ntr nb mbestCost nso nsi nit nsh nsf nss nrc (nI jr16852) (nI jd) mnumber mwhose msize ip16853), (nrc, iA G 30 gtrc6854)]) hP hD (fun hP hD => ?_)
  obtain ⟨hr6850, w6855⟩ := hr6850
  refine toQ hQ0 ?_
  exact RI (v := r6850) hC hP hD hS [0, 1] (jr16852, ip16853, gtrc6854) rfl rfl (by decide) (⟨trivial, by omega⟩) rfl gX12_bodyFrom_1.2.2.2.2.2
def K_m_from21 (l : Launch) (G : GG) (h0 : Nat) (xx : Int32) (nw : Nat) (nk : Nat) (mhasKept : Int32) (nt : Nat) (mtaped : Int32) (nr : Nat) (mrowMany : Int32) (mroundOf : Int32) (mroundFrom : Int32) (mouts : Int32) (nm : Nat) (mfromHour : Int32) (mtoHour : Int32) (ns : Nat) (mfrom : Int32) (mto : Int32) (msort : Int32) (misFault : Int32) (mdeep : Int32) (mcoded : Int32) (mlines : Int32) (nl : Nat) (nc : Nat) (nF : Nat) (np : Nat) (ntr : Nat) (nb : Nat) (mbestCost : Int32) (nso : Nat) (nsi : Nat) (nit : Nat) (nsh : Nat) (nsf : Nat) (nss : Nat) (nrc : Nat) (jr : Nat) (jd : Nat) (mnumber : Int32) (mwhose : Int32) (msize : Int32) (misParted : Int32) (fnrc : Nat → Int32) : Prop := MI l G yX12_bodyFrom cX12_bodyFrom 5 (some .int) 24 0 0 [.ref h0, .int 2, .int 1, .int xx] [(h0, oX12 nw nk mhasKept nt mtaped nr mrowMany mroundOf mroundFrom mouts nm mfromHour mtoHour ns mfrom mto msort misFault mdeep mcoded mlines nl nc nF np ntr nb mbestCost nso nsi nit nsh nsf nss nrc (nI jr) (nI jd) mnumber mwhose msize misParted), (nrc, iA G 30 fnrc)] (fun (r : Int32) (u : Nat × Int32 × (Nat → Int32)) => (True) ∧ (u.1 ≤ 30)) (fun u : Nat × Int32 × (Nat → Int32) => [(h0, oX12 nw nk mhasKept nt mtaped nr mrowMany mroundOf mroundFrom mouts nm mfromHour mtoHour ns mfrom mto msort misFault mdeep mcoded mlines nl nc nF np ntr nb mbestCost nso nsi nit nsh nsf nss nrc (nI u.1) (nI jd) mnumber mwhose msize u.2.1), (nrc, iA G 30 u.2.2)])
set_option maxHeartbeats 4000000 in
set_option maxRecDepth 100000 in
theorem m_from21 (l : Launch) (G : GG) (h0 : Nat) (xx : Int32) (nw : Nat) (nk : Nat) (mhasKept : Int32) (nt : Nat) (mtaped : Int32) (nr : Nat) (mrowMany : Int32) (mroundOf : Int32) (mroundFrom : Int32) (mouts : Int32) (nm : Nat) (mfromHour : Int32) (mtoHour : Int32) (ns : Nat) (mfrom : Int32) (mto : Int32) (msort : Int32) (misFault : Int32) (mdeep : Int32) (mcoded : Int32) (mlines : Int32) (nl : Nat) (nc : Nat) (nF : Nat) (np : Nat) (ntr : Nat) (nb : Nat) (mbestCost : Int32) (nso : Nat) (nsi : Nat) (nit : Nat) (nsh : Nat) (nsf : Nat) (nss : Nat) (nrc : Nat) (jr : Nat) (jd : Nat) (mnumber : Int32) (mwhose : Int32) (msize : Int32) (misParted : Int32) (fnrc : Nat → Int32) (hjr : jr ≤ 30) (hjd : jd < 7) : K_m_from21 l G h0 xx nw nk mhasKept nt mtaped nr mrowMany mroundOf mroundFrom mouts nm mfromHour mtoHour ns mfrom mto msort misFault mdeep mcoded mlines nl nc nF np ntr nb mbestCost nso nsi nit nsh nsf nss nrc jr jd mnumber mwhose msize misParted fnrc := by
  refine MI.start (by decide +kernel) (Nat.le_of_ble_eq_true rfl) ?_
  intro p e s m below meth c A ls hC hK hP hD hS hA hl
  refine absQ (fun Q0 hQ0 => ?_)
  have hl : lv_has ls 5 [(0, .ref h0), (1, .int 2), (2, .int 1), (3, .int xx)] := hl
  refine Kan8 hC (fun hx hb hr hml hB hown hlocks hnm => ?_)
  refine lv_iload_n hx hb gX12_bodyFrom_0.1 rfl (lv_at1 hl) ?_
  refine lv_istore (lv' := [(4, .int 2), (0, .ref h0), (1, .int 2), (2, .int 1), (3, .int xx)]) hx hb gX12_bodyFrom_0.2.1 hl (by decide) rfl (fun ls hl => ?_)
  refine lv_iload hx hb gX12_bodyFrom_0.2.2.1 (lv_at0 hl) ?_
  refine lv_iload_n hx hb gX12_bodyFrom_0.2.2.2.1 rfl (lv_at3 hl) ?_
  refine pS hC hK hl (m_hasOwn21 l G) si_X12_360 rfl rfl (Nat.le_of_ble_eq_true rfl) rm_24_1_2 ⟨by first | exact Nat.le_of_ble_eq_true rfl | exact Nat.zero_le _, by first | exact Nat.le_of_ble_eq_true rfl | exact Nat.zero_le _⟩ gX12_bodyFrom_0.2.2.2.2.1 (Keqr ?_)
  refine lv_if_ne (tgt := 22) hx hb gX12_bodyFrom_0.2.2.2.2.2.1 (by decide) (fun c9 => absurd (by decide) c9) (fun _ => ?_)
  refine lv_iload hx hb gX12_bodyFrom_0.2.2.2.2.2.2.1 (lv_at0 hl) ?_
  refine pS hC hK hl (m_above2 l G) si_X12_348 rfl rfl (Nat.le_of_ble_eq_true rfl) rm_24_1_1 ⟨by first | exact Nat.le_of_ble_eq_true rfl | exact Nat.zero_le _, by first | exact Nat.le_of_ble_eq_true rfl | exact Nat.zero_le _⟩ gX12_bodyFrom_0.2.2.2.2.2.2.2.1 (Keqr ?_)
  refine lv_istore (lv' := [(4, .int 0), (0, .ref h0), (1, .int 2), (2, .int 1), (3, .int xx)]) hx hb gX12_bodyFrom_0.2.2.2.2.2.2.2.2.1 hl (by decide) rfl (fun ls hl => ?_)
  refine lv_goto (tgt := 3) hx hb gX12_bodyFrom_0.2.2.2.2.2.2.2.2.2 (by decide) ?_
  refine lv_iload hx hb gX12_bodyFrom_0.2.2.1 (lv_at0 hl) ?_
  refine lv_iload_n hx hb gX12_bodyFrom_0.2.2.2.1 rfl (lv_at3 hl) ?_
  refine pS hC hK hl (m_hasOwn01 l G) si_X12_360 rfl rfl (Nat.le_of_ble_eq_true rfl) rm_24_1_2 ⟨by first | exact Nat.le_of_ble_eq_true rfl | exact Nat.zero_le _, by first | exact Nat.le_of_ble_eq_true rfl | exact Nat.zero_le _⟩ gX12_bodyFrom_0.2.2.2.2.1 (Keqr ?_)
  refine lv_if_ne (tgt := 22) hx hb gX12_bodyFrom_0.2.2.2.2.2.1 (by decide) (fun _ => ?_) (fun c9 => absurd c9 (by decide))
  refine lv_aload_n hx hb gX12_bodyFrom_1.1 rfl (lv_at1 hl) ?_
  refine lv_iload hx hb gX12_bodyFrom_1.2.1 (lv_at0 hl) ?_
  refine lv_iload_n hx hb gX12_bodyFrom_1.2.2.1 rfl (lv_at3 hl) ?_
  refine lv_iload_n hx hb gX12_bodyFrom_1.2.2.2.1 rfl (lv_at4 hl) ?_
  refine iV (wr := []) hC hK hl hP hD hS hA (m_body01 l G h0 xx nw nk mhasKept nt mtaped nr mrowMany mroundOf mroundFrom mouts nm mfromHour mtoHour ns mfrom mto msort misFault mdeep mcoded mlines nl nc nF np ntr nb mbestCost nso nsi nit nsh nsf nss nrc jr jd mnumber mwhose msize misParted fnrc (hjr) (hjd)) si_X12_363 [0, 1] [] sm_0_1 fm_0_1 nd_0_1 rfl rfl (by decide) rfl rfl rfl rfl rfl (Nat.le_of_ble_eq_true rfl) rm_24_15_6 ⟨Nat.le_of_ble_eq_true rfl, Nat.le_of_ble_eq_true rfl⟩ gX12_bodyFrom_1.2.2.2.2.1 (fun r6862 => Ktu3 fun jr16864 ip16865 gtrc6866 => ?_)
  intro H locs hr6862 hP hD hS
  try dsimp only at hr6862
  refine Kpdr (ws := [(h0, oX12 nw nk mhasKept nt mtaped nr mrowMany mroundOf mroundFrom mouts nm mfromHour mtoHour ns mfrom mto msort misFault mdeep mcoded mlines nl nc nF np ntr nb mbestCost nso nsi nit nsh nsf nss nrc (nI jr16864) (nI jd) mnumber mwhose msize ip16865), (nrc, iA G 30 gtrc6866)]) hP hD (fun hP hD => ?_)
  obtain ⟨hr6862, w6867⟩ := hr6862
  refine toQ hQ0 ?_
  exact RI (v := r6862) hC hP hD hS [0, 1] (jr16864, ip16865, gtrc6866) rfl rfl (by decide) (⟨trivial, by omega⟩) rfl gX12_bodyFrom_1.2.2.2.2.2
def K_m_from41 (l : Launch) (G : GG) (h0 : Nat) (xx : Int32) (nw : Nat) (nk : Nat) (mhasKept : Int32) (nt : Nat) (mtaped : Int32) (nr : Nat) (mrowMany : Int32) (mroundOf : Int32) (mroundFrom : Int32) (mouts : Int32) (nm : Nat) (mfromHour : Int32) (mtoHour : Int32) (ns : Nat) (mfrom : Int32) (mto : Int32) (msort : Int32) (misFault : Int32) (mdeep : Int32) (mcoded : Int32) (mlines : Int32) (nl : Nat) (nc : Nat) (nF : Nat) (np : Nat) (ntr : Nat) (nb : Nat) (mbestCost : Int32) (nso : Nat) (nsi : Nat) (nit : Nat) (nsh : Nat) (nsf : Nat) (nss : Nat) (nrc : Nat) (jr : Nat) (jd : Nat) (mnumber : Int32) (mwhose : Int32) (msize : Int32) (misParted : Int32) (fnrc : Nat → Int32) : Prop := MI l G yX12_bodyFrom cX12_bodyFrom 5 (some .int) 24 0 0 [.ref h0, .int 4, .int 1, .int xx] [(h0, oX12 nw nk mhasKept nt mtaped nr mrowMany mroundOf mroundFrom mouts nm mfromHour mtoHour ns mfrom mto msort misFault mdeep mcoded mlines nl nc nF np ntr nb mbestCost nso nsi nit nsh nsf nss nrc (nI jr) (nI jd) mnumber mwhose msize misParted), (nrc, iA G 30 fnrc)] (fun (r : Int32) (u : Nat × Int32 × (Nat → Int32)) => (True) ∧ (u.1 ≤ 30)) (fun u : Nat × Int32 × (Nat → Int32) => [(h0, oX12 nw nk mhasKept nt mtaped nr mrowMany mroundOf mroundFrom mouts nm mfromHour mtoHour ns mfrom mto msort misFault mdeep mcoded mlines nl nc nF np ntr nb mbestCost nso nsi nit nsh nsf nss nrc (nI u.1) (nI jd) mnumber mwhose msize u.2.1), (nrc, iA G 30 u.2.2)])
set_option maxHeartbeats 4000000 in
set_option maxRecDepth 100000 in
theorem m_from41 (l : Launch) (G : GG) (h0 : Nat) (xx : Int32) (nw : Nat) (nk : Nat) (mhasKept : Int32) (nt : Nat) (mtaped : Int32) (nr : Nat) (mrowMany : Int32) (mroundOf : Int32) (mroundFrom : Int32) (mouts : Int32) (nm : Nat) (mfromHour : Int32) (mtoHour : Int32) (ns : Nat) (mfrom : Int32) (mto : Int32) (msort : Int32) (misFault : Int32) (mdeep : Int32) (mcoded : Int32) (mlines : Int32) (nl : Nat) (nc : Nat) (nF : Nat) (np : Nat) (ntr : Nat) (nb : Nat) (mbestCost : Int32) (nso : Nat) (nsi : Nat) (nit : Nat) (nsh : Nat) (nsf : Nat) (nss : Nat) (nrc : Nat) (jr : Nat) (jd : Nat) (mnumber : Int32) (mwhose : Int32) (msize : Int32) (misParted : Int32) (fnrc : Nat → Int32) (hjr : jr ≤ 30) (hjd : jd < 7) : K_m_from41 l G h0 xx nw nk mhasKept nt mtaped nr mrowMany mroundOf mroundFrom mouts nm mfromHour mtoHour ns mfrom mto msort misFault mdeep mcoded mlines nl nc nF np ntr nb mbestCost nso nsi nit nsh nsf nss nrc jr jd mnumber mwhose msize misParted fnrc := by
  refine MI.start (by decide +kernel) (Nat.le_of_ble_eq_true rfl) ?_
  intro p e s m below meth c A ls hC hK hP hD hS hA hl
  refine absQ (fun Q0 hQ0 => ?_)
  have hl : lv_has ls 5 [(0, .ref h0), (1, .int 4), (2, .int 1), (3, .int xx)] := hl
  refine Kan8 hC (fun hx hb hr hml hB hown hlocks hnm => ?_)
  refine lv_iload_n hx hb gX12_bodyFrom_0.1 rfl (lv_at1 hl) ?_
  refine lv_istore (lv' := [(4, .int 4), (0, .ref h0), (1, .int 4), (2, .int 1), (3, .int xx)]) hx hb gX12_bodyFrom_0.2.1 hl (by decide) rfl (fun ls hl => ?_)
  refine lv_iload hx hb gX12_bodyFrom_0.2.2.1 (lv_at0 hl) ?_
  refine lv_iload_n hx hb gX12_bodyFrom_0.2.2.2.1 rfl (lv_at3 hl) ?_
  refine pS hC hK hl (m_hasOwn41 l G) si_X12_360 rfl rfl (Nat.le_of_ble_eq_true rfl) rm_24_1_2 ⟨by first | exact Nat.le_of_ble_eq_true rfl | exact Nat.zero_le _, by first | exact Nat.le_of_ble_eq_true rfl | exact Nat.zero_le _⟩ gX12_bodyFrom_0.2.2.2.2.1 (Keqr ?_)
  refine lv_if_ne (tgt := 22) hx hb gX12_bodyFrom_0.2.2.2.2.2.1 (by decide) (fun c9 => absurd (by decide) c9) (fun _ => ?_)
  refine lv_iload hx hb gX12_bodyFrom_0.2.2.2.2.2.2.1 (lv_at0 hl) ?_
  refine pS hC hK hl (m_above4 l G) si_X12_348 rfl rfl (Nat.le_of_ble_eq_true rfl) rm_24_1_1 ⟨by first | exact Nat.le_of_ble_eq_true rfl | exact Nat.zero_le _, by first | exact Nat.le_of_ble_eq_true rfl | exact Nat.zero_le _⟩ gX12_bodyFrom_0.2.2.2.2.2.2.2.1 (Keqr ?_)
  refine lv_istore (lv' := [(4, .int 0), (0, .ref h0), (1, .int 4), (2, .int 1), (3, .int xx)]) hx hb gX12_bodyFrom_0.2.2.2.2.2.2.2.2.1 hl (by decide) rfl (fun ls hl => ?_)
  refine lv_goto (tgt := 3) hx hb gX12_bodyFrom_0.2.2.2.2.2.2.2.2.2 (by decide) ?_
  refine lv_iload hx hb gX12_bodyFrom_0.2.2.1 (lv_at0 hl) ?_
  refine lv_iload_n hx hb gX12_bodyFrom_0.2.2.2.1 rfl (lv_at3 hl) ?_
  refine pS hC hK hl (m_hasOwn01 l G) si_X12_360 rfl rfl (Nat.le_of_ble_eq_true rfl) rm_24_1_2 ⟨by first | exact Nat.le_of_ble_eq_true rfl | exact Nat.zero_le _, by first | exact Nat.le_of_ble_eq_true rfl | exact Nat.zero_le _⟩ gX12_bodyFrom_0.2.2.2.2.1 (Keqr ?_)
  refine lv_if_ne (tgt := 22) hx hb gX12_bodyFrom_0.2.2.2.2.2.1 (by decide) (fun _ => ?_) (fun c9 => absurd c9 (by decide))
  refine lv_aload_n hx hb gX12_bodyFrom_1.1 rfl (lv_at1 hl) ?_
  refine lv_iload hx hb gX12_bodyFrom_1.2.1 (lv_at0 hl) ?_
  refine lv_iload_n hx hb gX12_bodyFrom_1.2.2.1 rfl (lv_at3 hl) ?_
  refine lv_iload_n hx hb gX12_bodyFrom_1.2.2.2.1 rfl (lv_at4 hl) ?_
  refine iV (wr := []) hC hK hl hP hD hS hA (m_body01 l G h0 xx nw nk mhasKept nt mtaped nr mrowMany mroundOf mroundFrom mouts nm mfromHour mtoHour ns mfrom mto msort misFault mdeep mcoded mlines nl nc nF np ntr nb mbestCost nso nsi nit nsh nsf nss nrc jr jd mnumber mwhose msize misParted fnrc (hjr) (hjd)) si_X12_363 [0, 1] [] sm_0_1 fm_0_1 nd_0_1 rfl rfl (by decide) rfl rfl rfl rfl rfl (Nat.le_of_ble_eq_true rfl) rm_24_15_6 ⟨Nat.le_of_ble_eq_true rfl, Nat.le_of_ble_eq_true rfl⟩ gX12_bodyFrom_1.2.2.2.2.1 (fun r6874 => Ktu3 fun jr16876 ip16877 gtrc6878 => ?_)
  intro H locs hr6874 hP hD hS
  try dsimp only at hr6874
  refine Kpdr (ws := [(h0, oX12 nw nk mhasKept nt mtaped nr mrowMany mroundOf mroundFrom mouts nm mfromHour mtoHour ns mfrom mto msort misFault mdeep mcoded mlines nl nc nF np ntr nb mbestCost nso nsi nit nsh nsf nss nrc (nI jr16876) (nI jd) mnumber mwhose msize ip16877), (nrc, iA G 30 gtrc6878)]) hP hD (fun hP hD => ?_)
  obtain ⟨hr6874, w6879⟩ := hr6874
  refine toQ hQ0 ?_
  exact RI (v := r6874) hC hP hD hS [0, 1] (jr16876, ip16877, gtrc6878) rfl rfl (by decide) (⟨trivial, by omega⟩) rfl gX12_bodyFrom_1.2.2.2.2.2
def K_m_from51 (l : Launch) (G : GG) (h0 : Nat) (xx : Int32) (nw : Nat) (nk : Nat) (mhasKept : Int32) (nt : Nat) (mtaped : Int32) (nr : Nat) (mrowMany : Int32) (mroundOf : Int32) (mroundFrom : Int32) (mouts : Int32) (nm : Nat) (mfromHour : Int32) (mtoHour : Int32) (ns : Nat) (mfrom : Int32) (mto : Int32) (msort : Int32) (misFault : Int32) (mdeep : Int32) (mcoded : Int32) (mlines : Int32) (nl : Nat) (nc : Nat) (nF : Nat) (np : Nat) (ntr : Nat) (nb : Nat) (mbestCost : Int32) (nso : Nat) (nsi : Nat) (nit : Nat) (nsh : Nat) (nsf : Nat) (nss : Nat) (nrc : Nat) (jr : Nat) (jd : Nat) (mnumber : Int32) (mwhose : Int32) (msize : Int32) (misParted : Int32) (fnrc : Nat → Int32) : Prop := MI l G yX12_bodyFrom cX12_bodyFrom 5 (some .int) 24 0 0 [.ref h0, .int 5, .int 1, .int xx] [(h0, oX12 nw nk mhasKept nt mtaped nr mrowMany mroundOf mroundFrom mouts nm mfromHour mtoHour ns mfrom mto msort misFault mdeep mcoded mlines nl nc nF np ntr nb mbestCost nso nsi nit nsh nsf nss nrc (nI jr) (nI jd) mnumber mwhose msize misParted), (nrc, iA G 30 fnrc)] (fun (r : Int32) (u : Nat × Int32 × (Nat → Int32)) => (True) ∧ (u.1 ≤ 30)) (fun u : Nat × Int32 × (Nat → Int32) => [(h0, oX12 nw nk mhasKept nt mtaped nr mrowMany mroundOf mroundFrom mouts nm mfromHour mtoHour ns mfrom mto msort misFault mdeep mcoded mlines nl nc nF np ntr nb mbestCost nso nsi nit nsh nsf nss nrc (nI u.1) (nI jd) mnumber mwhose msize u.2.1), (nrc, iA G 30 u.2.2)])
set_option maxHeartbeats 4000000 in
set_option maxRecDepth 100000 in
theorem m_from51 (l : Launch) (G : GG) (h0 : Nat) (xx : Int32) (nw : Nat) (nk : Nat) (mhasKept : Int32) (nt : Nat) (mtaped : Int32) (nr : Nat) (mrowMany : Int32) (mroundOf : Int32) (mroundFrom : Int32) (mouts : Int32) (nm : Nat) (mfromHour : Int32) (mtoHour : Int32) (ns : Nat) (mfrom : Int32) (mto : Int32) (msort : Int32) (misFault : Int32) (mdeep : Int32) (mcoded : Int32) (mlines : Int32) (nl : Nat) (nc : Nat) (nF : Nat) (np : Nat) (ntr : Nat) (nb : Nat) (mbestCost : Int32) (nso : Nat) (nsi : Nat) (nit : Nat) (nsh : Nat) (nsf : Nat) (nss : Nat) (nrc : Nat) (jr : Nat) (jd : Nat) (mnumber : Int32) (mwhose : Int32) (msize : Int32) (misParted : Int32) (fnrc : Nat → Int32) (hjr : jr ≤ 30) (hjd : jd < 7) : K_m_from51 l G h0 xx nw nk mhasKept nt mtaped nr mrowMany mroundOf mroundFrom mouts nm mfromHour mtoHour ns mfrom mto msort misFault mdeep mcoded mlines nl nc nF np ntr nb mbestCost nso nsi nit nsh nsf nss nrc jr jd mnumber mwhose msize misParted fnrc := by
  refine MI.start (by decide +kernel) (Nat.le_of_ble_eq_true rfl) ?_
  intro p e s m below meth c A ls hC hK hP hD hS hA hl
  refine absQ (fun Q0 hQ0 => ?_)
  have hl : lv_has ls 5 [(0, .ref h0), (1, .int 5), (2, .int 1), (3, .int xx)] := hl
  refine Kan8 hC (fun hx hb hr hml hB hown hlocks hnm => ?_)
  refine lv_iload_n hx hb gX12_bodyFrom_0.1 rfl (lv_at1 hl) ?_
  refine lv_istore (lv' := [(4, .int 5), (0, .ref h0), (1, .int 5), (2, .int 1), (3, .int xx)]) hx hb gX12_bodyFrom_0.2.1 hl (by decide) rfl (fun ls hl => ?_)
  refine lv_iload hx hb gX12_bodyFrom_0.2.2.1 (lv_at0 hl) ?_
  refine lv_iload_n hx hb gX12_bodyFrom_0.2.2.2.1 rfl (lv_at3 hl) ?_
  refine pS hC hK hl (m_hasOwn51 l G) si_X12_360 rfl rfl (Nat.le_of_ble_eq_true rfl) rm_24_1_2 ⟨by first | exact Nat.le_of_ble_eq_true rfl | exact Nat.zero_le _, by first | exact Nat.le_of_ble_eq_true rfl | exact Nat.zero_le _⟩ gX12_bodyFrom_0.2.2.2.2.1 (Keqr ?_)
  refine lv_if_ne (tgt := 22) hx hb gX12_bodyFrom_0.2.2.2.2.2.1 (by decide) (fun c9 => absurd (by decide) c9) (fun _ => ?_)
  refine lv_iload hx hb gX12_bodyFrom_0.2.2.2.2.2.2.1 (lv_at0 hl) ?_
  refine pS hC hK hl (m_above5 l G) si_X12_348 rfl rfl (Nat.le_of_ble_eq_true rfl) rm_24_1_1 ⟨by first | exact Nat.le_of_ble_eq_true rfl | exact Nat.zero_le _, by first | exact Nat.le_of_ble_eq_true rfl | exact Nat.zero_le _⟩ gX12_bodyFrom_0.2.2.2.2.2.2.2.1 (Keqr ?_)
  refine lv_istore (lv' := [(4, .int 4), (0, .ref h0), (1, .int 5), (2, .int 1), (3, .int xx)]) hx hb gX12_bodyFrom_0.2.2.2.2.2.2.2.2.1 hl (by decide) rfl (fun ls hl => ?_)
  refine lv_goto (tgt := 3) hx hb gX12_bodyFrom_0.2.2.2.2.2.2.2.2.2 (by decide) ?_
  refine lv_iload hx hb gX12_bodyFrom_0.2.2.1 (lv_at0 hl) ?_
  refine lv_iload_n hx hb gX12_bodyFrom_0.2.2.2.1 rfl (lv_at3 hl) ?_
  refine pS hC hK hl (m_hasOwn41 l G) si_X12_360 rfl rfl (Nat.le_of_ble_eq_true rfl) rm_24_1_2 ⟨by first | exact Nat.le_of_ble_eq_true rfl | exact Nat.zero_le _, by first | exact Nat.le_of_ble_eq_true rfl | exact Nat.zero_le _⟩ gX12_bodyFrom_0.2.2.2.2.1 (Keqr ?_)
  refine lv_if_ne (tgt := 22) hx hb gX12_bodyFrom_0.2.2.2.2.2.1 (by decide) (fun c9 => absurd (by decide) c9) (fun _ => ?_)
  refine lv_iload hx hb gX12_bodyFrom_0.2.2.2.2.2.2.1 (lv_at0 hl) ?_
  refine pS hC hK hl (m_above4 l G) si_X12_348 rfl rfl (Nat.le_of_ble_eq_true rfl) rm_24_1_1 ⟨by first | exact Nat.le_of_ble_eq_true rfl | exact Nat.zero_le _, by first | exact Nat.le_of_ble_eq_true rfl | exact Nat.zero_le _⟩ gX12_bodyFrom_0.2.2.2.2.2.2.2.1 (Keqr ?_)
  refine lv_istore (lv' := [(4, .int 0), (0, .ref h0), (1, .int 5), (2, .int 1), (3, .int xx)]) hx hb gX12_bodyFrom_0.2.2.2.2.2.2.2.2.1 hl (by decide) rfl (fun ls hl => ?_)
  refine lv_goto (tgt := 3) hx hb gX12_bodyFrom_0.2.2.2.2.2.2.2.2.2 (by decide) ?_
  refine lv_iload hx hb gX12_bodyFrom_0.2.2.1 (lv_at0 hl) ?_
  refine lv_iload_n hx hb gX12_bodyFrom_0.2.2.2.1 rfl (lv_at3 hl) ?_
  refine pS hC hK hl (m_hasOwn01 l G) si_X12_360 rfl rfl (Nat.le_of_ble_eq_true rfl) rm_24_1_2 ⟨by first | exact Nat.le_of_ble_eq_true rfl | exact Nat.zero_le _, by first | exact Nat.le_of_ble_eq_true rfl | exact Nat.zero_le _⟩ gX12_bodyFrom_0.2.2.2.2.1 (Keqr ?_)
  refine lv_if_ne (tgt := 22) hx hb gX12_bodyFrom_0.2.2.2.2.2.1 (by decide) (fun _ => ?_) (fun c9 => absurd c9 (by decide))
  refine lv_aload_n hx hb gX12_bodyFrom_1.1 rfl (lv_at1 hl) ?_
  refine lv_iload hx hb gX12_bodyFrom_1.2.1 (lv_at0 hl) ?_
  refine lv_iload_n hx hb gX12_bodyFrom_1.2.2.1 rfl (lv_at3 hl) ?_
  refine lv_iload_n hx hb gX12_bodyFrom_1.2.2.2.1 rfl (lv_at4 hl) ?_
  refine iV (wr := []) hC hK hl hP hD hS hA (m_body01 l G h0 xx nw nk mhasKept nt mtaped nr mrowMany mroundOf mroundFrom mouts nm mfromHour mtoHour ns mfrom mto msort misFault mdeep mcoded mlines nl nc nF np ntr nb mbestCost nso nsi nit nsh nsf nss nrc jr jd mnumber mwhose msize misParted fnrc (hjr) (hjd)) si_X12_363 [0, 1] [] sm_0_1 fm_0_1 nd_0_1 rfl rfl (by decide) rfl rfl rfl rfl rfl (Nat.le_of_ble_eq_true rfl) rm_24_15_6 ⟨Nat.le_of_ble_eq_true rfl, Nat.le_of_ble_eq_true rfl⟩ gX12_bodyFrom_1.2.2.2.2.1 (fun r6890 => Ktu3 fun jr16892 ip16893 gtrc6894 => ?_)
  intro H locs hr6890 hP hD hS
  try dsimp only at hr6890
  refine Kpdr (ws := [(h0, oX12 nw nk mhasKept nt mtaped nr mrowMany mroundOf mroundFrom mouts nm mfromHour mtoHour ns mfrom mto msort misFault mdeep mcoded mlines nl nc nF np ntr nb mbestCost nso nsi nit nsh nsf nss nrc (nI jr16892) (nI jd) mnumber mwhose msize ip16893), (nrc, iA G 30 gtrc6894)]) hP hD (fun hP hD => ?_)
  obtain ⟨hr6890, w6895⟩ := hr6890
  refine toQ hQ0 ?_
  exact RI (v := r6890) hC hP hD hS [0, 1] (jr16892, ip16893, gtrc6894) rfl rfl (by decide) (⟨trivial, by omega⟩) rfl gX12_bodyFrom_1.2.2.2.2.2
def K_m_from61 (l : Launch) (G : GG) (h0 : Nat) (xx : Int32) (nw : Nat) (nk : Nat) (mhasKept : Int32) (nt : Nat) (mtaped : Int32) (nr : Nat) (mrowMany : Int32) (mroundOf : Int32) (mroundFrom : Int32) (mouts : Int32) (nm : Nat) (mfromHour : Int32) (mtoHour : Int32) (ns : Nat) (mfrom : Int32) (mto : Int32) (msort : Int32) (misFault : Int32) (mdeep : Int32) (mcoded : Int32) (mlines : Int32) (nl : Nat) (nc : Nat) (nF : Nat) (np : Nat) (ntr : Nat) (nb : Nat) (mbestCost : Int32) (nso : Nat) (nsi : Nat) (nit : Nat) (nsh : Nat) (nsf : Nat) (nss : Nat) (nrc : Nat) (jr : Nat) (jd : Nat) (mnumber : Int32) (mwhose : Int32) (msize : Int32) (misParted : Int32) (fnrc : Nat → Int32) : Prop := MI l G yX12_bodyFrom cX12_bodyFrom 5 (some .int) 24 0 0 [.ref h0, .int 6, .int 1, .int xx] [(h0, oX12 nw nk mhasKept nt mtaped nr mrowMany mroundOf mroundFrom mouts nm mfromHour mtoHour ns mfrom mto msort misFault mdeep mcoded mlines nl nc nF np ntr nb mbestCost nso nsi nit nsh nsf nss nrc (nI jr) (nI jd) mnumber mwhose msize misParted), (nrc, iA G 30 fnrc)] (fun (r : Int32) (u : Nat × Int32 × (Nat → Int32)) => (True) ∧ (u.1 ≤ 30)) (fun u : Nat × Int32 × (Nat → Int32) => [(h0, oX12 nw nk mhasKept nt mtaped nr mrowMany mroundOf mroundFrom mouts nm mfromHour mtoHour ns mfrom mto msort misFault mdeep mcoded mlines nl nc nF np ntr nb mbestCost nso nsi nit nsh nsf nss nrc (nI u.1) (nI jd) mnumber mwhose msize u.2.1), (nrc, iA G 30 u.2.2)])
set_option maxHeartbeats 4000000 in
set_option maxRecDepth 100000 in
theorem m_from61 (l : Launch) (G : GG) (h0 : Nat) (xx : Int32) (nw : Nat) (nk : Nat) (mhasKept : Int32) (nt : Nat) (mtaped : Int32) (nr : Nat) (mrowMany : Int32) (mroundOf : Int32) (mroundFrom : Int32) (mouts : Int32) (nm : Nat) (mfromHour : Int32) (mtoHour : Int32) (ns : Nat) (mfrom : Int32) (mto : Int32) (msort : Int32) (misFault : Int32) (mdeep : Int32) (mcoded : Int32) (mlines : Int32) (nl : Nat) (nc : Nat) (nF : Nat) (np : Nat) (ntr : Nat) (nb : Nat) (mbestCost : Int32) (nso : Nat) (nsi : Nat) (nit : Nat) (nsh : Nat) (nsf : Nat) (nss : Nat) (nrc : Nat) (jr : Nat) (jd : Nat) (mnumber : Int32) (mwhose : Int32) (msize : Int32) (misParted : Int32) (fnrc : Nat → Int32) (hjr : jr ≤ 30) (hjd : jd < 7) : K_m_from61 l G h0 xx nw nk mhasKept nt mtaped nr mrowMany mroundOf mroundFrom mouts nm mfromHour mtoHour ns mfrom mto msort misFault mdeep mcoded mlines nl nc nF np ntr nb mbestCost nso nsi nit nsh nsf nss nrc jr jd mnumber mwhose msize misParted fnrc := by
  refine MI.start (by decide +kernel) (Nat.le_of_ble_eq_true rfl) ?_
  intro p e s m below meth c A ls hC hK hP hD hS hA hl
  refine absQ (fun Q0 hQ0 => ?_)
  have hl : lv_has ls 5 [(0, .ref h0), (1, .int 6), (2, .int 1), (3, .int xx)] := hl
  refine Kan8 hC (fun hx hb hr hml hB hown hlocks hnm => ?_)
  refine lv_iload_n hx hb gX12_bodyFrom_0.1 rfl (lv_at1 hl) ?_
  refine lv_istore (lv' := [(4, .int 6), (0, .ref h0), (1, .int 6), (2, .int 1), (3, .int xx)]) hx hb gX12_bodyFrom_0.2.1 hl (by decide) rfl (fun ls hl => ?_)
  refine lv_iload hx hb gX12_bodyFrom_0.2.2.1 (lv_at0 hl) ?_
  refine lv_iload_n hx hb gX12_bodyFrom_0.2.2.2.1 rfl (lv_at3 hl) ?_
  refine pS hC hK hl (m_hasOwn61 l G) si_X12_360 rfl rfl (Nat.le_of_ble_eq_true rfl) rm_24_1_2 ⟨by first | exact Nat.le_of_ble_eq_true rfl | exact Nat.zero_le _, by first | exact Nat.le_of_ble_eq_true rfl | exact Nat.zero_le _⟩ gX12_bodyFrom_0.2.2.2.2.1 (Keqr ?_)
  refine lv_if_ne (tgt := 22) hx hb gX12_bodyFrom_0.2.2.2.2.2.1 (by decide) (fun c9 => absurd (by decide) c9) (fun _ => ?_)
  refine lv_iload hx hb gX12_bodyFrom_0.2.2.2.2.2.2.1 (lv_at0 hl) ?_
  refine pS hC hK hl (m_above6 l G) si_X12_348 rfl rfl (Nat.le_of_ble_eq_true rfl) rm_24_1_1 ⟨by first | exact Nat.le_of_ble_eq_true rfl | exact Nat.zero_le _, by first | exact Nat.le_of_ble_eq_true rfl | exact Nat.zero_le _⟩ gX12_bodyFrom_0.2.2.2.2.2.2.2.1 (Keqr ?_)
  refine lv_istore (lv' := [(4, .int 0), (0, .ref h0), (1, .int 6), (2, .int 1), (3, .int xx)]) hx hb gX12_bodyFrom_0.2.2.2.2.2.2.2.2.1 hl (by decide) rfl (fun ls hl => ?_)
  refine lv_goto (tgt := 3) hx hb gX12_bodyFrom_0.2.2.2.2.2.2.2.2.2 (by decide) ?_
  refine lv_iload hx hb gX12_bodyFrom_0.2.2.1 (lv_at0 hl) ?_
  refine lv_iload_n hx hb gX12_bodyFrom_0.2.2.2.1 rfl (lv_at3 hl) ?_
  refine pS hC hK hl (m_hasOwn01 l G) si_X12_360 rfl rfl (Nat.le_of_ble_eq_true rfl) rm_24_1_2 ⟨by first | exact Nat.le_of_ble_eq_true rfl | exact Nat.zero_le _, by first | exact Nat.le_of_ble_eq_true rfl | exact Nat.zero_le _⟩ gX12_bodyFrom_0.2.2.2.2.1 (Keqr ?_)
  refine lv_if_ne (tgt := 22) hx hb gX12_bodyFrom_0.2.2.2.2.2.1 (by decide) (fun _ => ?_) (fun c9 => absurd c9 (by decide))
  refine lv_aload_n hx hb gX12_bodyFrom_1.1 rfl (lv_at1 hl) ?_
  refine lv_iload hx hb gX12_bodyFrom_1.2.1 (lv_at0 hl) ?_
  refine lv_iload_n hx hb gX12_bodyFrom_1.2.2.1 rfl (lv_at3 hl) ?_
  refine lv_iload_n hx hb gX12_bodyFrom_1.2.2.2.1 rfl (lv_at4 hl) ?_
  refine iV (wr := []) hC hK hl hP hD hS hA (m_body01 l G h0 xx nw nk mhasKept nt mtaped nr mrowMany mroundOf mroundFrom mouts nm mfromHour mtoHour ns mfrom mto msort misFault mdeep mcoded mlines nl nc nF np ntr nb mbestCost nso nsi nit nsh nsf nss nrc jr jd mnumber mwhose msize misParted fnrc (hjr) (hjd)) si_X12_363 [0, 1] [] sm_0_1 fm_0_1 nd_0_1 rfl rfl (by decide) rfl rfl rfl rfl rfl (Nat.le_of_ble_eq_true rfl) rm_24_15_6 ⟨Nat.le_of_ble_eq_true rfl, Nat.le_of_ble_eq_true rfl⟩ gX12_bodyFrom_1.2.2.2.2.1 (fun r6902 => Ktu3 fun jr16904 ip16905 gtrc6906 => ?_)
  intro H locs hr6902 hP hD hS
  try dsimp only at hr6902
  refine Kpdr (ws := [(h0, oX12 nw nk mhasKept nt mtaped nr mrowMany mroundOf mroundFrom mouts nm mfromHour mtoHour ns mfrom mto msort misFault mdeep mcoded mlines nl nc nF np ntr nb mbestCost nso nsi nit nsh nsf nss nrc (nI jr16904) (nI jd) mnumber mwhose msize ip16905), (nrc, iA G 30 gtrc6906)]) hP hD (fun hP hD => ?_)
  obtain ⟨hr6902, w6907⟩ := hr6902
  refine toQ hQ0 ?_
  exact RI (v := r6902) hC hP hD hS [0, 1] (jr16904, ip16905, gtrc6906) rfl rfl (by decide) (⟨trivial, by omega⟩) rfl gX12_bodyFrom_1.2.2.2.2.2
def K_m_dealt1 (l : Launch) (G : GG) (h0 : Nat) (xx : Int32) (nw : Nat) (nk : Nat) (mhasKept : Int32) (nt : Nat) (mtaped : Int32) (nr : Nat) (mrowMany : Int32) (mroundOf : Int32) (mroundFrom : Int32) (mouts : Int32) (nm : Nat) (mfromHour : Int32) (mtoHour : Int32) (ns : Nat) (mfrom : Int32) (mto : Int32) (msort : Int32) (misFault : Int32) (mdeep : Int32) (mcoded : Int32) (mlines : Int32) (nl : Nat) (nc : Nat) (nF : Nat) (np : Nat) (ntr : Nat) (nb : Nat) (mbestCost : Int32) (nso : Nat) (nsi : Nat) (nit : Nat) (nsh : Nat) (nsf : Nat) (nss : Nat) (nrc : Nat) (jr : Nat) (jd : Nat) (mnumber : Int32) (mwhose : Int32) (msize : Int32) (misParted : Int32) (fnrc : Nat → Int32) : Prop := MI l G yX12_dealt cX12_dealt 3 (some .int) 26 0 0 [.ref h0, .int 1, .int xx] [(h0, oX12 nw nk mhasKept nt mtaped nr mrowMany mroundOf mroundFrom mouts nm mfromHour mtoHour ns mfrom mto msort misFault mdeep mcoded mlines nl nc nF np ntr nb mbestCost nso nsi nit nsh nsf nss nrc (nI jr) (nI jd) mnumber mwhose msize misParted), (nrc, iA G 30 fnrc)] (fun (r : Int32) (u : Nat × Int32 × (Nat → Int32)) => (True) ∧ (u.1 ≤ 30)) (fun u : Nat × Int32 × (Nat → Int32) => [(h0, oX12 nw nk mhasKept nt mtaped nr mrowMany mroundOf mroundFrom mouts nm mfromHour mtoHour ns mfrom mto msort misFault mdeep mcoded mlines nl nc nF np ntr nb mbestCost nso nsi nit nsh nsf nss nrc (nI u.1) (nI jd) mnumber mwhose msize u.2.1), (nrc, iA G 30 u.2.2)])
set_option maxHeartbeats 4000000 in
set_option maxRecDepth 100000 in
theorem m_dealt1 (l : Launch) (G : GG) (h0 : Nat) (xx : Int32) (nw : Nat) (nk : Nat) (mhasKept : Int32) (nt : Nat) (mtaped : Int32) (nr : Nat) (mrowMany : Int32) (mroundOf : Int32) (mroundFrom : Int32) (mouts : Int32) (nm : Nat) (mfromHour : Int32) (mtoHour : Int32) (ns : Nat) (mfrom : Int32) (mto : Int32) (msort : Int32) (misFault : Int32) (mdeep : Int32) (mcoded : Int32) (mlines : Int32) (nl : Nat) (nc : Nat) (nF : Nat) (np : Nat) (ntr : Nat) (nb : Nat) (mbestCost : Int32) (nso : Nat) (nsi : Nat) (nit : Nat) (nsh : Nat) (nsf : Nat) (nss : Nat) (nrc : Nat) (jr : Nat) (jd : Nat) (mnumber : Int32) (mwhose : Int32) (msize : Int32) (misParted : Int32) (fnrc : Nat → Int32) (hjr : jr ≤ 30) (hjd : jd < 7) : K_m_dealt1 l G h0 xx nw nk mhasKept nt mtaped nr mrowMany mroundOf mroundFrom mouts nm mfromHour mtoHour ns mfrom mto msort misFault mdeep mcoded mlines nl nc nF np ntr nb mbestCost nso nsi nit nsh nsf nss nrc jr jd mnumber mwhose msize misParted fnrc := by
  refine MI.start (by decide +kernel) (Nat.le_of_ble_eq_true rfl) ?_
  intro p e s m below meth c A ls hC hK hP hD hS hA hl
  refine absQ (fun Q0 hQ0 => ?_)
  have hl : lv_has ls 3 [(0, .ref h0), (1, .int 1), (2, .int xx)] := hl
  refine Kan8 hC (fun hx hb hr hml hB hown hlocks hnm => ?_)
  refine lv_aload_n hx hb gX12_dealt_0.1 rfl (lv_at0 hl) ?_
  refine lv_aload_n hx hb gX12_dealt_0.2.1 rfl (lv_at0 hl) ?_
  refine gf_X12_354 hC rfl hK hP 0 rfl rfl gX12_dealt_0.2.2.1 ?_
  refine lv_iload_n hx hb gX12_dealt_0.2.2.2.1 rfl (lv_at1 hl) ?_
  refine lv_iload_n hx hb gX12_dealt_0.2.2.2.2.1 rfl (lv_at2 hl) ?_
  rcases (show jd = 0 ∨ jd = 1 ∨ jd = 2 ∨ jd = 3 ∨ jd = 4 ∨ jd = 5 ∨ jd = 6 by omega) with rfl | rfl | rfl | rfl | rfl | rfl | rfl
  · refine iV (wr := []) hC hK hl hP hD hS hA (m_from01 l G h0 xx nw nk mhasKept nt mtaped nr mrowMany mroundOf mroundFrom mouts nm mfromHour mtoHour ns mfrom mto msort misFault mdeep mcoded mlines nl nc nF np ntr nb mbestCost nso nsi nit nsh nsf nss nrc jr 0 mnumber mwhose msize misParted fnrc (hjr) (hjd)) si_X12_357 [0, 1] [] sm_0_1 fm_0_1 nd_0_1 rfl rfl (by decide) rfl rfl rfl rfl rfl (Nat.le_of_ble_eq_true rfl) rm_26_16_5 ⟨Nat.le_of_ble_eq_true rfl, Nat.le_of_ble_eq_true rfl⟩ gX12_dealt_0.2.2.2.2.2.1 (fun r6908 => Ktu3 fun jr16910 ip16911 gtrc6912 => ?_)
    intro H locs hr6908 hP hD hS
    try dsimp only at hr6908
    refine Kpdr (ws := [(h0, oX12 nw nk mhasKept nt mtaped nr mrowMany mroundOf mroundFrom mouts nm mfromHour mtoHour ns mfrom mto msort misFault mdeep mcoded mlines nl nc nF np ntr nb mbestCost nso nsi nit nsh nsf nss nrc (nI jr16910) 0 mnumber mwhose msize ip16911), (nrc, iA G 30 gtrc6912)]) hP hD (fun hP hD => ?_)
    obtain ⟨hr6908, w6913⟩ := hr6908
    refine toQ hQ0 ?_
    exact RI (v := r6908) hC hP hD hS [0, 1] (jr16910, ip16911, gtrc6912) rfl rfl (by decide) (⟨trivial, by omega⟩) rfl gX12_dealt_0.2.2.2.2.2.2
  · refine iV (wr := []) hC hK hl hP hD hS hA (m_from11 l G h0 xx nw nk mhasKept nt mtaped nr mrowMany mroundOf mroundFrom mouts nm mfromHour mtoHour ns mfrom mto msort misFault mdeep mcoded mlines nl nc nF np ntr nb mbestCost nso nsi nit nsh nsf nss nrc jr 1 mnumber mwhose msize misParted fnrc (hjr) (hjd)) si_X12_357 [0, 1] [] sm_0_1 fm_0_1 nd_0_1 rfl rfl (by decide) rfl rfl rfl rfl rfl (Nat.le_of_ble_eq_true rfl) rm_26_18_5 ⟨Nat.le_of_ble_eq_true rfl, Nat.le_of_ble_eq_true rfl⟩ gX12_dealt_0.2.2.2.2.2.1 (fun r6914 => Ktu3 fun jr16916 ip16917 gtrc6918 => ?_)
    intro H locs hr6914 hP hD hS
    try dsimp only at hr6914
    refine Kpdr (ws := [(h0, oX12 nw nk mhasKept nt mtaped nr mrowMany mroundOf mroundFrom mouts nm mfromHour mtoHour ns mfrom mto msort misFault mdeep mcoded mlines nl nc nF np ntr nb mbestCost nso nsi nit nsh nsf nss nrc (nI jr16916) 1 mnumber mwhose msize ip16917), (nrc, iA G 30 gtrc6918)]) hP hD (fun hP hD => ?_)
    obtain ⟨hr6914, w6919⟩ := hr6914
    refine toQ hQ0 ?_
    exact RI (v := r6914) hC hP hD hS [0, 1] (jr16916, ip16917, gtrc6918) rfl rfl (by decide) (⟨trivial, by omega⟩) rfl gX12_dealt_0.2.2.2.2.2.2
  · refine iV (wr := []) hC hK hl hP hD hS hA (m_from21 l G h0 xx nw nk mhasKept nt mtaped nr mrowMany mroundOf mroundFrom mouts nm mfromHour mtoHour ns mfrom mto msort misFault mdeep mcoded mlines nl nc nF np ntr nb mbestCost nso nsi nit nsh nsf nss nrc jr 2 mnumber mwhose msize misParted fnrc (hjr) (hjd)) si_X12_357 [0, 1] [] sm_0_1 fm_0_1 nd_0_1 rfl rfl (by decide) rfl rfl rfl rfl rfl (Nat.le_of_ble_eq_true rfl) rm_26_24_5 ⟨Nat.le_of_ble_eq_true rfl, Nat.le_of_ble_eq_true rfl⟩ gX12_dealt_0.2.2.2.2.2.1 (fun r6920 => Ktu3 fun jr16922 ip16923 gtrc6924 => ?_)
    intro H locs hr6920 hP hD hS
    try dsimp only at hr6920
    refine Kpdr (ws := [(h0, oX12 nw nk mhasKept nt mtaped nr mrowMany mroundOf mroundFrom mouts nm mfromHour mtoHour ns mfrom mto msort misFault mdeep mcoded mlines nl nc nF np ntr nb mbestCost nso nsi nit nsh nsf nss nrc (nI jr16922) 2 mnumber mwhose msize ip16923), (nrc, iA G 30 gtrc6924)]) hP hD (fun hP hD => ?_)
    obtain ⟨hr6920, w6925⟩ := hr6920
    refine toQ hQ0 ?_
    exact RI (v := r6920) hC hP hD hS [0, 1] (jr16922, ip16923, gtrc6924) rfl rfl (by decide) (⟨trivial, by omega⟩) rfl gX12_dealt_0.2.2.2.2.2.2
  · refine iV (wr := []) hC hK hl hP hD hS hA (m_from31 l G h0 xx nw nk mhasKept nt mtaped nr mrowMany mroundOf mroundFrom mouts nm mfromHour mtoHour ns mfrom mto msort misFault mdeep mcoded mlines nl nc nF np ntr nb mbestCost nso nsi nit nsh nsf nss nrc jr 3 mnumber mwhose msize misParted fnrc (hjr) (hjd)) si_X12_357 [0, 1] [] sm_0_1 fm_0_1 nd_0_1 rfl rfl (by decide) rfl rfl rfl rfl rfl (Nat.le_of_ble_eq_true rfl) rm_26_20_5 ⟨Nat.le_of_ble_eq_true rfl, Nat.le_of_ble_eq_true rfl⟩ gX12_dealt_0.2.2.2.2.2.1 (fun r6926 => Ktu3 fun jr16928 ip16929 gtrc6930 => ?_)
    intro H locs hr6926 hP hD hS
    try dsimp only at hr6926
    refine Kpdr (ws := [(h0, oX12 nw nk mhasKept nt mtaped nr mrowMany mroundOf mroundFrom mouts nm mfromHour mtoHour ns mfrom mto msort misFault mdeep mcoded mlines nl nc nF np ntr nb mbestCost nso nsi nit nsh nsf nss nrc (nI jr16928) 3 mnumber mwhose msize ip16929), (nrc, iA G 30 gtrc6930)]) hP hD (fun hP hD => ?_)
    obtain ⟨hr6926, w6931⟩ := hr6926
    refine toQ hQ0 ?_
    exact RI (v := r6926) hC hP hD hS [0, 1] (jr16928, ip16929, gtrc6930) rfl rfl (by decide) (⟨trivial, by omega⟩) rfl gX12_dealt_0.2.2.2.2.2.2
  · refine iV (wr := []) hC hK hl hP hD hS hA (m_from41 l G h0 xx nw nk mhasKept nt mtaped nr mrowMany mroundOf mroundFrom mouts nm mfromHour mtoHour ns mfrom mto msort misFault mdeep mcoded mlines nl nc nF np ntr nb mbestCost nso nsi nit nsh nsf nss nrc jr 4 mnumber mwhose msize misParted fnrc (hjr) (hjd)) si_X12_357 [0, 1] [] sm_0_1 fm_0_1 nd_0_1 rfl rfl (by decide) rfl rfl rfl rfl rfl (Nat.le_of_ble_eq_true rfl) rm_26_24_5 ⟨Nat.le_of_ble_eq_true rfl, Nat.le_of_ble_eq_true rfl⟩ gX12_dealt_0.2.2.2.2.2.1 (fun r6932 => Ktu3 fun jr16934 ip16935 gtrc6936 => ?_)
    intro H locs hr6932 hP hD hS
    try dsimp only at hr6932
    refine Kpdr (ws := [(h0, oX12 nw nk mhasKept nt mtaped nr mrowMany mroundOf mroundFrom mouts nm mfromHour mtoHour ns mfrom mto msort misFault mdeep mcoded mlines nl nc nF np ntr nb mbestCost nso nsi nit nsh nsf nss nrc (nI jr16934) 4 mnumber mwhose msize ip16935), (nrc, iA G 30 gtrc6936)]) hP hD (fun hP hD => ?_)
    obtain ⟨hr6932, w6937⟩ := hr6932
    refine toQ hQ0 ?_
    exact RI (v := r6932) hC hP hD hS [0, 1] (jr16934, ip16935, gtrc6936) rfl rfl (by decide) (⟨trivial, by omega⟩) rfl gX12_dealt_0.2.2.2.2.2.2
  · refine iV (wr := []) hC hK hl hP hD hS hA (m_from51 l G h0 xx nw nk mhasKept nt mtaped nr mrowMany mroundOf mroundFrom mouts nm mfromHour mtoHour ns mfrom mto msort misFault mdeep mcoded mlines nl nc nF np ntr nb mbestCost nso nsi nit nsh nsf nss nrc jr 5 mnumber mwhose msize misParted fnrc (hjr) (hjd)) si_X12_357 [0, 1] [] sm_0_1 fm_0_1 nd_0_1 rfl rfl (by decide) rfl rfl rfl rfl rfl (Nat.le_of_ble_eq_true rfl) rm_26_24_5 ⟨Nat.le_of_ble_eq_true rfl, Nat.le_of_ble_eq_true rfl⟩ gX12_dealt_0.2.2.2.2.2.1 (fun r6938 => Ktu3 fun jr16940 ip16941 gtrc6942 => ?_)
    intro H locs hr6938 hP hD hS
    try dsimp only at hr6938
    refine Kpdr (ws := [(h0, oX12 nw nk mhasKept nt mtaped nr mrowMany mroundOf mroundFrom mouts nm mfromHour mtoHour ns mfrom mto msort misFault mdeep mcoded mlines nl nc nF np ntr nb mbestCost nso nsi nit nsh nsf nss nrc (nI jr16940) 5 mnumber mwhose msize ip16941), (nrc, iA G 30 gtrc6942)]) hP hD (fun hP hD => ?_)
    obtain ⟨hr6938, w6943⟩ := hr6938
    refine toQ hQ0 ?_
    exact RI (v := r6938) hC hP hD hS [0, 1] (jr16940, ip16941, gtrc6942) rfl rfl (by decide) (⟨trivial, by omega⟩) rfl gX12_dealt_0.2.2.2.2.2.2
  · refine iV (wr := []) hC hK hl hP hD hS hA (m_from61 l G h0 xx nw nk mhasKept nt mtaped nr mrowMany mroundOf mroundFrom mouts nm mfromHour mtoHour ns mfrom mto msort misFault mdeep mcoded mlines nl nc nF np ntr nb mbestCost nso nsi nit nsh nsf nss nrc jr 6 mnumber mwhose msize misParted fnrc (hjr) (hjd)) si_X12_357 [0, 1] [] sm_0_1 fm_0_1 nd_0_1 rfl rfl (by decide) rfl rfl rfl rfl rfl (Nat.le_of_ble_eq_true rfl) rm_26_24_5 ⟨Nat.le_of_ble_eq_true rfl, Nat.le_of_ble_eq_true rfl⟩ gX12_dealt_0.2.2.2.2.2.1 (fun r6944 => Ktu3 fun jr16946 ip16947 gtrc6948 => ?_)
    intro H locs hr6944 hP hD hS
    try dsimp only at hr6944
    refine Kpdr (ws := [(h0, oX12 nw nk mhasKept nt mtaped nr mrowMany mroundOf mroundFrom mouts nm mfromHour mtoHour ns mfrom mto msort misFault mdeep mcoded mlines nl nc nF np ntr nb mbestCost nso nsi nit nsh nsf nss nrc (nI jr16946) 6 mnumber mwhose msize ip16947), (nrc, iA G 30 gtrc6948)]) hP hD (fun hP hD => ?_)
    obtain ⟨hr6944, w6949⟩ := hr6944
    refine toQ hQ0 ?_
    exact RI (v := r6944) hC hP hD hS [0, 1] (jr16946, ip16947, gtrc6948) rfl rfl (by decide) (⟨trivial, by omega⟩) rfl gX12_dealt_0.2.2.2.2.2.2
def K_m_body02 (l : Launch) (G : GG) (h0 : Nat) (xx : Int32) (nw : Nat) (nk : Nat) (mhasKept : Int32) (nt : Nat) (mtaped : Int32) (nr : Nat) (mrowMany : Int32) (mroundOf : Int32) (mroundFrom : Int32) (mouts : Int32) (nm : Nat) (mfromHour : Int32) (mtoHour : Int32) (ns : Nat) (mfrom : Int32) (mto : Int32) (msort : Int32) (misFault : Int32) (mdeep : Int32) (mcoded : Int32) (mlines : Int32) (nl : Nat) (nc : Nat) (nF : Nat) (np : Nat) (ntr : Nat) (nb : Nat) (mbestCost : Int32) (nso : Nat) (nsi : Nat) (nit : Nat) (nsh : Nat) (nsf : Nat) (nss : Nat) (nrc : Nat) (jr : Nat) (jd : Nat) (mnumber : Int32) (mwhose : Int32) (msize : Int32) (misParted : Int32) (fnrc : Nat → Int32) : Prop := MI l G yX12_body cX12_body 6 (some .int) 27 0 0 [.ref h0, .int 0, .int 2, .int xx] [(h0, oX12 nw nk mhasKept nt mtaped nr mrowMany mroundOf mroundFrom mouts nm mfromHour mtoHour ns mfrom mto msort misFault mdeep mcoded mlines nl nc nF np ntr nb mbestCost nso nsi nit nsh nsf nss nrc (nI jr) (nI jd) mnumber mwhose msize misParted), (nrc, iA G 30 fnrc)] (fun (r : Int32) (u : Nat × Int32 × (Nat → Int32)) => (True) ∧ (u.1 ≤ 30)) (fun u : Nat × Int32 × (Nat → Int32) => [(h0, oX12 nw nk mhasKept nt mtaped nr mrowMany mroundOf mroundFrom mouts nm mfromHour mtoHour ns mfrom mto msort misFault mdeep mcoded mlines nl nc nF np ntr nb mbestCost nso nsi nit nsh nsf nss nrc (nI u.1) (nI jd) mnumber mwhose msize u.2.1), (nrc, iA G 30 u.2.2)])
set_option maxHeartbeats 4000000 in
set_option maxRecDepth 100000 in
theorem m_body02 (l : Launch) (G : GG) (h0 : Nat) (xx : Int32) (nw : Nat) (nk : Nat) (mhasKept : Int32) (nt : Nat) (mtaped : Int32) (nr : Nat) (mrowMany : Int32) (mroundOf : Int32) (mroundFrom : Int32) (mouts : Int32) (nm : Nat) (mfromHour : Int32) (mtoHour : Int32) (ns : Nat) (mfrom : Int32) (mto : Int32) (msort : Int32) (misFault : Int32) (mdeep : Int32) (mcoded : Int32) (mlines : Int32) (nl : Nat) (nc : Nat) (nF : Nat) (np : Nat) (ntr : Nat) (nb : Nat) (mbestCost : Int32) (nso : Nat) (nsi : Nat) (nit : Nat) (nsh : Nat) (nsf : Nat) (nss : Nat) (nrc : Nat) (jr : Nat) (jd : Nat) (mnumber : Int32) (mwhose : Int32) (msize : Int32) (misParted : Int32) (fnrc : Nat → Int32) (hjr : jr ≤ 30) (hjd : jd < 7) : K_m_body02 l G h0 xx nw nk mhasKept nt mtaped nr mrowMany mroundOf mroundFrom mouts nm mfromHour mtoHour ns mfrom mto msort misFault mdeep mcoded mlines nl nc nF np ntr nb mbestCost nso nsi nit nsh nsf nss nrc jr jd mnumber mwhose msize misParted fnrc := by
  refine MI.start (by decide +kernel) (Nat.le_of_ble_eq_true rfl) ?_
  intro p e s m below meth c A ls hC hK hP hD hS hA hl
  refine absQ (fun Q0 hQ0 => ?_)
  have hl : lv_has ls 6 [(0, .ref h0), (1, .int 0), (2, .int 2), (3, .int xx)] := hl
  refine Kan8 hC (fun hx hb hr hml hB hown hlocks hnm => ?_)
  refine lv_iconst (v := 4) hx hb gX12_body_0.1 (by decide) ?_
  refine lv_iload_n hx hb gX12_body_0.2.1 rfl (lv_at1 hl) ?_
  refine lv_imul hx hb gX12_body_0.2.2.1 ?_
  refine eqi (x1 := 0) (by decide) ?_
  refine lv_iload_n hx hb gX12_body_0.2.2.2.1 rfl (lv_at2 hl) ?_
  refine lv_iadd hx hb gX12_body_0.2.2.2.2.1 ?_
  refine eqi (x1 := 2) (by decide) ?_
  refine lv_tableIn (tgt := 140) hx hb gX12_body_0.2.2.2.2.2.1 (by decide) (by decide) rfl (by decide) ?_
  refine lv_aload_n hx hb gX12_body_2.2.2.2.2.1 rfl (lv_at0 hl) ?_
  refine lv_bipush (v := 12) hx hb gX12_body_2.2.2.2.2.2.1 (by decide) ?_
  refine vV (wr := []) hC hK hl hP hD hS hA (m_began l G h0 12 nw nk mhasKept nt mtaped nr mrowMany mroundOf mroundFrom mouts nm mfromHour mtoHour ns mfrom mto msort misFault mdeep mcoded mlines nl nc nF np ntr nb mbestCost nso nsi nit nsh nsf nss nrc jr (nI jd) mnumber mwhose msize misParted fnrc (hjr)) si_X12_366 [0, 1] [] sm_0_1 fm_0_1 nd_0_1 rfl rfl (by decide) rfl rfl rfl rfl rfl (Nat.le_of_ble_eq_true rfl) rm_27_1_2 ⟨Nat.le_of_ble_eq_true rfl, Nat.le_of_ble_eq_true rfl⟩ gX12_body_2.2.2.2.2.2.2.1 (Ktu2 fun jr16952 gtrc6953 => ?_)
  intro H locs hr6950 hP hD hS
  try dsimp only at hr6950
  refine Kpdr (ws := [(h0, oX12 nw nk mhasKept nt mtaped nr mrowMany mroundOf mroundFrom mouts nm mfromHour mtoHour ns mfrom mto msort misFault mdeep mcoded mlines nl nc nF np ntr nb mbestCost nso nsi nit nsh nsf nss nrc (nI jr16952) (nI jd) mnumber mwhose msize misParted), (nrc, iA G 30 gtrc6953)]) hP hD (fun hP hD => ?_)
  have w6954 := hr6950
  refine lv_aload_n hx hb gX12_body_2.2.2.2.2.2.2.2.1 rfl (lv_at0 hl) ?_
  refine lv_iconst (v := 1) hx hb gX12_body_2.2.2.2.2.2.2.2.2.1 (by decide) ?_
  refine lv_iload_n hx hb gX12_body_2.2.2.2.2.2.2.2.2.2 rfl (lv_at3 hl) ?_
  refine iV (wr := []) hC hK hl hP hD hS hA (m_dealt1 l G h0 xx nw nk mhasKept nt mtaped nr mrowMany mroundOf mroundFrom mouts nm mfromHour mtoHour ns mfrom mto msort misFault mdeep mcoded mlines nl nc nF np ntr nb mbestCost nso nsi nit nsh nsf nss nrc jr16952 jd mnumber mwhose msize misParted gtrc6953 (w6954) (hjd)) si_X12_372 [0, 1] [] sm_0_1 fm_0_1 nd_0_1 rfl rfl (by decide) rfl rfl rfl rfl rfl (Nat.le_of_ble_eq_true rfl) rm_27_26_3 ⟨Nat.le_of_ble_eq_true rfl, Nat.le_of_ble_eq_true rfl⟩ gX12_body_3.1 (fun r6955 => Ktu3 fun jr16957 ip16958 gtrc6959 => ?_)
  intro H locs hr6955 hP hD hS
  try dsimp only at hr6955
  refine Kpdr (ws := [(h0, oX12 nw nk mhasKept nt mtaped nr mrowMany mroundOf mroundFrom mouts nm mfromHour mtoHour ns mfrom mto msort misFault mdeep mcoded mlines nl nc nF np ntr nb mbestCost nso nsi nit nsh nsf nss nrc (nI jr16957) (nI jd) mnumber mwhose msize ip16958), (nrc, iA G 30 gtrc6959)]) hP hD (fun hP hD => ?_)
  obtain ⟨hr6955, w6960⟩ := hr6955
  refine lv_aload_n hx hb gX12_body_3.2.1 rfl (lv_at0 hl) ?_
  refine gf_X12_375 hC rfl hK hP 0 rfl rfl gX12_body_3.2.2.1 ?_
  refine lv_isub hx hb gX12_body_3.2.2.2.1 ?_
  refine toQ hQ0 ?_
  exact RI (v := r6955 - mwhose) hC hP hD hS [0, 1] (jr16957, ip16958, gtrc6959) rfl rfl (by decide) (⟨trivial, by omega⟩) rfl gX12_body_3.2.2.2.2.1
def K_m_from02 (l : Launch) (G : GG) (h0 : Nat) (xx : Int32) (nw : Nat) (nk : Nat) (mhasKept : Int32) (nt : Nat) (mtaped : Int32) (nr : Nat) (mrowMany : Int32) (mroundOf : Int32) (mroundFrom : Int32) (mouts : Int32) (nm : Nat) (mfromHour : Int32) (mtoHour : Int32) (ns : Nat) (mfrom : Int32) (mto : Int32) (msort : Int32) (misFault : Int32) (mdeep : Int32) (mcoded : Int32) (mlines : Int32) (nl : Nat) (nc : Nat) (nF : Nat) (np : Nat) (ntr : Nat) (nb : Nat) (mbestCost : Int32) (nso : Nat) (nsi : Nat) (nit : Nat) (nsh : Nat) (nsf : Nat) (nss : Nat) (nrc : Nat) (jr : Nat) (jd : Nat) (mnumber : Int32) (mwhose : Int32) (msize : Int32) (misParted : Int32) (fnrc : Nat → Int32) : Prop := MI l G yX12_bodyFrom cX12_bodyFrom 5 (some .int) 28 0 0 [.ref h0, .int 0, .int 2, .int xx] [(h0, oX12 nw nk mhasKept nt mtaped nr mrowMany mroundOf mroundFrom mouts nm mfromHour mtoHour ns mfrom mto msort misFault mdeep mcoded mlines nl nc nF np ntr nb mbestCost nso nsi nit nsh nsf nss nrc (nI jr) (nI jd) mnumber mwhose msize misParted), (nrc, iA G 30 fnrc)] (fun (r : Int32) (u : Nat × Int32 × (Nat → Int32)) => (True) ∧ (u.1 ≤ 30)) (fun u : Nat × Int32 × (Nat → Int32) => [(h0, oX12 nw nk mhasKept nt mtaped nr mrowMany mroundOf mroundFrom mouts nm mfromHour mtoHour ns mfrom mto msort misFault mdeep mcoded mlines nl nc nF np ntr nb mbestCost nso nsi nit nsh nsf nss nrc (nI u.1) (nI jd) mnumber mwhose msize u.2.1), (nrc, iA G 30 u.2.2)])
set_option maxHeartbeats 4000000 in
set_option maxRecDepth 100000 in
theorem m_from02 (l : Launch) (G : GG) (h0 : Nat) (xx : Int32) (nw : Nat) (nk : Nat) (mhasKept : Int32) (nt : Nat) (mtaped : Int32) (nr : Nat) (mrowMany : Int32) (mroundOf : Int32) (mroundFrom : Int32) (mouts : Int32) (nm : Nat) (mfromHour : Int32) (mtoHour : Int32) (ns : Nat) (mfrom : Int32) (mto : Int32) (msort : Int32) (misFault : Int32) (mdeep : Int32) (mcoded : Int32) (mlines : Int32) (nl : Nat) (nc : Nat) (nF : Nat) (np : Nat) (ntr : Nat) (nb : Nat) (mbestCost : Int32) (nso : Nat) (nsi : Nat) (nit : Nat) (nsh : Nat) (nsf : Nat) (nss : Nat) (nrc : Nat) (jr : Nat) (jd : Nat) (mnumber : Int32) (mwhose : Int32) (msize : Int32) (misParted : Int32) (fnrc : Nat → Int32) (hjr : jr ≤ 30) (hjd : jd < 7) : K_m_from02 l G h0 xx nw nk mhasKept nt mtaped nr mrowMany mroundOf mroundFrom mouts nm mfromHour mtoHour ns mfrom mto msort misFault mdeep mcoded mlines nl nc nF np ntr nb mbestCost nso nsi nit nsh nsf nss nrc jr jd mnumber mwhose msize misParted fnrc := by
  refine MI.start (by decide +kernel) (Nat.le_of_ble_eq_true rfl) ?_
  intro p e s m below meth c A ls hC hK hP hD hS hA hl
  refine absQ (fun Q0 hQ0 => ?_)
  have hl : lv_has ls 5 [(0, .ref h0), (1, .int 0), (2, .int 2), (3, .int xx)] := hl
  refine Kan8 hC (fun hx hb hr hml hB hown hlocks hnm => ?_)
  refine lv_iload_n hx hb gX12_bodyFrom_0.1 rfl (lv_at1 hl) ?_
  refine lv_istore (lv' := [(4, .int 0), (0, .ref h0), (1, .int 0), (2, .int 2), (3, .int xx)]) hx hb gX12_bodyFrom_0.2.1 hl (by decide) rfl (fun ls hl => ?_)
  refine lv_iload hx hb gX12_bodyFrom_0.2.2.1 (lv_at0 hl) ?_
  refine lv_iload_n hx hb gX12_bodyFrom_0.2.2.2.1 rfl (lv_at3 hl) ?_
  refine pS hC hK hl (m_hasOwn02 l G) si_X12_360 rfl rfl (Nat.le_of_ble_eq_true rfl) rm_28_1_2 ⟨by first | exact Nat.le_of_ble_eq_true rfl | exact Nat.zero_le _, by first | exact Nat.le_of_ble_eq_true rfl | exact Nat.zero_le _⟩ gX12_bodyFrom_0.2.2.2.2.1 (Keqr ?_)
  refine lv_if_ne (tgt := 22) hx hb gX12_bodyFrom_0.2.2.2.2.2.1 (by decide) (fun _ => ?_) (fun c9 => absurd c9 (by decide))
  refine lv_aload_n hx hb gX12_bodyFrom_1.1 rfl (lv_at1 hl) ?_
  refine lv_iload hx hb gX12_bodyFrom_1.2.1 (lv_at0 hl) ?_
  refine lv_iload_n hx hb gX12_bodyFrom_1.2.2.1 rfl (lv_at3 hl) ?_
  refine lv_iload_n hx hb gX12_bodyFrom_1.2.2.2.1 rfl (lv_at4 hl) ?_
  refine iV (wr := []) hC hK hl hP hD hS hA (m_body02 l G h0 xx nw nk mhasKept nt mtaped nr mrowMany mroundOf mroundFrom mouts nm mfromHour mtoHour ns mfrom mto msort misFault mdeep mcoded mlines nl nc nF np ntr nb mbestCost nso nsi nit nsh nsf nss nrc jr jd mnumber mwhose msize misParted fnrc (hjr) (hjd)) si_X12_363 [0, 1] [] sm_0_1 fm_0_1 nd_0_1 rfl rfl (by decide) rfl rfl rfl rfl rfl (Nat.le_of_ble_eq_true rfl) rm_28_27_6 ⟨Nat.le_of_ble_eq_true rfl, Nat.le_of_ble_eq_true rfl⟩ gX12_bodyFrom_1.2.2.2.2.1 (fun r6963 => Ktu3 fun jr16965 ip16966 gtrc6967 => ?_)
  intro H locs hr6963 hP hD hS
  try dsimp only at hr6963
  refine Kpdr (ws := [(h0, oX12 nw nk mhasKept nt mtaped nr mrowMany mroundOf mroundFrom mouts nm mfromHour mtoHour ns mfrom mto msort misFault mdeep mcoded mlines nl nc nF np ntr nb mbestCost nso nsi nit nsh nsf nss nrc (nI jr16965) (nI jd) mnumber mwhose msize ip16966), (nrc, iA G 30 gtrc6967)]) hP hD (fun hP hD => ?_)
  obtain ⟨hr6963, w6968⟩ := hr6963
  refine toQ hQ0 ?_
  exact RI (v := r6963) hC hP hD hS [0, 1] (jr16965, ip16966, gtrc6967) rfl rfl (by decide) (⟨trivial, by omega⟩) rfl gX12_bodyFrom_1.2.2.2.2.2
def K_m_body22 (l : Launch) (G : GG) (h0 : Nat) (xx : Int32) (nw : Nat) (nk : Nat) (mhasKept : Int32) (nt : Nat) (mtaped : Int32) (nr : Nat) (mrowMany : Int32) (mroundOf : Int32) (mroundFrom : Int32) (mouts : Int32) (nm : Nat) (mfromHour : Int32) (mtoHour : Int32) (ns : Nat) (mfrom : Int32) (mto : Int32) (msort : Int32) (misFault : Int32) (mdeep : Int32) (mcoded : Int32) (mlines : Int32) (nl : Nat) (nc : Nat) (nF : Nat) (np : Nat) (ntr : Nat) (nb : Nat) (mbestCost : Int32) (nso : Nat) (nsi : Nat) (nit : Nat) (nsh : Nat) (nsf : Nat) (nss : Nat) (nrc : Nat) (jr : Nat) (jd : Nat) (mnumber : Int32) (mwhose : Int32) (msize : Int32) (misParted : Int32) (fnrc : Nat → Int32) : Prop := MI l G yX12_body cX12_body 6 (some .int) 29 0 0 [.ref h0, .int 2, .int 2, .int xx] [(h0, oX12 nw nk mhasKept nt mtaped nr mrowMany mroundOf mroundFrom mouts nm mfromHour mtoHour ns mfrom mto msort misFault mdeep mcoded mlines nl nc nF np ntr nb mbestCost nso nsi nit nsh nsf nss nrc (nI jr) (nI jd) mnumber mwhose msize misParted), (nrc, iA G 30 fnrc)] (fun (r : Int32) (u : Nat × Int32 × (Nat → Int32)) => (True) ∧ (u.1 ≤ 30)) (fun u : Nat × Int32 × (Nat → Int32) => [(h0, oX12 nw nk mhasKept nt mtaped nr mrowMany mroundOf mroundFrom mouts nm mfromHour mtoHour ns mfrom mto msort misFault mdeep mcoded mlines nl nc nF np ntr nb mbestCost nso nsi nit nsh nsf nss nrc (nI u.1) (nI jd) mnumber mwhose msize u.2.1), (nrc, iA G 30 u.2.2)])
set_option maxHeartbeats 4000000 in
set_option maxRecDepth 100000 in
theorem m_body22 (l : Launch) (G : GG) (h0 : Nat) (xx : Int32) (nw : Nat) (nk : Nat) (mhasKept : Int32) (nt : Nat) (mtaped : Int32) (nr : Nat) (mrowMany : Int32) (mroundOf : Int32) (mroundFrom : Int32) (mouts : Int32) (nm : Nat) (mfromHour : Int32) (mtoHour : Int32) (ns : Nat) (mfrom : Int32) (mto : Int32) (msort : Int32) (misFault : Int32) (mdeep : Int32) (mcoded : Int32) (mlines : Int32) (nl : Nat) (nc : Nat) (nF : Nat) (np : Nat) (ntr : Nat) (nb : Nat) (mbestCost : Int32) (nso : Nat) (nsi : Nat) (nit : Nat) (nsh : Nat) (nsf : Nat) (nss : Nat) (nrc : Nat) (jr : Nat) (jd : Nat) (mnumber : Int32) (mwhose : Int32) (msize : Int32) (misParted : Int32) (fnrc : Nat → Int32) (hjr : jr ≤ 30) (hjd : jd < 7) : K_m_body22 l G h0 xx nw nk mhasKept nt mtaped nr mrowMany mroundOf mroundFrom mouts nm mfromHour mtoHour ns mfrom mto msort misFault mdeep mcoded mlines nl nc nF np ntr nb mbestCost nso nsi nit nsh nsf nss nrc jr jd mnumber mwhose msize misParted fnrc := by
  refine MI.start (by decide +kernel) (Nat.le_of_ble_eq_true rfl) ?_
  intro p e s m below meth c A ls hC hK hP hD hS hA hl
  refine absQ (fun Q0 hQ0 => ?_)
  have hl : lv_has ls 6 [(0, .ref h0), (1, .int 2), (2, .int 2), (3, .int xx)] := hl
  refine Kan8 hC (fun hx hb hr hml hB hown hlocks hnm => ?_)
  refine lv_iconst (v := 4) hx hb gX12_body_0.1 (by decide) ?_
  refine lv_iload_n hx hb gX12_body_0.2.1 rfl (lv_at1 hl) ?_
  refine lv_imul hx hb gX12_body_0.2.2.1 ?_
  refine eqi (x1 := 8) (by decide) ?_
  refine lv_iload_n hx hb gX12_body_0.2.2.2.1 rfl (lv_at2 hl) ?_
  refine lv_iadd hx hb gX12_body_0.2.2.2.2.1 ?_
  refine eqi (x1 := 10) (by decide) ?_
  refine lv_tableIn (tgt := 226) hx hb gX12_body_0.2.2.2.2.2.1 (by decide) (by decide) rfl (by decide) ?_
  refine lv_aload_n hx hb gX12_body_7.2.2.2.1 rfl (lv_at0 hl) ?_
  refine lv_bipush (v := 30) hx hb gX12_body_7.2.2.2.2.1 (by decide) ?_
  refine vV (wr := []) hC hK hl hP hD hS hA (m_began l G h0 30 nw nk mhasKept nt mtaped nr mrowMany mroundOf mroundFrom mouts nm mfromHour mtoHour ns mfrom mto msort misFault mdeep mcoded mlines nl nc nF np ntr nb mbestCost nso nsi nit nsh nsf nss nrc jr (nI jd) mnumber mwhose msize misParted fnrc (hjr)) si_X12_366 [0, 1] [] sm_0_1 fm_0_1 nd_0_1 rfl rfl (by decide) rfl rfl rfl rfl rfl (Nat.le_of_ble_eq_true rfl) rm_29_1_2 ⟨Nat.le_of_ble_eq_true rfl, Nat.le_of_ble_eq_true rfl⟩ gX12_body_7.2.2.2.2.2.1 (Ktu2 fun jr16971 gtrc6972 => ?_)
  intro H locs hr6969 hP hD hS
  try dsimp only at hr6969
  refine Kpdr (ws := [(h0, oX12 nw nk mhasKept nt mtaped nr mrowMany mroundOf mroundFrom mouts nm mfromHour mtoHour ns mfrom mto msort misFault mdeep mcoded mlines nl nc nF np ntr nb mbestCost nso nsi nit nsh nsf nss nrc (nI jr16971) (nI jd) mnumber mwhose msize misParted), (nrc, iA G 30 gtrc6972)]) hP hD (fun hP hD => ?_)
  have w6973 := hr6969
  refine lv_aload_n hx hb gX12_body_7.2.2.2.2.2.2.1 rfl (lv_at0 hl) ?_
  refine lv_iconst (v := 0) hx hb gX12_body_7.2.2.2.2.2.2.2.1 (by decide) ?_
  refine lv_iconst (v := 2) hx hb gX12_body_7.2.2.2.2.2.2.2.2.1 (by decide) ?_
  refine lv_iload_n hx hb gX12_body_7.2.2.2.2.2.2.2.2.2 rfl (lv_at3 hl) ?_
  refine iV (wr := []) hC hK hl hP hD hS hA (m_from02 l G h0 xx nw nk mhasKept nt mtaped nr mrowMany mroundOf mroundFrom mouts nm mfromHour mtoHour ns mfrom mto msort misFault mdeep mcoded mlines nl nc nF np ntr nb mbestCost nso nsi nit nsh nsf nss nrc jr16971 jd mnumber mwhose msize misParted gtrc6972 (w6973) (hjd)) si_X12_357 [0, 1] [] sm_0_1 fm_0_1 nd_0_1 rfl rfl (by decide) rfl rfl rfl rfl rfl (Nat.le_of_ble_eq_true rfl) rm_29_28_5 ⟨Nat.le_of_ble_eq_true rfl, Nat.le_of_ble_eq_true rfl⟩ gX12_body_8.1 (fun r6974 => Ktu3 fun jr16976 ip16977 gtrc6978 => ?_)
  intro H locs hr6974 hP hD hS
  try dsimp only at hr6974
  refine Kpdr (ws := [(h0, oX12 nw nk mhasKept nt mtaped nr mrowMany mroundOf mroundFrom mouts nm mfromHour mtoHour ns mfrom mto msort misFault mdeep mcoded mlines nl nc nF np ntr nb mbestCost nso nsi nit nsh nsf nss nrc (nI jr16976) (nI jd) mnumber mwhose msize ip16977), (nrc, iA G 30 gtrc6978)]) hP hD (fun hP hD => ?_)
  obtain ⟨hr6974, w6979⟩ := hr6974
  refine lv_iconst (v := 3) hx hb gX12_body_8.2.1 (by decide) ?_
  refine lv_imul hx hb gX12_body_8.2.2.1 ?_
  refine toQ hQ0 ?_
  exact RI (v := r6974 * 3) hC hP hD hS [0, 1] (jr16976, ip16977, gtrc6978) rfl rfl (by decide) (⟨trivial, by omega⟩) rfl gX12_body_8.2.2.2.1
def K_m_from22 (l : Launch) (G : GG) (h0 : Nat) (xx : Int32) (nw : Nat) (nk : Nat) (mhasKept : Int32) (nt : Nat) (mtaped : Int32) (nr : Nat) (mrowMany : Int32) (mroundOf : Int32) (mroundFrom : Int32) (mouts : Int32) (nm : Nat) (mfromHour : Int32) (mtoHour : Int32) (ns : Nat) (mfrom : Int32) (mto : Int32) (msort : Int32) (misFault : Int32) (mdeep : Int32) (mcoded : Int32) (mlines : Int32) (nl : Nat) (nc : Nat) (nF : Nat) (np : Nat) (ntr : Nat) (nb : Nat) (mbestCost : Int32) (nso : Nat) (nsi : Nat) (nit : Nat) (nsh : Nat) (nsf : Nat) (nss : Nat) (nrc : Nat) (jr : Nat) (jd : Nat) (mnumber : Int32) (mwhose : Int32) (msize : Int32) (misParted : Int32) (fnrc : Nat → Int32) : Prop := MI l G yX12_bodyFrom cX12_bodyFrom 5 (some .int) 30 0 0 [.ref h0, .int 2, .int 2, .int xx] [(h0, oX12 nw nk mhasKept nt mtaped nr mrowMany mroundOf mroundFrom mouts nm mfromHour mtoHour ns mfrom mto msort misFault mdeep mcoded mlines nl nc nF np ntr nb mbestCost nso nsi nit nsh nsf nss nrc (nI jr) (nI jd) mnumber mwhose msize misParted), (nrc, iA G 30 fnrc)] (fun (r : Int32) (u : Nat × Int32 × (Nat → Int32)) => (True) ∧ (u.1 ≤ 30)) (fun u : Nat × Int32 × (Nat → Int32) => [(h0, oX12 nw nk mhasKept nt mtaped nr mrowMany mroundOf mroundFrom mouts nm mfromHour mtoHour ns mfrom mto msort misFault mdeep mcoded mlines nl nc nF np ntr nb mbestCost nso nsi nit nsh nsf nss nrc (nI u.1) (nI jd) mnumber mwhose msize u.2.1), (nrc, iA G 30 u.2.2)])
set_option maxHeartbeats 4000000 in
set_option maxRecDepth 100000 in
theorem m_from22 (l : Launch) (G : GG) (h0 : Nat) (xx : Int32) (nw : Nat) (nk : Nat) (mhasKept : Int32) (nt : Nat) (mtaped : Int32) (nr : Nat) (mrowMany : Int32) (mroundOf : Int32) (mroundFrom : Int32) (mouts : Int32) (nm : Nat) (mfromHour : Int32) (mtoHour : Int32) (ns : Nat) (mfrom : Int32) (mto : Int32) (msort : Int32) (misFault : Int32) (mdeep : Int32) (mcoded : Int32) (mlines : Int32) (nl : Nat) (nc : Nat) (nF : Nat) (np : Nat) (ntr : Nat) (nb : Nat) (mbestCost : Int32) (nso : Nat) (nsi : Nat) (nit : Nat) (nsh : Nat) (nsf : Nat) (nss : Nat) (nrc : Nat) (jr : Nat) (jd : Nat) (mnumber : Int32) (mwhose : Int32) (msize : Int32) (misParted : Int32) (fnrc : Nat → Int32) (hjr : jr ≤ 30) (hjd : jd < 7) : K_m_from22 l G h0 xx nw nk mhasKept nt mtaped nr mrowMany mroundOf mroundFrom mouts nm mfromHour mtoHour ns mfrom mto msort misFault mdeep mcoded mlines nl nc nF np ntr nb mbestCost nso nsi nit nsh nsf nss nrc jr jd mnumber mwhose msize misParted fnrc := by
  refine MI.start (by decide +kernel) (Nat.le_of_ble_eq_true rfl) ?_
  intro p e s m below meth c A ls hC hK hP hD hS hA hl
  refine absQ (fun Q0 hQ0 => ?_)
  have hl : lv_has ls 5 [(0, .ref h0), (1, .int 2), (2, .int 2), (3, .int xx)] := hl
  refine Kan8 hC (fun hx hb hr hml hB hown hlocks hnm => ?_)
  refine lv_iload_n hx hb gX12_bodyFrom_0.1 rfl (lv_at1 hl) ?_
  refine lv_istore (lv' := [(4, .int 2), (0, .ref h0), (1, .int 2), (2, .int 2), (3, .int xx)]) hx hb gX12_bodyFrom_0.2.1 hl (by decide) rfl (fun ls hl => ?_)
  refine lv_iload hx hb gX12_bodyFrom_0.2.2.1 (lv_at0 hl) ?_
  refine lv_iload_n hx hb gX12_bodyFrom_0.2.2.2.1 rfl (lv_at3 hl) ?_
  refine pS hC hK hl (m_hasOwn22 l G) si_X12_360 rfl rfl (Nat.le_of_ble_eq_true rfl) rm_30_1_2 ⟨by first | exact Nat.le_of_ble_eq_true rfl | exact Nat.zero_le _, by first | exact Nat.le_of_ble_eq_true rfl | exact Nat.zero_le _⟩ gX12_bodyFrom_0.2.2.2.2.1 (Keqr ?_)
  refine lv_if_ne (tgt := 22) hx hb gX12_bodyFrom_0.2.2.2.2.2.1 (by decide) (fun _ => ?_) (fun c9 => absurd c9 (by decide))
  refine lv_aload_n hx hb gX12_bodyFrom_1.1 rfl (lv_at1 hl) ?_
  refine lv_iload hx hb gX12_bodyFrom_1.2.1 (lv_at0 hl) ?_
  refine lv_iload_n hx hb gX12_bodyFrom_1.2.2.1 rfl (lv_at3 hl) ?_
  refine lv_iload_n hx hb gX12_bodyFrom_1.2.2.2.1 rfl (lv_at4 hl) ?_
  refine iV (wr := []) hC hK hl hP hD hS hA (m_body22 l G h0 xx nw nk mhasKept nt mtaped nr mrowMany mroundOf mroundFrom mouts nm mfromHour mtoHour ns mfrom mto msort misFault mdeep mcoded mlines nl nc nF np ntr nb mbestCost nso nsi nit nsh nsf nss nrc jr jd mnumber mwhose msize misParted fnrc (hjr) (hjd)) si_X12_363 [0, 1] [] sm_0_1 fm_0_1 nd_0_1 rfl rfl (by decide) rfl rfl rfl rfl rfl (Nat.le_of_ble_eq_true rfl) rm_30_29_6 ⟨Nat.le_of_ble_eq_true rfl, Nat.le_of_ble_eq_true rfl⟩ gX12_bodyFrom_1.2.2.2.2.1 (fun r6982 => Ktu3 fun jr16984 ip16985 gtrc6986 => ?_)
  intro H locs hr6982 hP hD hS
  try dsimp only at hr6982
  refine Kpdr (ws := [(h0, oX12 nw nk mhasKept nt mtaped nr mrowMany mroundOf mroundFrom mouts nm mfromHour mtoHour ns mfrom mto msort misFault mdeep mcoded mlines nl nc nF np ntr nb mbestCost nso nsi nit nsh nsf nss nrc (nI jr16984) (nI jd) mnumber mwhose msize ip16985), (nrc, iA G 30 gtrc6986)]) hP hD (fun hP hD => ?_)
  obtain ⟨hr6982, w6987⟩ := hr6982
  refine toQ hQ0 ?_
  exact RI (v := r6982) hC hP hD hS [0, 1] (jr16984, ip16985, gtrc6986) rfl rfl (by decide) (⟨trivial, by omega⟩) rfl gX12_bodyFrom_1.2.2.2.2.2
def K_m_body42 (l : Launch) (G : GG) (h0 : Nat) (xx : Int32) (nw : Nat) (nk : Nat) (mhasKept : Int32) (nt : Nat) (mtaped : Int32) (nr : Nat) (mrowMany : Int32) (mroundOf : Int32) (mroundFrom : Int32) (mouts : Int32) (nm : Nat) (mfromHour : Int32) (mtoHour : Int32) (ns : Nat) (mfrom : Int32) (mto : Int32) (msort : Int32) (misFault : Int32) (mdeep : Int32) (mcoded : Int32) (mlines : Int32) (nl : Nat) (nc : Nat) (nF : Nat) (np : Nat) (ntr : Nat) (nb : Nat) (mbestCost : Int32) (nso : Nat) (nsi : Nat) (nit : Nat) (nsh : Nat) (nsf : Nat) (nss : Nat) (nrc : Nat) (jr : Nat) (jd : Nat) (mnumber : Int32) (mwhose : Int32) (msize : Int32) (misParted : Int32) (fnrc : Nat → Int32) : Prop := MI l G yX12_body cX12_body 6 (some .int) 31 0 0 [.ref h0, .int 4, .int 2, .int xx] [(h0, oX12 nw nk mhasKept nt mtaped nr mrowMany mroundOf mroundFrom mouts nm mfromHour mtoHour ns mfrom mto msort misFault mdeep mcoded mlines nl nc nF np ntr nb mbestCost nso nsi nit nsh nsf nss nrc (nI jr) (nI jd) mnumber mwhose msize misParted), (nrc, iA G 30 fnrc)] (fun (r : Int32) (u : Nat × Int32 × (Nat → Int32)) => (True) ∧ (u.1 ≤ 30)) (fun u : Nat × Int32 × (Nat → Int32) => [(h0, oX12 nw nk mhasKept nt mtaped nr mrowMany mroundOf mroundFrom mouts nm mfromHour mtoHour ns mfrom mto msort misFault mdeep mcoded mlines nl nc nF np ntr nb mbestCost nso nsi nit nsh nsf nss nrc (nI u.1) (nI jd) mnumber mwhose msize u.2.1), (nrc, iA G 30 u.2.2)])
set_option maxHeartbeats 4000000 in
set_option maxRecDepth 100000 in
theorem m_body42 (l : Launch) (G : GG) (h0 : Nat) (xx : Int32) (nw : Nat) (nk : Nat) (mhasKept : Int32) (nt : Nat) (mtaped : Int32) (nr : Nat) (mrowMany : Int32) (mroundOf : Int32) (mroundFrom : Int32) (mouts : Int32) (nm : Nat) (mfromHour : Int32) (mtoHour : Int32) (ns : Nat) (mfrom : Int32) (mto : Int32) (msort : Int32) (misFault : Int32) (mdeep : Int32) (mcoded : Int32) (mlines : Int32) (nl : Nat) (nc : Nat) (nF : Nat) (np : Nat) (ntr : Nat) (nb : Nat) (mbestCost : Int32) (nso : Nat) (nsi : Nat) (nit : Nat) (nsh : Nat) (nsf : Nat) (nss : Nat) (nrc : Nat) (jr : Nat) (jd : Nat) (mnumber : Int32) (mwhose : Int32) (msize : Int32) (misParted : Int32) (fnrc : Nat → Int32) (hjr : jr ≤ 30) (hjd : jd < 7) : K_m_body42 l G h0 xx nw nk mhasKept nt mtaped nr mrowMany mroundOf mroundFrom mouts nm mfromHour mtoHour ns mfrom mto msort misFault mdeep mcoded mlines nl nc nF np ntr nb mbestCost nso nsi nit nsh nsf nss nrc jr jd mnumber mwhose msize misParted fnrc := by
  refine MI.start (by decide +kernel) (Nat.le_of_ble_eq_true rfl) ?_
  intro p e s m below meth c A ls hC hK hP hD hS hA hl
  refine absQ (fun Q0 hQ0 => ?_)
  have hl : lv_has ls 6 [(0, .ref h0), (1, .int 4), (2, .int 2), (3, .int xx)] := hl
  refine Kan8 hC (fun hx hb hr hml hB hown hlocks hnm => ?_)
  refine lv_iconst (v := 4) hx hb gX12_body_0.1 (by decide) ?_
  refine lv_iload_n hx hb gX12_body_0.2.1 rfl (lv_at1 hl) ?_
  refine lv_imul hx hb gX12_body_0.2.2.1 ?_
  refine eqi (x1 := 16) (by decide) ?_
  refine lv_iload_n hx hb gX12_body_0.2.2.2.1 rfl (lv_at2 hl) ?_
  refine lv_iadd hx hb gX12_body_0.2.2.2.2.1 ?_
  refine eqi (x1 := 18) (by decide) ?_
  refine lv_tableIn (tgt := 293) hx hb gX12_body_0.2.2.2.2.2.1 (by decide) (by decide) rfl (by decide) ?_
  refine lv_aload_n hx hb gX12_body_11.2.2.2.2.2.2.2.2.1 rfl (lv_at0 hl) ?_
  refine lv_bipush (v := 51) hx hb gX12_body_11.2.2.2.2.2.2.2.2.2 (by decide) ?_
  refine vV (wr := []) hC hK hl hP hD hS hA (m_began l G h0 51 nw nk mhasKept nt mtaped nr mrowMany mroundOf mroundFrom mouts nm mfromHour mtoHour ns mfrom mto msort misFault mdeep mcoded mlines nl nc nF np ntr nb mbestCost nso nsi nit nsh nsf nss nrc jr (nI jd) mnumber mwhose msize misParted fnrc (hjr)) si_X12_366 [0, 1] [] sm_0_1 fm_0_1 nd_0_1 rfl rfl (by decide) rfl rfl rfl rfl rfl (Nat.le_of_ble_eq_true rfl) rm_31_1_2 ⟨Nat.le_of_ble_eq_true rfl, Nat.le_of_ble_eq_true rfl⟩ gX12_body_12.1 (Ktu2 fun jr16990 gtrc6991 => ?_)
  intro H locs hr6988 hP hD hS
  try dsimp only at hr6988
  refine Kpdr (ws := [(h0, oX12 nw nk mhasKept nt mtaped nr mrowMany mroundOf mroundFrom mouts nm mfromHour mtoHour ns mfrom mto msort misFault mdeep mcoded mlines nl nc nF np ntr nb mbestCost nso nsi nit nsh nsf nss nrc (nI jr16990) (nI jd) mnumber mwhose msize misParted), (nrc, iA G 30 gtrc6991)]) hP hD (fun hP hD => ?_)
  have w6992 := hr6988
  refine lv_aload_n hx hb gX12_body_12.2.1 rfl (lv_at0 hl) ?_
  refine lv_iconst (v := 0) hx hb gX12_body_12.2.2.1 (by decide) ?_
  refine lv_iconst (v := 2) hx hb gX12_body_12.2.2.2.1 (by decide) ?_
  refine lv_iload_n hx hb gX12_body_12.2.2.2.2.1 rfl (lv_at3 hl) ?_
  refine iV (wr := []) hC hK hl hP hD hS hA (m_from02 l G h0 xx nw nk mhasKept nt mtaped nr mrowMany mroundOf mroundFrom mouts nm mfromHour mtoHour ns mfrom mto msort misFault mdeep mcoded mlines nl nc nF np ntr nb mbestCost nso nsi nit nsh nsf nss nrc jr16990 jd mnumber mwhose msize misParted gtrc6991 (w6992) (hjd)) si_X12_357 [0, 1] [] sm_0_1 fm_0_1 nd_0_1 rfl rfl (by decide) rfl rfl rfl rfl rfl (Nat.le_of_ble_eq_true rfl) rm_31_28_5 ⟨Nat.le_of_ble_eq_true rfl, Nat.le_of_ble_eq_true rfl⟩ gX12_body_12.2.2.2.2.2.1 (fun r6993 => Ktu3 fun jr16995 ip16996 gtrc6997 => ?_)
  intro H locs hr6993 hP hD hS
  try dsimp only at hr6993
  refine Kpdr (ws := [(h0, oX12 nw nk mhasKept nt mtaped nr mrowMany mroundOf mroundFrom mouts nm mfromHour mtoHour ns mfrom mto msort misFault mdeep mcoded mlines nl nc nF np ntr nb mbestCost nso nsi nit nsh nsf nss nrc (nI jr16995) (nI jd) mnumber mwhose msize ip16996), (nrc, iA G 30 gtrc6997)]) hP hD (fun hP hD => ?_)
  obtain ⟨hr6993, w6998⟩ := hr6993
  refine lv_istore (lv' := [(4, .int r6993), (0, .ref h0), (1, .int 4), (2, .int 2), (3, .int xx)]) hx hb gX12_body_12.2.2.2.2.2.2.1 hl (by decide) rfl (fun ls hl => ?_)
  refine lv_iload hx hb gX12_body_12.2.2.2.2.2.2.2.1 (lv_at0 hl) ?_
  refine lv_aload_n hx hb gX12_body_12.2.2.2.2.2.2.2.2.1 rfl (lv_at1 hl) ?_
  refine lv_iconst (v := 1) hx hb gX12_body_12.2.2.2.2.2.2.2.2.2 (by decide) ?_
  refine lv_iconst (v := 1) hx hb gX12_body_13.1 (by decide) ?_
  refine iV (wr := []) hC hK hl hP hD hS hA (m_dealt1 l G h0 1 nw nk mhasKept nt mtaped nr mrowMany mroundOf mroundFrom mouts nm mfromHour mtoHour ns mfrom mto msort misFault mdeep mcoded mlines nl nc nF np ntr nb mbestCost nso nsi nit nsh nsf nss nrc jr16995 jd mnumber mwhose msize ip16996 gtrc6997 (w6998) (hjd)) si_X12_372 [0, 1] [] sm_0_1 fm_0_1 nd_0_1 rfl rfl (by decide) rfl rfl rfl rfl rfl (Nat.le_of_ble_eq_true rfl) rm_31_26_3 ⟨Nat.le_of_ble_eq_true rfl, Nat.le_of_ble_eq_true rfl⟩ gX12_body_13.2.1 (fun r6999 => Ktu3 fun jr17001 ip17002 gtrc7003 => ?_)
  intro H locs hr6999 hP hD hS
  try dsimp only at hr6999
  refine Kpdr (ws := [(h0, oX12 nw nk mhasKept nt mtaped nr mrowMany mroundOf mroundFrom mouts nm mfromHour mtoHour ns mfrom mto msort misFault mdeep mcoded mlines nl nc nF np ntr nb mbestCost nso nsi nit nsh nsf nss nrc (nI jr17001) (nI jd) mnumber mwhose msize ip17002), (nrc, iA G 30 gtrc7003)]) hP hD (fun hP hD => ?_)
  obtain ⟨hr6999, w7004⟩ := hr6999
  refine lv_iadd hx hb gX12_body_13.2.2.1 ?_
  refine toQ hQ0 ?_
  exact RI (v := r6993 + r6999) hC hP hD hS [0, 1] (jr17001, ip17002, gtrc7003) rfl rfl (by decide) (⟨trivial, by omega⟩) rfl gX12_body_13.2.2.2.1
def K_m_from42 (l : Launch) (G : GG) (h0 : Nat) (xx : Int32) (nw : Nat) (nk : Nat) (mhasKept : Int32) (nt : Nat) (mtaped : Int32) (nr : Nat) (mrowMany : Int32) (mroundOf : Int32) (mroundFrom : Int32) (mouts : Int32) (nm : Nat) (mfromHour : Int32) (mtoHour : Int32) (ns : Nat) (mfrom : Int32) (mto : Int32) (msort : Int32) (misFault : Int32) (mdeep : Int32) (mcoded : Int32) (mlines : Int32) (nl : Nat) (nc : Nat) (nF : Nat) (np : Nat) (ntr : Nat) (nb : Nat) (mbestCost : Int32) (nso : Nat) (nsi : Nat) (nit : Nat) (nsh : Nat) (nsf : Nat) (nss : Nat) (nrc : Nat) (jr : Nat) (jd : Nat) (mnumber : Int32) (mwhose : Int32) (msize : Int32) (misParted : Int32) (fnrc : Nat → Int32) : Prop := MI l G yX12_bodyFrom cX12_bodyFrom 5 (some .int) 32 0 0 [.ref h0, .int 4, .int 2, .int xx] [(h0, oX12 nw nk mhasKept nt mtaped nr mrowMany mroundOf mroundFrom mouts nm mfromHour mtoHour ns mfrom mto msort misFault mdeep mcoded mlines nl nc nF np ntr nb mbestCost nso nsi nit nsh nsf nss nrc (nI jr) (nI jd) mnumber mwhose msize misParted), (nrc, iA G 30 fnrc)] (fun (r : Int32) (u : Nat × Int32 × (Nat → Int32)) => (True) ∧ (u.1 ≤ 30)) (fun u : Nat × Int32 × (Nat → Int32) => [(h0, oX12 nw nk mhasKept nt mtaped nr mrowMany mroundOf mroundFrom mouts nm mfromHour mtoHour ns mfrom mto msort misFault mdeep mcoded mlines nl nc nF np ntr nb mbestCost nso nsi nit nsh nsf nss nrc (nI u.1) (nI jd) mnumber mwhose msize u.2.1), (nrc, iA G 30 u.2.2)])
set_option maxHeartbeats 4000000 in
set_option maxRecDepth 100000 in
theorem m_from42 (l : Launch) (G : GG) (h0 : Nat) (xx : Int32) (nw : Nat) (nk : Nat) (mhasKept : Int32) (nt : Nat) (mtaped : Int32) (nr : Nat) (mrowMany : Int32) (mroundOf : Int32) (mroundFrom : Int32) (mouts : Int32) (nm : Nat) (mfromHour : Int32) (mtoHour : Int32) (ns : Nat) (mfrom : Int32) (mto : Int32) (msort : Int32) (misFault : Int32) (mdeep : Int32) (mcoded : Int32) (mlines : Int32) (nl : Nat) (nc : Nat) (nF : Nat) (np : Nat) (ntr : Nat) (nb : Nat) (mbestCost : Int32) (nso : Nat) (nsi : Nat) (nit : Nat) (nsh : Nat) (nsf : Nat) (nss : Nat) (nrc : Nat) (jr : Nat) (jd : Nat) (mnumber : Int32) (mwhose : Int32) (msize : Int32) (misParted : Int32) (fnrc : Nat → Int32) (hjr : jr ≤ 30) (hjd : jd < 7) : K_m_from42 l G h0 xx nw nk mhasKept nt mtaped nr mrowMany mroundOf mroundFrom mouts nm mfromHour mtoHour ns mfrom mto msort misFault mdeep mcoded mlines nl nc nF np ntr nb mbestCost nso nsi nit nsh nsf nss nrc jr jd mnumber mwhose msize misParted fnrc := by
  refine MI.start (by decide +kernel) (Nat.le_of_ble_eq_true rfl) ?_
  intro p e s m below meth c A ls hC hK hP hD hS hA hl
  refine absQ (fun Q0 hQ0 => ?_)
  have hl : lv_has ls 5 [(0, .ref h0), (1, .int 4), (2, .int 2), (3, .int xx)] := hl
  refine Kan8 hC (fun hx hb hr hml hB hown hlocks hnm => ?_)
  refine lv_iload_n hx hb gX12_bodyFrom_0.1 rfl (lv_at1 hl) ?_
  refine lv_istore (lv' := [(4, .int 4), (0, .ref h0), (1, .int 4), (2, .int 2), (3, .int xx)]) hx hb gX12_bodyFrom_0.2.1 hl (by decide) rfl (fun ls hl => ?_)
  refine lv_iload hx hb gX12_bodyFrom_0.2.2.1 (lv_at0 hl) ?_
  refine lv_iload_n hx hb gX12_bodyFrom_0.2.2.2.1 rfl (lv_at3 hl) ?_
  refine pS hC hK hl (m_hasOwn42 l G) si_X12_360 rfl rfl (Nat.le_of_ble_eq_true rfl) rm_32_1_2 ⟨by first | exact Nat.le_of_ble_eq_true rfl | exact Nat.zero_le _, by first | exact Nat.le_of_ble_eq_true rfl | exact Nat.zero_le _⟩ gX12_bodyFrom_0.2.2.2.2.1 (Keqr ?_)
  refine lv_if_ne (tgt := 22) hx hb gX12_bodyFrom_0.2.2.2.2.2.1 (by decide) (fun _ => ?_) (fun c9 => absurd c9 (by decide))
  refine lv_aload_n hx hb gX12_bodyFrom_1.1 rfl (lv_at1 hl) ?_
  refine lv_iload hx hb gX12_bodyFrom_1.2.1 (lv_at0 hl) ?_
  refine lv_iload_n hx hb gX12_bodyFrom_1.2.2.1 rfl (lv_at3 hl) ?_
  refine lv_iload_n hx hb gX12_bodyFrom_1.2.2.2.1 rfl (lv_at4 hl) ?_
  refine iV (wr := []) hC hK hl hP hD hS hA (m_body42 l G h0 xx nw nk mhasKept nt mtaped nr mrowMany mroundOf mroundFrom mouts nm mfromHour mtoHour ns mfrom mto msort misFault mdeep mcoded mlines nl nc nF np ntr nb mbestCost nso nsi nit nsh nsf nss nrc jr jd mnumber mwhose msize misParted fnrc (hjr) (hjd)) si_X12_363 [0, 1] [] sm_0_1 fm_0_1 nd_0_1 rfl rfl (by decide) rfl rfl rfl rfl rfl (Nat.le_of_ble_eq_true rfl) rm_32_31_6 ⟨Nat.le_of_ble_eq_true rfl, Nat.le_of_ble_eq_true rfl⟩ gX12_bodyFrom_1.2.2.2.2.1 (fun r7007 => Ktu3 fun jr17009 ip17010 gtrc7011 => ?_)
  intro H locs hr7007 hP hD hS
  try dsimp only at hr7007
  refine Kpdr (ws := [(h0, oX12 nw nk mhasKept nt mtaped nr mrowMany mroundOf mroundFrom mouts nm mfromHour mtoHour ns mfrom mto msort misFault mdeep mcoded mlines nl nc nF np ntr nb mbestCost nso nsi nit nsh nsf nss nrc (nI jr17009) (nI jd) mnumber mwhose msize ip17010), (nrc, iA G 30 gtrc7011)]) hP hD (fun hP hD => ?_)
  obtain ⟨hr7007, w7012⟩ := hr7007
  refine toQ hQ0 ?_
  exact RI (v := r7007) hC hP hD hS [0, 1] (jr17009, ip17010, gtrc7011) rfl rfl (by decide) (⟨trivial, by omega⟩) rfl gX12_bodyFrom_1.2.2.2.2.2
def K_m_body52 (l : Launch) (G : GG) (h0 : Nat) (xx : Int32) (nw : Nat) (nk : Nat) (mhasKept : Int32) (nt : Nat) (mtaped : Int32) (nr : Nat) (mrowMany : Int32) (mroundOf : Int32) (mroundFrom : Int32) (mouts : Int32) (nm : Nat) (mfromHour : Int32) (mtoHour : Int32) (ns : Nat) (mfrom : Int32) (mto : Int32) (msort : Int32) (misFault : Int32) (mdeep : Int32) (mcoded : Int32) (mlines : Int32) (nl : Nat) (nc : Nat) (nF : Nat) (np : Nat) (ntr : Nat) (nb : Nat) (mbestCost : Int32) (nso : Nat) (nsi : Nat) (nit : Nat) (nsh : Nat) (nsf : Nat) (nss : Nat) (nrc : Nat) (jr : Nat) (jd : Nat) (mnumber : Int32) (mwhose : Int32) (msize : Int32) (misParted : Int32) (fnrc : Nat → Int32) : Prop := MI l G yX12_body cX12_body 6 (some .int) 33 0 0 [.ref h0, .int 5, .int 2, .int xx] [(h0, oX12 nw nk mhasKept nt mtaped nr mrowMany mroundOf mroundFrom mouts nm mfromHour mtoHour ns mfrom mto msort misFault mdeep mcoded mlines nl nc nF np ntr nb mbestCost nso nsi nit nsh nsf nss nrc (nI jr) (nI jd) mnumber mwhose msize misParted), (nrc, iA G 30 fnrc)] (fun (r : Int32) (u : Nat × Int32 × (Nat → Int32)) => (True) ∧ (u.1 ≤ 30)) (fun u : Nat × Int32 × (Nat → Int32) => [(h0, oX12 nw nk mhasKept nt mtaped nr mrowMany mroundOf mroundFrom mouts nm mfromHour mtoHour ns mfrom mto msort misFault mdeep mcoded mlines nl nc nF np ntr nb mbestCost nso nsi nit nsh nsf nss nrc (nI u.1) (nI jd) mnumber mwhose msize u.2.1), (nrc, iA G 30 u.2.2)])
set_option maxHeartbeats 4000000 in
set_option maxRecDepth 100000 in
theorem m_body52 (l : Launch) (G : GG) (h0 : Nat) (xx : Int32) (nw : Nat) (nk : Nat) (mhasKept : Int32) (nt : Nat) (mtaped : Int32) (nr : Nat) (mrowMany : Int32) (mroundOf : Int32) (mroundFrom : Int32) (mouts : Int32) (nm : Nat) (mfromHour : Int32) (mtoHour : Int32) (ns : Nat) (mfrom : Int32) (mto : Int32) (msort : Int32) (misFault : Int32) (mdeep : Int32) (mcoded : Int32) (mlines : Int32) (nl : Nat) (nc : Nat) (nF : Nat) (np : Nat) (ntr : Nat) (nb : Nat) (mbestCost : Int32) (nso : Nat) (nsi : Nat) (nit : Nat) (nsh : Nat) (nsf : Nat) (nss : Nat) (nrc : Nat) (jr : Nat) (jd : Nat) (mnumber : Int32) (mwhose : Int32) (msize : Int32) (misParted : Int32) (fnrc : Nat → Int32) (hjr : jr ≤ 30) (hjd : jd < 7) : K_m_body52 l G h0 xx nw nk mhasKept nt mtaped nr mrowMany mroundOf mroundFrom mouts nm mfromHour mtoHour ns mfrom mto msort misFault mdeep mcoded mlines nl nc nF np ntr nb mbestCost nso nsi nit nsh nsf nss nrc jr jd mnumber mwhose msize misParted fnrc := by
  refine MI.start (by decide +kernel) (Nat.le_of_ble_eq_true rfl) ?_
  intro p e s m below meth c A ls hC hK hP hD hS hA hl
  refine absQ (fun Q0 hQ0 => ?_)
  have hl : lv_has ls 6 [(0, .ref h0), (1, .int 5), (2, .int 2), (3, .int xx)] := hl
  refine Kan8 hC (fun hx hb hr hml hB hown hlocks hnm => ?_)
  refine lv_iconst (v := 4) hx hb gX12_body_0.1 (by decide) ?_
  refine lv_iload_n hx hb gX12_body_0.2.1 rfl (lv_at1 hl) ?_
  refine lv_imul hx hb gX12_body_0.2.2.1 ?_
  refine eqi (x1 := 20) (by decide) ?_
  refine lv_iload_n hx hb gX12_body_0.2.2.2.1 rfl (lv_at2 hl) ?_
  refine lv_iadd hx hb gX12_body_0.2.2.2.2.1 ?_
  refine eqi (x1 := 22) (by decide) ?_
  refine lv_tableIn (tgt := 318) hx hb gX12_body_0.2.2.2.2.2.1 (by decide) (by decide) rfl (by decide) ?_
  refine lv_aload_n hx hb gX12_body_13.2.2.2.2.1 rfl (lv_at0 hl) ?_
  refine lv_bipush (v := 60) hx hb gX12_body_13.2.2.2.2.2.1 (by decide) ?_
  refine vV (wr := []) hC hK hl hP hD hS hA (m_began l G h0 60 nw nk mhasKept nt mtaped nr mrowMany mroundOf mroundFrom mouts nm mfromHour mtoHour ns mfrom mto msort misFault mdeep mcoded mlines nl nc nF np ntr nb mbestCost nso nsi nit nsh nsf nss nrc jr (nI jd) mnumber mwhose msize misParted fnrc (hjr)) si_X12_366 [0, 1] [] sm_0_1 fm_0_1 nd_0_1 rfl rfl (by decide) rfl rfl rfl rfl rfl (Nat.le_of_ble_eq_true rfl) rm_33_1_2 ⟨Nat.le_of_ble_eq_true rfl, Nat.le_of_ble_eq_true rfl⟩ gX12_body_13.2.2.2.2.2.2.1 (Ktu2 fun jr17015 gtrc7016 => ?_)
  intro H locs hr7013 hP hD hS
  try dsimp only at hr7013
  refine Kpdr (ws := [(h0, oX12 nw nk mhasKept nt mtaped nr mrowMany mroundOf mroundFrom mouts nm mfromHour mtoHour ns mfrom mto msort misFault mdeep mcoded mlines nl nc nF np ntr nb mbestCost nso nsi nit nsh nsf nss nrc (nI jr17015) (nI jd) mnumber mwhose msize misParted), (nrc, iA G 30 gtrc7016)]) hP hD (fun hP hD => ?_)
  have w7017 := hr7013
  refine lv_aload_n hx hb gX12_body_13.2.2.2.2.2.2.2.1 rfl (lv_at0 hl) ?_
  refine lv_iconst (v := 4) hx hb gX12_body_13.2.2.2.2.2.2.2.2.1 (by decide) ?_
  refine lv_iconst (v := 2) hx hb gX12_body_13.2.2.2.2.2.2.2.2.2 (by decide) ?_
  refine lv_iload_n hx hb gX12_body_14.1 rfl (lv_at3 hl) ?_
  refine iV (wr := []) hC hK hl hP hD hS hA (m_from42 l G h0 xx nw nk mhasKept nt mtaped nr mrowMany mroundOf mroundFrom mouts nm mfromHour mtoHour ns mfrom mto msort misFault mdeep mcoded mlines nl nc nF np ntr nb mbestCost nso nsi nit nsh nsf nss nrc jr17015 jd mnumber mwhose msize misParted gtrc7016 (w7017) (hjd)) si_X12_357 [0, 1] [] sm_0_1 fm_0_1 nd_0_1 rfl rfl (by decide) rfl rfl rfl rfl rfl (Nat.le_of_ble_eq_true rfl) rm_33_32_5 ⟨Nat.le_of_ble_eq_true rfl, Nat.le_of_ble_eq_true rfl⟩ gX12_body_14.2.1 (fun r7018 => Ktu3 fun jr17020 ip17021 gtrc7022 => ?_)
  intro H locs hr7018 hP hD hS
  try dsimp only at hr7018
  refine Kpdr (ws := [(h0, oX12 nw nk mhasKept nt mtaped nr mrowMany mroundOf mroundFrom mouts nm mfromHour mtoHour ns mfrom mto msort misFault mdeep mcoded mlines nl nc nF np ntr nb mbestCost nso nsi nit nsh nsf nss nrc (nI jr17020) (nI jd) mnumber mwhose msize ip17021), (nrc, iA G 30 gtrc7022)]) hP hD (fun hP hD => ?_)
  obtain ⟨hr7018, w7023⟩ := hr7018
  refine lv_iconst (v := 2) hx hb gX12_body_14.2.2.1 (by decide) ?_
  refine lv_imul hx hb gX12_body_14.2.2.2.1 ?_
  refine toQ hQ0 ?_
  exact RI (v := r7018 * 2) hC hP hD hS [0, 1] (jr17020, ip17021, gtrc7022) rfl rfl (by decide) (⟨trivial, by omega⟩) rfl gX12_body_14.2.2.2.2.1
def K_m_from52 (l : Launch) (G : GG) (h0 : Nat) (xx : Int32) (nw : Nat) (nk : Nat) (mhasKept : Int32) (nt : Nat) (mtaped : Int32) (nr : Nat) (mrowMany : Int32) (mroundOf : Int32) (mroundFrom : Int32) (mouts : Int32) (nm : Nat) (mfromHour : Int32) (mtoHour : Int32) (ns : Nat) (mfrom : Int32) (mto : Int32) (msort : Int32) (misFault : Int32) (mdeep : Int32) (mcoded : Int32) (mlines : Int32) (nl : Nat) (nc : Nat) (nF : Nat) (np : Nat) (ntr : Nat) (nb : Nat) (mbestCost : Int32) (nso : Nat) (nsi : Nat) (nit : Nat) (nsh : Nat) (nsf : Nat) (nss : Nat) (nrc : Nat) (jr : Nat) (jd : Nat) (mnumber : Int32) (mwhose : Int32) (msize : Int32) (misParted : Int32) (fnrc : Nat → Int32) : Prop := MI l G yX12_bodyFrom cX12_bodyFrom 5 (some .int) 34 0 0 [.ref h0, .int 5, .int 2, .int xx] [(h0, oX12 nw nk mhasKept nt mtaped nr mrowMany mroundOf mroundFrom mouts nm mfromHour mtoHour ns mfrom mto msort misFault mdeep mcoded mlines nl nc nF np ntr nb mbestCost nso nsi nit nsh nsf nss nrc (nI jr) (nI jd) mnumber mwhose msize misParted), (nrc, iA G 30 fnrc)] (fun (r : Int32) (u : Nat × Int32 × (Nat → Int32)) => (True) ∧ (u.1 ≤ 30)) (fun u : Nat × Int32 × (Nat → Int32) => [(h0, oX12 nw nk mhasKept nt mtaped nr mrowMany mroundOf mroundFrom mouts nm mfromHour mtoHour ns mfrom mto msort misFault mdeep mcoded mlines nl nc nF np ntr nb mbestCost nso nsi nit nsh nsf nss nrc (nI u.1) (nI jd) mnumber mwhose msize u.2.1), (nrc, iA G 30 u.2.2)])
set_option maxHeartbeats 4000000 in
set_option maxRecDepth 100000 in
theorem m_from52 (l : Launch) (G : GG) (h0 : Nat) (xx : Int32) (nw : Nat) (nk : Nat) (mhasKept : Int32) (nt : Nat) (mtaped : Int32) (nr : Nat) (mrowMany : Int32) (mroundOf : Int32) (mroundFrom : Int32) (mouts : Int32) (nm : Nat) (mfromHour : Int32) (mtoHour : Int32) (ns : Nat) (mfrom : Int32) (mto : Int32) (msort : Int32) (misFault : Int32) (mdeep : Int32) (mcoded : Int32) (mlines : Int32) (nl : Nat) (nc : Nat) (nF : Nat) (np : Nat) (ntr : Nat) (nb : Nat) (mbestCost : Int32) (nso : Nat) (nsi : Nat) (nit : Nat) (nsh : Nat) (nsf : Nat) (nss : Nat) (nrc : Nat) (jr : Nat) (jd : Nat) (mnumber : Int32) (mwhose : Int32) (msize : Int32) (misParted : Int32) (fnrc : Nat → Int32) (hjr : jr ≤ 30) (hjd : jd < 7) : K_m_from52 l G h0 xx nw nk mhasKept nt mtaped nr mrowMany mroundOf mroundFrom mouts nm mfromHour mtoHour ns mfrom mto msort misFault mdeep mcoded mlines nl nc nF np ntr nb mbestCost nso nsi nit nsh nsf nss nrc jr jd mnumber mwhose msize misParted fnrc := by
  refine MI.start (by decide +kernel) (Nat.le_of_ble_eq_true rfl) ?_
  intro p e s m below meth c A ls hC hK hP hD hS hA hl
  refine absQ (fun Q0 hQ0 => ?_)
  have hl : lv_has ls 5 [(0, .ref h0), (1, .int 5), (2, .int 2), (3, .int xx)] := hl
  refine Kan8 hC (fun hx hb hr hml hB hown hlocks hnm => ?_)
  refine lv_iload_n hx hb gX12_bodyFrom_0.1 rfl (lv_at1 hl) ?_
  refine lv_istore (lv' := [(4, .int 5), (0, .ref h0), (1, .int 5), (2, .int 2), (3, .int xx)]) hx hb gX12_bodyFrom_0.2.1 hl (by decide) rfl (fun ls hl => ?_)
  refine lv_iload hx hb gX12_bodyFrom_0.2.2.1 (lv_at0 hl) ?_
  refine lv_iload_n hx hb gX12_bodyFrom_0.2.2.2.1 rfl (lv_at3 hl) ?_
  refine pS hC hK hl (m_hasOwn52 l G) si_X12_360 rfl rfl (Nat.le_of_ble_eq_true rfl) rm_34_1_2 ⟨by first | exact Nat.le_of_ble_eq_true rfl | exact Nat.zero_le _, by first | exact Nat.le_of_ble_eq_true rfl | exact Nat.zero_le _⟩ gX12_bodyFrom_0.2.2.2.2.1 (Keqr ?_)
  refine lv_if_ne (tgt := 22) hx hb gX12_bodyFrom_0.2.2.2.2.2.1 (by decide) (fun _ => ?_) (fun c9 => absurd c9 (by decide))
  refine lv_aload_n hx hb gX12_bodyFrom_1.1 rfl (lv_at1 hl) ?_
  refine lv_iload hx hb gX12_bodyFrom_1.2.1 (lv_at0 hl) ?_
  refine lv_iload_n hx hb gX12_bodyFrom_1.2.2.1 rfl (lv_at3 hl) ?_
  refine lv_iload_n hx hb gX12_bodyFrom_1.2.2.2.1 rfl (lv_at4 hl) ?_
  refine iV (wr := []) hC hK hl hP hD hS hA (m_body52 l G h0 xx nw nk mhasKept nt mtaped nr mrowMany mroundOf mroundFrom mouts nm mfromHour mtoHour ns mfrom mto msort misFault mdeep mcoded mlines nl nc nF np ntr nb mbestCost nso nsi nit nsh nsf nss nrc jr jd mnumber mwhose msize misParted fnrc (hjr) (hjd)) si_X12_363 [0, 1] [] sm_0_1 fm_0_1 nd_0_1 rfl rfl (by decide) rfl rfl rfl rfl rfl (Nat.le_of_ble_eq_true rfl) rm_34_33_6 ⟨Nat.le_of_ble_eq_true rfl, Nat.le_of_ble_eq_true rfl⟩ gX12_bodyFrom_1.2.2.2.2.1 (fun r7026 => Ktu3 fun jr17028 ip17029 gtrc7030 => ?_)
  intro H locs hr7026 hP hD hS
  try dsimp only at hr7026
  refine Kpdr (ws := [(h0, oX12 nw nk mhasKept nt mtaped nr mrowMany mroundOf mroundFrom mouts nm mfromHour mtoHour ns mfrom mto msort misFault mdeep mcoded mlines nl nc nF np ntr nb mbestCost nso nsi nit nsh nsf nss nrc (nI jr17028) (nI jd) mnumber mwhose msize ip17029), (nrc, iA G 30 gtrc7030)]) hP hD (fun hP hD => ?_)
  obtain ⟨hr7026, w7031⟩ := hr7026
  refine toQ hQ0 ?_
  exact RI (v := r7026) hC hP hD hS [0, 1] (jr17028, ip17029, gtrc7030) rfl rfl (by decide) (⟨trivial, by omega⟩) rfl gX12_bodyFrom_1.2.2.2.2.2
def K_m_from12 (l : Launch) (G : GG) (h0 : Nat) (xx : Int32) (nw : Nat) (nk : Nat) (mhasKept : Int32) (nt : Nat) (mtaped : Int32) (nr : Nat) (mrowMany : Int32) (mroundOf : Int32) (mroundFrom : Int32) (mouts : Int32) (nm : Nat) (mfromHour : Int32) (mtoHour : Int32) (ns : Nat) (mfrom : Int32) (mto : Int32) (msort : Int32) (misFault : Int32) (mdeep : Int32) (mcoded : Int32) (mlines : Int32) (nl : Nat) (nc : Nat) (nF : Nat) (np : Nat) (ntr : Nat) (nb : Nat) (mbestCost : Int32) (nso : Nat) (nsi : Nat) (nit : Nat) (nsh : Nat) (nsf : Nat) (nss : Nat) (nrc : Nat) (jr : Nat) (jd : Nat) (mnumber : Int32) (mwhose : Int32) (msize : Int32) (misParted : Int32) (fnrc : Nat → Int32) : Prop := MI l G yX12_bodyFrom cX12_bodyFrom 5 (some .int) 36 0 0 [.ref h0, .int 1, .int 2, .int xx] [(h0, oX12 nw nk mhasKept nt mtaped nr mrowMany mroundOf mroundFrom mouts nm mfromHour mtoHour ns mfrom mto msort misFault mdeep mcoded mlines nl nc nF np ntr nb mbestCost nso nsi nit nsh nsf nss nrc (nI jr) (nI jd) mnumber mwhose msize misParted), (nrc, iA G 30 fnrc)] (fun (r : Int32) (u : Nat × Int32 × (Nat → Int32)) => (True) ∧ (u.1 ≤ 30)) (fun u : Nat × Int32 × (Nat → Int32) => [(h0, oX12 nw nk mhasKept nt mtaped nr mrowMany mroundOf mroundFrom mouts nm mfromHour mtoHour ns mfrom mto msort misFault mdeep mcoded mlines nl nc nF np ntr nb mbestCost nso nsi nit nsh nsf nss nrc (nI u.1) (nI jd) mnumber mwhose msize u.2.1), (nrc, iA G 30 u.2.2)])
set_option maxHeartbeats 4000000 in
set_option maxRecDepth 100000 in
theorem m_from12 (l : Launch) (G : GG) (h0 : Nat) (xx : Int32) (nw : Nat) (nk : Nat) (mhasKept : Int32) (nt : Nat) (mtaped : Int32) (nr : Nat) (mrowMany : Int32) (mroundOf : Int32) (mroundFrom : Int32) (mouts : Int32) (nm : Nat) (mfromHour : Int32) (mtoHour : Int32) (ns : Nat) (mfrom : Int32) (mto : Int32) (msort : Int32) (misFault : Int32) (mdeep : Int32) (mcoded : Int32) (mlines : Int32) (nl : Nat) (nc : Nat) (nF : Nat) (np : Nat) (ntr : Nat) (nb : Nat) (mbestCost : Int32) (nso : Nat) (nsi : Nat) (nit : Nat) (nsh : Nat) (nsf : Nat) (nss : Nat) (nrc : Nat) (jr : Nat) (jd : Nat) (mnumber : Int32) (mwhose : Int32) (msize : Int32) (misParted : Int32) (fnrc : Nat → Int32) (hjr : jr ≤ 30) (hjd : jd < 7) : K_m_from12 l G h0 xx nw nk mhasKept nt mtaped nr mrowMany mroundOf mroundFrom mouts nm mfromHour mtoHour ns mfrom mto msort misFault mdeep mcoded mlines nl nc nF np ntr nb mbestCost nso nsi nit nsh nsf nss nrc jr jd mnumber mwhose msize misParted fnrc := by
  refine MI.start (by decide +kernel) (Nat.le_of_ble_eq_true rfl) ?_
  intro p e s m below meth c A ls hC hK hP hD hS hA hl
  refine absQ (fun Q0 hQ0 => ?_)
  have hl : lv_has ls 5 [(0, .ref h0), (1, .int 1), (2, .int 2), (3, .int xx)] := hl
  refine Kan8 hC (fun hx hb hr hml hB hown hlocks hnm => ?_)
  refine lv_iload_n hx hb gX12_bodyFrom_0.1 rfl (lv_at1 hl) ?_
  refine lv_istore (lv' := [(4, .int 1), (0, .ref h0), (1, .int 1), (2, .int 2), (3, .int xx)]) hx hb gX12_bodyFrom_0.2.1 hl (by decide) rfl (fun ls hl => ?_)
  refine lv_iload hx hb gX12_bodyFrom_0.2.2.1 (lv_at0 hl) ?_
  refine lv_iload_n hx hb gX12_bodyFrom_0.2.2.2.1 rfl (lv_at3 hl) ?_
  refine pS hC hK hl (m_hasOwn12 l G) si_X12_360 rfl rfl (Nat.le_of_ble_eq_true rfl) rm_36_1_2 ⟨by first | exact Nat.le_of_ble_eq_true rfl | exact Nat.zero_le _, by first | exact Nat.le_of_ble_eq_true rfl | exact Nat.zero_le _⟩ gX12_bodyFrom_0.2.2.2.2.1 (Keqr ?_)
  refine lv_if_ne (tgt := 22) hx hb gX12_bodyFrom_0.2.2.2.2.2.1 (by decide) (fun c9 => absurd (by decide) c9) (fun _ => ?_)
  refine lv_iload hx hb gX12_bodyFrom_0.2.2.2.2.2.2.1 (lv_at0 hl) ?_
  refine pS hC hK hl (m_above1 l G) si_X12_348 rfl rfl (Nat.le_of_ble_eq_true rfl) rm_36_1_1 ⟨by first | exact Nat.le_of_ble_eq_true rfl | exact Nat.zero_le _, by first | exact Nat.le_of_ble_eq_true rfl | exact Nat.zero_le _⟩ gX12_bodyFrom_0.2.2.2.2.2.2.2.1 (Keqr ?_)
  refine lv_istore (lv' := [(4, .int 0), (0, .ref h0), (1, .int 1), (2, .int 2), (3, .int xx)]) hx hb gX12_bodyFrom_0.2.2.2.2.2.2.2.2.1 hl (by decide) rfl (fun ls hl => ?_)
  refine lv_goto (tgt := 3) hx hb gX12_bodyFrom_0.2.2.2.2.2.2.2.2.2 (by decide) ?_
  refine lv_iload hx hb gX12_bodyFrom_0.2.2.1 (lv_at0 hl) ?_
  refine lv_iload_n hx hb gX12_bodyFrom_0.2.2.2.1 rfl (lv_at3 hl) ?_
  refine pS hC hK hl (m_hasOwn02 l G) si_X12_360 rfl rfl (Nat.le_of_ble_eq_true rfl) rm_36_1_2 ⟨by first | exact Nat.le_of_ble_eq_true rfl | exact Nat.zero_le _, by first | exact Nat.le_of_ble_eq_true rfl | exact Nat.zero_le _⟩ gX12_bodyFrom_0.2.2.2.2.1 (Keqr ?_)
  refine lv_if_ne (tgt := 22) hx hb gX12_bodyFrom_0.2.2.2.2.2.1 (by decide) (fun _ => ?_) (fun c9 => absurd c9 (by decide))
  refine lv_aload_n hx hb gX12_bodyFrom_1.1 rfl (lv_at1 hl) ?_
  refine lv_iload hx hb gX12_bodyFrom_1.2.1 (lv_at0 hl) ?_
  refine lv_iload_n hx hb gX12_bodyFrom_1.2.2.1 rfl (lv_at3 hl) ?_
  refine lv_iload_n hx hb gX12_bodyFrom_1.2.2.2.1 rfl (lv_at4 hl) ?_
  refine iV (wr := []) hC hK hl hP hD hS hA (m_body02 l G h0 xx nw nk mhasKept nt mtaped nr mrowMany mroundOf mroundFrom mouts nm mfromHour mtoHour ns mfrom mto msort misFault mdeep mcoded mlines nl nc nF np ntr nb mbestCost nso nsi nit nsh nsf nss nrc jr jd mnumber mwhose msize misParted fnrc (hjr) (hjd)) si_X12_363 [0, 1] [] sm_0_1 fm_0_1 nd_0_1 rfl rfl (by decide) rfl rfl rfl rfl rfl (Nat.le_of_ble_eq_true rfl) rm_36_27_6 ⟨Nat.le_of_ble_eq_true rfl, Nat.le_of_ble_eq_true rfl⟩ gX12_bodyFrom_1.2.2.2.2.1 (fun r7038 => Ktu3 fun jr17040 ip17041 gtrc7042 => ?_)
  intro H locs hr7038 hP hD hS
  try dsimp only at hr7038
  refine Kpdr (ws := [(h0, oX12 nw nk mhasKept nt mtaped nr mrowMany mroundOf mroundFrom mouts nm mfromHour mtoHour ns mfrom mto msort misFault mdeep mcoded mlines nl nc nF np ntr nb mbestCost nso nsi nit nsh nsf nss nrc (nI jr17040) (nI jd) mnumber mwhose msize ip17041), (nrc, iA G 30 gtrc7042)]) hP hD (fun hP hD => ?_)
  obtain ⟨hr7038, w7043⟩ := hr7038
  refine toQ hQ0 ?_
  exact RI (v := r7038) hC hP hD hS [0, 1] (jr17040, ip17041, gtrc7042) rfl rfl (by decide) (⟨trivial, by omega⟩) rfl gX12_bodyFrom_1.2.2.2.2.2
def K_m_from32 (l : Launch) (G : GG) (h0 : Nat) (xx : Int32) (nw : Nat) (nk : Nat) (mhasKept : Int32) (nt : Nat) (mtaped : Int32) (nr : Nat) (mrowMany : Int32) (mroundOf : Int32) (mroundFrom : Int32) (mouts : Int32) (nm : Nat) (mfromHour : Int32) (mtoHour : Int32) (ns : Nat) (mfrom : Int32) (mto : Int32) (msort : Int32) (misFault : Int32) (mdeep : Int32) (mcoded : Int32) (mlines : Int32) (nl : Nat) (nc : Nat) (nF : Nat) (np : Nat) (ntr : Nat) (nb : Nat) (mbestCost : Int32) (nso : Nat) (nsi : Nat) (nit : Nat) (nsh : Nat) (nsf : Nat) (nss : Nat) (nrc : Nat) (jr : Nat) (jd : Nat) (mnumber : Int32) (mwhose : Int32) (msize : Int32) (misParted : Int32) (fnrc : Nat → Int32) : Prop := MI l G yX12_bodyFrom cX12_bodyFrom 5 (some .int) 36 0 0 [.ref h0, .int 3, .int 2, .int xx] [(h0, oX12 nw nk mhasKept nt mtaped nr mrowMany mroundOf mroundFrom mouts nm mfromHour mtoHour ns mfrom mto msort misFault mdeep mcoded mlines nl nc nF np ntr nb mbestCost nso nsi nit nsh nsf nss nrc (nI jr) (nI jd) mnumber mwhose msize misParted), (nrc, iA G 30 fnrc)] (fun (r : Int32) (u : Nat × Int32 × (Nat → Int32)) => (True) ∧ (u.1 ≤ 30)) (fun u : Nat × Int32 × (Nat → Int32) => [(h0, oX12 nw nk mhasKept nt mtaped nr mrowMany mroundOf mroundFrom mouts nm mfromHour mtoHour ns mfrom mto msort misFault mdeep mcoded mlines nl nc nF np ntr nb mbestCost nso nsi nit nsh nsf nss nrc (nI u.1) (nI jd) mnumber mwhose msize u.2.1), (nrc, iA G 30 u.2.2)])
set_option maxHeartbeats 4000000 in
set_option maxRecDepth 100000 in
theorem m_from32 (l : Launch) (G : GG) (h0 : Nat) (xx : Int32) (nw : Nat) (nk : Nat) (mhasKept : Int32) (nt : Nat) (mtaped : Int32) (nr : Nat) (mrowMany : Int32) (mroundOf : Int32) (mroundFrom : Int32) (mouts : Int32) (nm : Nat) (mfromHour : Int32) (mtoHour : Int32) (ns : Nat) (mfrom : Int32) (mto : Int32) (msort : Int32) (misFault : Int32) (mdeep : Int32) (mcoded : Int32) (mlines : Int32) (nl : Nat) (nc : Nat) (nF : Nat) (np : Nat) (ntr : Nat) (nb : Nat) (mbestCost : Int32) (nso : Nat) (nsi : Nat) (nit : Nat) (nsh : Nat) (nsf : Nat) (nss : Nat) (nrc : Nat) (jr : Nat) (jd : Nat) (mnumber : Int32) (mwhose : Int32) (msize : Int32) (misParted : Int32) (fnrc : Nat → Int32) (hjr : jr ≤ 30) (hjd : jd < 7) : K_m_from32 l G h0 xx nw nk mhasKept nt mtaped nr mrowMany mroundOf mroundFrom mouts nm mfromHour mtoHour ns mfrom mto msort misFault mdeep mcoded mlines nl nc nF np ntr nb mbestCost nso nsi nit nsh nsf nss nrc jr jd mnumber mwhose msize misParted fnrc := by
  refine MI.start (by decide +kernel) (Nat.le_of_ble_eq_true rfl) ?_
  intro p e s m below meth c A ls hC hK hP hD hS hA hl
  refine absQ (fun Q0 hQ0 => ?_)
  have hl : lv_has ls 5 [(0, .ref h0), (1, .int 3), (2, .int 2), (3, .int xx)] := hl
  refine Kan8 hC (fun hx hb hr hml hB hown hlocks hnm => ?_)
  refine lv_iload_n hx hb gX12_bodyFrom_0.1 rfl (lv_at1 hl) ?_
  refine lv_istore (lv' := [(4, .int 3), (0, .ref h0), (1, .int 3), (2, .int 2), (3, .int xx)]) hx hb gX12_bodyFrom_0.2.1 hl (by decide) rfl (fun ls hl => ?_)
  refine lv_iload hx hb gX12_bodyFrom_0.2.2.1 (lv_at0 hl) ?_
  refine lv_iload_n hx hb gX12_bodyFrom_0.2.2.2.1 rfl (lv_at3 hl) ?_
  refine pS hC hK hl (m_hasOwn32 l G) si_X12_360 rfl rfl (Nat.le_of_ble_eq_true rfl) rm_36_1_2 ⟨by first | exact Nat.le_of_ble_eq_true rfl | exact Nat.zero_le _, by first | exact Nat.le_of_ble_eq_true rfl | exact Nat.zero_le _⟩ gX12_bodyFrom_0.2.2.2.2.1 (Keqr ?_)
  refine lv_if_ne (tgt := 22) hx hb gX12_bodyFrom_0.2.2.2.2.2.1 (by decide) (fun c9 => absurd (by decide) c9) (fun _ => ?_)
  refine lv_iload hx hb gX12_bodyFrom_0.2.2.2.2.2.2.1 (lv_at0 hl) ?_
  refine pS hC hK hl (m_above3 l G) si_X12_348 rfl rfl (Nat.le_of_ble_eq_true rfl) rm_36_1_1 ⟨by first | exact Nat.le_of_ble_eq_true rfl | exact Nat.zero_le _, by first | exact Nat.le_of_ble_eq_true rfl | exact Nat.zero_le _⟩ gX12_bodyFrom_0.2.2.2.2.2.2.2.1 (Keqr ?_)
  refine lv_istore (lv' := [(4, .int 1), (0, .ref h0), (1, .int 3), (2, .int 2), (3, .int xx)]) hx hb gX12_bodyFrom_0.2.2.2.2.2.2.2.2.1 hl (by decide) rfl (fun ls hl => ?_)
  refine lv_goto (tgt := 3) hx hb gX12_bodyFrom_0.2.2.2.2.2.2.2.2.2 (by decide) ?_
  refine lv_iload hx hb gX12_bodyFrom_0.2.2.1 (lv_at0 hl) ?_
  refine lv_iload_n hx hb gX12_bodyFrom_0.2.2.2.1 rfl (lv_at3 hl) ?_
  refine pS hC hK hl (m_hasOwn12 l G) si_X12_360 rfl rfl (Nat.le_of_ble_eq_true rfl) rm_36_1_2 ⟨by first | exact Nat.le_of_ble_eq_true rfl | exact Nat.zero_le _, by first | exact Nat.le_of_ble_eq_true rfl | exact Nat.zero_le _⟩ gX12_bodyFrom_0.2.2.2.2.1 (Keqr ?_)
  refine lv_if_ne (tgt := 22) hx hb gX12_bodyFrom_0.2.2.2.2.2.1 (by decide) (fun c9 => absurd (by decide) c9) (fun _ => ?_)
  refine lv_iload hx hb gX12_bodyFrom_0.2.2.2.2.2.2.1 (lv_at0 hl) ?_
  refine pS hC hK hl (m_above1 l G) si_X12_348 rfl rfl (Nat.le_of_ble_eq_true rfl) rm_36_1_1 ⟨by first | exact Nat.le_of_ble_eq_true rfl | exact Nat.zero_le _, by first | exact Nat.le_of_ble_eq_true rfl | exact Nat.zero_le _⟩ gX12_bodyFrom_0.2.2.2.2.2.2.2.1 (Keqr ?_)
  refine lv_istore (lv' := [(4, .int 0), (0, .ref h0), (1, .int 3), (2, .int 2), (3, .int xx)]) hx hb gX12_bodyFrom_0.2.2.2.2.2.2.2.2.1 hl (by decide) rfl (fun ls hl => ?_)
  refine lv_goto (tgt := 3) hx hb gX12_bodyFrom_0.2.2.2.2.2.2.2.2.2 (by decide) ?_
  refine lv_iload hx hb gX12_bodyFrom_0.2.2.1 (lv_at0 hl) ?_
  refine lv_iload_n hx hb gX12_bodyFrom_0.2.2.2.1 rfl (lv_at3 hl) ?_
  refine pS hC hK hl (m_hasOwn02 l G) si_X12_360 rfl rfl (Nat.le_of_ble_eq_true rfl) rm_36_1_2 ⟨by first | exact Nat.le_of_ble_eq_true rfl | exact Nat.zero_le _, by first | exact Nat.le_of_ble_eq_true rfl | exact Nat.zero_le _⟩ gX12_bodyFrom_0.2.2.2.2.1 (Keqr ?_)
  refine lv_if_ne (tgt := 22) hx hb gX12_bodyFrom_0.2.2.2.2.2.1 (by decide) (fun _ => ?_) (fun c9 => absurd c9 (by decide))
  refine lv_aload_n hx hb gX12_bodyFrom_1.1 rfl (lv_at1 hl) ?_
  refine lv_iload hx hb gX12_bodyFrom_1.2.1 (lv_at0 hl) ?_
  refine lv_iload_n hx hb gX12_bodyFrom_1.2.2.1 rfl (lv_at3 hl) ?_
  refine lv_iload_n hx hb gX12_bodyFrom_1.2.2.2.1 rfl (lv_at4 hl) ?_
  refine iV (wr := []) hC hK hl hP hD hS hA (m_body02 l G h0 xx nw nk mhasKept nt mtaped nr mrowMany mroundOf mroundFrom mouts nm mfromHour mtoHour ns mfrom mto msort misFault mdeep mcoded mlines nl nc nF np ntr nb mbestCost nso nsi nit nsh nsf nss nrc jr jd mnumber mwhose msize misParted fnrc (hjr) (hjd)) si_X12_363 [0, 1] [] sm_0_1 fm_0_1 nd_0_1 rfl rfl (by decide) rfl rfl rfl rfl rfl (Nat.le_of_ble_eq_true rfl) rm_36_27_6 ⟨Nat.le_of_ble_eq_true rfl, Nat.le_of_ble_eq_true rfl⟩ gX12_bodyFrom_1.2.2.2.2.1 (fun r7054 => Ktu3 fun jr17056 ip17057 gtrc7058 => ?_)
  intro H locs hr7054 hP hD hS
  try dsimp only at hr7054
  refine Kpdr (ws := [(h0, oX12 nw nk mhasKept nt mtaped nr mrowMany mroundOf mroundFrom mouts nm mfromHour mtoHour ns mfrom mto msort misFault mdeep mcoded mlines nl nc nF np ntr nb mbestCost nso nsi nit nsh nsf nss nrc (nI jr17056) (nI jd) mnumber mwhose msize ip17057), (nrc, iA G 30 gtrc7058)]) hP hD (fun hP hD => ?_)
  obtain ⟨hr7054, w7059⟩ := hr7054
  refine toQ hQ0 ?_
  exact RI (v := r7054) hC hP hD hS [0, 1] (jr17056, ip17057, gtrc7058) rfl rfl (by decide) (⟨trivial, by omega⟩) rfl gX12_bodyFrom_1.2.2.2.2.2
def K_m_from62 (l : Launch) (G : GG) (h0 : Nat) (xx : Int32) (nw : Nat) (nk : Nat) (mhasKept : Int32) (nt : Nat) (mtaped : Int32) (nr : Nat) (mrowMany : Int32) (mroundOf : Int32) (mroundFrom : Int32) (mouts : Int32) (nm : Nat) (mfromHour : Int32) (mtoHour : Int32) (ns : Nat) (mfrom : Int32) (mto : Int32) (msort : Int32) (misFault : Int32) (mdeep : Int32) (mcoded : Int32) (mlines : Int32) (nl : Nat) (nc : Nat) (nF : Nat) (np : Nat) (ntr : Nat) (nb : Nat) (mbestCost : Int32) (nso : Nat) (nsi : Nat) (nit : Nat) (nsh : Nat) (nsf : Nat) (nss : Nat) (nrc : Nat) (jr : Nat) (jd : Nat) (mnumber : Int32) (mwhose : Int32) (msize : Int32) (misParted : Int32) (fnrc : Nat → Int32) : Prop := MI l G yX12_bodyFrom cX12_bodyFrom 5 (some .int) 36 0 0 [.ref h0, .int 6, .int 2, .int xx] [(h0, oX12 nw nk mhasKept nt mtaped nr mrowMany mroundOf mroundFrom mouts nm mfromHour mtoHour ns mfrom mto msort misFault mdeep mcoded mlines nl nc nF np ntr nb mbestCost nso nsi nit nsh nsf nss nrc (nI jr) (nI jd) mnumber mwhose msize misParted), (nrc, iA G 30 fnrc)] (fun (r : Int32) (u : Nat × Int32 × (Nat → Int32)) => (True) ∧ (u.1 ≤ 30)) (fun u : Nat × Int32 × (Nat → Int32) => [(h0, oX12 nw nk mhasKept nt mtaped nr mrowMany mroundOf mroundFrom mouts nm mfromHour mtoHour ns mfrom mto msort misFault mdeep mcoded mlines nl nc nF np ntr nb mbestCost nso nsi nit nsh nsf nss nrc (nI u.1) (nI jd) mnumber mwhose msize u.2.1), (nrc, iA G 30 u.2.2)])
set_option maxHeartbeats 4000000 in
set_option maxRecDepth 100000 in
theorem m_from62 (l : Launch) (G : GG) (h0 : Nat) (xx : Int32) (nw : Nat) (nk : Nat) (mhasKept : Int32) (nt : Nat) (mtaped : Int32) (nr : Nat) (mrowMany : Int32) (mroundOf : Int32) (mroundFrom : Int32) (mouts : Int32) (nm : Nat) (mfromHour : Int32) (mtoHour : Int32) (ns : Nat) (mfrom : Int32) (mto : Int32) (msort : Int32) (misFault : Int32) (mdeep : Int32) (mcoded : Int32) (mlines : Int32) (nl : Nat) (nc : Nat) (nF : Nat) (np : Nat) (ntr : Nat) (nb : Nat) (mbestCost : Int32) (nso : Nat) (nsi : Nat) (nit : Nat) (nsh : Nat) (nsf : Nat) (nss : Nat) (nrc : Nat) (jr : Nat) (jd : Nat) (mnumber : Int32) (mwhose : Int32) (msize : Int32) (misParted : Int32) (fnrc : Nat → Int32) (hjr : jr ≤ 30) (hjd : jd < 7) : K_m_from62 l G h0 xx nw nk mhasKept nt mtaped nr mrowMany mroundOf mroundFrom mouts nm mfromHour mtoHour ns mfrom mto msort misFault mdeep mcoded mlines nl nc nF np ntr nb mbestCost nso nsi nit nsh nsf nss nrc jr jd mnumber mwhose msize misParted fnrc := by
  refine MI.start (by decide +kernel) (Nat.le_of_ble_eq_true rfl) ?_
  intro p e s m below meth c A ls hC hK hP hD hS hA hl
  refine absQ (fun Q0 hQ0 => ?_)
  have hl : lv_has ls 5 [(0, .ref h0), (1, .int 6), (2, .int 2), (3, .int xx)] := hl
  refine Kan8 hC (fun hx hb hr hml hB hown hlocks hnm => ?_)
  refine lv_iload_n hx hb gX12_bodyFrom_0.1 rfl (lv_at1 hl) ?_
  refine lv_istore (lv' := [(4, .int 6), (0, .ref h0), (1, .int 6), (2, .int 2), (3, .int xx)]) hx hb gX12_bodyFrom_0.2.1 hl (by decide) rfl (fun ls hl => ?_)
  refine lv_iload hx hb gX12_bodyFrom_0.2.2.1 (lv_at0 hl) ?_
  refine lv_iload_n hx hb gX12_bodyFrom_0.2.2.2.1 rfl (lv_at3 hl) ?_
  refine pS hC hK hl (m_hasOwn62 l G) si_X12_360 rfl rfl (Nat.le_of_ble_eq_true rfl) rm_36_1_2 ⟨by first | exact Nat.le_of_ble_eq_true rfl | exact Nat.zero_le _, by first | exact Nat.le_of_ble_eq_true rfl | exact Nat.zero_le _⟩ gX12_bodyFrom_0.2.2.2.2.1 (Keqr ?_)
  refine lv_if_ne (tgt := 22) hx hb gX12_bodyFrom_0.2.2.2.2.2.1 (by decide) (fun c9 => absurd (by decide) c9) (fun _ => ?_)
  refine lv_iload hx hb gX12_bodyFrom_0.2.2.2.2.2.2.1 (lv_at0 hl) ?_
  refine pS hC hK hl (m_above6 l G) si_X12_348 rfl rfl (Nat.le_of_ble_eq_true rfl) rm_36_1_1 ⟨by first | exact Nat.le_of_ble_eq_true rfl | exact Nat.zero_le _, by first | exact Nat.le_of_ble_eq_true rfl | exact Nat.zero_le _⟩ gX12_bodyFrom_0.2.2.2.2.2.2.2.1 (Keqr ?_)
  refine lv_istore (lv' := [(4, .int 0), (0, .ref h0), (1, .int 6), (2, .int 2), (3, .int xx)]) hx hb gX12_bodyFrom_0.2.2.2.2.2.2.2.2.1 hl (by decide) rfl (fun ls hl => ?_)
  refine lv_goto (tgt := 3) hx hb gX12_bodyFrom_0.2.2.2.2.2.2.2.2.2 (by decide) ?_
  refine lv_iload hx hb gX12_bodyFrom_0.2.2.1 (lv_at0 hl) ?_
  refine lv_iload_n hx hb gX12_bodyFrom_0.2.2.2.1 rfl (lv_at3 hl) ?_
  refine pS hC hK hl (m_hasOwn02 l G) si_X12_360 rfl rfl (Nat.le_of_ble_eq_true rfl) rm_36_1_2 ⟨by first | exact Nat.le_of_ble_eq_true rfl | exact Nat.zero_le _, by first | exact Nat.le_of_ble_eq_true rfl | exact Nat.zero_le _⟩ gX12_bodyFrom_0.2.2.2.2.1 (Keqr ?_)
  refine lv_if_ne (tgt := 22) hx hb gX12_bodyFrom_0.2.2.2.2.2.1 (by decide) (fun _ => ?_) (fun c9 => absurd c9 (by decide))
  refine lv_aload_n hx hb gX12_bodyFrom_1.1 rfl (lv_at1 hl) ?_
  refine lv_iload hx hb gX12_bodyFrom_1.2.1 (lv_at0 hl) ?_
  refine lv_iload_n hx hb gX12_bodyFrom_1.2.2.1 rfl (lv_at3 hl) ?_
  refine lv_iload_n hx hb gX12_bodyFrom_1.2.2.2.1 rfl (lv_at4 hl) ?_
  refine iV (wr := []) hC hK hl hP hD hS hA (m_body02 l G h0 xx nw nk mhasKept nt mtaped nr mrowMany mroundOf mroundFrom mouts nm mfromHour mtoHour ns mfrom mto msort misFault mdeep mcoded mlines nl nc nF np ntr nb mbestCost nso nsi nit nsh nsf nss nrc jr jd mnumber mwhose msize misParted fnrc (hjr) (hjd)) si_X12_363 [0, 1] [] sm_0_1 fm_0_1 nd_0_1 rfl rfl (by decide) rfl rfl rfl rfl rfl (Nat.le_of_ble_eq_true rfl) rm_36_27_6 ⟨Nat.le_of_ble_eq_true rfl, Nat.le_of_ble_eq_true rfl⟩ gX12_bodyFrom_1.2.2.2.2.1 (fun r7066 => Ktu3 fun jr17068 ip17069 gtrc7070 => ?_)
  intro H locs hr7066 hP hD hS
  try dsimp only at hr7066
  refine Kpdr (ws := [(h0, oX12 nw nk mhasKept nt mtaped nr mrowMany mroundOf mroundFrom mouts nm mfromHour mtoHour ns mfrom mto msort misFault mdeep mcoded mlines nl nc nF np ntr nb mbestCost nso nsi nit nsh nsf nss nrc (nI jr17068) (nI jd) mnumber mwhose msize ip17069), (nrc, iA G 30 gtrc7070)]) hP hD (fun hP hD => ?_)
  obtain ⟨hr7066, w7071⟩ := hr7066
  refine toQ hQ0 ?_
  exact RI (v := r7066) hC hP hD hS [0, 1] (jr17068, ip17069, gtrc7070) rfl rfl (by decide) (⟨trivial, by omega⟩) rfl gX12_bodyFrom_1.2.2.2.2.2
def K_m_dealt2 (l : Launch) (G : GG) (h0 : Nat) (xx : Int32) (nw : Nat) (nk : Nat) (mhasKept : Int32) (nt : Nat) (mtaped : Int32) (nr : Nat) (mrowMany : Int32) (mroundOf : Int32) (mroundFrom : Int32) (mouts : Int32) (nm : Nat) (mfromHour : Int32) (mtoHour : Int32) (ns : Nat) (mfrom : Int32) (mto : Int32) (msort : Int32) (misFault : Int32) (mdeep : Int32) (mcoded : Int32) (mlines : Int32) (nl : Nat) (nc : Nat) (nF : Nat) (np : Nat) (ntr : Nat) (nb : Nat) (mbestCost : Int32) (nso : Nat) (nsi : Nat) (nit : Nat) (nsh : Nat) (nsf : Nat) (nss : Nat) (nrc : Nat) (jr : Nat) (jd : Nat) (mnumber : Int32) (mwhose : Int32) (msize : Int32) (misParted : Int32) (fnrc : Nat → Int32) : Prop := MI l G yX12_dealt cX12_dealt 3 (some .int) 38 0 0 [.ref h0, .int 2, .int xx] [(h0, oX12 nw nk mhasKept nt mtaped nr mrowMany mroundOf mroundFrom mouts nm mfromHour mtoHour ns mfrom mto msort misFault mdeep mcoded mlines nl nc nF np ntr nb mbestCost nso nsi nit nsh nsf nss nrc (nI jr) (nI jd) mnumber mwhose msize misParted), (nrc, iA G 30 fnrc)] (fun (r : Int32) (u : Nat × Int32 × (Nat → Int32)) => (True) ∧ (u.1 ≤ 30)) (fun u : Nat × Int32 × (Nat → Int32) => [(h0, oX12 nw nk mhasKept nt mtaped nr mrowMany mroundOf mroundFrom mouts nm mfromHour mtoHour ns mfrom mto msort misFault mdeep mcoded mlines nl nc nF np ntr nb mbestCost nso nsi nit nsh nsf nss nrc (nI u.1) (nI jd) mnumber mwhose msize u.2.1), (nrc, iA G 30 u.2.2)])
set_option maxHeartbeats 4000000 in
set_option maxRecDepth 100000 in
theorem m_dealt2 (l : Launch) (G : GG) (h0 : Nat) (xx : Int32) (nw : Nat) (nk : Nat) (mhasKept : Int32) (nt : Nat) (mtaped : Int32) (nr : Nat) (mrowMany : Int32) (mroundOf : Int32) (mroundFrom : Int32) (mouts : Int32) (nm : Nat) (mfromHour : Int32) (mtoHour : Int32) (ns : Nat) (mfrom : Int32) (mto : Int32) (msort : Int32) (misFault : Int32) (mdeep : Int32) (mcoded : Int32) (mlines : Int32) (nl : Nat) (nc : Nat) (nF : Nat) (np : Nat) (ntr : Nat) (nb : Nat) (mbestCost : Int32) (nso : Nat) (nsi : Nat) (nit : Nat) (nsh : Nat) (nsf : Nat) (nss : Nat) (nrc : Nat) (jr : Nat) (jd : Nat) (mnumber : Int32) (mwhose : Int32) (msize : Int32) (misParted : Int32) (fnrc : Nat → Int32) (hjr : jr ≤ 30) (hjd : jd < 7) : K_m_dealt2 l G h0 xx nw nk mhasKept nt mtaped nr mrowMany mroundOf mroundFrom mouts nm mfromHour mtoHour ns mfrom mto msort misFault mdeep mcoded mlines nl nc nF np ntr nb mbestCost nso nsi nit nsh nsf nss nrc jr jd mnumber mwhose msize misParted fnrc := by
  refine MI.start (by decide +kernel) (Nat.le_of_ble_eq_true rfl) ?_
  intro p e s m below meth c A ls hC hK hP hD hS hA hl
  refine absQ (fun Q0 hQ0 => ?_)
  have hl : lv_has ls 3 [(0, .ref h0), (1, .int 2), (2, .int xx)] := hl
  refine Kan8 hC (fun hx hb hr hml hB hown hlocks hnm => ?_)
  refine lv_aload_n hx hb gX12_dealt_0.1 rfl (lv_at0 hl) ?_
  refine lv_aload_n hx hb gX12_dealt_0.2.1 rfl (lv_at0 hl) ?_
  refine gf_X12_354 hC rfl hK hP 0 rfl rfl gX12_dealt_0.2.2.1 ?_
  refine lv_iload_n hx hb gX12_dealt_0.2.2.2.1 rfl (lv_at1 hl) ?_
  refine lv_iload_n hx hb gX12_dealt_0.2.2.2.2.1 rfl (lv_at2 hl) ?_
  rcases (show jd = 0 ∨ jd = 1 ∨ jd = 2 ∨ jd = 3 ∨ jd = 4 ∨ jd = 5 ∨ jd = 6 by omega) with rfl | rfl | rfl | rfl | rfl | rfl | rfl
  · refine iV (wr := []) hC hK hl hP hD hS hA (m_from02 l G h0 xx nw nk mhasKept nt mtaped nr mrowMany mroundOf mroundFrom mouts nm mfromHour mtoHour ns mfrom mto msort misFault mdeep mcoded mlines nl nc nF np ntr nb mbestCost nso nsi nit nsh nsf nss nrc jr 0 mnumber mwhose msize misParted fnrc (hjr) (hjd)) si_X12_357 [0, 1] [] sm_0_1 fm_0_1 nd_0_1 rfl rfl (by decide) rfl rfl rfl rfl rfl (Nat.le_of_ble_eq_true rfl) rm_38_28_5 ⟨Nat.le_of_ble_eq_true rfl, Nat.le_of_ble_eq_true rfl⟩ gX12_dealt_0.2.2.2.2.2.1 (fun r7072 => Ktu3 fun jr17074 ip17075 gtrc7076 => ?_)
    intro H locs hr7072 hP hD hS
    try dsimp only at hr7072
    refine Kpdr (ws := [(h0, oX12 nw nk mhasKept nt mtaped nr mrowMany mroundOf mroundFrom mouts nm mfromHour mtoHour ns mfrom mto msort misFault mdeep mcoded mlines nl nc nF np ntr nb mbestCost nso nsi nit nsh nsf nss nrc (nI jr17074) 0 mnumber mwhose msize ip17075), (nrc, iA G 30 gtrc7076)]) hP hD (fun hP hD => ?_)
    obtain ⟨hr7072, w7077⟩ := hr7072
    refine toQ hQ0 ?_
    exact RI (v := r7072) hC hP hD hS [0, 1] (jr17074, ip17075, gtrc7076) rfl rfl (by decide) (⟨trivial, by omega⟩) rfl gX12_dealt_0.2.2.2.2.2.2
  · refine iV (wr := []) hC hK hl hP hD hS hA (m_from12 l G h0 xx nw nk mhasKept nt mtaped nr mrowMany mroundOf mroundFrom mouts nm mfromHour mtoHour ns mfrom mto msort misFault mdeep mcoded mlines nl nc nF np ntr nb mbestCost nso nsi nit nsh nsf nss nrc jr 1 mnumber mwhose msize misParted fnrc (hjr) (hjd)) si_X12_357 [0, 1] [] sm_0_1 fm_0_1 nd_0_1 rfl rfl (by decide) rfl rfl rfl rfl rfl (Nat.le_of_ble_eq_true rfl) rm_38_36_5 ⟨Nat.le_of_ble_eq_true rfl, Nat.le_of_ble_eq_true rfl⟩ gX12_dealt_0.2.2.2.2.2.1 (fun r7078 => Ktu3 fun jr17080 ip17081 gtrc7082 => ?_)
    intro H locs hr7078 hP hD hS
    try dsimp only at hr7078
    refine Kpdr (ws := [(h0, oX12 nw nk mhasKept nt mtaped nr mrowMany mroundOf mroundFrom mouts nm mfromHour mtoHour ns mfrom mto msort misFault mdeep mcoded mlines nl nc nF np ntr nb mbestCost nso nsi nit nsh nsf nss nrc (nI jr17080) 1 mnumber mwhose msize ip17081), (nrc, iA G 30 gtrc7082)]) hP hD (fun hP hD => ?_)
    obtain ⟨hr7078, w7083⟩ := hr7078
    refine toQ hQ0 ?_
    exact RI (v := r7078) hC hP hD hS [0, 1] (jr17080, ip17081, gtrc7082) rfl rfl (by decide) (⟨trivial, by omega⟩) rfl gX12_dealt_0.2.2.2.2.2.2
  · refine iV (wr := []) hC hK hl hP hD hS hA (m_from22 l G h0 xx nw nk mhasKept nt mtaped nr mrowMany mroundOf mroundFrom mouts nm mfromHour mtoHour ns mfrom mto msort misFault mdeep mcoded mlines nl nc nF np ntr nb mbestCost nso nsi nit nsh nsf nss nrc jr 2 mnumber mwhose msize misParted fnrc (hjr) (hjd)) si_X12_357 [0, 1] [] sm_0_1 fm_0_1 nd_0_1 rfl rfl (by decide) rfl rfl rfl rfl rfl (Nat.le_of_ble_eq_true rfl) rm_38_30_5 ⟨Nat.le_of_ble_eq_true rfl, Nat.le_of_ble_eq_true rfl⟩ gX12_dealt_0.2.2.2.2.2.1 (fun r7084 => Ktu3 fun jr17086 ip17087 gtrc7088 => ?_)
    intro H locs hr7084 hP hD hS
    try dsimp only at hr7084
    refine Kpdr (ws := [(h0, oX12 nw nk mhasKept nt mtaped nr mrowMany mroundOf mroundFrom mouts nm mfromHour mtoHour ns mfrom mto msort misFault mdeep mcoded mlines nl nc nF np ntr nb mbestCost nso nsi nit nsh nsf nss nrc (nI jr17086) 2 mnumber mwhose msize ip17087), (nrc, iA G 30 gtrc7088)]) hP hD (fun hP hD => ?_)
    obtain ⟨hr7084, w7089⟩ := hr7084
    refine toQ hQ0 ?_
    exact RI (v := r7084) hC hP hD hS [0, 1] (jr17086, ip17087, gtrc7088) rfl rfl (by decide) (⟨trivial, by omega⟩) rfl gX12_dealt_0.2.2.2.2.2.2
  · refine iV (wr := []) hC hK hl hP hD hS hA (m_from32 l G h0 xx nw nk mhasKept nt mtaped nr mrowMany mroundOf mroundFrom mouts nm mfromHour mtoHour ns mfrom mto msort misFault mdeep mcoded mlines nl nc nF np ntr nb mbestCost nso nsi nit nsh nsf nss nrc jr 3 mnumber mwhose msize misParted fnrc (hjr) (hjd)) si_X12_357 [0, 1] [] sm_0_1 fm_0_1 nd_0_1 rfl rfl (by decide) rfl rfl rfl rfl rfl (Nat.le_of_ble_eq_true rfl) rm_38_36_5 ⟨Nat.le_of_ble_eq_true rfl, Nat.le_of_ble_eq_true rfl⟩ gX12_dealt_0.2.2.2.2.2.1 (fun r7090 => Ktu3 fun jr17092 ip17093 gtrc7094 => ?_)
    intro H locs hr7090 hP hD hS
    try dsimp only at hr7090
    refine Kpdr (ws := [(h0, oX12 nw nk mhasKept nt mtaped nr mrowMany mroundOf mroundFrom mouts nm mfromHour mtoHour ns mfrom mto msort misFault mdeep mcoded mlines nl nc nF np ntr nb mbestCost nso nsi nit nsh nsf nss nrc (nI jr17092) 3 mnumber mwhose msize ip17093), (nrc, iA G 30 gtrc7094)]) hP hD (fun hP hD => ?_)
    obtain ⟨hr7090, w7095⟩ := hr7090
    refine toQ hQ0 ?_
    exact RI (v := r7090) hC hP hD hS [0, 1] (jr17092, ip17093, gtrc7094) rfl rfl (by decide) (⟨trivial, by omega⟩) rfl gX12_dealt_0.2.2.2.2.2.2
  · refine iV (wr := []) hC hK hl hP hD hS hA (m_from42 l G h0 xx nw nk mhasKept nt mtaped nr mrowMany mroundOf mroundFrom mouts nm mfromHour mtoHour ns mfrom mto msort misFault mdeep mcoded mlines nl nc nF np ntr nb mbestCost nso nsi nit nsh nsf nss nrc jr 4 mnumber mwhose msize misParted fnrc (hjr) (hjd)) si_X12_357 [0, 1] [] sm_0_1 fm_0_1 nd_0_1 rfl rfl (by decide) rfl rfl rfl rfl rfl (Nat.le_of_ble_eq_true rfl) rm_38_32_5 ⟨Nat.le_of_ble_eq_true rfl, Nat.le_of_ble_eq_true rfl⟩ gX12_dealt_0.2.2.2.2.2.1 (fun r7096 => Ktu3 fun jr17098 ip17099 gtrc7100 => ?_)
    intro H locs hr7096 hP hD hS
    try dsimp only at hr7096
    refine Kpdr (ws := [(h0, oX12 nw nk mhasKept nt mtaped nr mrowMany mroundOf mroundFrom mouts nm mfromHour mtoHour ns mfrom mto msort misFault mdeep mcoded mlines nl nc nF np ntr nb mbestCost nso nsi nit nsh nsf nss nrc (nI jr17098) 4 mnumber mwhose msize ip17099), (nrc, iA G 30 gtrc7100)]) hP hD (fun hP hD => ?_)
    obtain ⟨hr7096, w7101⟩ := hr7096
    refine toQ hQ0 ?_
    exact RI (v := r7096) hC hP hD hS [0, 1] (jr17098, ip17099, gtrc7100) rfl rfl (by decide) (⟨trivial, by omega⟩) rfl gX12_dealt_0.2.2.2.2.2.2
  · refine iV (wr := []) hC hK hl hP hD hS hA (m_from52 l G h0 xx nw nk mhasKept nt mtaped nr mrowMany mroundOf mroundFrom mouts nm mfromHour mtoHour ns mfrom mto msort misFault mdeep mcoded mlines nl nc nF np ntr nb mbestCost nso nsi nit nsh nsf nss nrc jr 5 mnumber mwhose msize misParted fnrc (hjr) (hjd)) si_X12_357 [0, 1] [] sm_0_1 fm_0_1 nd_0_1 rfl rfl (by decide) rfl rfl rfl rfl rfl (Nat.le_of_ble_eq_true rfl) rm_38_34_5 ⟨Nat.le_of_ble_eq_true rfl, Nat.le_of_ble_eq_true rfl⟩ gX12_dealt_0.2.2.2.2.2.1 (fun r7102 => Ktu3 fun jr17104 ip17105 gtrc7106 => ?_)
    intro H locs hr7102 hP hD hS
    try dsimp only at hr7102
    refine Kpdr (ws := [(h0, oX12 nw nk mhasKept nt mtaped nr mrowMany mroundOf mroundFrom mouts nm mfromHour mtoHour ns mfrom mto msort misFault mdeep mcoded mlines nl nc nF np ntr nb mbestCost nso nsi nit nsh nsf nss nrc (nI jr17104) 5 mnumber mwhose msize ip17105), (nrc, iA G 30 gtrc7106)]) hP hD (fun hP hD => ?_)
    obtain ⟨hr7102, w7107⟩ := hr7102
    refine toQ hQ0 ?_
    exact RI (v := r7102) hC hP hD hS [0, 1] (jr17104, ip17105, gtrc7106) rfl rfl (by decide) (⟨trivial, by omega⟩) rfl gX12_dealt_0.2.2.2.2.2.2
  · refine iV (wr := []) hC hK hl hP hD hS hA (m_from62 l G h0 xx nw nk mhasKept nt mtaped nr mrowMany mroundOf mroundFrom mouts nm mfromHour mtoHour ns mfrom mto msort misFault mdeep mcoded mlines nl nc nF np ntr nb mbestCost nso nsi nit nsh nsf nss nrc jr 6 mnumber mwhose msize misParted fnrc (hjr) (hjd)) si_X12_357 [0, 1] [] sm_0_1 fm_0_1 nd_0_1 rfl rfl (by decide) rfl rfl rfl rfl rfl (Nat.le_of_ble_eq_true rfl) rm_38_36_5 ⟨Nat.le_of_ble_eq_true rfl, Nat.le_of_ble_eq_true rfl⟩ gX12_dealt_0.2.2.2.2.2.1 (fun r7108 => Ktu3 fun jr17110 ip17111 gtrc7112 => ?_)
    intro H locs hr7108 hP hD hS
    try dsimp only at hr7108
    refine Kpdr (ws := [(h0, oX12 nw nk mhasKept nt mtaped nr mrowMany mroundOf mroundFrom mouts nm mfromHour mtoHour ns mfrom mto msort misFault mdeep mcoded mlines nl nc nF np ntr nb mbestCost nso nsi nit nsh nsf nss nrc (nI jr17110) 6 mnumber mwhose msize ip17111), (nrc, iA G 30 gtrc7112)]) hP hD (fun hP hD => ?_)
    obtain ⟨hr7108, w7113⟩ := hr7108
    refine toQ hQ0 ?_
    exact RI (v := r7108) hC hP hD hS [0, 1] (jr17110, ip17111, gtrc7112) rfl rfl (by decide) (⟨trivial, by omega⟩) rfl gX12_dealt_0.2.2.2.2.2.2
def K_m_body03 (l : Launch) (G : GG) (h0 : Nat) (xx : Int32) (nw : Nat) (nk : Nat) (mhasKept : Int32) (nt : Nat) (mtaped : Int32) (nr : Nat) (mrowMany : Int32) (mroundOf : Int32) (mroundFrom : Int32) (mouts : Int32) (nm : Nat) (mfromHour : Int32) (mtoHour : Int32) (ns : Nat) (mfrom : Int32) (mto : Int32) (msort : Int32) (misFault : Int32) (mdeep : Int32) (mcoded : Int32) (mlines : Int32) (nl : Nat) (nc : Nat) (nF : Nat) (np : Nat) (ntr : Nat) (nb : Nat) (mbestCost : Int32) (nso : Nat) (nsi : Nat) (nit : Nat) (nsh : Nat) (nsf : Nat) (nss : Nat) (nrc : Nat) (jr : Nat) (jd : Nat) (mnumber : Int32) (mwhose : Int32) (msize : Int32) (misParted : Int32) (fnrc : Nat → Int32) : Prop := MI l G yX12_body cX12_body 6 (some .int) 39 0 0 [.ref h0, .int 0, .int 3, .int xx] [(h0, oX12 nw nk mhasKept nt mtaped nr mrowMany mroundOf mroundFrom mouts nm mfromHour mtoHour ns mfrom mto msort misFault mdeep mcoded mlines nl nc nF np ntr nb mbestCost nso nsi nit nsh nsf nss nrc (nI jr) (nI jd) mnumber mwhose msize misParted), (nrc, iA G 30 fnrc)] (fun (r : Int32) (u : Nat × Int32 × (Nat → Int32)) => (True) ∧ (u.1 ≤ 30)) (fun u : Nat × Int32 × (Nat → Int32) => [(h0, oX12 nw nk mhasKept nt mtaped nr mrowMany mroundOf mroundFrom mouts nm mfromHour mtoHour ns mfrom mto msort misFault mdeep mcoded mlines nl nc nF np ntr nb mbestCost nso nsi nit nsh nsf nss nrc (nI u.1) (nI jd) mnumber mwhose msize u.2.1), (nrc, iA G 30 u.2.2)])
set_option maxHeartbeats 4000000 in
set_option maxRecDepth 100000 in
theorem m_body03 (l : Launch) (G : GG) (h0 : Nat) (xx : Int32) (nw : Nat) (nk : Nat) (mhasKept : Int32) (nt : Nat) (mtaped : Int32) (nr : Nat) (mrowMany : Int32) (mroundOf : Int32) (mroundFrom : Int32) (mouts : Int32) (nm : Nat) (mfromHour : Int32) (mtoHour : Int32) (ns : Nat) (mfrom : Int32) (mto : Int32) (msort : Int32) (misFault : Int32) (mdeep : Int32) (mcoded : Int32) (mlines : Int32) (nl : Nat) (nc : Nat) (nF : Nat) (np : Nat) (ntr : Nat) (nb : Nat) (mbestCost : Int32) (nso : Nat) (nsi : Nat) (nit : Nat) (nsh : Nat) (nsf : Nat) (nss : Nat) (nrc : Nat) (jr : Nat) (jd : Nat) (mnumber : Int32) (mwhose : Int32) (msize : Int32) (misParted : Int32) (fnrc : Nat → Int32) (hjr : jr ≤ 30) (hjd : jd < 7) : K_m_body03 l G h0 xx nw nk mhasKept nt mtaped nr mrowMany mroundOf mroundFrom mouts nm mfromHour mtoHour ns mfrom mto msort misFault mdeep mcoded mlines nl nc nF np ntr nb mbestCost nso nsi nit nsh nsf nss nrc jr jd mnumber mwhose msize misParted fnrc := by
  refine MI.start (by decide +kernel) (Nat.le_of_ble_eq_true rfl) ?_
  intro p e s m below meth c A ls hC hK hP hD hS hA hl
  refine absQ (fun Q0 hQ0 => ?_)
  have hl : lv_has ls 6 [(0, .ref h0), (1, .int 0), (2, .int 3), (3, .int xx)] := hl
  refine Kan8 hC (fun hx hb hr hml hB hown hlocks hnm => ?_)
  refine lv_iconst (v := 4) hx hb gX12_body_0.1 (by decide) ?_
  refine lv_iload_n hx hb gX12_body_0.2.1 rfl (lv_at1 hl) ?_
  refine lv_imul hx hb gX12_body_0.2.2.1 ?_
  refine eqi (x1 := 0) (by decide) ?_
  refine lv_iload_n hx hb gX12_body_0.2.2.2.1 rfl (lv_at2 hl) ?_
  refine lv_iadd hx hb gX12_body_0.2.2.2.2.1 ?_
  refine eqi (x1 := 3) (by decide) ?_
  refine lv_tableIn (tgt := 158) hx hb gX12_body_0.2.2.2.2.2.1 (by decide) (by decide) rfl (by decide) ?_
  refine lv_aload_n hx hb gX12_body_3.2.2.2.2.2.1 rfl (lv_at0 hl) ?_
  refine lv_bipush (v := 13) hx hb gX12_body_3.2.2.2.2.2.2.1 (by decide) ?_
  refine vV (wr := []) hC hK hl hP hD hS hA (m_began l G h0 13 nw nk mhasKept nt mtaped nr mrowMany mroundOf mroundFrom mouts nm mfromHour mtoHour ns mfrom mto msort misFault mdeep mcoded mlines nl nc nF np ntr nb mbestCost nso nsi nit nsh nsf nss nrc jr (nI jd) mnumber mwhose msize misParted fnrc (hjr)) si_X12_366 [0, 1] [] sm_0_1 fm_0_1 nd_0_1 rfl rfl (by decide) rfl rfl rfl rfl rfl (Nat.le_of_ble_eq_true rfl) rm_39_1_2 ⟨Nat.le_of_ble_eq_true rfl, Nat.le_of_ble_eq_true rfl⟩ gX12_body_3.2.2.2.2.2.2.2.1 (Ktu2 fun jr17116 gtrc7117 => ?_)
  intro H locs hr7114 hP hD hS
  try dsimp only at hr7114
  refine Kpdr (ws := [(h0, oX12 nw nk mhasKept nt mtaped nr mrowMany mroundOf mroundFrom mouts nm mfromHour mtoHour ns mfrom mto msort misFault mdeep mcoded mlines nl nc nF np ntr nb mbestCost nso nsi nit nsh nsf nss nrc (nI jr17116) (nI jd) mnumber mwhose msize misParted), (nrc, iA G 30 gtrc7117)]) hP hD (fun hP hD => ?_)
  have w7118 := hr7114
  refine lv_aload_n hx hb gX12_body_3.2.2.2.2.2.2.2.2.1 rfl (lv_at0 hl) ?_
  refine lv_aload_n hx hb gX12_body_3.2.2.2.2.2.2.2.2.2 rfl (lv_at0 hl) ?_
  refine gf_X12_375 hC rfl hK hP 0 rfl rfl gX12_body_4.1 ?_
  refine lv_aload_n hx hb gX12_body_4.2.1 rfl (lv_at0 hl) ?_
  refine gf_X12_378 hC rfl hK hP 0 rfl rfl gX12_body_4.2.2.1 ?_
  refine lv_icmp_ne (tgt := 180) hx hb gX12_body_4.2.2.2.1 (by decide) (fun c_173_7119 => ?_) (fun c_173_7119 => ?_)
  · refine lv_iconst (v := 0) hx hb gX12_body_4.2.2.2.2.2.2.1 (by decide) ?_
    refine pf_X12_380 hC rfl hK hP hD hS 0 (ws' := [(h0, oX12 nw nk mhasKept nt mtaped nr mrowMany mroundOf mroundFrom mouts nm mfromHour mtoHour ns mfrom mto msort misFault mdeep mcoded mlines nl nc nF np ntr nb mbestCost nso nsi nit nsh nsf nss nrc (nI jr17116) (nI jd) mnumber mwhose msize 0), (nrc, iA G 30 gtrc7117)]) rfl (Nat.le_of_ble_eq_true rfl) rfl (by decide +kernel) (by decide +kernel) gX12_body_4.2.2.2.2.2.2.2.1 (fun H locs hP hD hS => ?_)
    refine lv_aload_n hx hb gX12_body_4.2.2.2.2.2.2.2.2.1 rfl (lv_at0 hl) ?_
    refine gf_X12_380 hC rfl hK hP 0 rfl rfl gX12_body_4.2.2.2.2.2.2.2.2.2 ?_
    refine lv_if_eq (tgt := 195) hx hb gX12_body_5.1 (by decide) (fun _ => ?_) (fun c9 => absurd (by decide) c9)
    refine lv_iload_n hx hb gX12_body_5.2.2.2.1 rfl (lv_at3 hl) ?_
    refine lv_aload_n hx hb gX12_body_5.2.2.2.2.1 rfl (lv_at0 hl) ?_
    refine gf_X12_375 hC rfl hK hP 0 rfl rfl gX12_body_5.2.2.2.2.2.1 ?_
    refine lv_aload_n hx hb gX12_body_5.2.2.2.2.2.2.1 rfl (lv_at0 hl) ?_
    refine gf_X12_378 hC rfl hK hP 0 rfl rfl gX12_body_5.2.2.2.2.2.2.2.1 ?_
    refine lv_isub hx hb gX12_body_5.2.2.2.2.2.2.2.2.1 ?_
    refine lv_idiv hx hb gX12_body_5.2.2.2.2.2.2.2.2.2 (nz_sub c_173_7119) ?_
    refine lv_topi (fun x7120 ex7120 => ?_)
    refine toQ hQ0 ?_
    exact RI (v := x7120) hC hP hD hS [0, 1] (jr17116, 0, gtrc7117) rfl rfl (by decide) (⟨trivial, by omega⟩) rfl gX12_body_6.1
  · refine lv_iconst (v := 1) hx hb gX12_body_4.2.2.2.2.1 (by decide) ?_
    refine lv_goto (tgt := 181) hx hb gX12_body_4.2.2.2.2.2.1 (by decide) ?_
    refine pf_X12_380 hC rfl hK hP hD hS 0 (ws' := [(h0, oX12 nw nk mhasKept nt mtaped nr mrowMany mroundOf mroundFrom mouts nm mfromHour mtoHour ns mfrom mto msort misFault mdeep mcoded mlines nl nc nF np ntr nb mbestCost nso nsi nit nsh nsf nss nrc (nI jr17116) (nI jd) mnumber mwhose msize 1), (nrc, iA G 30 gtrc7117)]) rfl (Nat.le_of_ble_eq_true rfl) rfl (by decide +kernel) (by decide +kernel) gX12_body_4.2.2.2.2.2.2.2.1 (fun H locs hP hD hS => ?_)
    refine lv_aload_n hx hb gX12_body_4.2.2.2.2.2.2.2.2.1 rfl (lv_at0 hl) ?_
    refine gf_X12_380 hC rfl hK hP 0 rfl rfl gX12_body_4.2.2.2.2.2.2.2.2.2 ?_
    refine lv_if_eq (tgt := 195) hx hb gX12_body_5.1 (by decide) (fun c9 => absurd c9 (by decide)) (fun _ => ?_)
    refine lv_iconst (v := 0) hx hb gX12_body_5.2.1 (by decide) ?_
    refine lv_goto (tgt := 206) hx hb gX12_body_5.2.2.1 (by decide) ?_
    refine toQ hQ0 ?_
    exact RI (v := 0) hC hP hD hS [0, 1] (jr17116, 1, gtrc7117) rfl rfl (by decide) (⟨trivial, by omega⟩) rfl gX12_body_6.1
def K_m_from03 (l : Launch) (G : GG) (h0 : Nat) (xx : Int32) (nw : Nat) (nk : Nat) (mhasKept : Int32) (nt : Nat) (mtaped : Int32) (nr : Nat) (mrowMany : Int32) (mroundOf : Int32) (mroundFrom : Int32) (mouts : Int32) (nm : Nat) (mfromHour : Int32) (mtoHour : Int32) (ns : Nat) (mfrom : Int32) (mto : Int32) (msort : Int32) (misFault : Int32) (mdeep : Int32) (mcoded : Int32) (mlines : Int32) (nl : Nat) (nc : Nat) (nF : Nat) (np : Nat) (ntr : Nat) (nb : Nat) (mbestCost : Int32) (nso : Nat) (nsi : Nat) (nit : Nat) (nsh : Nat) (nsf : Nat) (nss : Nat) (nrc : Nat) (jr : Nat) (jd : Nat) (mnumber : Int32) (mwhose : Int32) (msize : Int32) (misParted : Int32) (fnrc : Nat → Int32) : Prop := MI l G yX12_bodyFrom cX12_bodyFrom 5 (some .int) 40 0 0 [.ref h0, .int 0, .int 3, .int xx] [(h0, oX12 nw nk mhasKept nt mtaped nr mrowMany mroundOf mroundFrom mouts nm mfromHour mtoHour ns mfrom mto msort misFault mdeep mcoded mlines nl nc nF np ntr nb mbestCost nso nsi nit nsh nsf nss nrc (nI jr) (nI jd) mnumber mwhose msize misParted), (nrc, iA G 30 fnrc)] (fun (r : Int32) (u : Nat × Int32 × (Nat → Int32)) => (True) ∧ (u.1 ≤ 30)) (fun u : Nat × Int32 × (Nat → Int32) => [(h0, oX12 nw nk mhasKept nt mtaped nr mrowMany mroundOf mroundFrom mouts nm mfromHour mtoHour ns mfrom mto msort misFault mdeep mcoded mlines nl nc nF np ntr nb mbestCost nso nsi nit nsh nsf nss nrc (nI u.1) (nI jd) mnumber mwhose msize u.2.1), (nrc, iA G 30 u.2.2)])
set_option maxHeartbeats 4000000 in
set_option maxRecDepth 100000 in
theorem m_from03 (l : Launch) (G : GG) (h0 : Nat) (xx : Int32) (nw : Nat) (nk : Nat) (mhasKept : Int32) (nt : Nat) (mtaped : Int32) (nr : Nat) (mrowMany : Int32) (mroundOf : Int32) (mroundFrom : Int32) (mouts : Int32) (nm : Nat) (mfromHour : Int32) (mtoHour : Int32) (ns : Nat) (mfrom : Int32) (mto : Int32) (msort : Int32) (misFault : Int32) (mdeep : Int32) (mcoded : Int32) (mlines : Int32) (nl : Nat) (nc : Nat) (nF : Nat) (np : Nat) (ntr : Nat) (nb : Nat) (mbestCost : Int32) (nso : Nat) (nsi : Nat) (nit : Nat) (nsh : Nat) (nsf : Nat) (nss : Nat) (nrc : Nat) (jr : Nat) (jd : Nat) (mnumber : Int32) (mwhose : Int32) (msize : Int32) (misParted : Int32) (fnrc : Nat → Int32) (hjr : jr ≤ 30) (hjd : jd < 7) : K_m_from03 l G h0 xx nw nk mhasKept nt mtaped nr mrowMany mroundOf mroundFrom mouts nm mfromHour mtoHour ns mfrom mto msort misFault mdeep mcoded mlines nl nc nF np ntr nb mbestCost nso nsi nit nsh nsf nss nrc jr jd mnumber mwhose msize misParted fnrc := by
  refine MI.start (by decide +kernel) (Nat.le_of_ble_eq_true rfl) ?_
  intro p e s m below meth c A ls hC hK hP hD hS hA hl
  refine absQ (fun Q0 hQ0 => ?_)
  have hl : lv_has ls 5 [(0, .ref h0), (1, .int 0), (2, .int 3), (3, .int xx)] := hl
  refine Kan8 hC (fun hx hb hr hml hB hown hlocks hnm => ?_)
  refine lv_iload_n hx hb gX12_bodyFrom_0.1 rfl (lv_at1 hl) ?_
  refine lv_istore (lv' := [(4, .int 0), (0, .ref h0), (1, .int 0), (2, .int 3), (3, .int xx)]) hx hb gX12_bodyFrom_0.2.1 hl (by decide) rfl (fun ls hl => ?_)
  refine lv_iload hx hb gX12_bodyFrom_0.2.2.1 (lv_at0 hl) ?_
  refine lv_iload_n hx hb gX12_bodyFrom_0.2.2.2.1 rfl (lv_at3 hl) ?_
  refine pS hC hK hl (m_hasOwn03 l G) si_X12_360 rfl rfl (Nat.le_of_ble_eq_true rfl) rm_40_1_2 ⟨by first | exact Nat.le_of_ble_eq_true rfl | exact Nat.zero_le _, by first | exact Nat.le_of_ble_eq_true rfl | exact Nat.zero_le _⟩ gX12_bodyFrom_0.2.2.2.2.1 (Keqr ?_)
  refine lv_if_ne (tgt := 22) hx hb gX12_bodyFrom_0.2.2.2.2.2.1 (by decide) (fun _ => ?_) (fun c9 => absurd c9 (by decide))
  refine lv_aload_n hx hb gX12_bodyFrom_1.1 rfl (lv_at1 hl) ?_
  refine lv_iload hx hb gX12_bodyFrom_1.2.1 (lv_at0 hl) ?_
  refine lv_iload_n hx hb gX12_bodyFrom_1.2.2.1 rfl (lv_at3 hl) ?_
  refine lv_iload_n hx hb gX12_bodyFrom_1.2.2.2.1 rfl (lv_at4 hl) ?_
  refine iV (wr := []) hC hK hl hP hD hS hA (m_body03 l G h0 xx nw nk mhasKept nt mtaped nr mrowMany mroundOf mroundFrom mouts nm mfromHour mtoHour ns mfrom mto msort misFault mdeep mcoded mlines nl nc nF np ntr nb mbestCost nso nsi nit nsh nsf nss nrc jr jd mnumber mwhose msize misParted fnrc (hjr) (hjd)) si_X12_363 [0, 1] [] sm_0_1 fm_0_1 nd_0_1 rfl rfl (by decide) rfl rfl rfl rfl rfl (Nat.le_of_ble_eq_true rfl) rm_40_39_6 ⟨Nat.le_of_ble_eq_true rfl, Nat.le_of_ble_eq_true rfl⟩ gX12_bodyFrom_1.2.2.2.2.1 (fun r7123 => Ktu3 fun jr17125 ip17126 gtrc7127 => ?_)
  intro H locs hr7123 hP hD hS
  try dsimp only at hr7123
  refine Kpdr (ws := [(h0, oX12 nw nk mhasKept nt mtaped nr mrowMany mroundOf mroundFrom mouts nm mfromHour mtoHour ns mfrom mto msort misFault mdeep mcoded mlines nl nc nF np ntr nb mbestCost nso nsi nit nsh nsf nss nrc (nI jr17125) (nI jd) mnumber mwhose msize ip17126), (nrc, iA G 30 gtrc7127)]) hP hD (fun hP hD => ?_)
  obtain ⟨hr7123, w7128⟩ := hr7123
  refine toQ hQ0 ?_
  exact RI (v := r7123) hC hP hD hS [0, 1] (jr17125, ip17126, gtrc7127) rfl rfl (by decide) (⟨trivial, by omega⟩) rfl gX12_bodyFrom_1.2.2.2.2.2
def K_m_from13 (l : Launch) (G : GG) (h0 : Nat) (xx : Int32) (nw : Nat) (nk : Nat) (mhasKept : Int32) (nt : Nat) (mtaped : Int32) (nr : Nat) (mrowMany : Int32) (mroundOf : Int32) (mroundFrom : Int32) (mouts : Int32) (nm : Nat) (mfromHour : Int32) (mtoHour : Int32) (ns : Nat) (mfrom : Int32) (mto : Int32) (msort : Int32) (misFault : Int32) (mdeep : Int32) (mcoded : Int32) (mlines : Int32) (nl : Nat) (nc : Nat) (nF : Nat) (np : Nat) (ntr : Nat) (nb : Nat) (mbestCost : Int32) (nso : Nat) (nsi : Nat) (nit : Nat) (nsh : Nat) (nsf : Nat) (nss : Nat) (nrc : Nat) (jr : Nat) (jd : Nat) (mnumber : Int32) (mwhose : Int32) (msize : Int32) (misParted : Int32) (fnrc : Nat → Int32) : Prop := MI l G yX12_bodyFrom cX12_bodyFrom 5 (some .int) 42 0 0 [.ref h0, .int 1, .int 3, .int xx] [(h0, oX12 nw nk mhasKept nt mtaped nr mrowMany mroundOf mroundFrom mouts nm mfromHour mtoHour ns mfrom mto msort misFault mdeep mcoded mlines nl nc nF np ntr nb mbestCost nso nsi nit nsh nsf nss nrc (nI jr) (nI jd) mnumber mwhose msize misParted), (nrc, iA G 30 fnrc)] (fun (r : Int32) (u : Nat × Int32 × (Nat → Int32)) => (True) ∧ (u.1 ≤ 30)) (fun u : Nat × Int32 × (Nat → Int32) => [(h0, oX12 nw nk mhasKept nt mtaped nr mrowMany mroundOf mroundFrom mouts nm mfromHour mtoHour ns mfrom mto msort misFault mdeep mcoded mlines nl nc nF np ntr nb mbestCost nso nsi nit nsh nsf nss nrc (nI u.1) (nI jd) mnumber mwhose msize u.2.1), (nrc, iA G 30 u.2.2)])
set_option maxHeartbeats 4000000 in
set_option maxRecDepth 100000 in
theorem m_from13 (l : Launch) (G : GG) (h0 : Nat) (xx : Int32) (nw : Nat) (nk : Nat) (mhasKept : Int32) (nt : Nat) (mtaped : Int32) (nr : Nat) (mrowMany : Int32) (mroundOf : Int32) (mroundFrom : Int32) (mouts : Int32) (nm : Nat) (mfromHour : Int32) (mtoHour : Int32) (ns : Nat) (mfrom : Int32) (mto : Int32) (msort : Int32) (misFault : Int32) (mdeep : Int32) (mcoded : Int32) (mlines : Int32) (nl : Nat) (nc : Nat) (nF : Nat) (np : Nat) (ntr : Nat) (nb : Nat) (mbestCost : Int32) (nso : Nat) (nsi : Nat) (nit : Nat) (nsh : Nat) (nsf : Nat) (nss : Nat) (nrc : Nat) (jr : Nat) (jd : Nat) (mnumber : Int32) (mwhose : Int32) (msize : Int32) (misParted : Int32) (fnrc : Nat → Int32) (hjr : jr ≤ 30) (hjd : jd < 7) : K_m_from13 l G h0 xx nw nk mhasKept nt mtaped nr mrowMany mroundOf mroundFrom mouts nm mfromHour mtoHour ns mfrom mto msort misFault mdeep mcoded mlines nl nc nF np ntr nb mbestCost nso nsi nit nsh nsf nss nrc jr jd mnumber mwhose msize misParted fnrc := by
  refine MI.start (by decide +kernel) (Nat.le_of_ble_eq_true rfl) ?_
  intro p e s m below meth c A ls hC hK hP hD hS hA hl
  refine absQ (fun Q0 hQ0 => ?_)
  have hl : lv_has ls 5 [(0, .ref h0), (1, .int 1), (2, .int 3), (3, .int xx)] := hl
  refine Kan8 hC (fun hx hb hr hml hB hown hlocks hnm => ?_)
  refine lv_iload_n hx hb gX12_bodyFrom_0.1 rfl (lv_at1 hl) ?_
  refine lv_istore (lv' := [(4, .int 1), (0, .ref h0), (1, .int 1), (2, .int 3), (3, .int xx)]) hx hb gX12_bodyFrom_0.2.1 hl (by decide) rfl (fun ls hl => ?_)
  refine lv_iload hx hb gX12_bodyFrom_0.2.2.1 (lv_at0 hl) ?_
  refine lv_iload_n hx hb gX12_bodyFrom_0.2.2.2.1 rfl (lv_at3 hl) ?_
  refine pS hC hK hl (m_hasOwn13 l G) si_X12_360 rfl rfl (Nat.le_of_ble_eq_true rfl) rm_42_1_2 ⟨by first | exact Nat.le_of_ble_eq_true rfl | exact Nat.zero_le _, by first | exact Nat.le_of_ble_eq_true rfl | exact Nat.zero_le _⟩ gX12_bodyFrom_0.2.2.2.2.1 (Keqr ?_)
  refine lv_if_ne (tgt := 22) hx hb gX12_bodyFrom_0.2.2.2.2.2.1 (by decide) (fun c9 => absurd (by decide) c9) (fun _ => ?_)
  refine lv_iload hx hb gX12_bodyFrom_0.2.2.2.2.2.2.1 (lv_at0 hl) ?_
  refine pS hC hK hl (m_above1 l G) si_X12_348 rfl rfl (Nat.le_of_ble_eq_true rfl) rm_42_1_1 ⟨by first | exact Nat.le_of_ble_eq_true rfl | exact Nat.zero_le _, by first | exact Nat.le_of_ble_eq_true rfl | exact Nat.zero_le _⟩ gX12_bodyFrom_0.2.2.2.2.2.2.2.1 (Keqr ?_)
  refine lv_istore (lv' := [(4, .int 0), (0, .ref h0), (1, .int 1), (2, .int 3), (3, .int xx)]) hx hb gX12_bodyFrom_0.2.2.2.2.2.2.2.2.1 hl (by decide) rfl (fun ls hl => ?_)
  refine lv_goto (tgt := 3) hx hb gX12_bodyFrom_0.2.2.2.2.2.2.2.2.2 (by decide) ?_
  refine lv_iload hx hb gX12_bodyFrom_0.2.2.1 (lv_at0 hl) ?_
  refine lv_iload_n hx hb gX12_bodyFrom_0.2.2.2.1 rfl (lv_at3 hl) ?_
  refine pS hC hK hl (m_hasOwn03 l G) si_X12_360 rfl rfl (Nat.le_of_ble_eq_true rfl) rm_42_1_2 ⟨by first | exact Nat.le_of_ble_eq_true rfl | exact Nat.zero_le _, by first | exact Nat.le_of_ble_eq_true rfl | exact Nat.zero_le _⟩ gX12_bodyFrom_0.2.2.2.2.1 (Keqr ?_)
  refine lv_if_ne (tgt := 22) hx hb gX12_bodyFrom_0.2.2.2.2.2.1 (by decide) (fun _ => ?_) (fun c9 => absurd c9 (by decide))
  refine lv_aload_n hx hb gX12_bodyFrom_1.1 rfl (lv_at1 hl) ?_
  refine lv_iload hx hb gX12_bodyFrom_1.2.1 (lv_at0 hl) ?_
  refine lv_iload_n hx hb gX12_bodyFrom_1.2.2.1 rfl (lv_at3 hl) ?_
  refine lv_iload_n hx hb gX12_bodyFrom_1.2.2.2.1 rfl (lv_at4 hl) ?_
  refine iV (wr := []) hC hK hl hP hD hS hA (m_body03 l G h0 xx nw nk mhasKept nt mtaped nr mrowMany mroundOf mroundFrom mouts nm mfromHour mtoHour ns mfrom mto msort misFault mdeep mcoded mlines nl nc nF np ntr nb mbestCost nso nsi nit nsh nsf nss nrc jr jd mnumber mwhose msize misParted fnrc (hjr) (hjd)) si_X12_363 [0, 1] [] sm_0_1 fm_0_1 nd_0_1 rfl rfl (by decide) rfl rfl rfl rfl rfl (Nat.le_of_ble_eq_true rfl) rm_42_39_6 ⟨Nat.le_of_ble_eq_true rfl, Nat.le_of_ble_eq_true rfl⟩ gX12_bodyFrom_1.2.2.2.2.1 (fun r7135 => Ktu3 fun jr17137 ip17138 gtrc7139 => ?_)
  intro H locs hr7135 hP hD hS
  try dsimp only at hr7135
  refine Kpdr (ws := [(h0, oX12 nw nk mhasKept nt mtaped nr mrowMany mroundOf mroundFrom mouts nm mfromHour mtoHour ns mfrom mto msort misFault mdeep mcoded mlines nl nc nF np ntr nb mbestCost nso nsi nit nsh nsf nss nrc (nI jr17137) (nI jd) mnumber mwhose msize ip17138), (nrc, iA G 30 gtrc7139)]) hP hD (fun hP hD => ?_)
  obtain ⟨hr7135, w7140⟩ := hr7135
  refine toQ hQ0 ?_
  exact RI (v := r7135) hC hP hD hS [0, 1] (jr17137, ip17138, gtrc7139) rfl rfl (by decide) (⟨trivial, by omega⟩) rfl gX12_bodyFrom_1.2.2.2.2.2
def K_m_body33 (l : Launch) (G : GG) (h0 : Nat) (xx : Int32) (nw : Nat) (nk : Nat) (mhasKept : Int32) (nt : Nat) (mtaped : Int32) (nr : Nat) (mrowMany : Int32) (mroundOf : Int32) (mroundFrom : Int32) (mouts : Int32) (nm : Nat) (mfromHour : Int32) (mtoHour : Int32) (ns : Nat) (mfrom : Int32) (mto : Int32) (msort : Int32) (misFault : Int32) (mdeep : Int32) (mcoded : Int32) (mlines : Int32) (nl : Nat) (nc : Nat) (nF : Nat) (np : Nat) (ntr : Nat) (nb : Nat) (mbestCost : Int32) (nso : Nat) (nsi : Nat) (nit : Nat) (nsh : Nat) (nsf : Nat) (nss : Nat) (nrc : Nat) (jr : Nat) (jd : Nat) (mnumber : Int32) (mwhose : Int32) (msize : Int32) (misParted : Int32) (fnrc : Nat → Int32) : Prop := MI l G yX12_body cX12_body 6 (some .int) 43 0 0 [.ref h0, .int 3, .int 3, .int xx] [(h0, oX12 nw nk mhasKept nt mtaped nr mrowMany mroundOf mroundFrom mouts nm mfromHour mtoHour ns mfrom mto msort misFault mdeep mcoded mlines nl nc nF np ntr nb mbestCost nso nsi nit nsh nsf nss nrc (nI jr) (nI jd) mnumber mwhose msize misParted), (nrc, iA G 30 fnrc)] (fun (r : Int32) (u : Nat × Int32 × (Nat → Int32)) => (True) ∧ (u.1 ≤ 30)) (fun u : Nat × Int32 × (Nat → Int32) => [(h0, oX12 nw nk mhasKept nt mtaped nr mrowMany mroundOf mroundFrom mouts nm mfromHour mtoHour ns mfrom mto msort misFault mdeep mcoded mlines nl nc nF np ntr nb mbestCost nso nsi nit nsh nsf nss nrc (nI u.1) (nI jd) mnumber mwhose msize u.2.1), (nrc, iA G 30 u.2.2)])
set_option maxHeartbeats 4000000 in
set_option maxRecDepth 100000 in
theorem m_body33 (l : Launch) (G : GG) (h0 : Nat) (xx : Int32) (nw : Nat) (nk : Nat) (mhasKept : Int32) (nt : Nat) (mtaped : Int32) (nr : Nat) (mrowMany : Int32) (mroundOf : Int32) (mroundFrom : Int32) (mouts : Int32) (nm : Nat) (mfromHour : Int32) (mtoHour : Int32) (ns : Nat) (mfrom : Int32) (mto : Int32) (msort : Int32) (misFault : Int32) (mdeep : Int32) (mcoded : Int32) (mlines : Int32) (nl : Nat) (nc : Nat) (nF : Nat) (np : Nat) (ntr : Nat) (nb : Nat) (mbestCost : Int32) (nso : Nat) (nsi : Nat) (nit : Nat) (nsh : Nat) (nsf : Nat) (nss : Nat) (nrc : Nat) (jr : Nat) (jd : Nat) (mnumber : Int32) (mwhose : Int32) (msize : Int32) (misParted : Int32) (fnrc : Nat → Int32) (hjr : jr ≤ 30) (hjd : jd < 7) : K_m_body33 l G h0 xx nw nk mhasKept nt mtaped nr mrowMany mroundOf mroundFrom mouts nm mfromHour mtoHour ns mfrom mto msort misFault mdeep mcoded mlines nl nc nF np ntr nb mbestCost nso nsi nit nsh nsf nss nrc jr jd mnumber mwhose msize misParted fnrc := by
  refine MI.start (by decide +kernel) (Nat.le_of_ble_eq_true rfl) ?_
  intro p e s m below meth c A ls hC hK hP hD hS hA hl
  refine absQ (fun Q0 hQ0 => ?_)
  have hl : lv_has ls 6 [(0, .ref h0), (1, .int 3), (2, .int 3), (3, .int xx)] := hl
  refine Kan8 hC (fun hx hb hr hml hB hown hlocks hnm => ?_)
  refine lv_iconst (v := 4) hx hb gX12_body_0.1 (by decide) ?_
  refine lv_iload_n hx hb gX12_body_0.2.1 rfl (lv_at1 hl) ?_
  refine lv_imul hx hb gX12_body_0.2.2.1 ?_
  refine eqi (x1 := 12) (by decide) ?_
  refine lv_iload_n hx hb gX12_body_0.2.2.2.1 rfl (lv_at2 hl) ?_
  refine lv_iadd hx hb gX12_body_0.2.2.2.2.1 ?_
  refine eqi (x1 := 15) (by decide) ?_
  refine lv_tableIn (tgt := 258) hx hb gX12_body_0.2.2.2.2.2.1 (by decide) (by decide) rfl (by decide) ?_
  refine lv_aload_n hx hb gX12_body_9.2.2.2.2.2.1 rfl (lv_at0 hl) ?_
  refine lv_bipush (v := 41) hx hb gX12_body_9.2.2.2.2.2.2.1 (by decide) ?_
  refine vV (wr := []) hC hK hl hP hD hS hA (m_began l G h0 41 nw nk mhasKept nt mtaped nr mrowMany mroundOf mroundFrom mouts nm mfromHour mtoHour ns mfrom mto msort misFault mdeep mcoded mlines nl nc nF np ntr nb mbestCost nso nsi nit nsh nsf nss nrc jr (nI jd) mnumber mwhose msize misParted fnrc (hjr)) si_X12_366 [0, 1] [] sm_0_1 fm_0_1 nd_0_1 rfl rfl (by decide) rfl rfl rfl rfl rfl (Nat.le_of_ble_eq_true rfl) rm_43_1_2 ⟨Nat.le_of_ble_eq_true rfl, Nat.le_of_ble_eq_true rfl⟩ gX12_body_9.2.2.2.2.2.2.2.1 (Ktu2 fun jr17143 gtrc7144 => ?_)
  intro H locs hr7141 hP hD hS
  try dsimp only at hr7141
  refine Kpdr (ws := [(h0, oX12 nw nk mhasKept nt mtaped nr mrowMany mroundOf mroundFrom mouts nm mfromHour mtoHour ns mfrom mto msort misFault mdeep mcoded mlines nl nc nF np ntr nb mbestCost nso nsi nit nsh nsf nss nrc (nI jr17143) (nI jd) mnumber mwhose msize misParted), (nrc, iA G 30 gtrc7144)]) hP hD (fun hP hD => ?_)
  have w7145 := hr7141
  refine lv_aload_n hx hb gX12_body_9.2.2.2.2.2.2.2.2.1 rfl (lv_at0 hl) ?_
  refine lv_iconst (v := 1) hx hb gX12_body_9.2.2.2.2.2.2.2.2.2 (by decide) ?_
  refine lv_iconst (v := 3) hx hb gX12_body_10.1 (by decide) ?_
  refine lv_iload_n hx hb gX12_body_10.2.1 rfl (lv_at3 hl) ?_
  refine lv_iconst (v := 2) hx hb gX12_body_10.2.2.1 (by decide) ?_
  refine lv_iadd hx hb gX12_body_10.2.2.2.1 ?_
  refine iV (wr := []) hC hK hl hP hD hS hA (m_from13 l G h0 (xx + 2) nw nk mhasKept nt mtaped nr mrowMany mroundOf mroundFrom mouts nm mfromHour mtoHour ns mfrom mto msort misFault mdeep mcoded mlines nl nc nF np ntr nb mbestCost nso nsi nit nsh nsf nss nrc jr17143 jd mnumber mwhose msize misParted gtrc7144 (w7145) (hjd)) si_X12_357 [0, 1] [] sm_0_1 fm_0_1 nd_0_1 rfl rfl (by decide) rfl rfl rfl rfl rfl (Nat.le_of_ble_eq_true rfl) rm_43_42_5 ⟨Nat.le_of_ble_eq_true rfl, Nat.le_of_ble_eq_true rfl⟩ gX12_body_10.2.2.2.2.1 (fun r7146 => Ktu3 fun jr17148 ip17149 gtrc7150 => ?_)
  intro H locs hr7146 hP hD hS
  try dsimp only at hr7146
  refine Kpdr (ws := [(h0, oX12 nw nk mhasKept nt mtaped nr mrowMany mroundOf mroundFrom mouts nm mfromHour mtoHour ns mfrom mto msort misFault mdeep mcoded mlines nl nc nF np ntr nb mbestCost nso nsi nit nsh nsf nss nrc (nI jr17148) (nI jd) mnumber mwhose msize ip17149), (nrc, iA G 30 gtrc7150)]) hP hD (fun hP hD => ?_)
  obtain ⟨hr7146, w7151⟩ := hr7146
  refine toQ hQ0 ?_
  exact RI (v := r7146) hC hP hD hS [0, 1] (jr17148, ip17149, gtrc7150) rfl rfl (by decide) (⟨trivial, by omega⟩) rfl gX12_body_10.2.2.2.2.2.1
def K_m_from33 (l : Launch) (G : GG) (h0 : Nat) (xx : Int32) (nw : Nat) (nk : Nat) (mhasKept : Int32) (nt : Nat) (mtaped : Int32) (nr : Nat) (mrowMany : Int32) (mroundOf : Int32) (mroundFrom : Int32) (mouts : Int32) (nm : Nat) (mfromHour : Int32) (mtoHour : Int32) (ns : Nat) (mfrom : Int32) (mto : Int32) (msort : Int32) (misFault : Int32) (mdeep : Int32) (mcoded : Int32) (mlines : Int32) (nl : Nat) (nc : Nat) (nF : Nat) (np : Nat) (ntr : Nat) (nb : Nat) (mbestCost : Int32) (nso : Nat) (nsi : Nat) (nit : Nat) (nsh : Nat) (nsf : Nat) (nss : Nat) (nrc : Nat) (jr : Nat) (jd : Nat) (mnumber : Int32) (mwhose : Int32) (msize : Int32) (misParted : Int32) (fnrc : Nat → Int32) : Prop := MI l G yX12_bodyFrom cX12_bodyFrom 5 (some .int) 44 0 0 [.ref h0, .int 3, .int 3, .int xx] [(h0, oX12 nw nk mhasKept nt mtaped nr mrowMany mroundOf mroundFrom mouts nm mfromHour mtoHour ns mfrom mto msort misFault mdeep mcoded mlines nl nc nF np ntr nb mbestCost nso nsi nit nsh nsf nss nrc (nI jr) (nI jd) mnumber mwhose msize misParted), (nrc, iA G 30 fnrc)] (fun (r : Int32) (u : Nat × Int32 × (Nat → Int32)) => (True) ∧ (u.1 ≤ 30)) (fun u : Nat × Int32 × (Nat → Int32) => [(h0, oX12 nw nk mhasKept nt mtaped nr mrowMany mroundOf mroundFrom mouts nm mfromHour mtoHour ns mfrom mto msort misFault mdeep mcoded mlines nl nc nF np ntr nb mbestCost nso nsi nit nsh nsf nss nrc (nI u.1) (nI jd) mnumber mwhose msize u.2.1), (nrc, iA G 30 u.2.2)])
set_option maxHeartbeats 4000000 in
set_option maxRecDepth 100000 in
theorem m_from33 (l : Launch) (G : GG) (h0 : Nat) (xx : Int32) (nw : Nat) (nk : Nat) (mhasKept : Int32) (nt : Nat) (mtaped : Int32) (nr : Nat) (mrowMany : Int32) (mroundOf : Int32) (mroundFrom : Int32) (mouts : Int32) (nm : Nat) (mfromHour : Int32) (mtoHour : Int32) (ns : Nat) (mfrom : Int32) (mto : Int32) (msort : Int32) (misFault : Int32) (mdeep : Int32) (mcoded : Int32) (mlines : Int32) (nl : Nat) (nc : Nat) (nF : Nat) (np : Nat) (ntr : Nat) (nb : Nat) (mbestCost : Int32) (nso : Nat) (nsi : Nat) (nit : Nat) (nsh : Nat) (nsf : Nat) (nss : Nat) (nrc : Nat) (jr : Nat) (jd : Nat) (mnumber : Int32) (mwhose : Int32) (msize : Int32) (misParted : Int32) (fnrc : Nat → Int32) (hjr : jr ≤ 30) (hjd : jd < 7) : K_m_from33 l G h0 xx nw nk mhasKept nt mtaped nr mrowMany mroundOf mroundFrom mouts nm mfromHour mtoHour ns mfrom mto msort misFault mdeep mcoded mlines nl nc nF np ntr nb mbestCost nso nsi nit nsh nsf nss nrc jr jd mnumber mwhose msize misParted fnrc := by
  refine MI.start (by decide +kernel) (Nat.le_of_ble_eq_true rfl) ?_
  intro p e s m below meth c A ls hC hK hP hD hS hA hl
  refine absQ (fun Q0 hQ0 => ?_)
  have hl : lv_has ls 5 [(0, .ref h0), (1, .int 3), (2, .int 3), (3, .int xx)] := hl
  refine Kan8 hC (fun hx hb hr hml hB hown hlocks hnm => ?_)
  refine lv_iload_n hx hb gX12_bodyFrom_0.1 rfl (lv_at1 hl) ?_
  refine lv_istore (lv' := [(4, .int 3), (0, .ref h0), (1, .int 3), (2, .int 3), (3, .int xx)]) hx hb gX12_bodyFrom_0.2.1 hl (by decide) rfl (fun ls hl => ?_)
  refine lv_iload hx hb gX12_bodyFrom_0.2.2.1 (lv_at0 hl) ?_
  refine lv_iload_n hx hb gX12_bodyFrom_0.2.2.2.1 rfl (lv_at3 hl) ?_
  refine pS hC hK hl (m_hasOwn33 l G) si_X12_360 rfl rfl (Nat.le_of_ble_eq_true rfl) rm_44_1_2 ⟨by first | exact Nat.le_of_ble_eq_true rfl | exact Nat.zero_le _, by first | exact Nat.le_of_ble_eq_true rfl | exact Nat.zero_le _⟩ gX12_bodyFrom_0.2.2.2.2.1 (Keqr ?_)
  refine lv_if_ne (tgt := 22) hx hb gX12_bodyFrom_0.2.2.2.2.2.1 (by decide) (fun _ => ?_) (fun c9 => absurd c9 (by decide))
  refine lv_aload_n hx hb gX12_bodyFrom_1.1 rfl (lv_at1 hl) ?_
  refine lv_iload hx hb gX12_bodyFrom_1.2.1 (lv_at0 hl) ?_
  refine lv_iload_n hx hb gX12_bodyFrom_1.2.2.1 rfl (lv_at3 hl) ?_
  refine lv_iload_n hx hb gX12_bodyFrom_1.2.2.2.1 rfl (lv_at4 hl) ?_
  refine iV (wr := []) hC hK hl hP hD hS hA (m_body33 l G h0 xx nw nk mhasKept nt mtaped nr mrowMany mroundOf mroundFrom mouts nm mfromHour mtoHour ns mfrom mto msort misFault mdeep mcoded mlines nl nc nF np ntr nb mbestCost nso nsi nit nsh nsf nss nrc jr jd mnumber mwhose msize misParted fnrc (hjr) (hjd)) si_X12_363 [0, 1] [] sm_0_1 fm_0_1 nd_0_1 rfl rfl (by decide) rfl rfl rfl rfl rfl (Nat.le_of_ble_eq_true rfl) rm_44_43_6 ⟨Nat.le_of_ble_eq_true rfl, Nat.le_of_ble_eq_true rfl⟩ gX12_bodyFrom_1.2.2.2.2.1 (fun r7154 => Ktu3 fun jr17156 ip17157 gtrc7158 => ?_)
  intro H locs hr7154 hP hD hS
  try dsimp only at hr7154
  refine Kpdr (ws := [(h0, oX12 nw nk mhasKept nt mtaped nr mrowMany mroundOf mroundFrom mouts nm mfromHour mtoHour ns mfrom mto msort misFault mdeep mcoded mlines nl nc nF np ntr nb mbestCost nso nsi nit nsh nsf nss nrc (nI jr17156) (nI jd) mnumber mwhose msize ip17157), (nrc, iA G 30 gtrc7158)]) hP hD (fun hP hD => ?_)
  obtain ⟨hr7154, w7159⟩ := hr7154
  refine toQ hQ0 ?_
  exact RI (v := r7154) hC hP hD hS [0, 1] (jr17156, ip17157, gtrc7158) rfl rfl (by decide) (⟨trivial, by omega⟩) rfl gX12_bodyFrom_1.2.2.2.2.2
def K_m_body63 (l : Launch) (G : GG) (h0 : Nat) (xx : Int32) (nw : Nat) (nk : Nat) (mhasKept : Int32) (nt : Nat) (mtaped : Int32) (nr : Nat) (mrowMany : Int32) (mroundOf : Int32) (mroundFrom : Int32) (mouts : Int32) (nm : Nat) (mfromHour : Int32) (mtoHour : Int32) (ns : Nat) (mfrom : Int32) (mto : Int32) (msort : Int32) (misFault : Int32) (mdeep : Int32) (mcoded : Int32) (mlines : Int32) (nl : Nat) (nc : Nat) (nF : Nat) (np : Nat) (ntr : Nat) (nb : Nat) (mbestCost : Int32) (nso : Nat) (nsi : Nat) (nit : Nat) (nsh : Nat) (nsf : Nat) (nss : Nat) (nrc : Nat) (jr : Nat) (jd : Nat) (mnumber : Int32) (mwhose : Int32) (msize : Int32) (misParted : Int32) (fnrc : Nat → Int32) : Prop := MI l G yX12_body cX12_body 6 (some .int) 45 0 0 [.ref h0, .int 6, .int 3, .int xx] [(h0, oX12 nw nk mhasKept nt mtaped nr mrowMany mroundOf mroundFrom mouts nm mfromHour mtoHour ns mfrom mto msort misFault mdeep mcoded mlines nl nc nF np ntr nb mbestCost nso nsi nit nsh nsf nss nrc (nI jr) (nI jd) mnumber mwhose msize misParted), (nrc, iA G 30 fnrc)] (fun (r : Int32) (u : Nat × Int32 × (Nat → Int32)) => (True) ∧ (u.1 ≤ 30)) (fun u : Nat × Int32 × (Nat → Int32) => [(h0, oX12 nw nk mhasKept nt mtaped nr mrowMany mroundOf mroundFrom mouts nm mfromHour mtoHour ns mfrom mto msort misFault mdeep mcoded mlines nl nc nF np ntr nb mbestCost nso nsi nit nsh nsf nss nrc (nI u.1) (nI jd) mnumber mwhose msize u.2.1), (nrc, iA G 30 u.2.2)])
set_option maxHeartbeats 4000000 in
set_option maxRecDepth 100000 in
theorem m_body63 (l : Launch) (G : GG) (h0 : Nat) (xx : Int32) (nw : Nat) (nk : Nat) (mhasKept : Int32) (nt : Nat) (mtaped : Int32) (nr : Nat) (mrowMany : Int32) (mroundOf : Int32) (mroundFrom : Int32) (mouts : Int32) (nm : Nat) (mfromHour : Int32) (mtoHour : Int32) (ns : Nat) (mfrom : Int32) (mto : Int32) (msort : Int32) (misFault : Int32) (mdeep : Int32) (mcoded : Int32) (mlines : Int32) (nl : Nat) (nc : Nat) (nF : Nat) (np : Nat) (ntr : Nat) (nb : Nat) (mbestCost : Int32) (nso : Nat) (nsi : Nat) (nit : Nat) (nsh : Nat) (nsf : Nat) (nss : Nat) (nrc : Nat) (jr : Nat) (jd : Nat) (mnumber : Int32) (mwhose : Int32) (msize : Int32) (misParted : Int32) (fnrc : Nat → Int32) (hjr : jr ≤ 30) (hjd : jd < 7) : K_m_body63 l G h0 xx nw nk mhasKept nt mtaped nr mrowMany mroundOf mroundFrom mouts nm mfromHour mtoHour ns mfrom mto msort misFault mdeep mcoded mlines nl nc nF np ntr nb mbestCost nso nsi nit nsh nsf nss nrc jr jd mnumber mwhose msize misParted fnrc := by
  refine MI.start (by decide +kernel) (Nat.le_of_ble_eq_true rfl) ?_
  intro p e s m below meth c A ls hC hK hP hD hS hA hl
  refine absQ (fun Q0 hQ0 => ?_)
  have hl : lv_has ls 6 [(0, .ref h0), (1, .int 6), (2, .int 3), (3, .int xx)] := hl
  refine Kan8 hC (fun hx hb hr hml hB hown hlocks hnm => ?_)
  refine lv_iconst (v := 4) hx hb gX12_body_0.1 (by decide) ?_
  refine lv_iload_n hx hb gX12_body_0.2.1 rfl (lv_at1 hl) ?_
  refine lv_imul hx hb gX12_body_0.2.2.1 ?_
  refine eqi (x1 := 24) (by decide) ?_
  refine lv_iload_n hx hb gX12_body_0.2.2.2.1 rfl (lv_at2 hl) ?_
  refine lv_iadd hx hb gX12_body_0.2.2.2.2.1 ?_
  refine eqi (x1 := 27) (by decide) ?_
  refine lv_tableOut (tgt := 353) hx hb gX12_body_0.2.2.2.2.2.1 (by decide) (by decide) ?_
  refine lv_aload_n hx hb gX12_body_15.2.2.2.2.2.2.2.1 rfl (lv_at0 hl) ?_
  refine lv_bipush (v := 70) hx hb gX12_body_15.2.2.2.2.2.2.2.2.1 (by decide) ?_
  refine vV (wr := []) hC hK hl hP hD hS hA (m_began l G h0 70 nw nk mhasKept nt mtaped nr mrowMany mroundOf mroundFrom mouts nm mfromHour mtoHour ns mfrom mto msort misFault mdeep mcoded mlines nl nc nF np ntr nb mbestCost nso nsi nit nsh nsf nss nrc jr (nI jd) mnumber mwhose msize misParted fnrc (hjr)) si_X12_366 [0, 1] [] sm_0_1 fm_0_1 nd_0_1 rfl rfl (by decide) rfl rfl rfl rfl rfl (Nat.le_of_ble_eq_true rfl) rm_45_1_2 ⟨Nat.le_of_ble_eq_true rfl, Nat.le_of_ble_eq_true rfl⟩ gX12_body_15.2.2.2.2.2.2.2.2.2 (Ktu2 fun jr17162 gtrc7163 => ?_)
  intro H locs hr7160 hP hD hS
  try dsimp only at hr7160
  refine Kpdr (ws := [(h0, oX12 nw nk mhasKept nt mtaped nr mrowMany mroundOf mroundFrom mouts nm mfromHour mtoHour ns mfrom mto msort misFault mdeep mcoded mlines nl nc nF np ntr nb mbestCost nso nsi nit nsh nsf nss nrc (nI jr17162) (nI jd) mnumber mwhose msize misParted), (nrc, iA G 30 gtrc7163)]) hP hD (fun hP hD => ?_)
  have w7164 := hr7160
  refine lv_aload_n hx hb gX12_body_16.1 rfl (lv_at0 hl) ?_
  refine lv_iconst (v := 0) hx hb gX12_body_16.2.1 (by decide) ?_
  refine lv_iconst (v := 3) hx hb gX12_body_16.2.2.1 (by decide) ?_
  refine lv_iload_n hx hb gX12_body_16.2.2.2.1 rfl (lv_at3 hl) ?_
  refine iV (wr := []) hC hK hl hP hD hS hA (m_from03 l G h0 xx nw nk mhasKept nt mtaped nr mrowMany mroundOf mroundFrom mouts nm mfromHour mtoHour ns mfrom mto msort misFault mdeep mcoded mlines nl nc nF np ntr nb mbestCost nso nsi nit nsh nsf nss nrc jr17162 jd mnumber mwhose msize misParted gtrc7163 (w7164) (hjd)) si_X12_357 [0, 1] [] sm_0_1 fm_0_1 nd_0_1 rfl rfl (by decide) rfl rfl rfl rfl rfl (Nat.le_of_ble_eq_true rfl) rm_45_40_5 ⟨Nat.le_of_ble_eq_true rfl, Nat.le_of_ble_eq_true rfl⟩ gX12_body_16.2.2.2.2.1 (fun r7165 => Ktu3 fun jr17167 ip17168 gtrc7169 => ?_)
  intro H locs hr7165 hP hD hS
  try dsimp only at hr7165
  refine Kpdr (ws := [(h0, oX12 nw nk mhasKept nt mtaped nr mrowMany mroundOf mroundFrom mouts nm mfromHour mtoHour ns mfrom mto msort misFault mdeep mcoded mlines nl nc nF np ntr nb mbestCost nso nsi nit nsh nsf nss nrc (nI jr17167) (nI jd) mnumber mwhose msize ip17168), (nrc, iA G 30 gtrc7169)]) hP hD (fun hP hD => ?_)
  obtain ⟨hr7165, w7170⟩ := hr7165
  refine lv_istore (lv' := [(5, .int r7165), (0, .ref h0), (1, .int 6), (2, .int 3), (3, .int xx)]) hx hb gX12_body_16.2.2.2.2.2.1 hl (by decide) rfl (fun ls hl => ?_)
  refine lv_aload_n hx hb gX12_body_16.2.2.2.2.2.2.1 rfl (lv_at1 hl) ?_
  refine gf_X12_380 hC rfl hK hP 0 rfl rfl gX12_body_16.2.2.2.2.2.2.2.1 ?_
  refine lv_if_eq (tgt := 379) hx hb gX12_body_16.2.2.2.2.2.2.2.2.1 (by decide) (fun c_372_7171 => ?_) (fun c_372_7171 => ?_)
  · refine lv_iload hx hb gX12_body_17.2.1 (lv_at0 hl) ?_
    refine lv_aload_n hx hb gX12_body_17.2.2.1 rfl (lv_at1 hl) ?_
    refine lv_iconst (v := 0) hx hb gX12_body_17.2.2.2.1 (by decide) ?_
    refine lv_aload_n hx hb gX12_body_17.2.2.2.2.1 rfl (lv_at1 hl) ?_
    refine gf_X12_378 hC rfl hK hP 0 rfl rfl gX12_body_17.2.2.2.2.2.1 ?_
    refine iV (wr := []) hC hK hl hP hD hS hA (m_dealt0 l G h0 mnumber nw nk mhasKept nt mtaped nr mrowMany mroundOf mroundFrom mouts nm mfromHour mtoHour ns mfrom mto msort misFault mdeep mcoded mlines nl nc nF np ntr nb mbestCost nso nsi nit nsh nsf nss nrc jr17167 jd mnumber mwhose msize ip17168 gtrc7169 (w7170) (hjd)) si_X12_372 [0, 1] [] sm_0_1 fm_0_1 nd_0_1 rfl rfl (by decide) rfl rfl rfl rfl rfl (Nat.le_of_ble_eq_true rfl) rm_45_14_3 ⟨Nat.le_of_ble_eq_true rfl, Nat.le_of_ble_eq_true rfl⟩ gX12_body_17.2.2.2.2.2.2.1 (fun r7172 => Ktu3 fun jr17174 ip17175 gtrc7176 => ?_)
    intro H locs hr7172 hP hD hS
    try dsimp only at hr7172
    refine Kpdr (ws := [(h0, oX12 nw nk mhasKept nt mtaped nr mrowMany mroundOf mroundFrom mouts nm mfromHour mtoHour ns mfrom mto msort misFault mdeep mcoded mlines nl nc nF np ntr nb mbestCost nso nsi nit nsh nsf nss nrc (nI jr17174) (nI jd) mnumber mwhose msize ip17175), (nrc, iA G 30 gtrc7176)]) hP hD (fun hP hD => ?_)
    obtain ⟨hr7172, w7177⟩ := hr7172
    refine lv_isub hx hb gX12_body_17.2.2.2.2.2.2.2.1 ?_
    refine toQ hQ0 ?_
    exact RI (v := r7165 - r7172) hC hP hD hS [0, 1] (jr17174, ip17175, gtrc7176) rfl rfl (by decide) (⟨trivial, by omega⟩) rfl gX12_body_17.2.2.2.2.2.2.2.2
  · refine lv_iconst (v := 0) hx hb gX12_body_16.2.2.2.2.2.2.2.2.2 (by decide) ?_
    refine lv_goto (tgt := 391) hx hb gX12_body_17.1 (by decide) ?_
    refine toQ hQ0 ?_
    exact RI (v := 0) hC hP hD hS [0, 1] (jr17167, ip17168, gtrc7169) rfl rfl (by decide) (⟨trivial, by omega⟩) rfl gX12_body_17.2.2.2.2.2.2.2.2
def K_m_from63 (l : Launch) (G : GG) (h0 : Nat) (xx : Int32) (nw : Nat) (nk : Nat) (mhasKept : Int32) (nt : Nat) (mtaped : Int32) (nr : Nat) (mrowMany : Int32) (mroundOf : Int32) (mroundFrom : Int32) (mouts : Int32) (nm : Nat) (mfromHour : Int32) (mtoHour : Int32) (ns : Nat) (mfrom : Int32) (mto : Int32) (msort : Int32) (misFault : Int32) (mdeep : Int32) (mcoded : Int32) (mlines : Int32) (nl : Nat) (nc : Nat) (nF : Nat) (np : Nat) (ntr : Nat) (nb : Nat) (mbestCost : Int32) (nso : Nat) (nsi : Nat) (nit : Nat) (nsh : Nat) (nsf : Nat) (nss : Nat) (nrc : Nat) (jr : Nat) (jd : Nat) (mnumber : Int32) (mwhose : Int32) (msize : Int32) (misParted : Int32) (fnrc : Nat → Int32) : Prop := MI l G yX12_bodyFrom cX12_bodyFrom 5 (some .int) 46 0 0 [.ref h0, .int 6, .int 3, .int xx] [(h0, oX12 nw nk mhasKept nt mtaped nr mrowMany mroundOf mroundFrom mouts nm mfromHour mtoHour ns mfrom mto msort misFault mdeep mcoded mlines nl nc nF np ntr nb mbestCost nso nsi nit nsh nsf nss nrc (nI jr) (nI jd) mnumber mwhose msize misParted), (nrc, iA G 30 fnrc)] (fun (r : Int32) (u : Nat × Int32 × (Nat → Int32)) => (True) ∧ (u.1 ≤ 30)) (fun u : Nat × Int32 × (Nat → Int32) => [(h0, oX12 nw nk mhasKept nt mtaped nr mrowMany mroundOf mroundFrom mouts nm mfromHour mtoHour ns mfrom mto msort misFault mdeep mcoded mlines nl nc nF np ntr nb mbestCost nso nsi nit nsh nsf nss nrc (nI u.1) (nI jd) mnumber mwhose msize u.2.1), (nrc, iA G 30 u.2.2)])
set_option maxHeartbeats 4000000 in
set_option maxRecDepth 100000 in
theorem m_from63 (l : Launch) (G : GG) (h0 : Nat) (xx : Int32) (nw : Nat) (nk : Nat) (mhasKept : Int32) (nt : Nat) (mtaped : Int32) (nr : Nat) (mrowMany : Int32) (mroundOf : Int32) (mroundFrom : Int32) (mouts : Int32) (nm : Nat) (mfromHour : Int32) (mtoHour : Int32) (ns : Nat) (mfrom : Int32) (mto : Int32) (msort : Int32) (misFault : Int32) (mdeep : Int32) (mcoded : Int32) (mlines : Int32) (nl : Nat) (nc : Nat) (nF : Nat) (np : Nat) (ntr : Nat) (nb : Nat) (mbestCost : Int32) (nso : Nat) (nsi : Nat) (nit : Nat) (nsh : Nat) (nsf : Nat) (nss : Nat) (nrc : Nat) (jr : Nat) (jd : Nat) (mnumber : Int32) (mwhose : Int32) (msize : Int32) (misParted : Int32) (fnrc : Nat → Int32) (hjr : jr ≤ 30) (hjd : jd < 7) : K_m_from63 l G h0 xx nw nk mhasKept nt mtaped nr mrowMany mroundOf mroundFrom mouts nm mfromHour mtoHour ns mfrom mto msort misFault mdeep mcoded mlines nl nc nF np ntr nb mbestCost nso nsi nit nsh nsf nss nrc jr jd mnumber mwhose msize misParted fnrc := by
  refine MI.start (by decide +kernel) (Nat.le_of_ble_eq_true rfl) ?_
  intro p e s m below meth c A ls hC hK hP hD hS hA hl
  refine absQ (fun Q0 hQ0 => ?_)
  have hl : lv_has ls 5 [(0, .ref h0), (1, .int 6), (2, .int 3), (3, .int xx)] := hl
  refine Kan8 hC (fun hx hb hr hml hB hown hlocks hnm => ?_)
  refine lv_iload_n hx hb gX12_bodyFrom_0.1 rfl (lv_at1 hl) ?_
  refine lv_istore (lv' := [(4, .int 6), (0, .ref h0), (1, .int 6), (2, .int 3), (3, .int xx)]) hx hb gX12_bodyFrom_0.2.1 hl (by decide) rfl (fun ls hl => ?_)
  refine lv_iload hx hb gX12_bodyFrom_0.2.2.1 (lv_at0 hl) ?_
  refine lv_iload_n hx hb gX12_bodyFrom_0.2.2.2.1 rfl (lv_at3 hl) ?_
  refine pS hC hK hl (m_hasOwn63 l G) si_X12_360 rfl rfl (Nat.le_of_ble_eq_true rfl) rm_46_1_2 ⟨by first | exact Nat.le_of_ble_eq_true rfl | exact Nat.zero_le _, by first | exact Nat.le_of_ble_eq_true rfl | exact Nat.zero_le _⟩ gX12_bodyFrom_0.2.2.2.2.1 (Keqr ?_)
  refine lv_if_ne (tgt := 22) hx hb gX12_bodyFrom_0.2.2.2.2.2.1 (by decide) (fun _ => ?_) (fun c9 => absurd c9 (by decide))
  refine lv_aload_n hx hb gX12_bodyFrom_1.1 rfl (lv_at1 hl) ?_
  refine lv_iload hx hb gX12_bodyFrom_1.2.1 (lv_at0 hl) ?_
  refine lv_iload_n hx hb gX12_bodyFrom_1.2.2.1 rfl (lv_at3 hl) ?_
  refine lv_iload_n hx hb gX12_bodyFrom_1.2.2.2.1 rfl (lv_at4 hl) ?_
  refine iV (wr := []) hC hK hl hP hD hS hA (m_body63 l G h0 xx nw nk mhasKept nt mtaped nr mrowMany mroundOf mroundFrom mouts nm mfromHour mtoHour ns mfrom mto msort misFault mdeep mcoded mlines nl nc nF np ntr nb mbestCost nso nsi nit nsh nsf nss nrc jr jd mnumber mwhose msize misParted fnrc (hjr) (hjd)) si_X12_363 [0, 1] [] sm_0_1 fm_0_1 nd_0_1 rfl rfl (by decide) rfl rfl rfl rfl rfl (Nat.le_of_ble_eq_true rfl) rm_46_45_6 ⟨Nat.le_of_ble_eq_true rfl, Nat.le_of_ble_eq_true rfl⟩ gX12_bodyFrom_1.2.2.2.2.1 (fun r7180 => Ktu3 fun jr17182 ip17183 gtrc7184 => ?_)
  intro H locs hr7180 hP hD hS
  try dsimp only at hr7180
  refine Kpdr (ws := [(h0, oX12 nw nk mhasKept nt mtaped nr mrowMany mroundOf mroundFrom mouts nm mfromHour mtoHour ns mfrom mto msort misFault mdeep mcoded mlines nl nc nF np ntr nb mbestCost nso nsi nit nsh nsf nss nrc (nI jr17182) (nI jd) mnumber mwhose msize ip17183), (nrc, iA G 30 gtrc7184)]) hP hD (fun hP hD => ?_)
  obtain ⟨hr7180, w7185⟩ := hr7180
  refine toQ hQ0 ?_
  exact RI (v := r7180) hC hP hD hS [0, 1] (jr17182, ip17183, gtrc7184) rfl rfl (by decide) (⟨trivial, by omega⟩) rfl gX12_bodyFrom_1.2.2.2.2.2
def K_m_from23 (l : Launch) (G : GG) (h0 : Nat) (xx : Int32) (nw : Nat) (nk : Nat) (mhasKept : Int32) (nt : Nat) (mtaped : Int32) (nr : Nat) (mrowMany : Int32) (mroundOf : Int32) (mroundFrom : Int32) (mouts : Int32) (nm : Nat) (mfromHour : Int32) (mtoHour : Int32) (ns : Nat) (mfrom : Int32) (mto : Int32) (msort : Int32) (misFault : Int32) (mdeep : Int32) (mcoded : Int32) (mlines : Int32) (nl : Nat) (nc : Nat) (nF : Nat) (np : Nat) (ntr : Nat) (nb : Nat) (mbestCost : Int32) (nso : Nat) (nsi : Nat) (nit : Nat) (nsh : Nat) (nsf : Nat) (nss : Nat) (nrc : Nat) (jr : Nat) (jd : Nat) (mnumber : Int32) (mwhose : Int32) (msize : Int32) (misParted : Int32) (fnrc : Nat → Int32) : Prop := MI l G yX12_bodyFrom cX12_bodyFrom 5 (some .int) 48 0 0 [.ref h0, .int 2, .int 3, .int xx] [(h0, oX12 nw nk mhasKept nt mtaped nr mrowMany mroundOf mroundFrom mouts nm mfromHour mtoHour ns mfrom mto msort misFault mdeep mcoded mlines nl nc nF np ntr nb mbestCost nso nsi nit nsh nsf nss nrc (nI jr) (nI jd) mnumber mwhose msize misParted), (nrc, iA G 30 fnrc)] (fun (r : Int32) (u : Nat × Int32 × (Nat → Int32)) => (True) ∧ (u.1 ≤ 30)) (fun u : Nat × Int32 × (Nat → Int32) => [(h0, oX12 nw nk mhasKept nt mtaped nr mrowMany mroundOf mroundFrom mouts nm mfromHour mtoHour ns mfrom mto msort misFault mdeep mcoded mlines nl nc nF np ntr nb mbestCost nso nsi nit nsh nsf nss nrc (nI u.1) (nI jd) mnumber mwhose msize u.2.1), (nrc, iA G 30 u.2.2)])
set_option maxHeartbeats 4000000 in
set_option maxRecDepth 100000 in
theorem m_from23 (l : Launch) (G : GG) (h0 : Nat) (xx : Int32) (nw : Nat) (nk : Nat) (mhasKept : Int32) (nt : Nat) (mtaped : Int32) (nr : Nat) (mrowMany : Int32) (mroundOf : Int32) (mroundFrom : Int32) (mouts : Int32) (nm : Nat) (mfromHour : Int32) (mtoHour : Int32) (ns : Nat) (mfrom : Int32) (mto : Int32) (msort : Int32) (misFault : Int32) (mdeep : Int32) (mcoded : Int32) (mlines : Int32) (nl : Nat) (nc : Nat) (nF : Nat) (np : Nat) (ntr : Nat) (nb : Nat) (mbestCost : Int32) (nso : Nat) (nsi : Nat) (nit : Nat) (nsh : Nat) (nsf : Nat) (nss : Nat) (nrc : Nat) (jr : Nat) (jd : Nat) (mnumber : Int32) (mwhose : Int32) (msize : Int32) (misParted : Int32) (fnrc : Nat → Int32) (hjr : jr ≤ 30) (hjd : jd < 7) : K_m_from23 l G h0 xx nw nk mhasKept nt mtaped nr mrowMany mroundOf mroundFrom mouts nm mfromHour mtoHour ns mfrom mto msort misFault mdeep mcoded mlines nl nc nF np ntr nb mbestCost nso nsi nit nsh nsf nss nrc jr jd mnumber mwhose msize misParted fnrc := by
  refine MI.start (by decide +kernel) (Nat.le_of_ble_eq_true rfl) ?_
  intro p e s m below meth c A ls hC hK hP hD hS hA hl
  refine absQ (fun Q0 hQ0 => ?_)
  have hl : lv_has ls 5 [(0, .ref h0), (1, .int 2), (2, .int 3), (3, .int xx)] := hl
  refine Kan8 hC (fun hx hb hr hml hB hown hlocks hnm => ?_)
  refine lv_iload_n hx hb gX12_bodyFrom_0.1 rfl (lv_at1 hl) ?_
  refine lv_istore (lv' := [(4, .int 2), (0, .ref h0), (1, .int 2), (2, .int 3), (3, .int xx)]) hx hb gX12_bodyFrom_0.2.1 hl (by decide) rfl (fun ls hl => ?_)
  refine lv_iload hx hb gX12_bodyFrom_0.2.2.1 (lv_at0 hl) ?_
  refine lv_iload_n hx hb gX12_bodyFrom_0.2.2.2.1 rfl (lv_at3 hl) ?_
  refine pS hC hK hl (m_hasOwn23 l G) si_X12_360 rfl rfl (Nat.le_of_ble_eq_true rfl) rm_48_1_2 ⟨by first | exact Nat.le_of_ble_eq_true rfl | exact Nat.zero_le _, by first | exact Nat.le_of_ble_eq_true rfl | exact Nat.zero_le _⟩ gX12_bodyFrom_0.2.2.2.2.1 (Keqr ?_)
  refine lv_if_ne (tgt := 22) hx hb gX12_bodyFrom_0.2.2.2.2.2.1 (by decide) (fun c9 => absurd (by decide) c9) (fun _ => ?_)
  refine lv_iload hx hb gX12_bodyFrom_0.2.2.2.2.2.2.1 (lv_at0 hl) ?_
  refine pS hC hK hl (m_above2 l G) si_X12_348 rfl rfl (Nat.le_of_ble_eq_true rfl) rm_48_1_1 ⟨by first | exact Nat.le_of_ble_eq_true rfl | exact Nat.zero_le _, by first | exact Nat.le_of_ble_eq_true rfl | exact Nat.zero_le _⟩ gX12_bodyFrom_0.2.2.2.2.2.2.2.1 (Keqr ?_)
  refine lv_istore (lv' := [(4, .int 0), (0, .ref h0), (1, .int 2), (2, .int 3), (3, .int xx)]) hx hb gX12_bodyFrom_0.2.2.2.2.2.2.2.2.1 hl (by decide) rfl (fun ls hl => ?_)
  refine lv_goto (tgt := 3) hx hb gX12_bodyFrom_0.2.2.2.2.2.2.2.2.2 (by decide) ?_
  refine lv_iload hx hb gX12_bodyFrom_0.2.2.1 (lv_at0 hl) ?_
  refine lv_iload_n hx hb gX12_bodyFrom_0.2.2.2.1 rfl (lv_at3 hl) ?_
  refine pS hC hK hl (m_hasOwn03 l G) si_X12_360 rfl rfl (Nat.le_of_ble_eq_true rfl) rm_48_1_2 ⟨by first | exact Nat.le_of_ble_eq_true rfl | exact Nat.zero_le _, by first | exact Nat.le_of_ble_eq_true rfl | exact Nat.zero_le _⟩ gX12_bodyFrom_0.2.2.2.2.1 (Keqr ?_)
  refine lv_if_ne (tgt := 22) hx hb gX12_bodyFrom_0.2.2.2.2.2.1 (by decide) (fun _ => ?_) (fun c9 => absurd c9 (by decide))
  refine lv_aload_n hx hb gX12_bodyFrom_1.1 rfl (lv_at1 hl) ?_
  refine lv_iload hx hb gX12_bodyFrom_1.2.1 (lv_at0 hl) ?_
  refine lv_iload_n hx hb gX12_bodyFrom_1.2.2.1 rfl (lv_at3 hl) ?_
  refine lv_iload_n hx hb gX12_bodyFrom_1.2.2.2.1 rfl (lv_at4 hl) ?_
  refine iV (wr := []) hC hK hl hP hD hS hA (m_body03 l G h0 xx nw nk mhasKept nt mtaped nr mrowMany mroundOf mroundFrom mouts nm mfromHour mtoHour ns mfrom mto msort misFault mdeep mcoded mlines nl nc nF np ntr nb mbestCost nso nsi nit nsh nsf nss nrc jr jd mnumber mwhose msize misParted fnrc (hjr) (hjd)) si_X12_363 [0, 1] [] sm_0_1 fm_0_1 nd_0_1 rfl rfl (by decide) rfl rfl rfl rfl rfl (Nat.le_of_ble_eq_true rfl) rm_48_39_6 ⟨Nat.le_of_ble_eq_true rfl, Nat.le_of_ble_eq_true rfl⟩ gX12_bodyFrom_1.2.2.2.2.1 (fun r7192 => Ktu3 fun jr17194 ip17195 gtrc7196 => ?_)
  intro H locs hr7192 hP hD hS
  try dsimp only at hr7192
  refine Kpdr (ws := [(h0, oX12 nw nk mhasKept nt mtaped nr mrowMany mroundOf mroundFrom mouts nm mfromHour mtoHour ns mfrom mto msort misFault mdeep mcoded mlines nl nc nF np ntr nb mbestCost nso nsi nit nsh nsf nss nrc (nI jr17194) (nI jd) mnumber mwhose msize ip17195), (nrc, iA G 30 gtrc7196)]) hP hD (fun hP hD => ?_)
  obtain ⟨hr7192, w7197⟩ := hr7192
  refine toQ hQ0 ?_
  exact RI (v := r7192) hC hP hD hS [0, 1] (jr17194, ip17195, gtrc7196) rfl rfl (by decide) (⟨trivial, by omega⟩) rfl gX12_bodyFrom_1.2.2.2.2.2
def K_m_from43 (l : Launch) (G : GG) (h0 : Nat) (xx : Int32) (nw : Nat) (nk : Nat) (mhasKept : Int32) (nt : Nat) (mtaped : Int32) (nr : Nat) (mrowMany : Int32) (mroundOf : Int32) (mroundFrom : Int32) (mouts : Int32) (nm : Nat) (mfromHour : Int32) (mtoHour : Int32) (ns : Nat) (mfrom : Int32) (mto : Int32) (msort : Int32) (misFault : Int32) (mdeep : Int32) (mcoded : Int32) (mlines : Int32) (nl : Nat) (nc : Nat) (nF : Nat) (np : Nat) (ntr : Nat) (nb : Nat) (mbestCost : Int32) (nso : Nat) (nsi : Nat) (nit : Nat) (nsh : Nat) (nsf : Nat) (nss : Nat) (nrc : Nat) (jr : Nat) (jd : Nat) (mnumber : Int32) (mwhose : Int32) (msize : Int32) (misParted : Int32) (fnrc : Nat → Int32) : Prop := MI l G yX12_bodyFrom cX12_bodyFrom 5 (some .int) 48 0 0 [.ref h0, .int 4, .int 3, .int xx] [(h0, oX12 nw nk mhasKept nt mtaped nr mrowMany mroundOf mroundFrom mouts nm mfromHour mtoHour ns mfrom mto msort misFault mdeep mcoded mlines nl nc nF np ntr nb mbestCost nso nsi nit nsh nsf nss nrc (nI jr) (nI jd) mnumber mwhose msize misParted), (nrc, iA G 30 fnrc)] (fun (r : Int32) (u : Nat × Int32 × (Nat → Int32)) => (True) ∧ (u.1 ≤ 30)) (fun u : Nat × Int32 × (Nat → Int32) => [(h0, oX12 nw nk mhasKept nt mtaped nr mrowMany mroundOf mroundFrom mouts nm mfromHour mtoHour ns mfrom mto msort misFault mdeep mcoded mlines nl nc nF np ntr nb mbestCost nso nsi nit nsh nsf nss nrc (nI u.1) (nI jd) mnumber mwhose msize u.2.1), (nrc, iA G 30 u.2.2)])
set_option maxHeartbeats 4000000 in
set_option maxRecDepth 100000 in
theorem m_from43 (l : Launch) (G : GG) (h0 : Nat) (xx : Int32) (nw : Nat) (nk : Nat) (mhasKept : Int32) (nt : Nat) (mtaped : Int32) (nr : Nat) (mrowMany : Int32) (mroundOf : Int32) (mroundFrom : Int32) (mouts : Int32) (nm : Nat) (mfromHour : Int32) (mtoHour : Int32) (ns : Nat) (mfrom : Int32) (mto : Int32) (msort : Int32) (misFault : Int32) (mdeep : Int32) (mcoded : Int32) (mlines : Int32) (nl : Nat) (nc : Nat) (nF : Nat) (np : Nat) (ntr : Nat) (nb : Nat) (mbestCost : Int32) (nso : Nat) (nsi : Nat) (nit : Nat) (nsh : Nat) (nsf : Nat) (nss : Nat) (nrc : Nat) (jr : Nat) (jd : Nat) (mnumber : Int32) (mwhose : Int32) (msize : Int32) (misParted : Int32) (fnrc : Nat → Int32) (hjr : jr ≤ 30) (hjd : jd < 7) : K_m_from43 l G h0 xx nw nk mhasKept nt mtaped nr mrowMany mroundOf mroundFrom mouts nm mfromHour mtoHour ns mfrom mto msort misFault mdeep mcoded mlines nl nc nF np ntr nb mbestCost nso nsi nit nsh nsf nss nrc jr jd mnumber mwhose msize misParted fnrc := by
  refine MI.start (by decide +kernel) (Nat.le_of_ble_eq_true rfl) ?_
  intro p e s m below meth c A ls hC hK hP hD hS hA hl
  refine absQ (fun Q0 hQ0 => ?_)
  have hl : lv_has ls 5 [(0, .ref h0), (1, .int 4), (2, .int 3), (3, .int xx)] := hl
  refine Kan8 hC (fun hx hb hr hml hB hown hlocks hnm => ?_)
  refine lv_iload_n hx hb gX12_bodyFrom_0.1 rfl (lv_at1 hl) ?_
  refine lv_istore (lv' := [(4, .int 4), (0, .ref h0), (1, .int 4), (2, .int 3), (3, .int xx)]) hx hb gX12_bodyFrom_0.2.1 hl (by decide) rfl (fun ls hl => ?_)
  refine lv_iload hx hb gX12_bodyFrom_0.2.2.1 (lv_at0 hl) ?_
  refine lv_iload_n hx hb gX12_bodyFrom_0.2.2.2.1 rfl (lv_at3 hl) ?_
  refine pS hC hK hl (m_hasOwn43 l G) si_X12_360 rfl rfl (Nat.le_of_ble_eq_true rfl) rm_48_1_2 ⟨by first | exact Nat.le_of_ble_eq_true rfl | exact Nat.zero_le _, by first | exact Nat.le_of_ble_eq_true rfl | exact Nat.zero_le _⟩ gX12_bodyFrom_0.2.2.2.2.1 (Keqr ?_)
  refine lv_if_ne (tgt := 22) hx hb gX12_bodyFrom_0.2.2.2.2.2.1 (by decide) (fun c9 => absurd (by decide) c9) (fun _ => ?_)
  refine lv_iload hx hb gX12_bodyFrom_0.2.2.2.2.2.2.1 (lv_at0 hl) ?_
  refine pS hC hK hl (m_above4 l G) si_X12_348 rfl rfl (Nat.le_of_ble_eq_true rfl) rm_48_1_1 ⟨by first | exact Nat.le_of_ble_eq_true rfl | exact Nat.zero_le _, by first | exact Nat.le_of_ble_eq_true rfl | exact Nat.zero_le _⟩ gX12_bodyFrom_0.2.2.2.2.2.2.2.1 (Keqr ?_)
  refine lv_istore (lv' := [(4, .int 0), (0, .ref h0), (1, .int 4), (2, .int 3), (3, .int xx)]) hx hb gX12_bodyFrom_0.2.2.2.2.2.2.2.2.1 hl (by decide) rfl (fun ls hl => ?_)
  refine lv_goto (tgt := 3) hx hb gX12_bodyFrom_0.2.2.2.2.2.2.2.2.2 (by decide) ?_
  refine lv_iload hx hb gX12_bodyFrom_0.2.2.1 (lv_at0 hl) ?_
  refine lv_iload_n hx hb gX12_bodyFrom_0.2.2.2.1 rfl (lv_at3 hl) ?_
  refine pS hC hK hl (m_hasOwn03 l G) si_X12_360 rfl rfl (Nat.le_of_ble_eq_true rfl) rm_48_1_2 ⟨by first | exact Nat.le_of_ble_eq_true rfl | exact Nat.zero_le _, by first | exact Nat.le_of_ble_eq_true rfl | exact Nat.zero_le _⟩ gX12_bodyFrom_0.2.2.2.2.1 (Keqr ?_)
  refine lv_if_ne (tgt := 22) hx hb gX12_bodyFrom_0.2.2.2.2.2.1 (by decide) (fun _ => ?_) (fun c9 => absurd c9 (by decide))
  refine lv_aload_n hx hb gX12_bodyFrom_1.1 rfl (lv_at1 hl) ?_
  refine lv_iload hx hb gX12_bodyFrom_1.2.1 (lv_at0 hl) ?_
  refine lv_iload_n hx hb gX12_bodyFrom_1.2.2.1 rfl (lv_at3 hl) ?_
  refine lv_iload_n hx hb gX12_bodyFrom_1.2.2.2.1 rfl (lv_at4 hl) ?_
  refine iV (wr := []) hC hK hl hP hD hS hA (m_body03 l G h0 xx nw nk mhasKept nt mtaped nr mrowMany mroundOf mroundFrom mouts nm mfromHour mtoHour ns mfrom mto msort misFault mdeep mcoded mlines nl nc nF np ntr nb mbestCost nso nsi nit nsh nsf nss nrc jr jd mnumber mwhose msize misParted fnrc (hjr) (hjd)) si_X12_363 [0, 1] [] sm_0_1 fm_0_1 nd_0_1 rfl rfl (by decide) rfl rfl rfl rfl rfl (Nat.le_of_ble_eq_true rfl) rm_48_39_6 ⟨Nat.le_of_ble_eq_true rfl, Nat.le_of_ble_eq_true rfl⟩ gX12_bodyFrom_1.2.2.2.2.1 (fun r7204 => Ktu3 fun jr17206 ip17207 gtrc7208 => ?_)
  intro H locs hr7204 hP hD hS
  try dsimp only at hr7204
  refine Kpdr (ws := [(h0, oX12 nw nk mhasKept nt mtaped nr mrowMany mroundOf mroundFrom mouts nm mfromHour mtoHour ns mfrom mto msort misFault mdeep mcoded mlines nl nc nF np ntr nb mbestCost nso nsi nit nsh nsf nss nrc (nI jr17206) (nI jd) mnumber mwhose msize ip17207), (nrc, iA G 30 gtrc7208)]) hP hD (fun hP hD => ?_)
  obtain ⟨hr7204, w7209⟩ := hr7204
  refine toQ hQ0 ?_
  exact RI (v := r7204) hC hP hD hS [0, 1] (jr17206, ip17207, gtrc7208) rfl rfl (by decide) (⟨trivial, by omega⟩) rfl gX12_bodyFrom_1.2.2.2.2.2
def K_m_from53 (l : Launch) (G : GG) (h0 : Nat) (xx : Int32) (nw : Nat) (nk : Nat) (mhasKept : Int32) (nt : Nat) (mtaped : Int32) (nr : Nat) (mrowMany : Int32) (mroundOf : Int32) (mroundFrom : Int32) (mouts : Int32) (nm : Nat) (mfromHour : Int32) (mtoHour : Int32) (ns : Nat) (mfrom : Int32) (mto : Int32) (msort : Int32) (misFault : Int32) (mdeep : Int32) (mcoded : Int32) (mlines : Int32) (nl : Nat) (nc : Nat) (nF : Nat) (np : Nat) (ntr : Nat) (nb : Nat) (mbestCost : Int32) (nso : Nat) (nsi : Nat) (nit : Nat) (nsh : Nat) (nsf : Nat) (nss : Nat) (nrc : Nat) (jr : Nat) (jd : Nat) (mnumber : Int32) (mwhose : Int32) (msize : Int32) (misParted : Int32) (fnrc : Nat → Int32) : Prop := MI l G yX12_bodyFrom cX12_bodyFrom 5 (some .int) 48 0 0 [.ref h0, .int 5, .int 3, .int xx] [(h0, oX12 nw nk mhasKept nt mtaped nr mrowMany mroundOf mroundFrom mouts nm mfromHour mtoHour ns mfrom mto msort misFault mdeep mcoded mlines nl nc nF np ntr nb mbestCost nso nsi nit nsh nsf nss nrc (nI jr) (nI jd) mnumber mwhose msize misParted), (nrc, iA G 30 fnrc)] (fun (r : Int32) (u : Nat × Int32 × (Nat → Int32)) => (True) ∧ (u.1 ≤ 30)) (fun u : Nat × Int32 × (Nat → Int32) => [(h0, oX12 nw nk mhasKept nt mtaped nr mrowMany mroundOf mroundFrom mouts nm mfromHour mtoHour ns mfrom mto msort misFault mdeep mcoded mlines nl nc nF np ntr nb mbestCost nso nsi nit nsh nsf nss nrc (nI u.1) (nI jd) mnumber mwhose msize u.2.1), (nrc, iA G 30 u.2.2)])
set_option maxHeartbeats 4000000 in
set_option maxRecDepth 100000 in
theorem m_from53 (l : Launch) (G : GG) (h0 : Nat) (xx : Int32) (nw : Nat) (nk : Nat) (mhasKept : Int32) (nt : Nat) (mtaped : Int32) (nr : Nat) (mrowMany : Int32) (mroundOf : Int32) (mroundFrom : Int32) (mouts : Int32) (nm : Nat) (mfromHour : Int32) (mtoHour : Int32) (ns : Nat) (mfrom : Int32) (mto : Int32) (msort : Int32) (misFault : Int32) (mdeep : Int32) (mcoded : Int32) (mlines : Int32) (nl : Nat) (nc : Nat) (nF : Nat) (np : Nat) (ntr : Nat) (nb : Nat) (mbestCost : Int32) (nso : Nat) (nsi : Nat) (nit : Nat) (nsh : Nat) (nsf : Nat) (nss : Nat) (nrc : Nat) (jr : Nat) (jd : Nat) (mnumber : Int32) (mwhose : Int32) (msize : Int32) (misParted : Int32) (fnrc : Nat → Int32) (hjr : jr ≤ 30) (hjd : jd < 7) : K_m_from53 l G h0 xx nw nk mhasKept nt mtaped nr mrowMany mroundOf mroundFrom mouts nm mfromHour mtoHour ns mfrom mto msort misFault mdeep mcoded mlines nl nc nF np ntr nb mbestCost nso nsi nit nsh nsf nss nrc jr jd mnumber mwhose msize misParted fnrc := by
  refine MI.start (by decide +kernel) (Nat.le_of_ble_eq_true rfl) ?_
  intro p e s m below meth c A ls hC hK hP hD hS hA hl
  refine absQ (fun Q0 hQ0 => ?_)
  have hl : lv_has ls 5 [(0, .ref h0), (1, .int 5), (2, .int 3), (3, .int xx)] := hl
  refine Kan8 hC (fun hx hb hr hml hB hown hlocks hnm => ?_)
  refine lv_iload_n hx hb gX12_bodyFrom_0.1 rfl (lv_at1 hl) ?_
  refine lv_istore (lv' := [(4, .int 5), (0, .ref h0), (1, .int 5), (2, .int 3), (3, .int xx)]) hx hb gX12_bodyFrom_0.2.1 hl (by decide) rfl (fun ls hl => ?_)
  refine lv_iload hx hb gX12_bodyFrom_0.2.2.1 (lv_at0 hl) ?_
  refine lv_iload_n hx hb gX12_bodyFrom_0.2.2.2.1 rfl (lv_at3 hl) ?_
  refine pS hC hK hl (m_hasOwn53 l G) si_X12_360 rfl rfl (Nat.le_of_ble_eq_true rfl) rm_48_1_2 ⟨by first | exact Nat.le_of_ble_eq_true rfl | exact Nat.zero_le _, by first | exact Nat.le_of_ble_eq_true rfl | exact Nat.zero_le _⟩ gX12_bodyFrom_0.2.2.2.2.1 (Keqr ?_)
  refine lv_if_ne (tgt := 22) hx hb gX12_bodyFrom_0.2.2.2.2.2.1 (by decide) (fun c9 => absurd (by decide) c9) (fun _ => ?_)
  refine lv_iload hx hb gX12_bodyFrom_0.2.2.2.2.2.2.1 (lv_at0 hl) ?_
  refine pS hC hK hl (m_above5 l G) si_X12_348 rfl rfl (Nat.le_of_ble_eq_true rfl) rm_48_1_1 ⟨by first | exact Nat.le_of_ble_eq_true rfl | exact Nat.zero_le _, by first | exact Nat.le_of_ble_eq_true rfl | exact Nat.zero_le _⟩ gX12_bodyFrom_0.2.2.2.2.2.2.2.1 (Keqr ?_)
  refine lv_istore (lv' := [(4, .int 4), (0, .ref h0), (1, .int 5), (2, .int 3), (3, .int xx)]) hx hb gX12_bodyFrom_0.2.2.2.2.2.2.2.2.1 hl (by decide) rfl (fun ls hl => ?_)
  refine lv_goto (tgt := 3) hx hb gX12_bodyFrom_0.2.2.2.2.2.2.2.2.2 (by decide) ?_
  refine lv_iload hx hb gX12_bodyFrom_0.2.2.1 (lv_at0 hl) ?_
  refine lv_iload_n hx hb gX12_bodyFrom_0.2.2.2.1 rfl (lv_at3 hl) ?_
  refine pS hC hK hl (m_hasOwn43 l G) si_X12_360 rfl rfl (Nat.le_of_ble_eq_true rfl) rm_48_1_2 ⟨by first | exact Nat.le_of_ble_eq_true rfl | exact Nat.zero_le _, by first | exact Nat.le_of_ble_eq_true rfl | exact Nat.zero_le _⟩ gX12_bodyFrom_0.2.2.2.2.1 (Keqr ?_)
  refine lv_if_ne (tgt := 22) hx hb gX12_bodyFrom_0.2.2.2.2.2.1 (by decide) (fun c9 => absurd (by decide) c9) (fun _ => ?_)
  refine lv_iload hx hb gX12_bodyFrom_0.2.2.2.2.2.2.1 (lv_at0 hl) ?_
  refine pS hC hK hl (m_above4 l G) si_X12_348 rfl rfl (Nat.le_of_ble_eq_true rfl) rm_48_1_1 ⟨by first | exact Nat.le_of_ble_eq_true rfl | exact Nat.zero_le _, by first | exact Nat.le_of_ble_eq_true rfl | exact Nat.zero_le _⟩ gX12_bodyFrom_0.2.2.2.2.2.2.2.1 (Keqr ?_)
  refine lv_istore (lv' := [(4, .int 0), (0, .ref h0), (1, .int 5), (2, .int 3), (3, .int xx)]) hx hb gX12_bodyFrom_0.2.2.2.2.2.2.2.2.1 hl (by decide) rfl (fun ls hl => ?_)
  refine lv_goto (tgt := 3) hx hb gX12_bodyFrom_0.2.2.2.2.2.2.2.2.2 (by decide) ?_
  refine lv_iload hx hb gX12_bodyFrom_0.2.2.1 (lv_at0 hl) ?_
  refine lv_iload_n hx hb gX12_bodyFrom_0.2.2.2.1 rfl (lv_at3 hl) ?_
  refine pS hC hK hl (m_hasOwn03 l G) si_X12_360 rfl rfl (Nat.le_of_ble_eq_true rfl) rm_48_1_2 ⟨by first | exact Nat.le_of_ble_eq_true rfl | exact Nat.zero_le _, by first | exact Nat.le_of_ble_eq_true rfl | exact Nat.zero_le _⟩ gX12_bodyFrom_0.2.2.2.2.1 (Keqr ?_)
  refine lv_if_ne (tgt := 22) hx hb gX12_bodyFrom_0.2.2.2.2.2.1 (by decide) (fun _ => ?_) (fun c9 => absurd c9 (by decide))
  refine lv_aload_n hx hb gX12_bodyFrom_1.1 rfl (lv_at1 hl) ?_
  refine lv_iload hx hb gX12_bodyFrom_1.2.1 (lv_at0 hl) ?_
  refine lv_iload_n hx hb gX12_bodyFrom_1.2.2.1 rfl (lv_at3 hl) ?_
  refine lv_iload_n hx hb gX12_bodyFrom_1.2.2.2.1 rfl (lv_at4 hl) ?_
  refine iV (wr := []) hC hK hl hP hD hS hA (m_body03 l G h0 xx nw nk mhasKept nt mtaped nr mrowMany mroundOf mroundFrom mouts nm mfromHour mtoHour ns mfrom mto msort misFault mdeep mcoded mlines nl nc nF np ntr nb mbestCost nso nsi nit nsh nsf nss nrc jr jd mnumber mwhose msize misParted fnrc (hjr) (hjd)) si_X12_363 [0, 1] [] sm_0_1 fm_0_1 nd_0_1 rfl rfl (by decide) rfl rfl rfl rfl rfl (Nat.le_of_ble_eq_true rfl) rm_48_39_6 ⟨Nat.le_of_ble_eq_true rfl, Nat.le_of_ble_eq_true rfl⟩ gX12_bodyFrom_1.2.2.2.2.1 (fun r7220 => Ktu3 fun jr17222 ip17223 gtrc7224 => ?_)
  intro H locs hr7220 hP hD hS
  try dsimp only at hr7220
  refine Kpdr (ws := [(h0, oX12 nw nk mhasKept nt mtaped nr mrowMany mroundOf mroundFrom mouts nm mfromHour mtoHour ns mfrom mto msort misFault mdeep mcoded mlines nl nc nF np ntr nb mbestCost nso nsi nit nsh nsf nss nrc (nI jr17222) (nI jd) mnumber mwhose msize ip17223), (nrc, iA G 30 gtrc7224)]) hP hD (fun hP hD => ?_)
  obtain ⟨hr7220, w7225⟩ := hr7220
  refine toQ hQ0 ?_
  exact RI (v := r7220) hC hP hD hS [0, 1] (jr17222, ip17223, gtrc7224) rfl rfl (by decide) (⟨trivial, by omega⟩) rfl gX12_bodyFrom_1.2.2.2.2.2
def K_m_dealt3 (l : Launch) (G : GG) (h0 : Nat) (xx : Int32) (nw : Nat) (nk : Nat) (mhasKept : Int32) (nt : Nat) (mtaped : Int32) (nr : Nat) (mrowMany : Int32) (mroundOf : Int32) (mroundFrom : Int32) (mouts : Int32) (nm : Nat) (mfromHour : Int32) (mtoHour : Int32) (ns : Nat) (mfrom : Int32) (mto : Int32) (msort : Int32) (misFault : Int32) (mdeep : Int32) (mcoded : Int32) (mlines : Int32) (nl : Nat) (nc : Nat) (nF : Nat) (np : Nat) (ntr : Nat) (nb : Nat) (mbestCost : Int32) (nso : Nat) (nsi : Nat) (nit : Nat) (nsh : Nat) (nsf : Nat) (nss : Nat) (nrc : Nat) (jr : Nat) (jd : Nat) (mnumber : Int32) (mwhose : Int32) (msize : Int32) (misParted : Int32) (fnrc : Nat → Int32) : Prop := MI l G yX12_dealt cX12_dealt 3 (some .int) 50 0 0 [.ref h0, .int 3, .int xx] [(h0, oX12 nw nk mhasKept nt mtaped nr mrowMany mroundOf mroundFrom mouts nm mfromHour mtoHour ns mfrom mto msort misFault mdeep mcoded mlines nl nc nF np ntr nb mbestCost nso nsi nit nsh nsf nss nrc (nI jr) (nI jd) mnumber mwhose msize misParted), (nrc, iA G 30 fnrc)] (fun (r : Int32) (u : Nat × Int32 × (Nat → Int32)) => (True) ∧ (u.1 ≤ 30)) (fun u : Nat × Int32 × (Nat → Int32) => [(h0, oX12 nw nk mhasKept nt mtaped nr mrowMany mroundOf mroundFrom mouts nm mfromHour mtoHour ns mfrom mto msort misFault mdeep mcoded mlines nl nc nF np ntr nb mbestCost nso nsi nit nsh nsf nss nrc (nI u.1) (nI jd) mnumber mwhose msize u.2.1), (nrc, iA G 30 u.2.2)])
set_option maxHeartbeats 4000000 in
set_option maxRecDepth 100000 in
theorem m_dealt3 (l : Launch) (G : GG) (h0 : Nat) (xx : Int32) (nw : Nat) (nk : Nat) (mhasKept : Int32) (nt : Nat) (mtaped : Int32) (nr : Nat) (mrowMany : Int32) (mroundOf : Int32) (mroundFrom : Int32) (mouts : Int32) (nm : Nat) (mfromHour : Int32) (mtoHour : Int32) (ns : Nat) (mfrom : Int32) (mto : Int32) (msort : Int32) (misFault : Int32) (mdeep : Int32) (mcoded : Int32) (mlines : Int32) (nl : Nat) (nc : Nat) (nF : Nat) (np : Nat) (ntr : Nat) (nb : Nat) (mbestCost : Int32) (nso : Nat) (nsi : Nat) (nit : Nat) (nsh : Nat) (nsf : Nat) (nss : Nat) (nrc : Nat) (jr : Nat) (jd : Nat) (mnumber : Int32) (mwhose : Int32) (msize : Int32) (misParted : Int32) (fnrc : Nat → Int32) (hjr : jr ≤ 30) (hjd : jd < 7) : K_m_dealt3 l G h0 xx nw nk mhasKept nt mtaped nr mrowMany mroundOf mroundFrom mouts nm mfromHour mtoHour ns mfrom mto msort misFault mdeep mcoded mlines nl nc nF np ntr nb mbestCost nso nsi nit nsh nsf nss nrc jr jd mnumber mwhose msize misParted fnrc := by
  refine MI.start (by decide +kernel) (Nat.le_of_ble_eq_true rfl) ?_
  intro p e s m below meth c A ls hC hK hP hD hS hA hl
  refine absQ (fun Q0 hQ0 => ?_)
  have hl : lv_has ls 3 [(0, .ref h0), (1, .int 3), (2, .int xx)] := hl
  refine Kan8 hC (fun hx hb hr hml hB hown hlocks hnm => ?_)
  refine lv_aload_n hx hb gX12_dealt_0.1 rfl (lv_at0 hl) ?_
  refine lv_aload_n hx hb gX12_dealt_0.2.1 rfl (lv_at0 hl) ?_
  refine gf_X12_354 hC rfl hK hP 0 rfl rfl gX12_dealt_0.2.2.1 ?_
  refine lv_iload_n hx hb gX12_dealt_0.2.2.2.1 rfl (lv_at1 hl) ?_
  refine lv_iload_n hx hb gX12_dealt_0.2.2.2.2.1 rfl (lv_at2 hl) ?_
  rcases (show jd = 0 ∨ jd = 1 ∨ jd = 2 ∨ jd = 3 ∨ jd = 4 ∨ jd = 5 ∨ jd = 6 by omega) with rfl | rfl | rfl | rfl | rfl | rfl | rfl
  · refine iV (wr := []) hC hK hl hP hD hS hA (m_from03 l G h0 xx nw nk mhasKept nt mtaped nr mrowMany mroundOf mroundFrom mouts nm mfromHour mtoHour ns mfrom mto msort misFault mdeep mcoded mlines nl nc nF np ntr nb mbestCost nso nsi nit nsh nsf nss nrc jr 0 mnumber mwhose msize misParted fnrc (hjr) (hjd)) si_X12_357 [0, 1] [] sm_0_1 fm_0_1 nd_0_1 rfl rfl (by decide) rfl rfl rfl rfl rfl (Nat.le_of_ble_eq_true rfl) rm_50_40_5 ⟨Nat.le_of_ble_eq_true rfl, Nat.le_of_ble_eq_true rfl⟩ gX12_dealt_0.2.2.2.2.2.1 (fun r7226 => Ktu3 fun jr17228 ip17229 gtrc7230 => ?_)
    intro H locs hr7226 hP hD hS
    try dsimp only at hr7226
    refine Kpdr (ws := [(h0, oX12 nw nk mhasKept nt mtaped nr mrowMany mroundOf mroundFrom mouts nm mfromHour mtoHour ns mfrom mto msort misFault mdeep mcoded mlines nl nc nF np ntr nb mbestCost nso nsi nit nsh nsf nss nrc (nI jr17228) 0 mnumber mwhose msize ip17229), (nrc, iA G 30 gtrc7230)]) hP hD (fun hP hD => ?_)
    obtain ⟨hr7226, w7231⟩ := hr7226
    refine toQ hQ0 ?_
    exact RI (v := r7226) hC hP hD hS [0, 1] (jr17228, ip17229, gtrc7230) rfl rfl (by decide) (⟨trivial, by omega⟩) rfl gX12_dealt_0.2.2.2.2.2.2
  · refine iV (wr := []) hC hK hl hP hD hS hA (m_from13 l G h0 xx nw nk mhasKept nt mtaped nr mrowMany mroundOf mroundFrom mouts nm mfromHour mtoHour ns mfrom mto msort misFault mdeep mcoded mlines nl nc nF np ntr nb mbestCost nso nsi nit nsh nsf nss nrc jr 1 mnumber mwhose msize misParted fnrc (hjr) (hjd)) si_X12_357 [0, 1] [] sm_0_1 fm_0_1 nd_0_1 rfl rfl (by decide) rfl rfl rfl rfl rfl (Nat.le_of_ble_eq_true rfl) rm_50_42_5 ⟨Nat.le_of_ble_eq_true rfl, Nat.le_of_ble_eq_true rfl⟩ gX12_dealt_0.2.2.2.2.2.1 (fun r7232 => Ktu3 fun jr17234 ip17235 gtrc7236 => ?_)
    intro H locs hr7232 hP hD hS
    try dsimp only at hr7232
    refine Kpdr (ws := [(h0, oX12 nw nk mhasKept nt mtaped nr mrowMany mroundOf mroundFrom mouts nm mfromHour mtoHour ns mfrom mto msort misFault mdeep mcoded mlines nl nc nF np ntr nb mbestCost nso nsi nit nsh nsf nss nrc (nI jr17234) 1 mnumber mwhose msize ip17235), (nrc, iA G 30 gtrc7236)]) hP hD (fun hP hD => ?_)
    obtain ⟨hr7232, w7237⟩ := hr7232
    refine toQ hQ0 ?_
    exact RI (v := r7232) hC hP hD hS [0, 1] (jr17234, ip17235, gtrc7236) rfl rfl (by decide) (⟨trivial, by omega⟩) rfl gX12_dealt_0.2.2.2.2.2.2
  · refine iV (wr := []) hC hK hl hP hD hS hA (m_from23 l G h0 xx nw nk mhasKept nt mtaped nr mrowMany mroundOf mroundFrom mouts nm mfromHour mtoHour ns mfrom mto msort misFault mdeep mcoded mlines nl nc nF np ntr nb mbestCost nso nsi nit nsh nsf nss nrc jr 2 mnumber mwhose msize misParted fnrc (hjr) (hjd)) si_X12_357 [0, 1] [] sm_0_1 fm_0_1 nd_0_1 rfl rfl (by decide) rfl rfl rfl rfl rfl (Nat.le_of_ble_eq_true rfl) rm_50_48_5 ⟨Nat.le_of_ble_eq_true rfl, Nat.le_of_ble_eq_true rfl⟩ gX12_dealt_0.2.2.2.2.2.1 (fun r7238 => Ktu3 fun jr17240 ip17241 gtrc7242 => ?_)
    intro H locs hr7238 hP hD hS
    try dsimp only at hr7238
    refine Kpdr (ws := [(h0, oX12 nw nk mhasKept nt mtaped nr mrowMany mroundOf mroundFrom mouts nm mfromHour mtoHour ns mfrom mto msort misFault mdeep mcoded mlines nl nc nF np ntr nb mbestCost nso nsi nit nsh nsf nss nrc (nI jr17240) 2 mnumber mwhose msize ip17241), (nrc, iA G 30 gtrc7242)]) hP hD (fun hP hD => ?_)
    obtain ⟨hr7238, w7243⟩ := hr7238
    refine toQ hQ0 ?_
    exact RI (v := r7238) hC hP hD hS [0, 1] (jr17240, ip17241, gtrc7242) rfl rfl (by decide) (⟨trivial, by omega⟩) rfl gX12_dealt_0.2.2.2.2.2.2
  · refine iV (wr := []) hC hK hl hP hD hS hA (m_from33 l G h0 xx nw nk mhasKept nt mtaped nr mrowMany mroundOf mroundFrom mouts nm mfromHour mtoHour ns mfrom mto msort misFault mdeep mcoded mlines nl nc nF np ntr nb mbestCost nso nsi nit nsh nsf nss nrc jr 3 mnumber mwhose msize misParted fnrc (hjr) (hjd)) si_X12_357 [0, 1] [] sm_0_1 fm_0_1 nd_0_1 rfl rfl (by decide) rfl rfl rfl rfl rfl (Nat.le_of_ble_eq_true rfl) rm_50_44_5 ⟨Nat.le_of_ble_eq_true rfl, Nat.le_of_ble_eq_true rfl⟩ gX12_dealt_0.2.2.2.2.2.1 (fun r7244 => Ktu3 fun jr17246 ip17247 gtrc7248 => ?_)
    intro H locs hr7244 hP hD hS
    try dsimp only at hr7244
    refine Kpdr (ws := [(h0, oX12 nw nk mhasKept nt mtaped nr mrowMany mroundOf mroundFrom mouts nm mfromHour mtoHour ns mfrom mto msort misFault mdeep mcoded mlines nl nc nF np ntr nb mbestCost nso nsi nit nsh nsf nss nrc (nI jr17246) 3 mnumber mwhose msize ip17247), (nrc, iA G 30 gtrc7248)]) hP hD (fun hP hD => ?_)
    obtain ⟨hr7244, w7249⟩ := hr7244
    refine toQ hQ0 ?_
    exact RI (v := r7244) hC hP hD hS [0, 1] (jr17246, ip17247, gtrc7248) rfl rfl (by decide) (⟨trivial, by omega⟩) rfl gX12_dealt_0.2.2.2.2.2.2
  · refine iV (wr := []) hC hK hl hP hD hS hA (m_from43 l G h0 xx nw nk mhasKept nt mtaped nr mrowMany mroundOf mroundFrom mouts nm mfromHour mtoHour ns mfrom mto msort misFault mdeep mcoded mlines nl nc nF np ntr nb mbestCost nso nsi nit nsh nsf nss nrc jr 4 mnumber mwhose msize misParted fnrc (hjr) (hjd)) si_X12_357 [0, 1] [] sm_0_1 fm_0_1 nd_0_1 rfl rfl (by decide) rfl rfl rfl rfl rfl (Nat.le_of_ble_eq_true rfl) rm_50_48_5 ⟨Nat.le_of_ble_eq_true rfl, Nat.le_of_ble_eq_true rfl⟩ gX12_dealt_0.2.2.2.2.2.1 (fun r7250 => Ktu3 fun jr17252 ip17253 gtrc7254 => ?_)
    intro H locs hr7250 hP hD hS
    try dsimp only at hr7250
    refine Kpdr (ws := [(h0, oX12 nw nk mhasKept nt mtaped nr mrowMany mroundOf mroundFrom mouts nm mfromHour mtoHour ns mfrom mto msort misFault mdeep mcoded mlines nl nc nF np ntr nb mbestCost nso nsi nit nsh nsf nss nrc (nI jr17252) 4 mnumber mwhose msize ip17253), (nrc, iA G 30 gtrc7254)]) hP hD (fun hP hD => ?_)
    obtain ⟨hr7250, w7255⟩ := hr7250
    refine toQ hQ0 ?_
    exact RI (v := r7250) hC hP hD hS [0, 1] (jr17252, ip17253, gtrc7254) rfl rfl (by decide) (⟨trivial, by omega⟩) rfl gX12_dealt_0.2.2.2.2.2.2
  · refine iV (wr := []) hC hK hl hP hD hS hA (m_from53 l G h0 xx nw nk mhasKept nt mtaped nr mrowMany mroundOf mroundFrom mouts nm mfromHour mtoHour ns mfrom mto msort misFault mdeep mcoded mlines nl nc nF np ntr nb mbestCost nso nsi nit nsh nsf nss nrc jr 5 mnumber mwhose msize misParted fnrc (hjr) (hjd)) si_X12_357 [0, 1] [] sm_0_1 fm_0_1 nd_0_1 rfl rfl (by decide) rfl rfl rfl rfl rfl (Nat.le_of_ble_eq_true rfl) rm_50_48_5 ⟨Nat.le_of_ble_eq_true rfl, Nat.le_of_ble_eq_true rfl⟩ gX12_dealt_0.2.2.2.2.2.1 (fun r7256 => Ktu3 fun jr17258 ip17259 gtrc7260 => ?_)
    intro H locs hr7256 hP hD hS
    try dsimp only at hr7256
    refine Kpdr (ws := [(h0, oX12 nw nk mhasKept nt mtaped nr mrowMany mroundOf mroundFrom mouts nm mfromHour mtoHour ns mfrom mto msort misFault mdeep mcoded mlines nl nc nF np ntr nb mbestCost nso nsi nit nsh nsf nss nrc (nI jr17258) 5 mnumber mwhose msize ip17259), (nrc, iA G 30 gtrc7260)]) hP hD (fun hP hD => ?_)
    obtain ⟨hr7256, w7261⟩ := hr7256
    refine toQ hQ0 ?_
    exact RI (v := r7256) hC hP hD hS [0, 1] (jr17258, ip17259, gtrc7260) rfl rfl (by decide) (⟨trivial, by omega⟩) rfl gX12_dealt_0.2.2.2.2.2.2
  · refine iV (wr := []) hC hK hl hP hD hS hA (m_from63 l G h0 xx nw nk mhasKept nt mtaped nr mrowMany mroundOf mroundFrom mouts nm mfromHour mtoHour ns mfrom mto msort misFault mdeep mcoded mlines nl nc nF np ntr nb mbestCost nso nsi nit nsh nsf nss nrc jr 6 mnumber mwhose msize misParted fnrc (hjr) (hjd)) si_X12_357 [0, 1] [] sm_0_1 fm_0_1 nd_0_1 rfl rfl (by decide) rfl rfl rfl rfl rfl (Nat.le_of_ble_eq_true rfl) rm_50_46_5 ⟨Nat.le_of_ble_eq_true rfl, Nat.le_of_ble_eq_true rfl⟩ gX12_dealt_0.2.2.2.2.2.1 (fun r7262 => Ktu3 fun jr17264 ip17265 gtrc7266 => ?_)
    intro H locs hr7262 hP hD hS
    try dsimp only at hr7262
    refine Kpdr (ws := [(h0, oX12 nw nk mhasKept nt mtaped nr mrowMany mroundOf mroundFrom mouts nm mfromHour mtoHour ns mfrom mto msort misFault mdeep mcoded mlines nl nc nF np ntr nb mbestCost nso nsi nit nsh nsf nss nrc (nI jr17264) 6 mnumber mwhose msize ip17265), (nrc, iA G 30 gtrc7266)]) hP hD (fun hP hD => ?_)
    obtain ⟨hr7262, w7267⟩ := hr7262
    refine toQ hQ0 ?_
    exact RI (v := r7262) hC hP hD hS [0, 1] (jr17264, ip17265, gtrc7266) rfl rfl (by decide) (⟨trivial, by omega⟩) rfl gX12_dealt_0.2.2.2.2.2.2
def K_w_deal (l : Launch) (G : GG) (h0 : Nat) (x1 : Int32) (x2 : Int32) (x3 : Int32) (nw : Nat) (nk : Nat) (mhasKept : Int32) (nt : Nat) (mtaped : Int32) (nr : Nat) (mrowMany : Int32) (mroundOf : Int32) (mroundFrom : Int32) (mouts : Int32) (nm : Nat) (mfromHour : Int32) (mtoHour : Int32) (ns : Nat) (mfrom : Int32) (mto : Int32) (msort : Int32) (misFault : Int32) (mdeep : Int32) (mcoded : Int32) (mlines : Int32) (nl : Nat) (nc : Nat) (nF : Nat) (np : Nat) (ntr : Nat) (nb : Nat) (mbestCost : Int32) (nso : Nat) (nsi : Nat) (nit : Nat) (nsh : Nat) (nsf : Nat) (nss : Nat) (nrc : Nat) (mtraced : Int32) (mdealer : Int32) (mnumber : Int32) (mwhose : Int32) (msize : Int32) (misParted : Int32) (fnw : Nat → Int32) (fnsh : Nat → Int32) (fnsf : Nat → Int32) (fnrc : Nat → Int32) : Prop := MI l G yX12_deal cX12_deal 8 (some .int) 60 0 0 [.ref h0, .int x1, .int x2, .int x3] [(h0, oX12 nw nk mhasKept nt mtaped nr mrowMany mroundOf mroundFrom mouts nm mfromHour mtoHour ns mfrom mto msort misFault mdeep mcoded mlines nl nc nF np ntr nb mbestCost nso nsi nit nsh nsf nss nrc mtraced mdealer mnumber mwhose msize misParted), (nw, iA G 1662 fnw), (nsh, iA G 4 fnsh), (nsf, iA G 4 fnsf), (nrc, iA G 30 fnrc)] (fun (r : Int32) (u : Nat × Int32 × Int32 × Int32 × Int32 × Int32 × (Nat → Int32)) => (True) ∧ (u.1 ≤ 30)) (fun u : Nat × Int32 × Int32 × Int32 × Int32 × Int32 × (Nat → Int32) => [(h0, oX12 nw nk mhasKept nt mtaped nr mrowMany mroundOf mroundFrom mouts nm mfromHour mtoHour ns mfrom mto msort misFault mdeep mcoded mlines nl nc nF np ntr nb mbestCost nso nsi nit nsh nsf nss nrc (nI u.1) u.2.1 u.2.2.1 u.2.2.2.1 u.2.2.2.2.1 u.2.2.2.2.2.1), (nw, iA G 1662 fnw), (nsh, iA G 4 fnsh), (nsf, iA G 4 fnsf), (nrc, iA G 30 u.2.2.2.2.2.2)])
set_option maxHeartbeats 4000000 in
set_option maxRecDepth 100000 in
theorem w_deal (l : Launch) (G : GG) (h0 : Nat) (x1 : Int32) (x2 : Int32) (x3 : Int32) (nw : Nat) (nk : Nat) (mhasKept : Int32) (nt : Nat) (mtaped : Int32) (nr : Nat) (mrowMany : Int32) (mroundOf : Int32) (mroundFrom : Int32) (mouts : Int32) (nm : Nat) (mfromHour : Int32) (mtoHour : Int32) (ns : Nat) (mfrom : Int32) (mto : Int32) (msort : Int32) (misFault : Int32) (mdeep : Int32) (mcoded : Int32) (mlines : Int32) (nl : Nat) (nc : Nat) (nF : Nat) (np : Nat) (ntr : Nat) (nb : Nat) (mbestCost : Int32) (nso : Nat) (nsi : Nat) (nit : Nat) (nsh : Nat) (nsf : Nat) (nss : Nat) (nrc : Nat) (mtraced : Int32) (mdealer : Int32) (mnumber : Int32) (mwhose : Int32) (msize : Int32) (misParted : Int32) (fnw : Nat → Int32) (fnsh : Nat → Int32) (fnsf : Nat → Int32) (fnrc : Nat → Int32) (hN : NI fnw) : K_w_deal l G h0 x1 x2 x3 nw nk mhasKept nt mtaped nr mrowMany mroundOf mroundFrom mouts nm mfromHour mtoHour ns mfrom mto msort misFault mdeep mcoded mlines nl nc nF np ntr nb mbestCost nso nsi nit nsh nsf nss nrc mtraced mdealer mnumber mwhose msize misParted fnw fnsh fnsf fnrc := by
  refine MI.start (by decide +kernel) (Nat.le_of_ble_eq_true rfl) ?_
  intro p e s m below meth c A ls hC hK hP hD hS hA hl
  refine absQ (fun Q0 hQ0 => ?_)
  have hl : lv_has ls 8 [(0, .ref h0), (1, .int x1), (2, .int x2), (3, .int x3)] := hl
  refine Kan8 hC (fun hx hb hr hml hB hown hlocks hnm => ?_)
  refine lv_aload_n hx hb gX12_deal_0.1 rfl (lv_at0 hl) ?_
  refine lv_iconst (v := 0) hx hb gX12_deal_0.2.1 (by decide) ?_
  refine pf_X12_351 hC rfl hK hP hD hS 0 (ws' := [(h0, oX12 nw nk mhasKept nt mtaped nr mrowMany mroundOf mroundFrom mouts nm mfromHour mtoHour ns mfrom mto msort misFault mdeep mcoded mlines nl nc nF np ntr nb mbestCost nso nsi nit nsh nsf nss nrc 0 mdealer mnumber mwhose msize misParted), (nw, iA G 1662 fnw), (nsh, iA G 4 fnsh), (nsf, iA G 4 fnsf), (nrc, iA G 30 fnrc)]) rfl (Nat.le_of_ble_eq_true rfl) rfl rfl rfl gX12_deal_0.2.2.1 (fun H locs hP hD hS => ?_)
  refine lv_iload_n hx hb gX12_deal_0.2.2.2.1 rfl (lv_at1 hl) ?_
  refine pS hC hK hl (m_isFour l G x1) si_X12_336 rfl rfl (Nat.le_of_ble_eq_true rfl) rm_60_2_1 ⟨by first | exact Nat.le_of_ble_eq_true rfl | exact Nat.zero_le _, by first | exact Nat.le_of_ble_eq_true rfl | exact Nat.zero_le _⟩ gX12_deal_0.2.2.2.2.1 (Kors (Keqa fun a7269 => ?_) (Keqa fun a7269 => ?_))
  · refine lv_if_eq (tgt := 19) hx hb gX12_deal_0.2.2.2.2.2.1 (by decide) (fun c9 => absurd c9 (by decide)) (fun _ => ?_)
    refine lv_iload_n hx hb gX12_deal_0.2.2.2.2.2.2.1 rfl (lv_at2 hl) ?_
    refine pS hC hK hl (m_isFour l G x2) si_X12_336 rfl rfl (Nat.le_of_ble_eq_true rfl) rm_60_2_1 ⟨by first | exact Nat.le_of_ble_eq_true rfl | exact Nat.zero_le _, by first | exact Nat.le_of_ble_eq_true rfl | exact Nat.zero_le _⟩ gX12_deal_0.2.2.2.2.2.2.2.1 (Kors (Keqa fun a7271 => ?_) (Keqa fun a7271 => ?_))
    · refine lv_if_ne (tgt := 23) hx hb gX12_deal_0.2.2.2.2.2.2.2.2.1 (by decide) (fun _ => ?_) (fun c9 => absurd c9 (by decide))
      obtain ⟨jt, hjt, rfl⟩ := Wi_nat (N := 3) (by decide) a7269
      refine lv_aload_n hx hb gX12_deal_1.2.1 rfl (lv_at0 hl) ?_
      refine lv_iload_n hx hb gX12_deal_1.2.2.1 rfl (lv_at1 hl) ?_
      refine pV hC hK hl hP hD (m_kindOn l G h0 jt nw nk mhasKept nt mtaped nr mrowMany mroundOf mroundFrom mouts nm mfromHour mtoHour ns mfrom mto msort misFault mdeep mcoded mlines nl nc nF np ntr nb mbestCost nso nsi nit nsh nsf nss nrc 0 mdealer mnumber mwhose msize misParted fnw fnsh fnsf (by omega) (hN)) si_X12_345 [0, 1, 2, 3] sm_0_1_2_3 fm_0_1_2_3 nd_0_1_2_3 rfl rfl rfl rfl rfl (Nat.le_of_ble_eq_true rfl) rm_60_3_4 ⟨by first | exact Nat.le_of_ble_eq_true rfl | exact Nat.zero_le _, by first | exact Nat.le_of_ble_eq_true rfl | exact Nat.zero_le _⟩ gX12_deal_1.2.2.2.1 (Kors (Keqr ?_) (Kors (Keqa fun a7273 => ?_) (Kors (Keqa fun a7273 => ?_) (Kors (Keqa fun a7273 => ?_) (Kors (Keqa fun a7273 => ?_) (Kors (Keqa fun a7273 => ?_) (Keqa fun a7273 => ?_)))))))
      · refine lv_istore (lv' := [(4, .int (-1)), (0, .ref h0), (1, .int (nI jt)), (2, .int x2), (3, .int x3)]) hx hb gX12_deal_1.2.2.2.2.1 hl (by decide) rfl (fun ls hl => ?_)
        refine lv_iload hx hb gX12_deal_1.2.2.2.2.2.1 (lv_at0 hl) ?_
        refine lv_if_ge (tgt := 37) hx hb gX12_deal_1.2.2.2.2.2.2.1 (by decide) (fun c9 => absurd c9 (by decide)) (fun _ => ?_)
        refine lv_iconst (v := 0) hx hb gX12_deal_1.2.2.2.2.2.2.2.1 (by decide) ?_
        refine toQ hQ0 ?_
        exact RI (v := 0) hC hP hD hS [0, 1, 2, 3, 4] (0, mdealer, mnumber, mwhose, msize, misParted, fnrc) rfl rfl (by decide) (⟨trivial, by omega⟩) rfl gX12_deal_1.2.2.2.2.2.2.2.2.1
      · refine lv_istore (lv' := [(4, .int 1), (0, .ref h0), (1, .int (nI jt)), (2, .int x2), (3, .int x3)]) hx hb gX12_deal_1.2.2.2.2.1 hl (by decide) rfl (fun ls hl => ?_)
        refine lv_iload hx hb gX12_deal_1.2.2.2.2.2.1 (lv_at0 hl) ?_
        refine lv_if_ge (tgt := 37) hx hb gX12_deal_1.2.2.2.2.2.2.1 (by decide) (fun _ => ?_) (fun c9 => absurd (by decide) c9)
        refine lv_aload_n hx hb gX12_deal_1.2.2.2.2.2.2.2.2.2 rfl (lv_at1 hl) ?_
        refine lv_iload hx hb gX12_deal_2.1 (lv_at0 hl) ?_
        refine pf_X12_354 hC rfl hK hP hD hS 0 (ws' := [(h0, oX12 nw nk mhasKept nt mtaped nr mrowMany mroundOf mroundFrom mouts nm mfromHour mtoHour ns mfrom mto msort misFault mdeep mcoded mlines nl nc nF np ntr nb mbestCost nso nsi nit nsh nsf nss nrc 0 1 mnumber mwhose msize misParted), (nw, iA G 1662 fnw), (nsh, iA G 4 fnsh), (nsf, iA G 4 fnsf), (nrc, iA G 30 fnrc)]) rfl (Nat.le_of_ble_eq_true rfl) rfl rfl rfl gX12_deal_2.2.1 (fun H locs hP hD hS => ?_)
        refine lv_aload_n hx hb gX12_deal_2.2.2.1 rfl (lv_at1 hl) ?_
        refine lv_aload_n hx hb gX12_deal_2.2.2.2.1 rfl (lv_at1 hl) ?_
        refine gf_X12_75 hC rfl hK hP 0 rfl rfl gX12_deal_2.2.2.2.2.1 ?_
        refine lv_iload_n hx hb gX12_deal_2.2.2.2.2.2.1 rfl (lv_at2 hl) ?_
        refine aldN hC hK hP 3 rfl (k := jt) (by omega) (Nat.le_of_ble_eq_true rfl) (v := fnsf jt) rfl gX12_deal_2.2.2.2.2.2.2.1 ?_
        refine lv_topi (fun x7274 ex7274 => ?_)
        obtain ⟨hko9, jno, hjno, ejno⟩ := a7273
        refine eqi (x1 := nI jno) (ex7274.trans ejno) ?_
        refine pf_X12_378 hC rfl hK hP hD hS 0 (ws' := [(h0, oX12 nw nk mhasKept nt mtaped nr mrowMany mroundOf mroundFrom mouts nm mfromHour mtoHour ns mfrom mto msort misFault mdeep mcoded mlines nl nc nF np ntr nb mbestCost nso nsi nit nsh nsf nss nrc 0 1 (nI jno) mwhose msize misParted), (nw, iA G 1662 fnw), (nsh, iA G 4 fnsh), (nsf, iA G 4 fnsf), (nrc, iA G 30 fnrc)]) rfl (Nat.le_of_ble_eq_true rfl) rfl rfl rfl gX12_deal_2.2.2.2.2.2.2.2.1 (fun H locs hP hD hS => ?_)
        refine lv_aload_n hx hb gX12_deal_2.2.2.2.2.2.2.2.2.1 rfl (lv_at1 hl) ?_
        refine gf_X12_72 hC rfl hK hP 0 rfl rfl gX12_deal_2.2.2.2.2.2.2.2.2.2 ?_
        refine lv_iload_n hx hb gX12_deal_3.1 rfl (lv_at2 hl) ?_
        refine aldN hC hK hP 2 rfl (k := jt) (by omega) (Nat.le_of_ble_eq_true rfl) (v := fnsh jt) rfl gX12_deal_3.2.1 ?_
        refine lv_topi (fun x7275 ex7275 => ?_)
        refine lv_iconst (v := 1) hx hb gX12_deal_3.2.2.1 (by decide) ?_
        refine lv_icmp_ne (tgt := 67) hx hb gX12_deal_3.2.2.2.1 (by decide) (fun c9 => absurd (ex7275.trans hko9) c9) (fun _ => ?_)
        refine lv_iconst (v := 1) hx hb gX12_deal_3.2.2.2.2.1 (by decide) ?_
        refine lv_goto (tgt := 68) hx hb gX12_deal_3.2.2.2.2.2.1 (by decide) ?_
        refine lv_istore (lv' := [(5, .int 1), (4, .int 1), (0, .ref h0), (1, .int (nI jt)), (2, .int x2), (3, .int x3)]) hx hb gX12_deal_3.2.2.2.2.2.2.2.1 hl (by decide) rfl (fun ls hl => ?_)
        refine lv_aload_n hx hb gX12_deal_3.2.2.2.2.2.2.2.2.1 rfl (lv_at2 hl) ?_
        refine gf_X12_72 hC rfl hK hP 0 rfl rfl gX12_deal_3.2.2.2.2.2.2.2.2.2 ?_
        refine lv_iload_n hx hb gX12_deal_4.1 rfl (lv_at3 hl) ?_
        refine aldN hC hK hP 2 rfl (k := jt) (by omega) (Nat.le_of_ble_eq_true rfl) (v := fnsh jt) rfl gX12_deal_4.2.1 ?_
        refine lv_topi (fun x7276 ex7276 => ?_)
        refine lv_iconst (v := 2) hx hb gX12_deal_4.2.2.1 (by decide) ?_
        refine lv_icmp_ne (tgt := 84) hx hb gX12_deal_4.2.2.2.1 (by decide) (fun _ => ?_) (fun c9 => absurd c9 (fun h9 => absurd (hko9.symm.trans ((ex7276.symm).trans h9)) (by decide)))
        refine lv_iconst (v := 0) hx hb gX12_deal_4.2.2.2.2.2.2.1 (by decide) ?_
        refine lv_istore (lv' := [(6, .int 0), (5, .int 1), (4, .int 1), (0, .ref h0), (1, .int (nI jt)), (2, .int x2), (3, .int x3)]) hx hb gX12_deal_4.2.2.2.2.2.2.2.1 hl (by decide) rfl (fun ls hl => ?_)
        refine lv_aload_n hx hb gX12_deal_4.2.2.2.2.2.2.2.2.1 rfl (lv_at3 hl) ?_
        refine lv_iload hx hb gX12_deal_4.2.2.2.2.2.2.2.2.2 (lv_at1 hl) ?_
        refine lv_if_eq (tgt := 105) hx hb gX12_deal_5.1 (by decide) (fun c9 => absurd c9 (by decide)) (fun _ => ?_)
        refine lv_aload_n hx hb gX12_deal_5.2.1 rfl (lv_at3 hl) ?_
        refine lv_aload_n hx hb gX12_deal_5.2.2.1 rfl (lv_at3 hl) ?_
        refine gf_X12_378 hC rfl hK hP 0 rfl rfl gX12_deal_5.2.2.2.1 ?_
        refine lv_iconst (v := 0) hx hb gX12_deal_5.2.2.2.2.1 (by decide) ?_
        refine pV hC hK hl hP hD (m_paper l G h0 jno 0 nw nk mhasKept nt mtaped nr mrowMany mroundOf mroundFrom mouts nm mfromHour mtoHour ns mfrom mto msort misFault mdeep mcoded mlines nl nc nF np ntr nb mbestCost nso nsi nit nsh nsf nss nrc 0 1 (nI jno) mwhose msize misParted fnw (by omega) (by omega)) si_X12_88 [0, 1] sm_0_1 fm_0_1 nd_0_1 rfl rfl rfl rfl rfl (Nat.le_of_ble_eq_true rfl) rm_60_1_3 ⟨by first | exact Nat.le_of_ble_eq_true rfl | exact Nat.zero_le _, by first | exact Nat.le_of_ble_eq_true rfl | exact Nat.zero_le _⟩ gX12_deal_5.2.2.2.2.2.1 (Keqr ?_)
        refine lv_goto (tgt := 139) hx hb gX12_deal_5.2.2.2.2.2.2.1 (by decide) ?_
        refine pf_X12_375 hC rfl hK hP hD hS 0 (ws' := [(h0, oX12 nw nk mhasKept nt mtaped nr mrowMany mroundOf mroundFrom mouts nm mfromHour mtoHour ns mfrom mto msort misFault mdeep mcoded mlines nl nc nF np ntr nb mbestCost nso nsi nit nsh nsf nss nrc 0 1 (nI jno) (fnw (32 + 6 * jno + 0)) msize misParted), (nw, iA G 1662 fnw), (nsh, iA G 4 fnsh), (nsf, iA G 4 fnsf), (nrc, iA G 30 fnrc)]) rfl (Nat.le_of_ble_eq_true rfl) rfl rfl rfl gX12_deal_7.2.2.2.2.2.2.1 (fun H locs hP hD hS => ?_)
        refine lv_aload_n hx hb gX12_deal_7.2.2.2.2.2.2.2.1 rfl (lv_at3 hl) ?_
        refine lv_iload hx hb gX12_deal_7.2.2.2.2.2.2.2.2.1 (lv_at1 hl) ?_
        refine lv_if_eq (tgt := 160) hx hb gX12_deal_7.2.2.2.2.2.2.2.2.2 (by decide) (fun c9 => absurd c9 (by decide)) (fun _ => ?_)
        refine lv_aload_n hx hb gX12_deal_8.1 rfl (lv_at3 hl) ?_
        refine lv_aload_n hx hb gX12_deal_8.2.1 rfl (lv_at3 hl) ?_
        refine gf_X12_378 hC rfl hK hP 0 rfl rfl gX12_deal_8.2.2.1 ?_
        refine lv_iconst (v := 2) hx hb gX12_deal_8.2.2.2.1 (by decide) ?_
        refine pV hC hK hl hP hD (m_paper l G h0 jno 2 nw nk mhasKept nt mtaped nr mrowMany mroundOf mroundFrom mouts nm mfromHour mtoHour ns mfrom mto msort misFault mdeep mcoded mlines nl nc nF np ntr nb mbestCost nso nsi nit nsh nsf nss nrc 0 1 (nI jno) (fnw (32 + 6 * jno + 0)) msize misParted fnw (by omega) (by omega)) si_X12_88 [0, 1] sm_0_1 fm_0_1 nd_0_1 rfl rfl rfl rfl rfl (Nat.le_of_ble_eq_true rfl) rm_60_1_3 ⟨by first | exact Nat.le_of_ble_eq_true rfl | exact Nat.zero_le _, by first | exact Nat.le_of_ble_eq_true rfl | exact Nat.zero_le _⟩ gX12_deal_8.2.2.2.2.1 (Keqr ?_)
        refine lv_goto (tgt := 194) hx hb gX12_deal_8.2.2.2.2.2.1 (by decide) ?_
        refine pf_X12_369 hC rfl hK hP hD hS 0 (ws' := [(h0, oX12 nw nk mhasKept nt mtaped nr mrowMany mroundOf mroundFrom mouts nm mfromHour mtoHour ns mfrom mto msort misFault mdeep mcoded mlines nl nc nF np ntr nb mbestCost nso nsi nit nsh nsf nss nrc 0 1 (nI jno) (fnw (32 + 6 * jno + 0)) (fnw (32 + 6 * jno + 2)) misParted), (nw, iA G 1662 fnw), (nsh, iA G 4 fnsh), (nsf, iA G 4 fnsf), (nrc, iA G 30 fnrc)]) rfl (Nat.le_of_ble_eq_true rfl) rfl rfl rfl gX12_deal_10.2.2.2.2.2.1 (fun H locs hP hD hS => ?_)
        refine lv_aload_n hx hb gX12_deal_10.2.2.2.2.2.2.1 rfl (lv_at3 hl) ?_
        refine lv_iconst (v := 0) hx hb gX12_deal_10.2.2.2.2.2.2.2.1 (by decide) ?_
        refine pf_X12_380 hC rfl hK hP hD hS 0 (ws' := [(h0, oX12 nw nk mhasKept nt mtaped nr mrowMany mroundOf mroundFrom mouts nm mfromHour mtoHour ns mfrom mto msort misFault mdeep mcoded mlines nl nc nF np ntr nb mbestCost nso nsi nit nsh nsf nss nrc 0 1 (nI jno) (fnw (32 + 6 * jno + 0)) (fnw (32 + 6 * jno + 2)) 0), (nw, iA G 1662 fnw), (nsh, iA G 4 fnsh), (nsf, iA G 4 fnsf), (nrc, iA G 30 fnrc)]) rfl (Nat.le_of_ble_eq_true rfl) rfl (by decide +kernel) (by decide +kernel) gX12_deal_10.2.2.2.2.2.2.2.2.1 (fun H locs hP hD hS => ?_)
        obtain ⟨jdl, hjdl, rfl⟩ := Wi_nat (N := 3) (by decide) a7271
        rcases (show jdl = 0 ∨ jdl = 1 ∨ jdl = 2 ∨ jdl = 3 by omega) with rfl | rfl | rfl | rfl
        · refine lv_aload_n hx hb gX12_deal_10.2.2.2.2.2.2.2.2.2 rfl (lv_at3 hl) ?_
          refine lv_iload_n hx hb gX12_deal_11.1 rfl (lv_at5 hl) ?_
          refine lv_iload_n hx hb gX12_deal_11.2.1 rfl (lv_at6 hl) ?_
          refine iV (wr := [(nw, iA G 1662 fnw), (nsh, iA G 4 fnsh), (nsf, iA G 4 fnsf)]) hC hK hl hP hD hS hA (m_dealt0 l G h0 x3 nw nk mhasKept nt mtaped nr mrowMany mroundOf mroundFrom mouts nm mfromHour mtoHour ns mfrom mto msort misFault mdeep mcoded mlines nl nc nF np ntr nb mbestCost nso nsi nit nsh nsf nss nrc 0 1 (nI jno) (fnw (32 + 6 * jno + 0)) (fnw (32 + 6 * jno + 2)) 0 fnrc (by omega) (by omega)) si_X12_372 [0, 4] [1, 2, 3] sm_0_4 fm_0_4 nd_0_4 sm_1_2_3 nd_1_2_3 dj_0_4__1_2_3 rfl rfl rfl rfl rfl (Nat.le_of_ble_eq_true rfl) rm_60_14_3 ⟨Nat.le_of_ble_eq_true rfl, Nat.le_of_ble_eq_true rfl⟩ gX12_deal_11.2.2.1 (fun r7281 => Ktu3 fun jr17283 ip17284 gtrc7285 => ?_)
          intro H locs hr7281 hP hD hS
          try dsimp only at hr7281
          refine Kpdr (ws := [(nw, iA G 1662 fnw), (nsh, iA G 4 fnsh), (nsf, iA G 4 fnsf), (h0, oX12 nw nk mhasKept nt mtaped nr mrowMany mroundOf mroundFrom mouts nm mfromHour mtoHour ns mfrom mto msort misFault mdeep mcoded mlines nl nc nF np ntr nb mbestCost nso nsi nit nsh nsf nss nrc (nI jr17283) 1 (nI jno) (fnw (32 + 6 * jno + 0)) (fnw (32 + 6 * jno + 2)) ip17284), (nrc, iA G 30 gtrc7285)]) hP hD (fun hP hD => ?_)
          obtain ⟨hr7281, w7286⟩ := hr7281
          refine lv_istore (lv' := [(7, .int r7281), (6, .int 0), (5, .int 1), (4, .int 1), (0, .ref h0), (1, .int (nI jt)), (2, .int 0), (3, .int x3)]) hx hb gX12_deal_11.2.2.2.1 hl (by decide) rfl (fun ls hl => ?_)
          refine lv_aload_n hx hb gX12_deal_11.2.2.2.2.1 rfl (lv_at4 hl) ?_
          refine gf_X12_380 hC rfl hK hP 3 rfl rfl gX12_deal_11.2.2.2.2.2.1 ?_
          refine lv_if_eq (tgt := 222) hx hb gX12_deal_11.2.2.2.2.2.2.1 (by decide) (fun c_214_7287 => ?_) (fun c_214_7287 => ?_)
          · refine lv_iload hx hb gX12_deal_11.2.2.2.2.2.2.2.2.2 (lv_at0 hl) ?_
            refine toQ hQ0 ?_
            exact RI (v := r7281) hC hP hD hS [3, 0, 1, 2, 4] (jr17283, 1, nI jno, fnw (32 + 6 * jno + 0), fnw (32 + 6 * jno + 2), ip17284, gtrc7285) rfl rfl (by decide) (⟨trivial, by omega⟩) rfl gX12_deal_12
          · refine lv_bipush (v := (-15)) hx hb gX12_deal_11.2.2.2.2.2.2.2.1 (by decide) ?_
            refine lv_goto (tgt := 224) hx hb gX12_deal_11.2.2.2.2.2.2.2.2.1 (by decide) ?_
            refine toQ hQ0 ?_
            exact RI (v := (-15)) hC hP hD hS [3, 0, 1, 2, 4] (jr17283, 1, nI jno, fnw (32 + 6 * jno + 0), fnw (32 + 6 * jno + 2), ip17284, gtrc7285) rfl rfl (by decide) (⟨trivial, by omega⟩) rfl gX12_deal_12
        · refine lv_aload_n hx hb gX12_deal_10.2.2.2.2.2.2.2.2.2 rfl (lv_at3 hl) ?_
          refine lv_iload_n hx hb gX12_deal_11.1 rfl (lv_at5 hl) ?_
          refine lv_iload_n hx hb gX12_deal_11.2.1 rfl (lv_at6 hl) ?_
          refine iV (wr := [(nw, iA G 1662 fnw), (nsh, iA G 4 fnsh), (nsf, iA G 4 fnsf)]) hC hK hl hP hD hS hA (m_dealt1 l G h0 x3 nw nk mhasKept nt mtaped nr mrowMany mroundOf mroundFrom mouts nm mfromHour mtoHour ns mfrom mto msort misFault mdeep mcoded mlines nl nc nF np ntr nb mbestCost nso nsi nit nsh nsf nss nrc 0 1 (nI jno) (fnw (32 + 6 * jno + 0)) (fnw (32 + 6 * jno + 2)) 0 fnrc (by omega) (by omega)) si_X12_372 [0, 4] [1, 2, 3] sm_0_4 fm_0_4 nd_0_4 sm_1_2_3 nd_1_2_3 dj_0_4__1_2_3 rfl rfl rfl rfl rfl (Nat.le_of_ble_eq_true rfl) rm_60_26_3 ⟨Nat.le_of_ble_eq_true rfl, Nat.le_of_ble_eq_true rfl⟩ gX12_deal_11.2.2.1 (fun r7288 => Ktu3 fun jr17290 ip17291 gtrc7292 => ?_)
          intro H locs hr7288 hP hD hS
          try dsimp only at hr7288
          refine Kpdr (ws := [(nw, iA G 1662 fnw), (nsh, iA G 4 fnsh), (nsf, iA G 4 fnsf), (h0, oX12 nw nk mhasKept nt mtaped nr mrowMany mroundOf mroundFrom mouts nm mfromHour mtoHour ns mfrom mto msort misFault mdeep mcoded mlines nl nc nF np ntr nb mbestCost nso nsi nit nsh nsf nss nrc (nI jr17290) 1 (nI jno) (fnw (32 + 6 * jno + 0)) (fnw (32 + 6 * jno + 2)) ip17291), (nrc, iA G 30 gtrc7292)]) hP hD (fun hP hD => ?_)
          obtain ⟨hr7288, w7293⟩ := hr7288
          refine lv_istore (lv' := [(7, .int r7288), (6, .int 0), (5, .int 1), (4, .int 1), (0, .ref h0), (1, .int (nI jt)), (2, .int 1), (3, .int x3)]) hx hb gX12_deal_11.2.2.2.1 hl (by decide) rfl (fun ls hl => ?_)
          refine lv_aload_n hx hb gX12_deal_11.2.2.2.2.1 rfl (lv_at4 hl) ?_
          refine gf_X12_380 hC rfl hK hP 3 rfl rfl gX12_deal_11.2.2.2.2.2.1 ?_
          refine lv_if_eq (tgt := 222) hx hb gX12_deal_11.2.2.2.2.2.2.1 (by decide) (fun c_214_7294 => ?_) (fun c_214_7294 => ?_)
          · refine lv_iload hx hb gX12_deal_11.2.2.2.2.2.2.2.2.2 (lv_at0 hl) ?_
            refine toQ hQ0 ?_
            exact RI (v := r7288) hC hP hD hS [3, 0, 1, 2, 4] (jr17290, 1, nI jno, fnw (32 + 6 * jno + 0), fnw (32 + 6 * jno + 2), ip17291, gtrc7292) rfl rfl (by decide) (⟨trivial, by omega⟩) rfl gX12_deal_12
          · refine lv_bipush (v := (-15)) hx hb gX12_deal_11.2.2.2.2.2.2.2.1 (by decide) ?_
            refine lv_goto (tgt := 224) hx hb gX12_deal_11.2.2.2.2.2.2.2.2.1 (by decide) ?_
            refine toQ hQ0 ?_
            exact RI (v := (-15)) hC hP hD hS [3, 0, 1, 2, 4] (jr17290, 1, nI jno, fnw (32 + 6 * jno + 0), fnw (32 + 6 * jno + 2), ip17291, gtrc7292) rfl rfl (by decide) (⟨trivial, by omega⟩) rfl gX12_deal_12
        · refine lv_aload_n hx hb gX12_deal_10.2.2.2.2.2.2.2.2.2 rfl (lv_at3 hl) ?_
          refine lv_iload_n hx hb gX12_deal_11.1 rfl (lv_at5 hl) ?_
          refine lv_iload_n hx hb gX12_deal_11.2.1 rfl (lv_at6 hl) ?_
          refine iV (wr := [(nw, iA G 1662 fnw), (nsh, iA G 4 fnsh), (nsf, iA G 4 fnsf)]) hC hK hl hP hD hS hA (m_dealt2 l G h0 x3 nw nk mhasKept nt mtaped nr mrowMany mroundOf mroundFrom mouts nm mfromHour mtoHour ns mfrom mto msort misFault mdeep mcoded mlines nl nc nF np ntr nb mbestCost nso nsi nit nsh nsf nss nrc 0 1 (nI jno) (fnw (32 + 6 * jno + 0)) (fnw (32 + 6 * jno + 2)) 0 fnrc (by omega) (by omega)) si_X12_372 [0, 4] [1, 2, 3] sm_0_4 fm_0_4 nd_0_4 sm_1_2_3 nd_1_2_3 dj_0_4__1_2_3 rfl rfl rfl rfl rfl (Nat.le_of_ble_eq_true rfl) rm_60_38_3 ⟨Nat.le_of_ble_eq_true rfl, Nat.le_of_ble_eq_true rfl⟩ gX12_deal_11.2.2.1 (fun r7295 => Ktu3 fun jr17297 ip17298 gtrc7299 => ?_)
          intro H locs hr7295 hP hD hS
          try dsimp only at hr7295
          refine Kpdr (ws := [(nw, iA G 1662 fnw), (nsh, iA G 4 fnsh), (nsf, iA G 4 fnsf), (h0, oX12 nw nk mhasKept nt mtaped nr mrowMany mroundOf mroundFrom mouts nm mfromHour mtoHour ns mfrom mto msort misFault mdeep mcoded mlines nl nc nF np ntr nb mbestCost nso nsi nit nsh nsf nss nrc (nI jr17297) 1 (nI jno) (fnw (32 + 6 * jno + 0)) (fnw (32 + 6 * jno + 2)) ip17298), (nrc, iA G 30 gtrc7299)]) hP hD (fun hP hD => ?_)
          obtain ⟨hr7295, w7300⟩ := hr7295
          refine lv_istore (lv' := [(7, .int r7295), (6, .int 0), (5, .int 1), (4, .int 1), (0, .ref h0), (1, .int (nI jt)), (2, .int 2), (3, .int x3)]) hx hb gX12_deal_11.2.2.2.1 hl (by decide) rfl (fun ls hl => ?_)
          refine lv_aload_n hx hb gX12_deal_11.2.2.2.2.1 rfl (lv_at4 hl) ?_
          refine gf_X12_380 hC rfl hK hP 3 rfl rfl gX12_deal_11.2.2.2.2.2.1 ?_
          refine lv_if_eq (tgt := 222) hx hb gX12_deal_11.2.2.2.2.2.2.1 (by decide) (fun c_214_7301 => ?_) (fun c_214_7301 => ?_)
          · refine lv_iload hx hb gX12_deal_11.2.2.2.2.2.2.2.2.2 (lv_at0 hl) ?_
            refine toQ hQ0 ?_
            exact RI (v := r7295) hC hP hD hS [3, 0, 1, 2, 4] (jr17297, 1, nI jno, fnw (32 + 6 * jno + 0), fnw (32 + 6 * jno + 2), ip17298, gtrc7299) rfl rfl (by decide) (⟨trivial, by omega⟩) rfl gX12_deal_12
          · refine lv_bipush (v := (-15)) hx hb gX12_deal_11.2.2.2.2.2.2.2.1 (by decide) ?_
            refine lv_goto (tgt := 224) hx hb gX12_deal_11.2.2.2.2.2.2.2.2.1 (by decide) ?_
            refine toQ hQ0 ?_
            exact RI (v := (-15)) hC hP hD hS [3, 0, 1, 2, 4] (jr17297, 1, nI jno, fnw (32 + 6 * jno + 0), fnw (32 + 6 * jno + 2), ip17298, gtrc7299) rfl rfl (by decide) (⟨trivial, by omega⟩) rfl gX12_deal_12
        · refine lv_aload_n hx hb gX12_deal_10.2.2.2.2.2.2.2.2.2 rfl (lv_at3 hl) ?_
          refine lv_iload_n hx hb gX12_deal_11.1 rfl (lv_at5 hl) ?_
          refine lv_iload_n hx hb gX12_deal_11.2.1 rfl (lv_at6 hl) ?_
          refine iV (wr := [(nw, iA G 1662 fnw), (nsh, iA G 4 fnsh), (nsf, iA G 4 fnsf)]) hC hK hl hP hD hS hA (m_dealt3 l G h0 x3 nw nk mhasKept nt mtaped nr mrowMany mroundOf mroundFrom mouts nm mfromHour mtoHour ns mfrom mto msort misFault mdeep mcoded mlines nl nc nF np ntr nb mbestCost nso nsi nit nsh nsf nss nrc 0 1 (nI jno) (fnw (32 + 6 * jno + 0)) (fnw (32 + 6 * jno + 2)) 0 fnrc (by omega) (by omega)) si_X12_372 [0, 4] [1, 2, 3] sm_0_4 fm_0_4 nd_0_4 sm_1_2_3 nd_1_2_3 dj_0_4__1_2_3 rfl rfl rfl rfl rfl (Nat.le_of_ble_eq_true rfl) rm_60_50_3 ⟨Nat.le_of_ble_eq_true rfl, Nat.le_of_ble_eq_true rfl⟩ gX12_deal_11.2.2.1 (fun r7302 => Ktu3 fun jr17304 ip17305 gtrc7306 => ?_)
          intro H locs hr7302 hP hD hS
          try dsimp only at hr7302
          refine Kpdr (ws := [(nw, iA G 1662 fnw), (nsh, iA G 4 fnsh), (nsf, iA G 4 fnsf), (h0, oX12 nw nk mhasKept nt mtaped nr mrowMany mroundOf mroundFrom mouts nm mfromHour mtoHour ns mfrom mto msort misFault mdeep mcoded mlines nl nc nF np ntr nb mbestCost nso nsi nit nsh nsf nss nrc (nI jr17304) 1 (nI jno) (fnw (32 + 6 * jno + 0)) (fnw (32 + 6 * jno + 2)) ip17305), (nrc, iA G 30 gtrc7306)]) hP hD (fun hP hD => ?_)
          obtain ⟨hr7302, w7307⟩ := hr7302
          refine lv_istore (lv' := [(7, .int r7302), (6, .int 0), (5, .int 1), (4, .int 1), (0, .ref h0), (1, .int (nI jt)), (2, .int 3), (3, .int x3)]) hx hb gX12_deal_11.2.2.2.1 hl (by decide) rfl (fun ls hl => ?_)
          refine lv_aload_n hx hb gX12_deal_11.2.2.2.2.1 rfl (lv_at4 hl) ?_
          refine gf_X12_380 hC rfl hK hP 3 rfl rfl gX12_deal_11.2.2.2.2.2.1 ?_
          refine lv_if_eq (tgt := 222) hx hb gX12_deal_11.2.2.2.2.2.2.1 (by decide) (fun c_214_7308 => ?_) (fun c_214_7308 => ?_)
          · refine lv_iload hx hb gX12_deal_11.2.2.2.2.2.2.2.2.2 (lv_at0 hl) ?_
            refine toQ hQ0 ?_
            exact RI (v := r7302) hC hP hD hS [3, 0, 1, 2, 4] (jr17304, 1, nI jno, fnw (32 + 6 * jno + 0), fnw (32 + 6 * jno + 2), ip17305, gtrc7306) rfl rfl (by decide) (⟨trivial, by omega⟩) rfl gX12_deal_12
          · refine lv_bipush (v := (-15)) hx hb gX12_deal_11.2.2.2.2.2.2.2.1 (by decide) ?_
            refine lv_goto (tgt := 224) hx hb gX12_deal_11.2.2.2.2.2.2.2.2.1 (by decide) ?_
            refine toQ hQ0 ?_
            exact RI (v := (-15)) hC hP hD hS [3, 0, 1, 2, 4] (jr17304, 1, nI jno, fnw (32 + 6 * jno + 0), fnw (32 + 6 * jno + 2), ip17305, gtrc7306) rfl rfl (by decide) (⟨trivial, by omega⟩) rfl gX12_deal_12
      · refine lv_istore (lv' := [(4, .int 2), (0, .ref h0), (1, .int (nI jt)), (2, .int x2), (3, .int x3)]) hx hb gX12_deal_1.2.2.2.2.1 hl (by decide) rfl (fun ls hl => ?_)
        refine lv_iload hx hb gX12_deal_1.2.2.2.2.2.1 (lv_at0 hl) ?_
        refine lv_if_ge (tgt := 37) hx hb gX12_deal_1.2.2.2.2.2.2.1 (by decide) (fun _ => ?_) (fun c9 => absurd (by decide) c9)
        refine lv_aload_n hx hb gX12_deal_1.2.2.2.2.2.2.2.2.2 rfl (lv_at1 hl) ?_
        refine lv_iload hx hb gX12_deal_2.1 (lv_at0 hl) ?_
        refine pf_X12_354 hC rfl hK hP hD hS 0 (ws' := [(h0, oX12 nw nk mhasKept nt mtaped nr mrowMany mroundOf mroundFrom mouts nm mfromHour mtoHour ns mfrom mto msort misFault mdeep mcoded mlines nl nc nF np ntr nb mbestCost nso nsi nit nsh nsf nss nrc 0 2 mnumber mwhose msize misParted), (nw, iA G 1662 fnw), (nsh, iA G 4 fnsh), (nsf, iA G 4 fnsf), (nrc, iA G 30 fnrc)]) rfl (Nat.le_of_ble_eq_true rfl) rfl rfl rfl gX12_deal_2.2.1 (fun H locs hP hD hS => ?_)
        refine lv_aload_n hx hb gX12_deal_2.2.2.1 rfl (lv_at1 hl) ?_
        refine lv_aload_n hx hb gX12_deal_2.2.2.2.1 rfl (lv_at1 hl) ?_
        refine gf_X12_75 hC rfl hK hP 0 rfl rfl gX12_deal_2.2.2.2.2.1 ?_
        refine lv_iload_n hx hb gX12_deal_2.2.2.2.2.2.1 rfl (lv_at2 hl) ?_
        refine aldN hC hK hP 3 rfl (k := jt) (by omega) (Nat.le_of_ble_eq_true rfl) (v := fnsf jt) rfl gX12_deal_2.2.2.2.2.2.2.1 ?_
        refine lv_topi (fun x7309 ex7309 => ?_)
        obtain ⟨hko9, jno, hjno, ejno⟩ := a7273
        refine eqi (x1 := nI jno) (ex7309.trans ejno) ?_
        refine pf_X12_378 hC rfl hK hP hD hS 0 (ws' := [(h0, oX12 nw nk mhasKept nt mtaped nr mrowMany mroundOf mroundFrom mouts nm mfromHour mtoHour ns mfrom mto msort misFault mdeep mcoded mlines nl nc nF np ntr nb mbestCost nso nsi nit nsh nsf nss nrc 0 2 (nI jno) mwhose msize misParted), (nw, iA G 1662 fnw), (nsh, iA G 4 fnsh), (nsf, iA G 4 fnsf), (nrc, iA G 30 fnrc)]) rfl (Nat.le_of_ble_eq_true rfl) rfl rfl rfl gX12_deal_2.2.2.2.2.2.2.2.1 (fun H locs hP hD hS => ?_)
        refine lv_aload_n hx hb gX12_deal_2.2.2.2.2.2.2.2.2.1 rfl (lv_at1 hl) ?_
        refine gf_X12_72 hC rfl hK hP 0 rfl rfl gX12_deal_2.2.2.2.2.2.2.2.2.2 ?_
        refine lv_iload_n hx hb gX12_deal_3.1 rfl (lv_at2 hl) ?_
        refine aldN hC hK hP 2 rfl (k := jt) (by omega) (Nat.le_of_ble_eq_true rfl) (v := fnsh jt) rfl gX12_deal_3.2.1 ?_
        refine lv_topi (fun x7310 ex7310 => ?_)
        refine lv_iconst (v := 1) hx hb gX12_deal_3.2.2.1 (by decide) ?_
        refine lv_icmp_ne (tgt := 67) hx hb gX12_deal_3.2.2.2.1 (by decide) (fun c9 => absurd (ex7310.trans hko9) c9) (fun _ => ?_)
        refine lv_iconst (v := 1) hx hb gX12_deal_3.2.2.2.2.1 (by decide) ?_
        refine lv_goto (tgt := 68) hx hb gX12_deal_3.2.2.2.2.2.1 (by decide) ?_
        refine lv_istore (lv' := [(5, .int 1), (4, .int 2), (0, .ref h0), (1, .int (nI jt)), (2, .int x2), (3, .int x3)]) hx hb gX12_deal_3.2.2.2.2.2.2.2.1 hl (by decide) rfl (fun ls hl => ?_)
        refine lv_aload_n hx hb gX12_deal_3.2.2.2.2.2.2.2.2.1 rfl (lv_at2 hl) ?_
        refine gf_X12_72 hC rfl hK hP 0 rfl rfl gX12_deal_3.2.2.2.2.2.2.2.2.2 ?_
        refine lv_iload_n hx hb gX12_deal_4.1 rfl (lv_at3 hl) ?_
        refine aldN hC hK hP 2 rfl (k := jt) (by omega) (Nat.le_of_ble_eq_true rfl) (v := fnsh jt) rfl gX12_deal_4.2.1 ?_
        refine lv_topi (fun x7311 ex7311 => ?_)
        refine lv_iconst (v := 2) hx hb gX12_deal_4.2.2.1 (by decide) ?_
        refine lv_icmp_ne (tgt := 84) hx hb gX12_deal_4.2.2.2.1 (by decide) (fun _ => ?_) (fun c9 => absurd c9 (fun h9 => absurd (hko9.symm.trans ((ex7311.symm).trans h9)) (by decide)))
        refine lv_iconst (v := 0) hx hb gX12_deal_4.2.2.2.2.2.2.1 (by decide) ?_
        refine lv_istore (lv' := [(6, .int 0), (5, .int 1), (4, .int 2), (0, .ref h0), (1, .int (nI jt)), (2, .int x2), (3, .int x3)]) hx hb gX12_deal_4.2.2.2.2.2.2.2.1 hl (by decide) rfl (fun ls hl => ?_)
        refine lv_aload_n hx hb gX12_deal_4.2.2.2.2.2.2.2.2.1 rfl (lv_at3 hl) ?_
        refine lv_iload hx hb gX12_deal_4.2.2.2.2.2.2.2.2.2 (lv_at1 hl) ?_
        refine lv_if_eq (tgt := 105) hx hb gX12_deal_5.1 (by decide) (fun c9 => absurd c9 (by decide)) (fun _ => ?_)
        refine lv_aload_n hx hb gX12_deal_5.2.1 rfl (lv_at3 hl) ?_
        refine lv_aload_n hx hb gX12_deal_5.2.2.1 rfl (lv_at3 hl) ?_
        refine gf_X12_378 hC rfl hK hP 0 rfl rfl gX12_deal_5.2.2.2.1 ?_
        refine lv_iconst (v := 0) hx hb gX12_deal_5.2.2.2.2.1 (by decide) ?_
        refine pV hC hK hl hP hD (m_paper l G h0 jno 0 nw nk mhasKept nt mtaped nr mrowMany mroundOf mroundFrom mouts nm mfromHour mtoHour ns mfrom mto msort misFault mdeep mcoded mlines nl nc nF np ntr nb mbestCost nso nsi nit nsh nsf nss nrc 0 2 (nI jno) mwhose msize misParted fnw (by omega) (by omega)) si_X12_88 [0, 1] sm_0_1 fm_0_1 nd_0_1 rfl rfl rfl rfl rfl (Nat.le_of_ble_eq_true rfl) rm_60_1_3 ⟨by first | exact Nat.le_of_ble_eq_true rfl | exact Nat.zero_le _, by first | exact Nat.le_of_ble_eq_true rfl | exact Nat.zero_le _⟩ gX12_deal_5.2.2.2.2.2.1 (Keqr ?_)
        refine lv_goto (tgt := 139) hx hb gX12_deal_5.2.2.2.2.2.2.1 (by decide) ?_
        refine pf_X12_375 hC rfl hK hP hD hS 0 (ws' := [(h0, oX12 nw nk mhasKept nt mtaped nr mrowMany mroundOf mroundFrom mouts nm mfromHour mtoHour ns mfrom mto msort misFault mdeep mcoded mlines nl nc nF np ntr nb mbestCost nso nsi nit nsh nsf nss nrc 0 2 (nI jno) (fnw (32 + 6 * jno + 0)) msize misParted), (nw, iA G 1662 fnw), (nsh, iA G 4 fnsh), (nsf, iA G 4 fnsf), (nrc, iA G 30 fnrc)]) rfl (Nat.le_of_ble_eq_true rfl) rfl rfl rfl gX12_deal_7.2.2.2.2.2.2.1 (fun H locs hP hD hS => ?_)
        refine lv_aload_n hx hb gX12_deal_7.2.2.2.2.2.2.2.1 rfl (lv_at3 hl) ?_
        refine lv_iload hx hb gX12_deal_7.2.2.2.2.2.2.2.2.1 (lv_at1 hl) ?_
        refine lv_if_eq (tgt := 160) hx hb gX12_deal_7.2.2.2.2.2.2.2.2.2 (by decide) (fun c9 => absurd c9 (by decide)) (fun _ => ?_)
        refine lv_aload_n hx hb gX12_deal_8.1 rfl (lv_at3 hl) ?_
        refine lv_aload_n hx hb gX12_deal_8.2.1 rfl (lv_at3 hl) ?_
        refine gf_X12_378 hC rfl hK hP 0 rfl rfl gX12_deal_8.2.2.1 ?_
        refine lv_iconst (v := 2) hx hb gX12_deal_8.2.2.2.1 (by decide) ?_
        refine pV hC hK hl hP hD (m_paper l G h0 jno 2 nw nk mhasKept nt mtaped nr mrowMany mroundOf mroundFrom mouts nm mfromHour mtoHour ns mfrom mto msort misFault mdeep mcoded mlines nl nc nF np ntr nb mbestCost nso nsi nit nsh nsf nss nrc 0 2 (nI jno) (fnw (32 + 6 * jno + 0)) msize misParted fnw (by omega) (by omega)) si_X12_88 [0, 1] sm_0_1 fm_0_1 nd_0_1 rfl rfl rfl rfl rfl (Nat.le_of_ble_eq_true rfl) rm_60_1_3 ⟨by first | exact Nat.le_of_ble_eq_true rfl | exact Nat.zero_le _, by first | exact Nat.le_of_ble_eq_true rfl | exact Nat.zero_le _⟩ gX12_deal_8.2.2.2.2.1 (Keqr ?_)
        refine lv_goto (tgt := 194) hx hb gX12_deal_8.2.2.2.2.2.1 (by decide) ?_
        refine pf_X12_369 hC rfl hK hP hD hS 0 (ws' := [(h0, oX12 nw nk mhasKept nt mtaped nr mrowMany mroundOf mroundFrom mouts nm mfromHour mtoHour ns mfrom mto msort misFault mdeep mcoded mlines nl nc nF np ntr nb mbestCost nso nsi nit nsh nsf nss nrc 0 2 (nI jno) (fnw (32 + 6 * jno + 0)) (fnw (32 + 6 * jno + 2)) misParted), (nw, iA G 1662 fnw), (nsh, iA G 4 fnsh), (nsf, iA G 4 fnsf), (nrc, iA G 30 fnrc)]) rfl (Nat.le_of_ble_eq_true rfl) rfl rfl rfl gX12_deal_10.2.2.2.2.2.1 (fun H locs hP hD hS => ?_)
        refine lv_aload_n hx hb gX12_deal_10.2.2.2.2.2.2.1 rfl (lv_at3 hl) ?_
        refine lv_iconst (v := 0) hx hb gX12_deal_10.2.2.2.2.2.2.2.1 (by decide) ?_
        refine pf_X12_380 hC rfl hK hP hD hS 0 (ws' := [(h0, oX12 nw nk mhasKept nt mtaped nr mrowMany mroundOf mroundFrom mouts nm mfromHour mtoHour ns mfrom mto msort misFault mdeep mcoded mlines nl nc nF np ntr nb mbestCost nso nsi nit nsh nsf nss nrc 0 2 (nI jno) (fnw (32 + 6 * jno + 0)) (fnw (32 + 6 * jno + 2)) 0), (nw, iA G 1662 fnw), (nsh, iA G 4 fnsh), (nsf, iA G 4 fnsf), (nrc, iA G 30 fnrc)]) rfl (Nat.le_of_ble_eq_true rfl) rfl (by decide +kernel) (by decide +kernel) gX12_deal_10.2.2.2.2.2.2.2.2.1 (fun H locs hP hD hS => ?_)
        obtain ⟨jdl, hjdl, rfl⟩ := Wi_nat (N := 3) (by decide) a7271
        rcases (show jdl = 0 ∨ jdl = 1 ∨ jdl = 2 ∨ jdl = 3 by omega) with rfl | rfl | rfl | rfl
        · refine lv_aload_n hx hb gX12_deal_10.2.2.2.2.2.2.2.2.2 rfl (lv_at3 hl) ?_
          refine lv_iload_n hx hb gX12_deal_11.1 rfl (lv_at5 hl) ?_
          refine lv_iload_n hx hb gX12_deal_11.2.1 rfl (lv_at6 hl) ?_
          refine iV (wr := [(nw, iA G 1662 fnw), (nsh, iA G 4 fnsh), (nsf, iA G 4 fnsf)]) hC hK hl hP hD hS hA (m_dealt0 l G h0 x3 nw nk mhasKept nt mtaped nr mrowMany mroundOf mroundFrom mouts nm mfromHour mtoHour ns mfrom mto msort misFault mdeep mcoded mlines nl nc nF np ntr nb mbestCost nso nsi nit nsh nsf nss nrc 0 2 (nI jno) (fnw (32 + 6 * jno + 0)) (fnw (32 + 6 * jno + 2)) 0 fnrc (by omega) (by omega)) si_X12_372 [0, 4] [1, 2, 3] sm_0_4 fm_0_4 nd_0_4 sm_1_2_3 nd_1_2_3 dj_0_4__1_2_3 rfl rfl rfl rfl rfl (Nat.le_of_ble_eq_true rfl) rm_60_14_3 ⟨Nat.le_of_ble_eq_true rfl, Nat.le_of_ble_eq_true rfl⟩ gX12_deal_11.2.2.1 (fun r7316 => Ktu3 fun jr17318 ip17319 gtrc7320 => ?_)
          intro H locs hr7316 hP hD hS
          try dsimp only at hr7316
          refine Kpdr (ws := [(nw, iA G 1662 fnw), (nsh, iA G 4 fnsh), (nsf, iA G 4 fnsf), (h0, oX12 nw nk mhasKept nt mtaped nr mrowMany mroundOf mroundFrom mouts nm mfromHour mtoHour ns mfrom mto msort misFault mdeep mcoded mlines nl nc nF np ntr nb mbestCost nso nsi nit nsh nsf nss nrc (nI jr17318) 2 (nI jno) (fnw (32 + 6 * jno + 0)) (fnw (32 + 6 * jno + 2)) ip17319), (nrc, iA G 30 gtrc7320)]) hP hD (fun hP hD => ?_)
          obtain ⟨hr7316, w7321⟩ := hr7316
          refine lv_istore (lv' := [(7, .int r7316), (6, .int 0), (5, .int 1), (4, .int 2), (0, .ref h0), (1, .int (nI jt)), (2, .int 0), (3, .int x3)]) hx hb gX12_deal_11.2.2.2.1 hl (by decide) rfl (fun ls hl => ?_)
          refine lv_aload_n hx hb gX12_deal_11.2.2.2.2.1 rfl (lv_at4 hl) ?_
          refine gf_X12_380 hC rfl hK hP 3 rfl rfl gX12_deal_11.2.2.2.2.2.1 ?_
          refine lv_if_eq (tgt := 222) hx hb gX12_deal_11.2.2.2.2.2.2.1 (by decide) (fun c_214_7322 => ?_) (fun c_214_7322 => ?_)
          · refine lv_iload hx hb gX12_deal_11.2.2.2.2.2.2.2.2.2 (lv_at0 hl) ?_
            refine toQ hQ0 ?_
            exact RI (v := r7316) hC hP hD hS [3, 0, 1, 2, 4] (jr17318, 2, nI jno, fnw (32 + 6 * jno + 0), fnw (32 + 6 * jno + 2), ip17319, gtrc7320) rfl rfl (by decide) (⟨trivial, by omega⟩) rfl gX12_deal_12
          · refine lv_bipush (v := (-15)) hx hb gX12_deal_11.2.2.2.2.2.2.2.1 (by decide) ?_
            refine lv_goto (tgt := 224) hx hb gX12_deal_11.2.2.2.2.2.2.2.2.1 (by decide) ?_
            refine toQ hQ0 ?_
            exact RI (v := (-15)) hC hP hD hS [3, 0, 1, 2, 4] (jr17318, 2, nI jno, fnw (32 + 6 * jno + 0), fnw (32 + 6 * jno + 2), ip17319, gtrc7320) rfl rfl (by decide) (⟨trivial, by omega⟩) rfl gX12_deal_12
        · refine lv_aload_n hx hb gX12_deal_10.2.2.2.2.2.2.2.2.2 rfl (lv_at3 hl) ?_
          refine lv_iload_n hx hb gX12_deal_11.1 rfl (lv_at5 hl) ?_
          refine lv_iload_n hx hb gX12_deal_11.2.1 rfl (lv_at6 hl) ?_
          refine iV (wr := [(nw, iA G 1662 fnw), (nsh, iA G 4 fnsh), (nsf, iA G 4 fnsf)]) hC hK hl hP hD hS hA (m_dealt1 l G h0 x3 nw nk mhasKept nt mtaped nr mrowMany mroundOf mroundFrom mouts nm mfromHour mtoHour ns mfrom mto msort misFault mdeep mcoded mlines nl nc nF np ntr nb mbestCost nso nsi nit nsh nsf nss nrc 0 2 (nI jno) (fnw (32 + 6 * jno + 0)) (fnw (32 + 6 * jno + 2)) 0 fnrc (by omega) (by omega)) si_X12_372 [0, 4] [1, 2, 3] sm_0_4 fm_0_4 nd_0_4 sm_1_2_3 nd_1_2_3 dj_0_4__1_2_3 rfl rfl rfl rfl rfl (Nat.le_of_ble_eq_true rfl) rm_60_26_3 ⟨Nat.le_of_ble_eq_true rfl, Nat.le_of_ble_eq_true rfl⟩ gX12_deal_11.2.2.1 (fun r7323 => Ktu3 fun jr17325 ip17326 gtrc7327 => ?_)
          intro H locs hr7323 hP hD hS
          try dsimp only at hr7323
          refine Kpdr (ws := [(nw, iA G 1662 fnw), (nsh, iA G 4 fnsh), (nsf, iA G 4 fnsf), (h0, oX12 nw nk mhasKept nt mtaped nr mrowMany mroundOf mroundFrom mouts nm mfromHour mtoHour ns mfrom mto msort misFault mdeep mcoded mlines nl nc nF np ntr nb mbestCost nso nsi nit nsh nsf nss nrc (nI jr17325) 2 (nI jno) (fnw (32 + 6 * jno + 0)) (fnw (32 + 6 * jno + 2)) ip17326), (nrc, iA G 30 gtrc7327)]) hP hD (fun hP hD => ?_)
          obtain ⟨hr7323, w7328⟩ := hr7323
          refine lv_istore (lv' := [(7, .int r7323), (6, .int 0), (5, .int 1), (4, .int 2), (0, .ref h0), (1, .int (nI jt)), (2, .int 1), (3, .int x3)]) hx hb gX12_deal_11.2.2.2.1 hl (by decide) rfl (fun ls hl => ?_)
          refine lv_aload_n hx hb gX12_deal_11.2.2.2.2.1 rfl (lv_at4 hl) ?_
          refine gf_X12_380 hC rfl hK hP 3 rfl rfl gX12_deal_11.2.2.2.2.2.1 ?_
          refine lv_if_eq (tgt := 222) hx hb gX12_deal_11.2.2.2.2.2.2.1 (by decide) (fun c_214_7329 => ?_) (fun c_214_7329 => ?_)
          · refine lv_iload hx hb gX12_deal_11.2.2.2.2.2.2.2.2.2 (lv_at0 hl) ?_
            refine toQ hQ0 ?_
            exact RI (v := r7323) hC hP hD hS [3, 0, 1, 2, 4] (jr17325, 2, nI jno, fnw (32 + 6 * jno + 0), fnw (32 + 6 * jno + 2), ip17326, gtrc7327) rfl rfl (by decide) (⟨trivial, by omega⟩) rfl gX12_deal_12
          · refine lv_bipush (v := (-15)) hx hb gX12_deal_11.2.2.2.2.2.2.2.1 (by decide) ?_
            refine lv_goto (tgt := 224) hx hb gX12_deal_11.2.2.2.2.2.2.2.2.1 (by decide) ?_
            refine toQ hQ0 ?_
            exact RI (v := (-15)) hC hP hD hS [3, 0, 1, 2, 4] (jr17325, 2, nI jno, fnw (32 + 6 * jno + 0), fnw (32 + 6 * jno + 2), ip17326, gtrc7327) rfl rfl (by decide) (⟨trivial, by omega⟩) rfl gX12_deal_12
        · refine lv_aload_n hx hb gX12_deal_10.2.2.2.2.2.2.2.2.2 rfl (lv_at3 hl) ?_
          refine lv_iload_n hx hb gX12_deal_11.1 rfl (lv_at5 hl) ?_
          refine lv_iload_n hx hb gX12_deal_11.2.1 rfl (lv_at6 hl) ?_
          refine iV (wr := [(nw, iA G 1662 fnw), (nsh, iA G 4 fnsh), (nsf, iA G 4 fnsf)]) hC hK hl hP hD hS hA (m_dealt2 l G h0 x3 nw nk mhasKept nt mtaped nr mrowMany mroundOf mroundFrom mouts nm mfromHour mtoHour ns mfrom mto msort misFault mdeep mcoded mlines nl nc nF np ntr nb mbestCost nso nsi nit nsh nsf nss nrc 0 2 (nI jno) (fnw (32 + 6 * jno + 0)) (fnw (32 + 6 * jno + 2)) 0 fnrc (by omega) (by omega)) si_X12_372 [0, 4] [1, 2, 3] sm_0_4 fm_0_4 nd_0_4 sm_1_2_3 nd_1_2_3 dj_0_4__1_2_3 rfl rfl rfl rfl rfl (Nat.le_of_ble_eq_true rfl) rm_60_38_3 ⟨Nat.le_of_ble_eq_true rfl, Nat.le_of_ble_eq_true rfl⟩ gX12_deal_11.2.2.1 (fun r7330 => Ktu3 fun jr17332 ip17333 gtrc7334 => ?_)
          intro H locs hr7330 hP hD hS
          try dsimp only at hr7330
          refine Kpdr (ws := [(nw, iA G 1662 fnw), (nsh, iA G 4 fnsh), (nsf, iA G 4 fnsf), (h0, oX12 nw nk mhasKept nt mtaped nr mrowMany mroundOf mroundFrom mouts nm mfromHour mtoHour ns mfrom mto msort misFault mdeep mcoded mlines nl nc nF np ntr nb mbestCost nso nsi nit nsh nsf nss nrc (nI jr17332) 2 (nI jno) (fnw (32 + 6 * jno + 0)) (fnw (32 + 6 * jno + 2)) ip17333), (nrc, iA G 30 gtrc7334)]) hP hD (fun hP hD => ?_)
          obtain ⟨hr7330, w7335⟩ := hr7330
          refine lv_istore (lv' := [(7, .int r7330), (6, .int 0), (5, .int 1), (4, .int 2), (0, .ref h0), (1, .int (nI jt)), (2, .int 2), (3, .int x3)]) hx hb gX12_deal_11.2.2.2.1 hl (by decide) rfl (fun ls hl => ?_)
          refine lv_aload_n hx hb gX12_deal_11.2.2.2.2.1 rfl (lv_at4 hl) ?_
          refine gf_X12_380 hC rfl hK hP 3 rfl rfl gX12_deal_11.2.2.2.2.2.1 ?_
          refine lv_if_eq (tgt := 222) hx hb gX12_deal_11.2.2.2.2.2.2.1 (by decide) (fun c_214_7336 => ?_) (fun c_214_7336 => ?_)
          · refine lv_iload hx hb gX12_deal_11.2.2.2.2.2.2.2.2.2 (lv_at0 hl) ?_
            refine toQ hQ0 ?_
            exact RI (v := r7330) hC hP hD hS [3, 0, 1, 2, 4] (jr17332, 2, nI jno, fnw (32 + 6 * jno + 0), fnw (32 + 6 * jno + 2), ip17333, gtrc7334) rfl rfl (by decide) (⟨trivial, by omega⟩) rfl gX12_deal_12
          · refine lv_bipush (v := (-15)) hx hb gX12_deal_11.2.2.2.2.2.2.2.1 (by decide) ?_
            refine lv_goto (tgt := 224) hx hb gX12_deal_11.2.2.2.2.2.2.2.2.1 (by decide) ?_
            refine toQ hQ0 ?_
            exact RI (v := (-15)) hC hP hD hS [3, 0, 1, 2, 4] (jr17332, 2, nI jno, fnw (32 + 6 * jno + 0), fnw (32 + 6 * jno + 2), ip17333, gtrc7334) rfl rfl (by decide) (⟨trivial, by omega⟩) rfl gX12_deal_12
        · refine lv_aload_n hx hb gX12_deal_10.2.2.2.2.2.2.2.2.2 rfl (lv_at3 hl) ?_
          refine lv_iload_n hx hb gX12_deal_11.1 rfl (lv_at5 hl) ?_
          refine lv_iload_n hx hb gX12_deal_11.2.1 rfl (lv_at6 hl) ?_
          refine iV (wr := [(nw, iA G 1662 fnw), (nsh, iA G 4 fnsh), (nsf, iA G 4 fnsf)]) hC hK hl hP hD hS hA (m_dealt3 l G h0 x3 nw nk mhasKept nt mtaped nr mrowMany mroundOf mroundFrom mouts nm mfromHour mtoHour ns mfrom mto msort misFault mdeep mcoded mlines nl nc nF np ntr nb mbestCost nso nsi nit nsh nsf nss nrc 0 2 (nI jno) (fnw (32 + 6 * jno + 0)) (fnw (32 + 6 * jno + 2)) 0 fnrc (by omega) (by omega)) si_X12_372 [0, 4] [1, 2, 3] sm_0_4 fm_0_4 nd_0_4 sm_1_2_3 nd_1_2_3 dj_0_4__1_2_3 rfl rfl rfl rfl rfl (Nat.le_of_ble_eq_true rfl) rm_60_50_3 ⟨Nat.le_of_ble_eq_true rfl, Nat.le_of_ble_eq_true rfl⟩ gX12_deal_11.2.2.1 (fun r7337 => Ktu3 fun jr17339 ip17340 gtrc7341 => ?_)
          intro H locs hr7337 hP hD hS
          try dsimp only at hr7337
          refine Kpdr (ws := [(nw, iA G 1662 fnw), (nsh, iA G 4 fnsh), (nsf, iA G 4 fnsf), (h0, oX12 nw nk mhasKept nt mtaped nr mrowMany mroundOf mroundFrom mouts nm mfromHour mtoHour ns mfrom mto msort misFault mdeep mcoded mlines nl nc nF np ntr nb mbestCost nso nsi nit nsh nsf nss nrc (nI jr17339) 2 (nI jno) (fnw (32 + 6 * jno + 0)) (fnw (32 + 6 * jno + 2)) ip17340), (nrc, iA G 30 gtrc7341)]) hP hD (fun hP hD => ?_)
          obtain ⟨hr7337, w7342⟩ := hr7337
          refine lv_istore (lv' := [(7, .int r7337), (6, .int 0), (5, .int 1), (4, .int 2), (0, .ref h0), (1, .int (nI jt)), (2, .int 3), (3, .int x3)]) hx hb gX12_deal_11.2.2.2.1 hl (by decide) rfl (fun ls hl => ?_)
          refine lv_aload_n hx hb gX12_deal_11.2.2.2.2.1 rfl (lv_at4 hl) ?_
          refine gf_X12_380 hC rfl hK hP 3 rfl rfl gX12_deal_11.2.2.2.2.2.1 ?_
          refine lv_if_eq (tgt := 222) hx hb gX12_deal_11.2.2.2.2.2.2.1 (by decide) (fun c_214_7343 => ?_) (fun c_214_7343 => ?_)
          · refine lv_iload hx hb gX12_deal_11.2.2.2.2.2.2.2.2.2 (lv_at0 hl) ?_
            refine toQ hQ0 ?_
            exact RI (v := r7337) hC hP hD hS [3, 0, 1, 2, 4] (jr17339, 2, nI jno, fnw (32 + 6 * jno + 0), fnw (32 + 6 * jno + 2), ip17340, gtrc7341) rfl rfl (by decide) (⟨trivial, by omega⟩) rfl gX12_deal_12
          · refine lv_bipush (v := (-15)) hx hb gX12_deal_11.2.2.2.2.2.2.2.1 (by decide) ?_
            refine lv_goto (tgt := 224) hx hb gX12_deal_11.2.2.2.2.2.2.2.2.1 (by decide) ?_
            refine toQ hQ0 ?_
            exact RI (v := (-15)) hC hP hD hS [3, 0, 1, 2, 4] (jr17339, 2, nI jno, fnw (32 + 6 * jno + 0), fnw (32 + 6 * jno + 2), ip17340, gtrc7341) rfl rfl (by decide) (⟨trivial, by omega⟩) rfl gX12_deal_12
      · refine lv_istore (lv' := [(4, .int 3), (0, .ref h0), (1, .int (nI jt)), (2, .int x2), (3, .int x3)]) hx hb gX12_deal_1.2.2.2.2.1 hl (by decide) rfl (fun ls hl => ?_)
        refine lv_iload hx hb gX12_deal_1.2.2.2.2.2.1 (lv_at0 hl) ?_
        refine lv_if_ge (tgt := 37) hx hb gX12_deal_1.2.2.2.2.2.2.1 (by decide) (fun _ => ?_) (fun c9 => absurd (by decide) c9)
        refine lv_aload_n hx hb gX12_deal_1.2.2.2.2.2.2.2.2.2 rfl (lv_at1 hl) ?_
        refine lv_iload hx hb gX12_deal_2.1 (lv_at0 hl) ?_
        refine pf_X12_354 hC rfl hK hP hD hS 0 (ws' := [(h0, oX12 nw nk mhasKept nt mtaped nr mrowMany mroundOf mroundFrom mouts nm mfromHour mtoHour ns mfrom mto msort misFault mdeep mcoded mlines nl nc nF np ntr nb mbestCost nso nsi nit nsh nsf nss nrc 0 3 mnumber mwhose msize misParted), (nw, iA G 1662 fnw), (nsh, iA G 4 fnsh), (nsf, iA G 4 fnsf), (nrc, iA G 30 fnrc)]) rfl (Nat.le_of_ble_eq_true rfl) rfl rfl rfl gX12_deal_2.2.1 (fun H locs hP hD hS => ?_)
        refine lv_aload_n hx hb gX12_deal_2.2.2.1 rfl (lv_at1 hl) ?_
        refine lv_aload_n hx hb gX12_deal_2.2.2.2.1 rfl (lv_at1 hl) ?_
        refine gf_X12_75 hC rfl hK hP 0 rfl rfl gX12_deal_2.2.2.2.2.1 ?_
        refine lv_iload_n hx hb gX12_deal_2.2.2.2.2.2.1 rfl (lv_at2 hl) ?_
        refine aldN hC hK hP 3 rfl (k := jt) (by omega) (Nat.le_of_ble_eq_true rfl) (v := fnsf jt) rfl gX12_deal_2.2.2.2.2.2.2.1 ?_
        refine lv_topi (fun x7344 ex7344 => ?_)
        obtain ⟨hko9, jno, hjno, ejno⟩ := a7273
        refine eqi (x1 := nI jno) (ex7344.trans ejno) ?_
        refine pf_X12_378 hC rfl hK hP hD hS 0 (ws' := [(h0, oX12 nw nk mhasKept nt mtaped nr mrowMany mroundOf mroundFrom mouts nm mfromHour mtoHour ns mfrom mto msort misFault mdeep mcoded mlines nl nc nF np ntr nb mbestCost nso nsi nit nsh nsf nss nrc 0 3 (nI jno) mwhose msize misParted), (nw, iA G 1662 fnw), (nsh, iA G 4 fnsh), (nsf, iA G 4 fnsf), (nrc, iA G 30 fnrc)]) rfl (Nat.le_of_ble_eq_true rfl) rfl rfl rfl gX12_deal_2.2.2.2.2.2.2.2.1 (fun H locs hP hD hS => ?_)
        refine lv_aload_n hx hb gX12_deal_2.2.2.2.2.2.2.2.2.1 rfl (lv_at1 hl) ?_
        refine gf_X12_72 hC rfl hK hP 0 rfl rfl gX12_deal_2.2.2.2.2.2.2.2.2.2 ?_
        refine lv_iload_n hx hb gX12_deal_3.1 rfl (lv_at2 hl) ?_
        refine aldN hC hK hP 2 rfl (k := jt) (by omega) (Nat.le_of_ble_eq_true rfl) (v := fnsh jt) rfl gX12_deal_3.2.1 ?_
        refine lv_topi (fun x7345 ex7345 => ?_)
        refine lv_iconst (v := 1) hx hb gX12_deal_3.2.2.1 (by decide) ?_
        refine lv_icmp_ne (tgt := 67) hx hb gX12_deal_3.2.2.2.1 (by decide) (fun c9 => absurd (ex7345.trans hko9) c9) (fun _ => ?_)
        refine lv_iconst (v := 1) hx hb gX12_deal_3.2.2.2.2.1 (by decide) ?_
        refine lv_goto (tgt := 68) hx hb gX12_deal_3.2.2.2.2.2.1 (by decide) ?_
        refine lv_istore (lv' := [(5, .int 1), (4, .int 3), (0, .ref h0), (1, .int (nI jt)), (2, .int x2), (3, .int x3)]) hx hb gX12_deal_3.2.2.2.2.2.2.2.1 hl (by decide) rfl (fun ls hl => ?_)
        refine lv_aload_n hx hb gX12_deal_3.2.2.2.2.2.2.2.2.1 rfl (lv_at2 hl) ?_
        refine gf_X12_72 hC rfl hK hP 0 rfl rfl gX12_deal_3.2.2.2.2.2.2.2.2.2 ?_
        refine lv_iload_n hx hb gX12_deal_4.1 rfl (lv_at3 hl) ?_
        refine aldN hC hK hP 2 rfl (k := jt) (by omega) (Nat.le_of_ble_eq_true rfl) (v := fnsh jt) rfl gX12_deal_4.2.1 ?_
        refine lv_topi (fun x7346 ex7346 => ?_)
        refine lv_iconst (v := 2) hx hb gX12_deal_4.2.2.1 (by decide) ?_
        refine lv_icmp_ne (tgt := 84) hx hb gX12_deal_4.2.2.2.1 (by decide) (fun _ => ?_) (fun c9 => absurd c9 (fun h9 => absurd (hko9.symm.trans ((ex7346.symm).trans h9)) (by decide)))
        refine lv_iconst (v := 0) hx hb gX12_deal_4.2.2.2.2.2.2.1 (by decide) ?_
        refine lv_istore (lv' := [(6, .int 0), (5, .int 1), (4, .int 3), (0, .ref h0), (1, .int (nI jt)), (2, .int x2), (3, .int x3)]) hx hb gX12_deal_4.2.2.2.2.2.2.2.1 hl (by decide) rfl (fun ls hl => ?_)
        refine lv_aload_n hx hb gX12_deal_4.2.2.2.2.2.2.2.2.1 rfl (lv_at3 hl) ?_
        refine lv_iload hx hb gX12_deal_4.2.2.2.2.2.2.2.2.2 (lv_at1 hl) ?_
        refine lv_if_eq (tgt := 105) hx hb gX12_deal_5.1 (by decide) (fun c9 => absurd c9 (by decide)) (fun _ => ?_)
        refine lv_aload_n hx hb gX12_deal_5.2.1 rfl (lv_at3 hl) ?_
        refine lv_aload_n hx hb gX12_deal_5.2.2.1 rfl (lv_at3 hl) ?_
        refine gf_X12_378 hC rfl hK hP 0 rfl rfl gX12_deal_5.2.2.2.1 ?_
        refine lv_iconst (v := 0) hx hb gX12_deal_5.2.2.2.2.1 (by decide) ?_
        refine pV hC hK hl hP hD (m_paper l G h0 jno 0 nw nk mhasKept nt mtaped nr mrowMany mroundOf mroundFrom mouts nm mfromHour mtoHour ns mfrom mto msort misFault mdeep mcoded mlines nl nc nF np ntr nb mbestCost nso nsi nit nsh nsf nss nrc 0 3 (nI jno) mwhose msize misParted fnw (by omega) (by omega)) si_X12_88 [0, 1] sm_0_1 fm_0_1 nd_0_1 rfl rfl rfl rfl rfl (Nat.le_of_ble_eq_true rfl) rm_60_1_3 ⟨by first | exact Nat.le_of_ble_eq_true rfl | exact Nat.zero_le _, by first | exact Nat.le_of_ble_eq_true rfl | exact Nat.zero_le _⟩ gX12_deal_5.2.2.2.2.2.1 (Keqr ?_)
        refine lv_goto (tgt := 139) hx hb gX12_deal_5.2.2.2.2.2.2.1 (by decide) ?_
        refine pf_X12_375 hC rfl hK hP hD hS 0 (ws' := [(h0, oX12 nw nk mhasKept nt mtaped nr mrowMany mroundOf mroundFrom mouts nm mfromHour mtoHour ns mfrom mto msort misFault mdeep mcoded mlines nl nc nF np ntr nb mbestCost nso nsi nit nsh nsf nss nrc 0 3 (nI jno) (fnw (32 + 6 * jno + 0)) msize misParted), (nw, iA G 1662 fnw), (nsh, iA G 4 fnsh), (nsf, iA G 4 fnsf), (nrc, iA G 30 fnrc)]) rfl (Nat.le_of_ble_eq_true rfl) rfl rfl rfl gX12_deal_7.2.2.2.2.2.2.1 (fun H locs hP hD hS => ?_)
        refine lv_aload_n hx hb gX12_deal_7.2.2.2.2.2.2.2.1 rfl (lv_at3 hl) ?_
        refine lv_iload hx hb gX12_deal_7.2.2.2.2.2.2.2.2.1 (lv_at1 hl) ?_
        refine lv_if_eq (tgt := 160) hx hb gX12_deal_7.2.2.2.2.2.2.2.2.2 (by decide) (fun c9 => absurd c9 (by decide)) (fun _ => ?_)
        refine lv_aload_n hx hb gX12_deal_8.1 rfl (lv_at3 hl) ?_
        refine lv_aload_n hx hb gX12_deal_8.2.1 rfl (lv_at3 hl) ?_
        refine gf_X12_378 hC rfl hK hP 0 rfl rfl gX12_deal_8.2.2.1 ?_
        refine lv_iconst (v := 2) hx hb gX12_deal_8.2.2.2.1 (by decide) ?_
        refine pV hC hK hl hP hD (m_paper l G h0 jno 2 nw nk mhasKept nt mtaped nr mrowMany mroundOf mroundFrom mouts nm mfromHour mtoHour ns mfrom mto msort misFault mdeep mcoded mlines nl nc nF np ntr nb mbestCost nso nsi nit nsh nsf nss nrc 0 3 (nI jno) (fnw (32 + 6 * jno + 0)) msize misParted fnw (by omega) (by omega)) si_X12_88 [0, 1] sm_0_1 fm_0_1 nd_0_1 rfl rfl rfl rfl rfl (Nat.le_of_ble_eq_true rfl) rm_60_1_3 ⟨by first | exact Nat.le_of_ble_eq_true rfl | exact Nat.zero_le _, by first | exact Nat.le_of_ble_eq_true rfl | exact Nat.zero_le _⟩ gX12_deal_8.2.2.2.2.1 (Keqr ?_)
        refine lv_goto (tgt := 194) hx hb gX12_deal_8.2.2.2.2.2.1 (by decide) ?_
        refine pf_X12_369 hC rfl hK hP hD hS 0 (ws' := [(h0, oX12 nw nk mhasKept nt mtaped nr mrowMany mroundOf mroundFrom mouts nm mfromHour mtoHour ns mfrom mto msort misFault mdeep mcoded mlines nl nc nF np ntr nb mbestCost nso nsi nit nsh nsf nss nrc 0 3 (nI jno) (fnw (32 + 6 * jno + 0)) (fnw (32 + 6 * jno + 2)) misParted), (nw, iA G 1662 fnw), (nsh, iA G 4 fnsh), (nsf, iA G 4 fnsf), (nrc, iA G 30 fnrc)]) rfl (Nat.le_of_ble_eq_true rfl) rfl rfl rfl gX12_deal_10.2.2.2.2.2.1 (fun H locs hP hD hS => ?_)
        refine lv_aload_n hx hb gX12_deal_10.2.2.2.2.2.2.1 rfl (lv_at3 hl) ?_
        refine lv_iconst (v := 0) hx hb gX12_deal_10.2.2.2.2.2.2.2.1 (by decide) ?_
        refine pf_X12_380 hC rfl hK hP hD hS 0 (ws' := [(h0, oX12 nw nk mhasKept nt mtaped nr mrowMany mroundOf mroundFrom mouts nm mfromHour mtoHour ns mfrom mto msort misFault mdeep mcoded mlines nl nc nF np ntr nb mbestCost nso nsi nit nsh nsf nss nrc 0 3 (nI jno) (fnw (32 + 6 * jno + 0)) (fnw (32 + 6 * jno + 2)) 0), (nw, iA G 1662 fnw), (nsh, iA G 4 fnsh), (nsf, iA G 4 fnsf), (nrc, iA G 30 fnrc)]) rfl (Nat.le_of_ble_eq_true rfl) rfl (by decide +kernel) (by decide +kernel) gX12_deal_10.2.2.2.2.2.2.2.2.1 (fun H locs hP hD hS => ?_)
        obtain ⟨jdl, hjdl, rfl⟩ := Wi_nat (N := 3) (by decide) a7271
        rcases (show jdl = 0 ∨ jdl = 1 ∨ jdl = 2 ∨ jdl = 3 by omega) with rfl | rfl | rfl | rfl
        · refine lv_aload_n hx hb gX12_deal_10.2.2.2.2.2.2.2.2.2 rfl (lv_at3 hl) ?_
          refine lv_iload_n hx hb gX12_deal_11.1 rfl (lv_at5 hl) ?_
          refine lv_iload_n hx hb gX12_deal_11.2.1 rfl (lv_at6 hl) ?_
          refine iV (wr := [(nw, iA G 1662 fnw), (nsh, iA G 4 fnsh), (nsf, iA G 4 fnsf)]) hC hK hl hP hD hS hA (m_dealt0 l G h0 x3 nw nk mhasKept nt mtaped nr mrowMany mroundOf mroundFrom mouts nm mfromHour mtoHour ns mfrom mto msort misFault mdeep mcoded mlines nl nc nF np ntr nb mbestCost nso nsi nit nsh nsf nss nrc 0 3 (nI jno) (fnw (32 + 6 * jno + 0)) (fnw (32 + 6 * jno + 2)) 0 fnrc (by omega) (by omega)) si_X12_372 [0, 4] [1, 2, 3] sm_0_4 fm_0_4 nd_0_4 sm_1_2_3 nd_1_2_3 dj_0_4__1_2_3 rfl rfl rfl rfl rfl (Nat.le_of_ble_eq_true rfl) rm_60_14_3 ⟨Nat.le_of_ble_eq_true rfl, Nat.le_of_ble_eq_true rfl⟩ gX12_deal_11.2.2.1 (fun r7351 => Ktu3 fun jr17353 ip17354 gtrc7355 => ?_)
          intro H locs hr7351 hP hD hS
          try dsimp only at hr7351
          refine Kpdr (ws := [(nw, iA G 1662 fnw), (nsh, iA G 4 fnsh), (nsf, iA G 4 fnsf), (h0, oX12 nw nk mhasKept nt mtaped nr mrowMany mroundOf mroundFrom mouts nm mfromHour mtoHour ns mfrom mto msort misFault mdeep mcoded mlines nl nc nF np ntr nb mbestCost nso nsi nit nsh nsf nss nrc (nI jr17353) 3 (nI jno) (fnw (32 + 6 * jno + 0)) (fnw (32 + 6 * jno + 2)) ip17354), (nrc, iA G 30 gtrc7355)]) hP hD (fun hP hD => ?_)
          obtain ⟨hr7351, w7356⟩ := hr7351
          refine lv_istore (lv' := [(7, .int r7351), (6, .int 0), (5, .int 1), (4, .int 3), (0, .ref h0), (1, .int (nI jt)), (2, .int 0), (3, .int x3)]) hx hb gX12_deal_11.2.2.2.1 hl (by decide) rfl (fun ls hl => ?_)
          refine lv_aload_n hx hb gX12_deal_11.2.2.2.2.1 rfl (lv_at4 hl) ?_
          refine gf_X12_380 hC rfl hK hP 3 rfl rfl gX12_deal_11.2.2.2.2.2.1 ?_
          refine lv_if_eq (tgt := 222) hx hb gX12_deal_11.2.2.2.2.2.2.1 (by decide) (fun c_214_7357 => ?_) (fun c_214_7357 => ?_)
          · refine lv_iload hx hb gX12_deal_11.2.2.2.2.2.2.2.2.2 (lv_at0 hl) ?_
            refine toQ hQ0 ?_
            exact RI (v := r7351) hC hP hD hS [3, 0, 1, 2, 4] (jr17353, 3, nI jno, fnw (32 + 6 * jno + 0), fnw (32 + 6 * jno + 2), ip17354, gtrc7355) rfl rfl (by decide) (⟨trivial, by omega⟩) rfl gX12_deal_12
          · refine lv_bipush (v := (-15)) hx hb gX12_deal_11.2.2.2.2.2.2.2.1 (by decide) ?_
            refine lv_goto (tgt := 224) hx hb gX12_deal_11.2.2.2.2.2.2.2.2.1 (by decide) ?_
            refine toQ hQ0 ?_
            exact RI (v := (-15)) hC hP hD hS [3, 0, 1, 2, 4] (jr17353, 3, nI jno, fnw (32 + 6 * jno + 0), fnw (32 + 6 * jno + 2), ip17354, gtrc7355) rfl rfl (by decide) (⟨trivial, by omega⟩) rfl gX12_deal_12
        · refine lv_aload_n hx hb gX12_deal_10.2.2.2.2.2.2.2.2.2 rfl (lv_at3 hl) ?_
          refine lv_iload_n hx hb gX12_deal_11.1 rfl (lv_at5 hl) ?_
          refine lv_iload_n hx hb gX12_deal_11.2.1 rfl (lv_at6 hl) ?_
          refine iV (wr := [(nw, iA G 1662 fnw), (nsh, iA G 4 fnsh), (nsf, iA G 4 fnsf)]) hC hK hl hP hD hS hA (m_dealt1 l G h0 x3 nw nk mhasKept nt mtaped nr mrowMany mroundOf mroundFrom mouts nm mfromHour mtoHour ns mfrom mto msort misFault mdeep mcoded mlines nl nc nF np ntr nb mbestCost nso nsi nit nsh nsf nss nrc 0 3 (nI jno) (fnw (32 + 6 * jno + 0)) (fnw (32 + 6 * jno + 2)) 0 fnrc (by omega) (by omega)) si_X12_372 [0, 4] [1, 2, 3] sm_0_4 fm_0_4 nd_0_4 sm_1_2_3 nd_1_2_3 dj_0_4__1_2_3 rfl rfl rfl rfl rfl (Nat.le_of_ble_eq_true rfl) rm_60_26_3 ⟨Nat.le_of_ble_eq_true rfl, Nat.le_of_ble_eq_true rfl⟩ gX12_deal_11.2.2.1 (fun r7358 => Ktu3 fun jr17360 ip17361 gtrc7362 => ?_)
          intro H locs hr7358 hP hD hS
          try dsimp only at hr7358
          refine Kpdr (ws := [(nw, iA G 1662 fnw), (nsh, iA G 4 fnsh), (nsf, iA G 4 fnsf), (h0, oX12 nw nk mhasKept nt mtaped nr mrowMany mroundOf mroundFrom mouts nm mfromHour mtoHour ns mfrom mto msort misFault mdeep mcoded mlines nl nc nF np ntr nb mbestCost nso nsi nit nsh nsf nss nrc (nI jr17360) 3 (nI jno) (fnw (32 + 6 * jno + 0)) (fnw (32 + 6 * jno + 2)) ip17361), (nrc, iA G 30 gtrc7362)]) hP hD (fun hP hD => ?_)
          obtain ⟨hr7358, w7363⟩ := hr7358
          refine lv_istore (lv' := [(7, .int r7358), (6, .int 0), (5, .int 1), (4, .int 3), (0, .ref h0), (1, .int (nI jt)), (2, .int 1), (3, .int x3)]) hx hb gX12_deal_11.2.2.2.1 hl (by decide) rfl (fun ls hl => ?_)
          refine lv_aload_n hx hb gX12_deal_11.2.2.2.2.1 rfl (lv_at4 hl) ?_
          refine gf_X12_380 hC rfl hK hP 3 rfl rfl gX12_deal_11.2.2.2.2.2.1 ?_
          refine lv_if_eq (tgt := 222) hx hb gX12_deal_11.2.2.2.2.2.2.1 (by decide) (fun c_214_7364 => ?_) (fun c_214_7364 => ?_)
          · refine lv_iload hx hb gX12_deal_11.2.2.2.2.2.2.2.2.2 (lv_at0 hl) ?_
            refine toQ hQ0 ?_
            exact RI (v := r7358) hC hP hD hS [3, 0, 1, 2, 4] (jr17360, 3, nI jno, fnw (32 + 6 * jno + 0), fnw (32 + 6 * jno + 2), ip17361, gtrc7362) rfl rfl (by decide) (⟨trivial, by omega⟩) rfl gX12_deal_12
          · refine lv_bipush (v := (-15)) hx hb gX12_deal_11.2.2.2.2.2.2.2.1 (by decide) ?_
            refine lv_goto (tgt := 224) hx hb gX12_deal_11.2.2.2.2.2.2.2.2.1 (by decide) ?_
            refine toQ hQ0 ?_
            exact RI (v := (-15)) hC hP hD hS [3, 0, 1, 2, 4] (jr17360, 3, nI jno, fnw (32 + 6 * jno + 0), fnw (32 + 6 * jno + 2), ip17361, gtrc7362) rfl rfl (by decide) (⟨trivial, by omega⟩) rfl gX12_deal_12
        · refine lv_aload_n hx hb gX12_deal_10.2.2.2.2.2.2.2.2.2 rfl (lv_at3 hl) ?_
          refine lv_iload_n hx hb gX12_deal_11.1 rfl (lv_at5 hl) ?_
          refine lv_iload_n hx hb gX12_deal_11.2.1 rfl (lv_at6 hl) ?_
          refine iV (wr := [(nw, iA G 1662 fnw), (nsh, iA G 4 fnsh), (nsf, iA G 4 fnsf)]) hC hK hl hP hD hS hA (m_dealt2 l G h0 x3 nw nk mhasKept nt mtaped nr mrowMany mroundOf mroundFrom mouts nm mfromHour mtoHour ns mfrom mto msort misFault mdeep mcoded mlines nl nc nF np ntr nb mbestCost nso nsi nit nsh nsf nss nrc 0 3 (nI jno) (fnw (32 + 6 * jno + 0)) (fnw (32 + 6 * jno + 2)) 0 fnrc (by omega) (by omega)) si_X12_372 [0, 4] [1, 2, 3] sm_0_4 fm_0_4 nd_0_4 sm_1_2_3 nd_1_2_3 dj_0_4__1_2_3 rfl rfl rfl rfl rfl (Nat.le_of_ble_eq_true rfl) rm_60_38_3 ⟨Nat.le_of_ble_eq_true rfl, Nat.le_of_ble_eq_true rfl⟩ gX12_deal_11.2.2.1 (fun r7365 => Ktu3 fun jr17367 ip17368 gtrc7369 => ?_)
          intro H locs hr7365 hP hD hS
          try dsimp only at hr7365
          refine Kpdr (ws := [(nw, iA G 1662 fnw), (nsh, iA G 4 fnsh), (nsf, iA G 4 fnsf), (h0, oX12 nw nk mhasKept nt mtaped nr mrowMany mroundOf mroundFrom mouts nm mfromHour mtoHour ns mfrom mto msort misFault mdeep mcoded mlines nl nc nF np ntr nb mbestCost nso nsi nit nsh nsf nss nrc (nI jr17367) 3 (nI jno) (fnw (32 + 6 * jno + 0)) (fnw (32 + 6 * jno + 2)) ip17368), (nrc, iA G 30 gtrc7369)]) hP hD (fun hP hD => ?_)
          obtain ⟨hr7365, w7370⟩ := hr7365
          refine lv_istore (lv' := [(7, .int r7365), (6, .int 0), (5, .int 1), (4, .int 3), (0, .ref h0), (1, .int (nI jt)), (2, .int 2), (3, .int x3)]) hx hb gX12_deal_11.2.2.2.1 hl (by decide) rfl (fun ls hl => ?_)
          refine lv_aload_n hx hb gX12_deal_11.2.2.2.2.1 rfl (lv_at4 hl) ?_
          refine gf_X12_380 hC rfl hK hP 3 rfl rfl gX12_deal_11.2.2.2.2.2.1 ?_
          refine lv_if_eq (tgt := 222) hx hb gX12_deal_11.2.2.2.2.2.2.1 (by decide) (fun c_214_7371 => ?_) (fun c_214_7371 => ?_)
          · refine lv_iload hx hb gX12_deal_11.2.2.2.2.2.2.2.2.2 (lv_at0 hl) ?_
            refine toQ hQ0 ?_
            exact RI (v := r7365) hC hP hD hS [3, 0, 1, 2, 4] (jr17367, 3, nI jno, fnw (32 + 6 * jno + 0), fnw (32 + 6 * jno + 2), ip17368, gtrc7369) rfl rfl (by decide) (⟨trivial, by omega⟩) rfl gX12_deal_12
          · refine lv_bipush (v := (-15)) hx hb gX12_deal_11.2.2.2.2.2.2.2.1 (by decide) ?_
            refine lv_goto (tgt := 224) hx hb gX12_deal_11.2.2.2.2.2.2.2.2.1 (by decide) ?_
            refine toQ hQ0 ?_
            exact RI (v := (-15)) hC hP hD hS [3, 0, 1, 2, 4] (jr17367, 3, nI jno, fnw (32 + 6 * jno + 0), fnw (32 + 6 * jno + 2), ip17368, gtrc7369) rfl rfl (by decide) (⟨trivial, by omega⟩) rfl gX12_deal_12
        · refine lv_aload_n hx hb gX12_deal_10.2.2.2.2.2.2.2.2.2 rfl (lv_at3 hl) ?_
          refine lv_iload_n hx hb gX12_deal_11.1 rfl (lv_at5 hl) ?_
          refine lv_iload_n hx hb gX12_deal_11.2.1 rfl (lv_at6 hl) ?_
          refine iV (wr := [(nw, iA G 1662 fnw), (nsh, iA G 4 fnsh), (nsf, iA G 4 fnsf)]) hC hK hl hP hD hS hA (m_dealt3 l G h0 x3 nw nk mhasKept nt mtaped nr mrowMany mroundOf mroundFrom mouts nm mfromHour mtoHour ns mfrom mto msort misFault mdeep mcoded mlines nl nc nF np ntr nb mbestCost nso nsi nit nsh nsf nss nrc 0 3 (nI jno) (fnw (32 + 6 * jno + 0)) (fnw (32 + 6 * jno + 2)) 0 fnrc (by omega) (by omega)) si_X12_372 [0, 4] [1, 2, 3] sm_0_4 fm_0_4 nd_0_4 sm_1_2_3 nd_1_2_3 dj_0_4__1_2_3 rfl rfl rfl rfl rfl (Nat.le_of_ble_eq_true rfl) rm_60_50_3 ⟨Nat.le_of_ble_eq_true rfl, Nat.le_of_ble_eq_true rfl⟩ gX12_deal_11.2.2.1 (fun r7372 => Ktu3 fun jr17374 ip17375 gtrc7376 => ?_)
          intro H locs hr7372 hP hD hS
          try dsimp only at hr7372
          refine Kpdr (ws := [(nw, iA G 1662 fnw), (nsh, iA G 4 fnsh), (nsf, iA G 4 fnsf), (h0, oX12 nw nk mhasKept nt mtaped nr mrowMany mroundOf mroundFrom mouts nm mfromHour mtoHour ns mfrom mto msort misFault mdeep mcoded mlines nl nc nF np ntr nb mbestCost nso nsi nit nsh nsf nss nrc (nI jr17374) 3 (nI jno) (fnw (32 + 6 * jno + 0)) (fnw (32 + 6 * jno + 2)) ip17375), (nrc, iA G 30 gtrc7376)]) hP hD (fun hP hD => ?_)
          obtain ⟨hr7372, w7377⟩ := hr7372
          refine lv_istore (lv' := [(7, .int r7372), (6, .int 0), (5, .int 1), (4, .int 3), (0, .ref h0), (1, .int (nI jt)), (2, .int 3), (3, .int x3)]) hx hb gX12_deal_11.2.2.2.1 hl (by decide) rfl (fun ls hl => ?_)
          refine lv_aload_n hx hb gX12_deal_11.2.2.2.2.1 rfl (lv_at4 hl) ?_
          refine gf_X12_380 hC rfl hK hP 3 rfl rfl gX12_deal_11.2.2.2.2.2.1 ?_
          refine lv_if_eq (tgt := 222) hx hb gX12_deal_11.2.2.2.2.2.2.1 (by decide) (fun c_214_7378 => ?_) (fun c_214_7378 => ?_)
          · refine lv_iload hx hb gX12_deal_11.2.2.2.2.2.2.2.2.2 (lv_at0 hl) ?_
            refine toQ hQ0 ?_
            exact RI (v := r7372) hC hP hD hS [3, 0, 1, 2, 4] (jr17374, 3, nI jno, fnw (32 + 6 * jno + 0), fnw (32 + 6 * jno + 2), ip17375, gtrc7376) rfl rfl (by decide) (⟨trivial, by omega⟩) rfl gX12_deal_12
          · refine lv_bipush (v := (-15)) hx hb gX12_deal_11.2.2.2.2.2.2.2.1 (by decide) ?_
            refine lv_goto (tgt := 224) hx hb gX12_deal_11.2.2.2.2.2.2.2.2.1 (by decide) ?_
            refine toQ hQ0 ?_
            exact RI (v := (-15)) hC hP hD hS [3, 0, 1, 2, 4] (jr17374, 3, nI jno, fnw (32 + 6 * jno + 0), fnw (32 + 6 * jno + 2), ip17375, gtrc7376) rfl rfl (by decide) (⟨trivial, by omega⟩) rfl gX12_deal_12
      · refine lv_istore (lv' := [(4, .int 4), (0, .ref h0), (1, .int (nI jt)), (2, .int x2), (3, .int x3)]) hx hb gX12_deal_1.2.2.2.2.1 hl (by decide) rfl (fun ls hl => ?_)
        refine lv_iload hx hb gX12_deal_1.2.2.2.2.2.1 (lv_at0 hl) ?_
        refine lv_if_ge (tgt := 37) hx hb gX12_deal_1.2.2.2.2.2.2.1 (by decide) (fun _ => ?_) (fun c9 => absurd (by decide) c9)
        refine lv_aload_n hx hb gX12_deal_1.2.2.2.2.2.2.2.2.2 rfl (lv_at1 hl) ?_
        refine lv_iload hx hb gX12_deal_2.1 (lv_at0 hl) ?_
        refine pf_X12_354 hC rfl hK hP hD hS 0 (ws' := [(h0, oX12 nw nk mhasKept nt mtaped nr mrowMany mroundOf mroundFrom mouts nm mfromHour mtoHour ns mfrom mto msort misFault mdeep mcoded mlines nl nc nF np ntr nb mbestCost nso nsi nit nsh nsf nss nrc 0 4 mnumber mwhose msize misParted), (nw, iA G 1662 fnw), (nsh, iA G 4 fnsh), (nsf, iA G 4 fnsf), (nrc, iA G 30 fnrc)]) rfl (Nat.le_of_ble_eq_true rfl) rfl rfl rfl gX12_deal_2.2.1 (fun H locs hP hD hS => ?_)
        refine lv_aload_n hx hb gX12_deal_2.2.2.1 rfl (lv_at1 hl) ?_
        refine lv_aload_n hx hb gX12_deal_2.2.2.2.1 rfl (lv_at1 hl) ?_
        refine gf_X12_75 hC rfl hK hP 0 rfl rfl gX12_deal_2.2.2.2.2.1 ?_
        refine lv_iload_n hx hb gX12_deal_2.2.2.2.2.2.1 rfl (lv_at2 hl) ?_
        refine aldN hC hK hP 3 rfl (k := jt) (by omega) (Nat.le_of_ble_eq_true rfl) (v := fnsf jt) rfl gX12_deal_2.2.2.2.2.2.2.1 ?_
        refine lv_topi (fun x7379 ex7379 => ?_)
        obtain ⟨hko9, jno, hjno, ejno⟩ := a7273
        refine eqi (x1 := nI jno) (ex7379.trans ejno) ?_
        refine pf_X12_378 hC rfl hK hP hD hS 0 (ws' := [(h0, oX12 nw nk mhasKept nt mtaped nr mrowMany mroundOf mroundFrom mouts nm mfromHour mtoHour ns mfrom mto msort misFault mdeep mcoded mlines nl nc nF np ntr nb mbestCost nso nsi nit nsh nsf nss nrc 0 4 (nI jno) mwhose msize misParted), (nw, iA G 1662 fnw), (nsh, iA G 4 fnsh), (nsf, iA G 4 fnsf), (nrc, iA G 30 fnrc)]) rfl (Nat.le_of_ble_eq_true rfl) rfl rfl rfl gX12_deal_2.2.2.2.2.2.2.2.1 (fun H locs hP hD hS => ?_)
        refine lv_aload_n hx hb gX12_deal_2.2.2.2.2.2.2.2.2.1 rfl (lv_at1 hl) ?_
        refine gf_X12_72 hC rfl hK hP 0 rfl rfl gX12_deal_2.2.2.2.2.2.2.2.2.2 ?_
        refine lv_iload_n hx hb gX12_deal_3.1 rfl (lv_at2 hl) ?_
        refine aldN hC hK hP 2 rfl (k := jt) (by omega) (Nat.le_of_ble_eq_true rfl) (v := fnsh jt) rfl gX12_deal_3.2.1 ?_
        refine lv_topi (fun x7380 ex7380 => ?_)
        refine lv_iconst (v := 1) hx hb gX12_deal_3.2.2.1 (by decide) ?_
        refine lv_icmp_ne (tgt := 67) hx hb gX12_deal_3.2.2.2.1 (by decide) (fun _ => ?_) (fun c9 => absurd c9 (fun h9 => absurd (hko9.symm.trans ((ex7380.symm).trans h9)) (by decide)))
        refine lv_iconst (v := 0) hx hb gX12_deal_3.2.2.2.2.2.2.1 (by decide) ?_
        refine lv_istore (lv' := [(5, .int 0), (4, .int 4), (0, .ref h0), (1, .int (nI jt)), (2, .int x2), (3, .int x3)]) hx hb gX12_deal_3.2.2.2.2.2.2.2.1 hl (by decide) rfl (fun ls hl => ?_)
        refine lv_aload_n hx hb gX12_deal_3.2.2.2.2.2.2.2.2.1 rfl (lv_at2 hl) ?_
        refine gf_X12_72 hC rfl hK hP 0 rfl rfl gX12_deal_3.2.2.2.2.2.2.2.2.2 ?_
        refine lv_iload_n hx hb gX12_deal_4.1 rfl (lv_at3 hl) ?_
        refine aldN hC hK hP 2 rfl (k := jt) (by omega) (Nat.le_of_ble_eq_true rfl) (v := fnsh jt) rfl gX12_deal_4.2.1 ?_
        refine lv_topi (fun x7381 ex7381 => ?_)
        refine lv_iconst (v := 2) hx hb gX12_deal_4.2.2.1 (by decide) ?_
        refine lv_icmp_ne (tgt := 84) hx hb gX12_deal_4.2.2.2.1 (by decide) (fun c9 => absurd (ex7381.trans hko9) c9) (fun _ => ?_)
        refine lv_iconst (v := 1) hx hb gX12_deal_4.2.2.2.2.1 (by decide) ?_
        refine lv_goto (tgt := 85) hx hb gX12_deal_4.2.2.2.2.2.1 (by decide) ?_
        refine lv_istore (lv' := [(6, .int 1), (5, .int 0), (4, .int 4), (0, .ref h0), (1, .int (nI jt)), (2, .int x2), (3, .int x3)]) hx hb gX12_deal_4.2.2.2.2.2.2.2.1 hl (by decide) rfl (fun ls hl => ?_)
        refine lv_aload_n hx hb gX12_deal_4.2.2.2.2.2.2.2.2.1 rfl (lv_at3 hl) ?_
        refine lv_iload hx hb gX12_deal_4.2.2.2.2.2.2.2.2.2 (lv_at1 hl) ?_
        refine lv_if_eq (tgt := 105) hx hb gX12_deal_5.1 (by decide) (fun _ => ?_) (fun c9 => absurd (by decide) c9)
        refine lv_iload hx hb gX12_deal_5.2.2.2.2.2.2.2.1 (lv_at0 hl) ?_
        refine lv_if_eq (tgt := 122) hx hb gX12_deal_5.2.2.2.2.2.2.2.2.1 (by decide) (fun c9 => absurd c9 (by decide)) (fun _ => ?_)
        refine lv_aload_n hx hb gX12_deal_5.2.2.2.2.2.2.2.2.2 rfl (lv_at3 hl) ?_
        refine lv_aload_n hx hb gX12_deal_6.1 rfl (lv_at3 hl) ?_
        refine gf_X12_378 hC rfl hK hP 0 rfl rfl gX12_deal_6.2.1 ?_
        refine lv_iconst (v := 0) hx hb gX12_deal_6.2.2.1 (by decide) ?_
        refine pV hC hK hl hP hD (m_saying l G h0 jno 0 nw nk mhasKept nt mtaped nr mrowMany mroundOf mroundFrom mouts nm mfromHour mtoHour ns mfrom mto msort misFault mdeep mcoded mlines nl nc nF np ntr nb mbestCost nso nsi nit nsh nsf nss nrc 0 4 (nI jno) mwhose msize misParted fnw (by omega) (by omega)) si_X12_114 [0, 1] sm_0_1 fm_0_1 nd_0_1 rfl rfl rfl rfl rfl (Nat.le_of_ble_eq_true rfl) rm_60_1_3 ⟨by first | exact Nat.le_of_ble_eq_true rfl | exact Nat.zero_le _, by first | exact Nat.le_of_ble_eq_true rfl | exact Nat.zero_le _⟩ gX12_deal_6.2.2.2.1 (Keqr ?_)
        refine lv_goto (tgt := 139) hx hb gX12_deal_6.2.2.2.2.1 (by decide) ?_
        refine pf_X12_375 hC rfl hK hP hD hS 0 (ws' := [(h0, oX12 nw nk mhasKept nt mtaped nr mrowMany mroundOf mroundFrom mouts nm mfromHour mtoHour ns mfrom mto msort misFault mdeep mcoded mlines nl nc nF np ntr nb mbestCost nso nsi nit nsh nsf nss nrc 0 4 (nI jno) (fnw (1424 + 8 * jno + 0)) msize misParted), (nw, iA G 1662 fnw), (nsh, iA G 4 fnsh), (nsf, iA G 4 fnsf), (nrc, iA G 30 fnrc)]) rfl (Nat.le_of_ble_eq_true rfl) rfl rfl rfl gX12_deal_7.2.2.2.2.2.2.1 (fun H locs hP hD hS => ?_)
        refine lv_aload_n hx hb gX12_deal_7.2.2.2.2.2.2.2.1 rfl (lv_at3 hl) ?_
        refine lv_iload hx hb gX12_deal_7.2.2.2.2.2.2.2.2.1 (lv_at1 hl) ?_
        refine lv_if_eq (tgt := 160) hx hb gX12_deal_7.2.2.2.2.2.2.2.2.2 (by decide) (fun _ => ?_) (fun c9 => absurd (by decide) c9)
        refine lv_iload hx hb gX12_deal_8.2.2.2.2.2.2.1 (lv_at0 hl) ?_
        refine lv_if_eq (tgt := 177) hx hb gX12_deal_8.2.2.2.2.2.2.2.1 (by decide) (fun c9 => absurd c9 (by decide)) (fun _ => ?_)
        refine lv_aload_n hx hb gX12_deal_8.2.2.2.2.2.2.2.2.1 rfl (lv_at3 hl) ?_
        refine lv_aload_n hx hb gX12_deal_8.2.2.2.2.2.2.2.2.2 rfl (lv_at3 hl) ?_
        refine gf_X12_378 hC rfl hK hP 0 rfl rfl gX12_deal_9.1 ?_
        refine lv_iconst (v := 4) hx hb gX12_deal_9.2.1 (by decide) ?_
        refine pV hC hK hl hP hD (m_saying l G h0 jno 4 nw nk mhasKept nt mtaped nr mrowMany mroundOf mroundFrom mouts nm mfromHour mtoHour ns mfrom mto msort misFault mdeep mcoded mlines nl nc nF np ntr nb mbestCost nso nsi nit nsh nsf nss nrc 0 4 (nI jno) (fnw (1424 + 8 * jno + 0)) msize misParted fnw (by omega) (by omega)) si_X12_114 [0, 1] sm_0_1 fm_0_1 nd_0_1 rfl rfl rfl rfl rfl (Nat.le_of_ble_eq_true rfl) rm_60_1_3 ⟨by first | exact Nat.le_of_ble_eq_true rfl | exact Nat.zero_le _, by first | exact Nat.le_of_ble_eq_true rfl | exact Nat.zero_le _⟩ gX12_deal_9.2.2.1 (Keqr ?_)
        refine lv_goto (tgt := 194) hx hb gX12_deal_9.2.2.2.1 (by decide) ?_
        refine pf_X12_369 hC rfl hK hP hD hS 0 (ws' := [(h0, oX12 nw nk mhasKept nt mtaped nr mrowMany mroundOf mroundFrom mouts nm mfromHour mtoHour ns mfrom mto msort misFault mdeep mcoded mlines nl nc nF np ntr nb mbestCost nso nsi nit nsh nsf nss nrc 0 4 (nI jno) (fnw (1424 + 8 * jno + 0)) (fnw (1424 + 8 * jno + 4)) misParted), (nw, iA G 1662 fnw), (nsh, iA G 4 fnsh), (nsf, iA G 4 fnsf), (nrc, iA G 30 fnrc)]) rfl (Nat.le_of_ble_eq_true rfl) rfl rfl rfl gX12_deal_10.2.2.2.2.2.1 (fun H locs hP hD hS => ?_)
        refine lv_aload_n hx hb gX12_deal_10.2.2.2.2.2.2.1 rfl (lv_at3 hl) ?_
        refine lv_iconst (v := 0) hx hb gX12_deal_10.2.2.2.2.2.2.2.1 (by decide) ?_
        refine pf_X12_380 hC rfl hK hP hD hS 0 (ws' := [(h0, oX12 nw nk mhasKept nt mtaped nr mrowMany mroundOf mroundFrom mouts nm mfromHour mtoHour ns mfrom mto msort misFault mdeep mcoded mlines nl nc nF np ntr nb mbestCost nso nsi nit nsh nsf nss nrc 0 4 (nI jno) (fnw (1424 + 8 * jno + 0)) (fnw (1424 + 8 * jno + 4)) 0), (nw, iA G 1662 fnw), (nsh, iA G 4 fnsh), (nsf, iA G 4 fnsf), (nrc, iA G 30 fnrc)]) rfl (Nat.le_of_ble_eq_true rfl) rfl (by decide +kernel) (by decide +kernel) gX12_deal_10.2.2.2.2.2.2.2.2.1 (fun H locs hP hD hS => ?_)
        obtain ⟨jdl, hjdl, rfl⟩ := Wi_nat (N := 3) (by decide) a7271
        rcases (show jdl = 0 ∨ jdl = 1 ∨ jdl = 2 ∨ jdl = 3 by omega) with rfl | rfl | rfl | rfl
        · refine lv_aload_n hx hb gX12_deal_10.2.2.2.2.2.2.2.2.2 rfl (lv_at3 hl) ?_
          refine lv_iload_n hx hb gX12_deal_11.1 rfl (lv_at5 hl) ?_
          refine lv_iload_n hx hb gX12_deal_11.2.1 rfl (lv_at6 hl) ?_
          refine iV (wr := [(nw, iA G 1662 fnw), (nsh, iA G 4 fnsh), (nsf, iA G 4 fnsf)]) hC hK hl hP hD hS hA (m_dealt0 l G h0 x3 nw nk mhasKept nt mtaped nr mrowMany mroundOf mroundFrom mouts nm mfromHour mtoHour ns mfrom mto msort misFault mdeep mcoded mlines nl nc nF np ntr nb mbestCost nso nsi nit nsh nsf nss nrc 0 4 (nI jno) (fnw (1424 + 8 * jno + 0)) (fnw (1424 + 8 * jno + 4)) 0 fnrc (by omega) (by omega)) si_X12_372 [0, 4] [1, 2, 3] sm_0_4 fm_0_4 nd_0_4 sm_1_2_3 nd_1_2_3 dj_0_4__1_2_3 rfl rfl rfl rfl rfl (Nat.le_of_ble_eq_true rfl) rm_60_14_3 ⟨Nat.le_of_ble_eq_true rfl, Nat.le_of_ble_eq_true rfl⟩ gX12_deal_11.2.2.1 (fun r7386 => Ktu3 fun jr17388 ip17389 gtrc7390 => ?_)
          intro H locs hr7386 hP hD hS
          try dsimp only at hr7386
          refine Kpdr (ws := [(nw, iA G 1662 fnw), (nsh, iA G 4 fnsh), (nsf, iA G 4 fnsf), (h0, oX12 nw nk mhasKept nt mtaped nr mrowMany mroundOf mroundFrom mouts nm mfromHour mtoHour ns mfrom mto msort misFault mdeep mcoded mlines nl nc nF np ntr nb mbestCost nso nsi nit nsh nsf nss nrc (nI jr17388) 4 (nI jno) (fnw (1424 + 8 * jno + 0)) (fnw (1424 + 8 * jno + 4)) ip17389), (nrc, iA G 30 gtrc7390)]) hP hD (fun hP hD => ?_)
          obtain ⟨hr7386, w7391⟩ := hr7386
          refine lv_istore (lv' := [(7, .int r7386), (6, .int 1), (5, .int 0), (4, .int 4), (0, .ref h0), (1, .int (nI jt)), (2, .int 0), (3, .int x3)]) hx hb gX12_deal_11.2.2.2.1 hl (by decide) rfl (fun ls hl => ?_)
          refine lv_aload_n hx hb gX12_deal_11.2.2.2.2.1 rfl (lv_at4 hl) ?_
          refine gf_X12_380 hC rfl hK hP 3 rfl rfl gX12_deal_11.2.2.2.2.2.1 ?_
          refine lv_if_eq (tgt := 222) hx hb gX12_deal_11.2.2.2.2.2.2.1 (by decide) (fun c_214_7392 => ?_) (fun c_214_7392 => ?_)
          · refine lv_iload hx hb gX12_deal_11.2.2.2.2.2.2.2.2.2 (lv_at0 hl) ?_
            refine toQ hQ0 ?_
            exact RI (v := r7386) hC hP hD hS [3, 0, 1, 2, 4] (jr17388, 4, nI jno, fnw (1424 + 8 * jno + 0), fnw (1424 + 8 * jno + 4), ip17389, gtrc7390) rfl rfl (by decide) (⟨trivial, by omega⟩) rfl gX12_deal_12
          · refine lv_bipush (v := (-15)) hx hb gX12_deal_11.2.2.2.2.2.2.2.1 (by decide) ?_
            refine lv_goto (tgt := 224) hx hb gX12_deal_11.2.2.2.2.2.2.2.2.1 (by decide) ?_
            refine toQ hQ0 ?_
            exact RI (v := (-15)) hC hP hD hS [3, 0, 1, 2, 4] (jr17388, 4, nI jno, fnw (1424 + 8 * jno + 0), fnw (1424 + 8 * jno + 4), ip17389, gtrc7390) rfl rfl (by decide) (⟨trivial, by omega⟩) rfl gX12_deal_12
        · refine lv_aload_n hx hb gX12_deal_10.2.2.2.2.2.2.2.2.2 rfl (lv_at3 hl) ?_
          refine lv_iload_n hx hb gX12_deal_11.1 rfl (lv_at5 hl) ?_
          refine lv_iload_n hx hb gX12_deal_11.2.1 rfl (lv_at6 hl) ?_
          refine iV (wr := [(nw, iA G 1662 fnw), (nsh, iA G 4 fnsh), (nsf, iA G 4 fnsf)]) hC hK hl hP hD hS hA (m_dealt1 l G h0 x3 nw nk mhasKept nt mtaped nr mrowMany mroundOf mroundFrom mouts nm mfromHour mtoHour ns mfrom mto msort misFault mdeep mcoded mlines nl nc nF np ntr nb mbestCost nso nsi nit nsh nsf nss nrc 0 4 (nI jno) (fnw (1424 + 8 * jno + 0)) (fnw (1424 + 8 * jno + 4)) 0 fnrc (by omega) (by omega)) si_X12_372 [0, 4] [1, 2, 3] sm_0_4 fm_0_4 nd_0_4 sm_1_2_3 nd_1_2_3 dj_0_4__1_2_3 rfl rfl rfl rfl rfl (Nat.le_of_ble_eq_true rfl) rm_60_26_3 ⟨Nat.le_of_ble_eq_true rfl, Nat.le_of_ble_eq_true rfl⟩ gX12_deal_11.2.2.1 (fun r7393 => Ktu3 fun jr17395 ip17396 gtrc7397 => ?_)
          intro H locs hr7393 hP hD hS
          try dsimp only at hr7393
          refine Kpdr (ws := [(nw, iA G 1662 fnw), (nsh, iA G 4 fnsh), (nsf, iA G 4 fnsf), (h0, oX12 nw nk mhasKept nt mtaped nr mrowMany mroundOf mroundFrom mouts nm mfromHour mtoHour ns mfrom mto msort misFault mdeep mcoded mlines nl nc nF np ntr nb mbestCost nso nsi nit nsh nsf nss nrc (nI jr17395) 4 (nI jno) (fnw (1424 + 8 * jno + 0)) (fnw (1424 + 8 * jno + 4)) ip17396), (nrc, iA G 30 gtrc7397)]) hP hD (fun hP hD => ?_)
          obtain ⟨hr7393, w7398⟩ := hr7393
          refine lv_istore (lv' := [(7, .int r7393), (6, .int 1), (5, .int 0), (4, .int 4), (0, .ref h0), (1, .int (nI jt)), (2, .int 1), (3, .int x3)]) hx hb gX12_deal_11.2.2.2.1 hl (by decide) rfl (fun ls hl => ?_)
          refine lv_aload_n hx hb gX12_deal_11.2.2.2.2.1 rfl (lv_at4 hl) ?_
          refine gf_X12_380 hC rfl hK hP 3 rfl rfl gX12_deal_11.2.2.2.2.2.1 ?_
          refine lv_if_eq (tgt := 222) hx hb gX12_deal_11.2.2.2.2.2.2.1 (by decide) (fun c_214_7399 => ?_) (fun c_214_7399 => ?_)
          · refine lv_iload hx hb gX12_deal_11.2.2.2.2.2.2.2.2.2 (lv_at0 hl) ?_
            refine toQ hQ0 ?_
            exact RI (v := r7393) hC hP hD hS [3, 0, 1, 2, 4] (jr17395, 4, nI jno, fnw (1424 + 8 * jno + 0), fnw (1424 + 8 * jno + 4), ip17396, gtrc7397) rfl rfl (by decide) (⟨trivial, by omega⟩) rfl gX12_deal_12
          · refine lv_bipush (v := (-15)) hx hb gX12_deal_11.2.2.2.2.2.2.2.1 (by decide) ?_
            refine lv_goto (tgt := 224) hx hb gX12_deal_11.2.2.2.2.2.2.2.2.1 (by decide) ?_
            refine toQ hQ0 ?_
            exact RI (v := (-15)) hC hP hD hS [3, 0, 1, 2, 4] (jr17395, 4, nI jno, fnw (1424 + 8 * jno + 0), fnw (1424 + 8 * jno + 4), ip17396, gtrc7397) rfl rfl (by decide) (⟨trivial, by omega⟩) rfl gX12_deal_12
        · refine lv_aload_n hx hb gX12_deal_10.2.2.2.2.2.2.2.2.2 rfl (lv_at3 hl) ?_
          refine lv_iload_n hx hb gX12_deal_11.1 rfl (lv_at5 hl) ?_
          refine lv_iload_n hx hb gX12_deal_11.2.1 rfl (lv_at6 hl) ?_
          refine iV (wr := [(nw, iA G 1662 fnw), (nsh, iA G 4 fnsh), (nsf, iA G 4 fnsf)]) hC hK hl hP hD hS hA (m_dealt2 l G h0 x3 nw nk mhasKept nt mtaped nr mrowMany mroundOf mroundFrom mouts nm mfromHour mtoHour ns mfrom mto msort misFault mdeep mcoded mlines nl nc nF np ntr nb mbestCost nso nsi nit nsh nsf nss nrc 0 4 (nI jno) (fnw (1424 + 8 * jno + 0)) (fnw (1424 + 8 * jno + 4)) 0 fnrc (by omega) (by omega)) si_X12_372 [0, 4] [1, 2, 3] sm_0_4 fm_0_4 nd_0_4 sm_1_2_3 nd_1_2_3 dj_0_4__1_2_3 rfl rfl rfl rfl rfl (Nat.le_of_ble_eq_true rfl) rm_60_38_3 ⟨Nat.le_of_ble_eq_true rfl, Nat.le_of_ble_eq_true rfl⟩ gX12_deal_11.2.2.1 (fun r7400 => Ktu3 fun jr17402 ip17403 gtrc7404 => ?_)
          intro H locs hr7400 hP hD hS
          try dsimp only at hr7400
          refine Kpdr (ws := [(nw, iA G 1662 fnw), (nsh, iA G 4 fnsh), (nsf, iA G 4 fnsf), (h0, oX12 nw nk mhasKept nt mtaped nr mrowMany mroundOf mroundFrom mouts nm mfromHour mtoHour ns mfrom mto msort misFault mdeep mcoded mlines nl nc nF np ntr nb mbestCost nso nsi nit nsh nsf nss nrc (nI jr17402) 4 (nI jno) (fnw (1424 + 8 * jno + 0)) (fnw (1424 + 8 * jno + 4)) ip17403), (nrc, iA G 30 gtrc7404)]) hP hD (fun hP hD => ?_)
          obtain ⟨hr7400, w7405⟩ := hr7400
          refine lv_istore (lv' := [(7, .int r7400), (6, .int 1), (5, .int 0), (4, .int 4), (0, .ref h0), (1, .int (nI jt)), (2, .int 2), (3, .int x3)]) hx hb gX12_deal_11.2.2.2.1 hl (by decide) rfl (fun ls hl => ?_)
          refine lv_aload_n hx hb gX12_deal_11.2.2.2.2.1 rfl (lv_at4 hl) ?_
          refine gf_X12_380 hC rfl hK hP 3 rfl rfl gX12_deal_11.2.2.2.2.2.1 ?_
          refine lv_if_eq (tgt := 222) hx hb gX12_deal_11.2.2.2.2.2.2.1 (by decide) (fun c_214_7406 => ?_) (fun c_214_7406 => ?_)
          · refine lv_iload hx hb gX12_deal_11.2.2.2.2.2.2.2.2.2 (lv_at0 hl) ?_
            refine toQ hQ0 ?_
            exact RI (v := r7400) hC hP hD hS [3, 0, 1, 2, 4] (jr17402, 4, nI jno, fnw (1424 + 8 * jno + 0), fnw (1424 + 8 * jno + 4), ip17403, gtrc7404) rfl rfl (by decide) (⟨trivial, by omega⟩) rfl gX12_deal_12
          · refine lv_bipush (v := (-15)) hx hb gX12_deal_11.2.2.2.2.2.2.2.1 (by decide) ?_
            refine lv_goto (tgt := 224) hx hb gX12_deal_11.2.2.2.2.2.2.2.2.1 (by decide) ?_
            refine toQ hQ0 ?_
            exact RI (v := (-15)) hC hP hD hS [3, 0, 1, 2, 4] (jr17402, 4, nI jno, fnw (1424 + 8 * jno + 0), fnw (1424 + 8 * jno + 4), ip17403, gtrc7404) rfl rfl (by decide) (⟨trivial, by omega⟩) rfl gX12_deal_12
        · refine lv_aload_n hx hb gX12_deal_10.2.2.2.2.2.2.2.2.2 rfl (lv_at3 hl) ?_
          refine lv_iload_n hx hb gX12_deal_11.1 rfl (lv_at5 hl) ?_
          refine lv_iload_n hx hb gX12_deal_11.2.1 rfl (lv_at6 hl) ?_
          refine iV (wr := [(nw, iA G 1662 fnw), (nsh, iA G 4 fnsh), (nsf, iA G 4 fnsf)]) hC hK hl hP hD hS hA (m_dealt3 l G h0 x3 nw nk mhasKept nt mtaped nr mrowMany mroundOf mroundFrom mouts nm mfromHour mtoHour ns mfrom mto msort misFault mdeep mcoded mlines nl nc nF np ntr nb mbestCost nso nsi nit nsh nsf nss nrc 0 4 (nI jno) (fnw (1424 + 8 * jno + 0)) (fnw (1424 + 8 * jno + 4)) 0 fnrc (by omega) (by omega)) si_X12_372 [0, 4] [1, 2, 3] sm_0_4 fm_0_4 nd_0_4 sm_1_2_3 nd_1_2_3 dj_0_4__1_2_3 rfl rfl rfl rfl rfl (Nat.le_of_ble_eq_true rfl) rm_60_50_3 ⟨Nat.le_of_ble_eq_true rfl, Nat.le_of_ble_eq_true rfl⟩ gX12_deal_11.2.2.1 (fun r7407 => Ktu3 fun jr17409 ip17410 gtrc7411 => ?_)
          intro H locs hr7407 hP hD hS
          try dsimp only at hr7407
          refine Kpdr (ws := [(nw, iA G 1662 fnw), (nsh, iA G 4 fnsh), (nsf, iA G 4 fnsf), (h0, oX12 nw nk mhasKept nt mtaped nr mrowMany mroundOf mroundFrom mouts nm mfromHour mtoHour ns mfrom mto msort misFault mdeep mcoded mlines nl nc nF np ntr nb mbestCost nso nsi nit nsh nsf nss nrc (nI jr17409) 4 (nI jno) (fnw (1424 + 8 * jno + 0)) (fnw (1424 + 8 * jno + 4)) ip17410), (nrc, iA G 30 gtrc7411)]) hP hD (fun hP hD => ?_)
          obtain ⟨hr7407, w7412⟩ := hr7407
          refine lv_istore (lv' := [(7, .int r7407), (6, .int 1), (5, .int 0), (4, .int 4), (0, .ref h0), (1, .int (nI jt)), (2, .int 3), (3, .int x3)]) hx hb gX12_deal_11.2.2.2.1 hl (by decide) rfl (fun ls hl => ?_)
          refine lv_aload_n hx hb gX12_deal_11.2.2.2.2.1 rfl (lv_at4 hl) ?_
          refine gf_X12_380 hC rfl hK hP 3 rfl rfl gX12_deal_11.2.2.2.2.2.1 ?_
          refine lv_if_eq (tgt := 222) hx hb gX12_deal_11.2.2.2.2.2.2.1 (by decide) (fun c_214_7413 => ?_) (fun c_214_7413 => ?_)
          · refine lv_iload hx hb gX12_deal_11.2.2.2.2.2.2.2.2.2 (lv_at0 hl) ?_
            refine toQ hQ0 ?_
            exact RI (v := r7407) hC hP hD hS [3, 0, 1, 2, 4] (jr17409, 4, nI jno, fnw (1424 + 8 * jno + 0), fnw (1424 + 8 * jno + 4), ip17410, gtrc7411) rfl rfl (by decide) (⟨trivial, by omega⟩) rfl gX12_deal_12
          · refine lv_bipush (v := (-15)) hx hb gX12_deal_11.2.2.2.2.2.2.2.1 (by decide) ?_
            refine lv_goto (tgt := 224) hx hb gX12_deal_11.2.2.2.2.2.2.2.2.1 (by decide) ?_
            refine toQ hQ0 ?_
            exact RI (v := (-15)) hC hP hD hS [3, 0, 1, 2, 4] (jr17409, 4, nI jno, fnw (1424 + 8 * jno + 0), fnw (1424 + 8 * jno + 4), ip17410, gtrc7411) rfl rfl (by decide) (⟨trivial, by omega⟩) rfl gX12_deal_12
      · refine lv_istore (lv' := [(4, .int 5), (0, .ref h0), (1, .int (nI jt)), (2, .int x2), (3, .int x3)]) hx hb gX12_deal_1.2.2.2.2.1 hl (by decide) rfl (fun ls hl => ?_)
        refine lv_iload hx hb gX12_deal_1.2.2.2.2.2.1 (lv_at0 hl) ?_
        refine lv_if_ge (tgt := 37) hx hb gX12_deal_1.2.2.2.2.2.2.1 (by decide) (fun _ => ?_) (fun c9 => absurd (by decide) c9)
        refine lv_aload_n hx hb gX12_deal_1.2.2.2.2.2.2.2.2.2 rfl (lv_at1 hl) ?_
        refine lv_iload hx hb gX12_deal_2.1 (lv_at0 hl) ?_
        refine pf_X12_354 hC rfl hK hP hD hS 0 (ws' := [(h0, oX12 nw nk mhasKept nt mtaped nr mrowMany mroundOf mroundFrom mouts nm mfromHour mtoHour ns mfrom mto msort misFault mdeep mcoded mlines nl nc nF np ntr nb mbestCost nso nsi nit nsh nsf nss nrc 0 5 mnumber mwhose msize misParted), (nw, iA G 1662 fnw), (nsh, iA G 4 fnsh), (nsf, iA G 4 fnsf), (nrc, iA G 30 fnrc)]) rfl (Nat.le_of_ble_eq_true rfl) rfl rfl rfl gX12_deal_2.2.1 (fun H locs hP hD hS => ?_)
        refine lv_aload_n hx hb gX12_deal_2.2.2.1 rfl (lv_at1 hl) ?_
        refine lv_aload_n hx hb gX12_deal_2.2.2.2.1 rfl (lv_at1 hl) ?_
        refine gf_X12_75 hC rfl hK hP 0 rfl rfl gX12_deal_2.2.2.2.2.1 ?_
        refine lv_iload_n hx hb gX12_deal_2.2.2.2.2.2.1 rfl (lv_at2 hl) ?_
        refine aldN hC hK hP 3 rfl (k := jt) (by omega) (Nat.le_of_ble_eq_true rfl) (v := fnsf jt) rfl gX12_deal_2.2.2.2.2.2.2.1 ?_
        refine lv_topi (fun x7414 ex7414 => ?_)
        obtain ⟨hko9, jno, hjno, ejno⟩ := a7273
        refine eqi (x1 := nI jno) (ex7414.trans ejno) ?_
        refine pf_X12_378 hC rfl hK hP hD hS 0 (ws' := [(h0, oX12 nw nk mhasKept nt mtaped nr mrowMany mroundOf mroundFrom mouts nm mfromHour mtoHour ns mfrom mto msort misFault mdeep mcoded mlines nl nc nF np ntr nb mbestCost nso nsi nit nsh nsf nss nrc 0 5 (nI jno) mwhose msize misParted), (nw, iA G 1662 fnw), (nsh, iA G 4 fnsh), (nsf, iA G 4 fnsf), (nrc, iA G 30 fnrc)]) rfl (Nat.le_of_ble_eq_true rfl) rfl rfl rfl gX12_deal_2.2.2.2.2.2.2.2.1 (fun H locs hP hD hS => ?_)
        refine lv_aload_n hx hb gX12_deal_2.2.2.2.2.2.2.2.2.1 rfl (lv_at1 hl) ?_
        refine gf_X12_72 hC rfl hK hP 0 rfl rfl gX12_deal_2.2.2.2.2.2.2.2.2.2 ?_
        refine lv_iload_n hx hb gX12_deal_3.1 rfl (lv_at2 hl) ?_
        refine aldN hC hK hP 2 rfl (k := jt) (by omega) (Nat.le_of_ble_eq_true rfl) (v := fnsh jt) rfl gX12_deal_3.2.1 ?_
        refine lv_topi (fun x7415 ex7415 => ?_)
        refine lv_iconst (v := 1) hx hb gX12_deal_3.2.2.1 (by decide) ?_
        refine lv_icmp_ne (tgt := 67) hx hb gX12_deal_3.2.2.2.1 (by decide) (fun _ => ?_) (fun c9 => absurd c9 (fun h9 => absurd (hko9.symm.trans ((ex7415.symm).trans h9)) (by decide)))
        refine lv_iconst (v := 0) hx hb gX12_deal_3.2.2.2.2.2.2.1 (by decide) ?_
        refine lv_istore (lv' := [(5, .int 0), (4, .int 5), (0, .ref h0), (1, .int (nI jt)), (2, .int x2), (3, .int x3)]) hx hb gX12_deal_3.2.2.2.2.2.2.2.1 hl (by decide) rfl (fun ls hl => ?_)
        refine lv_aload_n hx hb gX12_deal_3.2.2.2.2.2.2.2.2.1 rfl (lv_at2 hl) ?_
        refine gf_X12_72 hC rfl hK hP 0 rfl rfl gX12_deal_3.2.2.2.2.2.2.2.2.2 ?_
        refine lv_iload_n hx hb gX12_deal_4.1 rfl (lv_at3 hl) ?_
        refine aldN hC hK hP 2 rfl (k := jt) (by omega) (Nat.le_of_ble_eq_true rfl) (v := fnsh jt) rfl gX12_deal_4.2.1 ?_
        refine lv_topi (fun x7416 ex7416 => ?_)
        refine lv_iconst (v := 2) hx hb gX12_deal_4.2.2.1 (by decide) ?_
        refine lv_icmp_ne (tgt := 84) hx hb gX12_deal_4.2.2.2.1 (by decide) (fun c9 => absurd (ex7416.trans hko9) c9) (fun _ => ?_)
        refine lv_iconst (v := 1) hx hb gX12_deal_4.2.2.2.2.1 (by decide) ?_
        refine lv_goto (tgt := 85) hx hb gX12_deal_4.2.2.2.2.2.1 (by decide) ?_
        refine lv_istore (lv' := [(6, .int 1), (5, .int 0), (4, .int 5), (0, .ref h0), (1, .int (nI jt)), (2, .int x2), (3, .int x3)]) hx hb gX12_deal_4.2.2.2.2.2.2.2.1 hl (by decide) rfl (fun ls hl => ?_)
        refine lv_aload_n hx hb gX12_deal_4.2.2.2.2.2.2.2.2.1 rfl (lv_at3 hl) ?_
        refine lv_iload hx hb gX12_deal_4.2.2.2.2.2.2.2.2.2 (lv_at1 hl) ?_
        refine lv_if_eq (tgt := 105) hx hb gX12_deal_5.1 (by decide) (fun _ => ?_) (fun c9 => absurd (by decide) c9)
        refine lv_iload hx hb gX12_deal_5.2.2.2.2.2.2.2.1 (lv_at0 hl) ?_
        refine lv_if_eq (tgt := 122) hx hb gX12_deal_5.2.2.2.2.2.2.2.2.1 (by decide) (fun c9 => absurd c9 (by decide)) (fun _ => ?_)
        refine lv_aload_n hx hb gX12_deal_5.2.2.2.2.2.2.2.2.2 rfl (lv_at3 hl) ?_
        refine lv_aload_n hx hb gX12_deal_6.1 rfl (lv_at3 hl) ?_
        refine gf_X12_378 hC rfl hK hP 0 rfl rfl gX12_deal_6.2.1 ?_
        refine lv_iconst (v := 0) hx hb gX12_deal_6.2.2.1 (by decide) ?_
        refine pV hC hK hl hP hD (m_saying l G h0 jno 0 nw nk mhasKept nt mtaped nr mrowMany mroundOf mroundFrom mouts nm mfromHour mtoHour ns mfrom mto msort misFault mdeep mcoded mlines nl nc nF np ntr nb mbestCost nso nsi nit nsh nsf nss nrc 0 5 (nI jno) mwhose msize misParted fnw (by omega) (by omega)) si_X12_114 [0, 1] sm_0_1 fm_0_1 nd_0_1 rfl rfl rfl rfl rfl (Nat.le_of_ble_eq_true rfl) rm_60_1_3 ⟨by first | exact Nat.le_of_ble_eq_true rfl | exact Nat.zero_le _, by first | exact Nat.le_of_ble_eq_true rfl | exact Nat.zero_le _⟩ gX12_deal_6.2.2.2.1 (Keqr ?_)
        refine lv_goto (tgt := 139) hx hb gX12_deal_6.2.2.2.2.1 (by decide) ?_
        refine pf_X12_375 hC rfl hK hP hD hS 0 (ws' := [(h0, oX12 nw nk mhasKept nt mtaped nr mrowMany mroundOf mroundFrom mouts nm mfromHour mtoHour ns mfrom mto msort misFault mdeep mcoded mlines nl nc nF np ntr nb mbestCost nso nsi nit nsh nsf nss nrc 0 5 (nI jno) (fnw (1424 + 8 * jno + 0)) msize misParted), (nw, iA G 1662 fnw), (nsh, iA G 4 fnsh), (nsf, iA G 4 fnsf), (nrc, iA G 30 fnrc)]) rfl (Nat.le_of_ble_eq_true rfl) rfl rfl rfl gX12_deal_7.2.2.2.2.2.2.1 (fun H locs hP hD hS => ?_)
        refine lv_aload_n hx hb gX12_deal_7.2.2.2.2.2.2.2.1 rfl (lv_at3 hl) ?_
        refine lv_iload hx hb gX12_deal_7.2.2.2.2.2.2.2.2.1 (lv_at1 hl) ?_
        refine lv_if_eq (tgt := 160) hx hb gX12_deal_7.2.2.2.2.2.2.2.2.2 (by decide) (fun _ => ?_) (fun c9 => absurd (by decide) c9)
        refine lv_iload hx hb gX12_deal_8.2.2.2.2.2.2.1 (lv_at0 hl) ?_
        refine lv_if_eq (tgt := 177) hx hb gX12_deal_8.2.2.2.2.2.2.2.1 (by decide) (fun c9 => absurd c9 (by decide)) (fun _ => ?_)
        refine lv_aload_n hx hb gX12_deal_8.2.2.2.2.2.2.2.2.1 rfl (lv_at3 hl) ?_
        refine lv_aload_n hx hb gX12_deal_8.2.2.2.2.2.2.2.2.2 rfl (lv_at3 hl) ?_
        refine gf_X12_378 hC rfl hK hP 0 rfl rfl gX12_deal_9.1 ?_
        refine lv_iconst (v := 4) hx hb gX12_deal_9.2.1 (by decide) ?_
        refine pV hC hK hl hP hD (m_saying l G h0 jno 4 nw nk mhasKept nt mtaped nr mrowMany mroundOf mroundFrom mouts nm mfromHour mtoHour ns mfrom mto msort misFault mdeep mcoded mlines nl nc nF np ntr nb mbestCost nso nsi nit nsh nsf nss nrc 0 5 (nI jno) (fnw (1424 + 8 * jno + 0)) msize misParted fnw (by omega) (by omega)) si_X12_114 [0, 1] sm_0_1 fm_0_1 nd_0_1 rfl rfl rfl rfl rfl (Nat.le_of_ble_eq_true rfl) rm_60_1_3 ⟨by first | exact Nat.le_of_ble_eq_true rfl | exact Nat.zero_le _, by first | exact Nat.le_of_ble_eq_true rfl | exact Nat.zero_le _⟩ gX12_deal_9.2.2.1 (Keqr ?_)
        refine lv_goto (tgt := 194) hx hb gX12_deal_9.2.2.2.1 (by decide) ?_
        refine pf_X12_369 hC rfl hK hP hD hS 0 (ws' := [(h0, oX12 nw nk mhasKept nt mtaped nr mrowMany mroundOf mroundFrom mouts nm mfromHour mtoHour ns mfrom mto msort misFault mdeep mcoded mlines nl nc nF np ntr nb mbestCost nso nsi nit nsh nsf nss nrc 0 5 (nI jno) (fnw (1424 + 8 * jno + 0)) (fnw (1424 + 8 * jno + 4)) misParted), (nw, iA G 1662 fnw), (nsh, iA G 4 fnsh), (nsf, iA G 4 fnsf), (nrc, iA G 30 fnrc)]) rfl (Nat.le_of_ble_eq_true rfl) rfl rfl rfl gX12_deal_10.2.2.2.2.2.1 (fun H locs hP hD hS => ?_)
        refine lv_aload_n hx hb gX12_deal_10.2.2.2.2.2.2.1 rfl (lv_at3 hl) ?_
        refine lv_iconst (v := 0) hx hb gX12_deal_10.2.2.2.2.2.2.2.1 (by decide) ?_
        refine pf_X12_380 hC rfl hK hP hD hS 0 (ws' := [(h0, oX12 nw nk mhasKept nt mtaped nr mrowMany mroundOf mroundFrom mouts nm mfromHour mtoHour ns mfrom mto msort misFault mdeep mcoded mlines nl nc nF np ntr nb mbestCost nso nsi nit nsh nsf nss nrc 0 5 (nI jno) (fnw (1424 + 8 * jno + 0)) (fnw (1424 + 8 * jno + 4)) 0), (nw, iA G 1662 fnw), (nsh, iA G 4 fnsh), (nsf, iA G 4 fnsf), (nrc, iA G 30 fnrc)]) rfl (Nat.le_of_ble_eq_true rfl) rfl (by decide +kernel) (by decide +kernel) gX12_deal_10.2.2.2.2.2.2.2.2.1 (fun H locs hP hD hS => ?_)
        obtain ⟨jdl, hjdl, rfl⟩ := Wi_nat (N := 3) (by decide) a7271
        rcases (show jdl = 0 ∨ jdl = 1 ∨ jdl = 2 ∨ jdl = 3 by omega) with rfl | rfl | rfl | rfl
        · refine lv_aload_n hx hb gX12_deal_10.2.2.2.2.2.2.2.2.2 rfl (lv_at3 hl) ?_
          refine lv_iload_n hx hb gX12_deal_11.1 rfl (lv_at5 hl) ?_
          refine lv_iload_n hx hb gX12_deal_11.2.1 rfl (lv_at6 hl) ?_
          refine iV (wr := [(nw, iA G 1662 fnw), (nsh, iA G 4 fnsh), (nsf, iA G 4 fnsf)]) hC hK hl hP hD hS hA (m_dealt0 l G h0 x3 nw nk mhasKept nt mtaped nr mrowMany mroundOf mroundFrom mouts nm mfromHour mtoHour ns mfrom mto msort misFault mdeep mcoded mlines nl nc nF np ntr nb mbestCost nso nsi nit nsh nsf nss nrc 0 5 (nI jno) (fnw (1424 + 8 * jno + 0)) (fnw (1424 + 8 * jno + 4)) 0 fnrc (by omega) (by omega)) si_X12_372 [0, 4] [1, 2, 3] sm_0_4 fm_0_4 nd_0_4 sm_1_2_3 nd_1_2_3 dj_0_4__1_2_3 rfl rfl rfl rfl rfl (Nat.le_of_ble_eq_true rfl) rm_60_14_3 ⟨Nat.le_of_ble_eq_true rfl, Nat.le_of_ble_eq_true rfl⟩ gX12_deal_11.2.2.1 (fun r7421 => Ktu3 fun jr17423 ip17424 gtrc7425 => ?_)
          intro H locs hr7421 hP hD hS
          try dsimp only at hr7421
          refine Kpdr (ws := [(nw, iA G 1662 fnw), (nsh, iA G 4 fnsh), (nsf, iA G 4 fnsf), (h0, oX12 nw nk mhasKept nt mtaped nr mrowMany mroundOf mroundFrom mouts nm mfromHour mtoHour ns mfrom mto msort misFault mdeep mcoded mlines nl nc nF np ntr nb mbestCost nso nsi nit nsh nsf nss nrc (nI jr17423) 5 (nI jno) (fnw (1424 + 8 * jno + 0)) (fnw (1424 + 8 * jno + 4)) ip17424), (nrc, iA G 30 gtrc7425)]) hP hD (fun hP hD => ?_)
          obtain ⟨hr7421, w7426⟩ := hr7421
          refine lv_istore (lv' := [(7, .int r7421), (6, .int 1), (5, .int 0), (4, .int 5), (0, .ref h0), (1, .int (nI jt)), (2, .int 0), (3, .int x3)]) hx hb gX12_deal_11.2.2.2.1 hl (by decide) rfl (fun ls hl => ?_)
          refine lv_aload_n hx hb gX12_deal_11.2.2.2.2.1 rfl (lv_at4 hl) ?_
          refine gf_X12_380 hC rfl hK hP 3 rfl rfl gX12_deal_11.2.2.2.2.2.1 ?_
          refine lv_if_eq (tgt := 222) hx hb gX12_deal_11.2.2.2.2.2.2.1 (by decide) (fun c_214_7427 => ?_) (fun c_214_7427 => ?_)
          · refine lv_iload hx hb gX12_deal_11.2.2.2.2.2.2.2.2.2 (lv_at0 hl) ?_
            refine toQ hQ0 ?_
            exact RI (v := r7421) hC hP hD hS [3, 0, 1, 2, 4] (jr17423, 5, nI jno, fnw (1424 + 8 * jno + 0), fnw (1424 + 8 * jno + 4), ip17424, gtrc7425) rfl rfl (by decide) (⟨trivial, by omega⟩) rfl gX12_deal_12
          · refine lv_bipush (v := (-15)) hx hb gX12_deal_11.2.2.2.2.2.2.2.1 (by decide) ?_
            refine lv_goto (tgt := 224) hx hb gX12_deal_11.2.2.2.2.2.2.2.2.1 (by decide) ?_
            refine toQ hQ0 ?_
            exact RI (v := (-15)) hC hP hD hS [3, 0, 1, 2, 4] (jr17423, 5, nI jno, fnw (1424 + 8 * jno + 0), fnw (1424 + 8 * jno + 4), ip17424, gtrc7425) rfl rfl (by decide) (⟨trivial, by omega⟩) rfl gX12_deal_12
        · refine lv_aload_n hx hb gX12_deal_10.2.2.2.2.2.2.2.2.2 rfl (lv_at3 hl) ?_
          refine lv_iload_n hx hb gX12_deal_11.1 rfl (lv_at5 hl) ?_
          refine lv_iload_n hx hb gX12_deal_11.2.1 rfl (lv_at6 hl) ?_
          refine iV (wr := [(nw, iA G 1662 fnw), (nsh, iA G 4 fnsh), (nsf, iA G 4 fnsf)]) hC hK hl hP hD hS hA (m_dealt1 l G h0 x3 nw nk mhasKept nt mtaped nr mrowMany mroundOf mroundFrom mouts nm mfromHour mtoHour ns mfrom mto msort misFault mdeep mcoded mlines nl nc nF np ntr nb mbestCost nso nsi nit nsh nsf nss nrc 0 5 (nI jno) (fnw (1424 + 8 * jno + 0)) (fnw (1424 + 8 * jno + 4)) 0 fnrc (by omega) (by omega)) si_X12_372 [0, 4] [1, 2, 3] sm_0_4 fm_0_4 nd_0_4 sm_1_2_3 nd_1_2_3 dj_0_4__1_2_3 rfl rfl rfl rfl rfl (Nat.le_of_ble_eq_true rfl) rm_60_26_3 ⟨Nat.le_of_ble_eq_true rfl, Nat.le_of_ble_eq_true rfl⟩ gX12_deal_11.2.2.1 (fun r7428 => Ktu3 fun jr17430 ip17431 gtrc7432 => ?_)
          intro H locs hr7428 hP hD hS
          try dsimp only at hr7428
          refine Kpdr (ws := [(nw, iA G 1662 fnw), (nsh, iA G 4 fnsh), (nsf, iA G 4 fnsf), (h0, oX12 nw nk mhasKept nt mtaped nr mrowMany mroundOf mroundFrom mouts nm mfromHour mtoHour ns mfrom mto msort misFault mdeep mcoded mlines nl nc nF np ntr nb mbestCost nso nsi nit nsh nsf nss nrc (nI jr17430) 5 (nI jno) (fnw (1424 + 8 * jno + 0)) (fnw (1424 + 8 * jno + 4)) ip17431), (nrc, iA G 30 gtrc7432)]) hP hD (fun hP hD => ?_)
          obtain ⟨hr7428, w7433⟩ := hr7428
          refine lv_istore (lv' := [(7, .int r7428), (6, .int 1), (5, .int 0), (4, .int 5), (0, .ref h0), (1, .int (nI jt)), (2, .int 1), (3, .int x3)]) hx hb gX12_deal_11.2.2.2.1 hl (by decide) rfl (fun ls hl => ?_)
          refine lv_aload_n hx hb gX12_deal_11.2.2.2.2.1 rfl (lv_at4 hl) ?_
          refine gf_X12_380 hC rfl hK hP 3 rfl rfl gX12_deal_11.2.2.2.2.2.1 ?_
          refine lv_if_eq (tgt := 222) hx hb gX12_deal_11.2.2.2.2.2.2.1 (by decide) (fun c_214_7434 => ?_) (fun c_214_7434 => ?_)
          · refine lv_iload hx hb gX12_deal_11.2.2.2.2.2.2.2.2.2 (lv_at0 hl) ?_
            refine toQ hQ0 ?_
            exact RI (v := r7428) hC hP hD hS [3, 0, 1, 2, 4] (jr17430, 5, nI jno, fnw (1424 + 8 * jno + 0), fnw (1424 + 8 * jno + 4), ip17431, gtrc7432) rfl rfl (by decide) (⟨trivial, by omega⟩) rfl gX12_deal_12
          · refine lv_bipush (v := (-15)) hx hb gX12_deal_11.2.2.2.2.2.2.2.1 (by decide) ?_
            refine lv_goto (tgt := 224) hx hb gX12_deal_11.2.2.2.2.2.2.2.2.1 (by decide) ?_
            refine toQ hQ0 ?_
            exact RI (v := (-15)) hC hP hD hS [3, 0, 1, 2, 4] (jr17430, 5, nI jno, fnw (1424 + 8 * jno + 0), fnw (1424 + 8 * jno + 4), ip17431, gtrc7432) rfl rfl (by decide) (⟨trivial, by omega⟩) rfl gX12_deal_12
        · refine lv_aload_n hx hb gX12_deal_10.2.2.2.2.2.2.2.2.2 rfl (lv_at3 hl) ?_
          refine lv_iload_n hx hb gX12_deal_11.1 rfl (lv_at5 hl) ?_
          refine lv_iload_n hx hb gX12_deal_11.2.1 rfl (lv_at6 hl) ?_
          refine iV (wr := [(nw, iA G 1662 fnw), (nsh, iA G 4 fnsh), (nsf, iA G 4 fnsf)]) hC hK hl hP hD hS hA (m_dealt2 l G h0 x3 nw nk mhasKept nt mtaped nr mrowMany mroundOf mroundFrom mouts nm mfromHour mtoHour ns mfrom mto msort misFault mdeep mcoded mlines nl nc nF np ntr nb mbestCost nso nsi nit nsh nsf nss nrc 0 5 (nI jno) (fnw (1424 + 8 * jno + 0)) (fnw (1424 + 8 * jno + 4)) 0 fnrc (by omega) (by omega)) si_X12_372 [0, 4] [1, 2, 3] sm_0_4 fm_0_4 nd_0_4 sm_1_2_3 nd_1_2_3 dj_0_4__1_2_3 rfl rfl rfl rfl rfl (Nat.le_of_ble_eq_true rfl) rm_60_38_3 ⟨Nat.le_of_ble_eq_true rfl, Nat.le_of_ble_eq_true rfl⟩ gX12_deal_11.2.2.1 (fun r7435 => Ktu3 fun jr17437 ip17438 gtrc7439 => ?_)
          intro H locs hr7435 hP hD hS
          try dsimp only at hr7435
          refine Kpdr (ws := [(nw, iA G 1662 fnw), (nsh, iA G 4 fnsh), (nsf, iA G 4 fnsf), (h0, oX12 nw nk mhasKept nt mtaped nr mrowMany mroundOf mroundFrom mouts nm mfromHour mtoHour ns mfrom mto msort misFault mdeep mcoded mlines nl nc nF np ntr nb mbestCost nso nsi nit nsh nsf nss nrc (nI jr17437) 5 (nI jno) (fnw (1424 + 8 * jno + 0)) (fnw (1424 + 8 * jno + 4)) ip17438), (nrc, iA G 30 gtrc7439)]) hP hD (fun hP hD => ?_)
          obtain ⟨hr7435, w7440⟩ := hr7435
          refine lv_istore (lv' := [(7, .int r7435), (6, .int 1), (5, .int 0), (4, .int 5), (0, .ref h0), (1, .int (nI jt)), (2, .int 2), (3, .int x3)]) hx hb gX12_deal_11.2.2.2.1 hl (by decide) rfl (fun ls hl => ?_)
          refine lv_aload_n hx hb gX12_deal_11.2.2.2.2.1 rfl (lv_at4 hl) ?_
          refine gf_X12_380 hC rfl hK hP 3 rfl rfl gX12_deal_11.2.2.2.2.2.1 ?_
          refine lv_if_eq (tgt := 222) hx hb gX12_deal_11.2.2.2.2.2.2.1 (by decide) (fun c_214_7441 => ?_) (fun c_214_7441 => ?_)
          · refine lv_iload hx hb gX12_deal_11.2.2.2.2.2.2.2.2.2 (lv_at0 hl) ?_
            refine toQ hQ0 ?_
            exact RI (v := r7435) hC hP hD hS [3, 0, 1, 2, 4] (jr17437, 5, nI jno, fnw (1424 + 8 * jno + 0), fnw (1424 + 8 * jno + 4), ip17438, gtrc7439) rfl rfl (by decide) (⟨trivial, by omega⟩) rfl gX12_deal_12
          · refine lv_bipush (v := (-15)) hx hb gX12_deal_11.2.2.2.2.2.2.2.1 (by decide) ?_
            refine lv_goto (tgt := 224) hx hb gX12_deal_11.2.2.2.2.2.2.2.2.1 (by decide) ?_
            refine toQ hQ0 ?_
            exact RI (v := (-15)) hC hP hD hS [3, 0, 1, 2, 4] (jr17437, 5, nI jno, fnw (1424 + 8 * jno + 0), fnw (1424 + 8 * jno + 4), ip17438, gtrc7439) rfl rfl (by decide) (⟨trivial, by omega⟩) rfl gX12_deal_12
        · refine lv_aload_n hx hb gX12_deal_10.2.2.2.2.2.2.2.2.2 rfl (lv_at3 hl) ?_
          refine lv_iload_n hx hb gX12_deal_11.1 rfl (lv_at5 hl) ?_
          refine lv_iload_n hx hb gX12_deal_11.2.1 rfl (lv_at6 hl) ?_
          refine iV (wr := [(nw, iA G 1662 fnw), (nsh, iA G 4 fnsh), (nsf, iA G 4 fnsf)]) hC hK hl hP hD hS hA (m_dealt3 l G h0 x3 nw nk mhasKept nt mtaped nr mrowMany mroundOf mroundFrom mouts nm mfromHour mtoHour ns mfrom mto msort misFault mdeep mcoded mlines nl nc nF np ntr nb mbestCost nso nsi nit nsh nsf nss nrc 0 5 (nI jno) (fnw (1424 + 8 * jno + 0)) (fnw (1424 + 8 * jno + 4)) 0 fnrc (by omega) (by omega)) si_X12_372 [0, 4] [1, 2, 3] sm_0_4 fm_0_4 nd_0_4 sm_1_2_3 nd_1_2_3 dj_0_4__1_2_3 rfl rfl rfl rfl rfl (Nat.le_of_ble_eq_true rfl) rm_60_50_3 ⟨Nat.le_of_ble_eq_true rfl, Nat.le_of_ble_eq_true rfl⟩ gX12_deal_11.2.2.1 (fun r7442 => Ktu3 fun jr17444 ip17445 gtrc7446 => ?_)
          intro H locs hr7442 hP hD hS
          try dsimp only at hr7442
          refine Kpdr (ws := [(nw, iA G 1662 fnw), (nsh, iA G 4 fnsh), (nsf, iA G 4 fnsf), (h0, oX12 nw nk mhasKept nt mtaped nr mrowMany mroundOf mroundFrom mouts nm mfromHour mtoHour ns mfrom mto msort misFault mdeep mcoded mlines nl nc nF np ntr nb mbestCost nso nsi nit nsh nsf nss nrc (nI jr17444) 5 (nI jno) (fnw (1424 + 8 * jno + 0)) (fnw (1424 + 8 * jno + 4)) ip17445), (nrc, iA G 30 gtrc7446)]) hP hD (fun hP hD => ?_)
          obtain ⟨hr7442, w7447⟩ := hr7442
          refine lv_istore (lv' := [(7, .int r7442), (6, .int 1), (5, .int 0), (4, .int 5), (0, .ref h0), (1, .int (nI jt)), (2, .int 3), (3, .int x3)]) hx hb gX12_deal_11.2.2.2.1 hl (by decide) rfl (fun ls hl => ?_)
          refine lv_aload_n hx hb gX12_deal_11.2.2.2.2.1 rfl (lv_at4 hl) ?_
          refine gf_X12_380 hC rfl hK hP 3 rfl rfl gX12_deal_11.2.2.2.2.2.1 ?_
          refine lv_if_eq (tgt := 222) hx hb gX12_deal_11.2.2.2.2.2.2.1 (by decide) (fun c_214_7448 => ?_) (fun c_214_7448 => ?_)
          · refine lv_iload hx hb gX12_deal_11.2.2.2.2.2.2.2.2.2 (lv_at0 hl) ?_
            refine toQ hQ0 ?_
            exact RI (v := r7442) hC hP hD hS [3, 0, 1, 2, 4] (jr17444, 5, nI jno, fnw (1424 + 8 * jno + 0), fnw (1424 + 8 * jno + 4), ip17445, gtrc7446) rfl rfl (by decide) (⟨trivial, by omega⟩) rfl gX12_deal_12
          · refine lv_bipush (v := (-15)) hx hb gX12_deal_11.2.2.2.2.2.2.2.1 (by decide) ?_
            refine lv_goto (tgt := 224) hx hb gX12_deal_11.2.2.2.2.2.2.2.2.1 (by decide) ?_
            refine toQ hQ0 ?_
            exact RI (v := (-15)) hC hP hD hS [3, 0, 1, 2, 4] (jr17444, 5, nI jno, fnw (1424 + 8 * jno + 0), fnw (1424 + 8 * jno + 4), ip17445, gtrc7446) rfl rfl (by decide) (⟨trivial, by omega⟩) rfl gX12_deal_12
      · refine lv_istore (lv' := [(4, .int 6), (0, .ref h0), (1, .int (nI jt)), (2, .int x2), (3, .int x3)]) hx hb gX12_deal_1.2.2.2.2.1 hl (by decide) rfl (fun ls hl => ?_)
        refine lv_iload hx hb gX12_deal_1.2.2.2.2.2.1 (lv_at0 hl) ?_
        refine lv_if_ge (tgt := 37) hx hb gX12_deal_1.2.2.2.2.2.2.1 (by decide) (fun _ => ?_) (fun c9 => absurd (by decide) c9)
        refine lv_aload_n hx hb gX12_deal_1.2.2.2.2.2.2.2.2.2 rfl (lv_at1 hl) ?_
        refine lv_iload hx hb gX12_deal_2.1 (lv_at0 hl) ?_
        refine pf_X12_354 hC rfl hK hP hD hS 0 (ws' := [(h0, oX12 nw nk mhasKept nt mtaped nr mrowMany mroundOf mroundFrom mouts nm mfromHour mtoHour ns mfrom mto msort misFault mdeep mcoded mlines nl nc nF np ntr nb mbestCost nso nsi nit nsh nsf nss nrc 0 6 mnumber mwhose msize misParted), (nw, iA G 1662 fnw), (nsh, iA G 4 fnsh), (nsf, iA G 4 fnsf), (nrc, iA G 30 fnrc)]) rfl (Nat.le_of_ble_eq_true rfl) rfl rfl rfl gX12_deal_2.2.1 (fun H locs hP hD hS => ?_)
        refine lv_aload_n hx hb gX12_deal_2.2.2.1 rfl (lv_at1 hl) ?_
        refine lv_aload_n hx hb gX12_deal_2.2.2.2.1 rfl (lv_at1 hl) ?_
        refine gf_X12_75 hC rfl hK hP 0 rfl rfl gX12_deal_2.2.2.2.2.1 ?_
        refine lv_iload_n hx hb gX12_deal_2.2.2.2.2.2.1 rfl (lv_at2 hl) ?_
        refine aldN hC hK hP 3 rfl (k := jt) (by omega) (Nat.le_of_ble_eq_true rfl) (v := fnsf jt) rfl gX12_deal_2.2.2.2.2.2.2.1 ?_
        refine lv_topi (fun x7449 ex7449 => ?_)
        obtain ⟨hko9, jno, hjno, ejno⟩ := a7273
        refine eqi (x1 := nI jno) (ex7449.trans ejno) ?_
        refine pf_X12_378 hC rfl hK hP hD hS 0 (ws' := [(h0, oX12 nw nk mhasKept nt mtaped nr mrowMany mroundOf mroundFrom mouts nm mfromHour mtoHour ns mfrom mto msort misFault mdeep mcoded mlines nl nc nF np ntr nb mbestCost nso nsi nit nsh nsf nss nrc 0 6 (nI jno) mwhose msize misParted), (nw, iA G 1662 fnw), (nsh, iA G 4 fnsh), (nsf, iA G 4 fnsf), (nrc, iA G 30 fnrc)]) rfl (Nat.le_of_ble_eq_true rfl) rfl rfl rfl gX12_deal_2.2.2.2.2.2.2.2.1 (fun H locs hP hD hS => ?_)
        refine lv_aload_n hx hb gX12_deal_2.2.2.2.2.2.2.2.2.1 rfl (lv_at1 hl) ?_
        refine gf_X12_72 hC rfl hK hP 0 rfl rfl gX12_deal_2.2.2.2.2.2.2.2.2.2 ?_
        refine lv_iload_n hx hb gX12_deal_3.1 rfl (lv_at2 hl) ?_
        refine aldN hC hK hP 2 rfl (k := jt) (by omega) (Nat.le_of_ble_eq_true rfl) (v := fnsh jt) rfl gX12_deal_3.2.1 ?_
        refine lv_topi (fun x7450 ex7450 => ?_)
        refine lv_iconst (v := 1) hx hb gX12_deal_3.2.2.1 (by decide) ?_
        refine lv_icmp_ne (tgt := 67) hx hb gX12_deal_3.2.2.2.1 (by decide) (fun _ => ?_) (fun c9 => absurd c9 (fun h9 => absurd (hko9.symm.trans ((ex7450.symm).trans h9)) (by decide)))
        refine lv_iconst (v := 0) hx hb gX12_deal_3.2.2.2.2.2.2.1 (by decide) ?_
        refine lv_istore (lv' := [(5, .int 0), (4, .int 6), (0, .ref h0), (1, .int (nI jt)), (2, .int x2), (3, .int x3)]) hx hb gX12_deal_3.2.2.2.2.2.2.2.1 hl (by decide) rfl (fun ls hl => ?_)
        refine lv_aload_n hx hb gX12_deal_3.2.2.2.2.2.2.2.2.1 rfl (lv_at2 hl) ?_
        refine gf_X12_72 hC rfl hK hP 0 rfl rfl gX12_deal_3.2.2.2.2.2.2.2.2.2 ?_
        refine lv_iload_n hx hb gX12_deal_4.1 rfl (lv_at3 hl) ?_
        refine aldN hC hK hP 2 rfl (k := jt) (by omega) (Nat.le_of_ble_eq_true rfl) (v := fnsh jt) rfl gX12_deal_4.2.1 ?_
        refine lv_topi (fun x7451 ex7451 => ?_)
        refine lv_iconst (v := 2) hx hb gX12_deal_4.2.2.1 (by decide) ?_
        refine lv_icmp_ne (tgt := 84) hx hb gX12_deal_4.2.2.2.1 (by decide) (fun _ => ?_) (fun c9 => absurd c9 (fun h9 => absurd (hko9.symm.trans ((ex7451.symm).trans h9)) (by decide)))
        refine lv_iconst (v := 0) hx hb gX12_deal_4.2.2.2.2.2.2.1 (by decide) ?_
        refine lv_istore (lv' := [(6, .int 0), (5, .int 0), (4, .int 6), (0, .ref h0), (1, .int (nI jt)), (2, .int x2), (3, .int x3)]) hx hb gX12_deal_4.2.2.2.2.2.2.2.1 hl (by decide) rfl (fun ls hl => ?_)
        refine lv_aload_n hx hb gX12_deal_4.2.2.2.2.2.2.2.2.1 rfl (lv_at3 hl) ?_
        refine lv_iload hx hb gX12_deal_4.2.2.2.2.2.2.2.2.2 (lv_at1 hl) ?_
        refine lv_if_eq (tgt := 105) hx hb gX12_deal_5.1 (by decide) (fun _ => ?_) (fun c9 => absurd (by decide) c9)
        refine lv_iload hx hb gX12_deal_5.2.2.2.2.2.2.2.1 (lv_at0 hl) ?_
        refine lv_if_eq (tgt := 122) hx hb gX12_deal_5.2.2.2.2.2.2.2.2.1 (by decide) (fun _ => ?_) (fun c9 => absurd (by decide) c9)
        refine lv_aload_n hx hb gX12_deal_6.2.2.2.2.2.1 rfl (lv_at3 hl) ?_
        refine gf_X12_9 hC rfl hK hP 0 rfl rfl gX12_deal_6.2.2.2.2.2.2.1 ?_
        refine lv_sipush (v := 1552) hx hb gX12_deal_6.2.2.2.2.2.2.2.1 (by decide) ?_
        refine lv_iconst (v := 4) hx hb gX12_deal_6.2.2.2.2.2.2.2.2.1 (by decide) ?_
        refine lv_aload_n hx hb gX12_deal_6.2.2.2.2.2.2.2.2.2 rfl (lv_at3 hl) ?_
        refine gf_X12_378 hC rfl hK hP 0 rfl rfl gX12_deal_7.1 ?_
        refine lv_imul hx hb gX12_deal_7.2.1 ?_
        refine eqi (x1 := nI (4 * jno)) (nI_mul 4 jno) ?_
        refine lv_iadd hx hb gX12_deal_7.2.2.1 ?_
        refine eqi (x1 := nI (1552 + 4 * jno)) (nI_add 1552 (4 * jno)) ?_
        refine lv_iconst (v := 0) hx hb gX12_deal_7.2.2.2.1 (by decide) ?_
        refine lv_iadd hx hb gX12_deal_7.2.2.2.2.1 ?_
        refine eqi (x1 := nI (1552 + 4 * jno + 0)) (nI_add (1552 + 4 * jno) 0) ?_
        refine aldN hC hK hP 1 rfl (k := (1552 + 4 * jno + 0)) (by omega) (Nat.le_of_ble_eq_true rfl) (v := fnw (1552 + 4 * jno + 0)) rfl gX12_deal_7.2.2.2.2.2.1 ?_
        refine lv_topi (fun x7452 ex7452 => ?_)
        refine pf_X12_375 hC rfl hK hP hD hS 0 (ws' := [(h0, oX12 nw nk mhasKept nt mtaped nr mrowMany mroundOf mroundFrom mouts nm mfromHour mtoHour ns mfrom mto msort misFault mdeep mcoded mlines nl nc nF np ntr nb mbestCost nso nsi nit nsh nsf nss nrc 0 6 (nI jno) x7452 msize misParted), (nw, iA G 1662 fnw), (nsh, iA G 4 fnsh), (nsf, iA G 4 fnsf), (nrc, iA G 30 fnrc)]) rfl (Nat.le_of_ble_eq_true rfl) rfl rfl rfl gX12_deal_7.2.2.2.2.2.2.1 (fun H locs hP hD hS => ?_)
        refine lv_aload_n hx hb gX12_deal_7.2.2.2.2.2.2.2.1 rfl (lv_at3 hl) ?_
        refine lv_iload hx hb gX12_deal_7.2.2.2.2.2.2.2.2.1 (lv_at1 hl) ?_
        refine lv_if_eq (tgt := 160) hx hb gX12_deal_7.2.2.2.2.2.2.2.2.2 (by decide) (fun _ => ?_) (fun c9 => absurd (by decide) c9)
        refine lv_iload hx hb gX12_deal_8.2.2.2.2.2.2.1 (lv_at0 hl) ?_
        refine lv_if_eq (tgt := 177) hx hb gX12_deal_8.2.2.2.2.2.2.2.1 (by decide) (fun _ => ?_) (fun c9 => absurd (by decide) c9)
        refine lv_aload_n hx hb gX12_deal_9.2.2.2.2.1 rfl (lv_at3 hl) ?_
        refine gf_X12_9 hC rfl hK hP 0 rfl rfl gX12_deal_9.2.2.2.2.2.1 ?_
        refine lv_sipush (v := 1552) hx hb gX12_deal_9.2.2.2.2.2.2.1 (by decide) ?_
        refine lv_iconst (v := 4) hx hb gX12_deal_9.2.2.2.2.2.2.2.1 (by decide) ?_
        refine lv_aload_n hx hb gX12_deal_9.2.2.2.2.2.2.2.2.1 rfl (lv_at3 hl) ?_
        refine gf_X12_378 hC rfl hK hP 0 rfl rfl gX12_deal_9.2.2.2.2.2.2.2.2.2 ?_
        refine lv_imul hx hb gX12_deal_10.1 ?_
        refine eqi (x1 := nI (4 * jno)) (nI_mul 4 jno) ?_
        refine lv_iadd hx hb gX12_deal_10.2.1 ?_
        refine eqi (x1 := nI (1552 + 4 * jno)) (nI_add 1552 (4 * jno)) ?_
        refine lv_iconst (v := 2) hx hb gX12_deal_10.2.2.1 (by decide) ?_
        refine lv_iadd hx hb gX12_deal_10.2.2.2.1 ?_
        refine eqi (x1 := nI (1552 + 4 * jno + 2)) (nI_add (1552 + 4 * jno) 2) ?_
        refine aldN hC hK hP 1 rfl (k := (1552 + 4 * jno + 2)) (by omega) (Nat.le_of_ble_eq_true rfl) (v := fnw (1552 + 4 * jno + 2)) rfl gX12_deal_10.2.2.2.2.1 ?_
        refine lv_topi (fun x7453 ex7453 => ?_)
        refine pf_X12_369 hC rfl hK hP hD hS 0 (ws' := [(h0, oX12 nw nk mhasKept nt mtaped nr mrowMany mroundOf mroundFrom mouts nm mfromHour mtoHour ns mfrom mto msort misFault mdeep mcoded mlines nl nc nF np ntr nb mbestCost nso nsi nit nsh nsf nss nrc 0 6 (nI jno) x7452 x7453 misParted), (nw, iA G 1662 fnw), (nsh, iA G 4 fnsh), (nsf, iA G 4 fnsf), (nrc, iA G 30 fnrc)]) rfl (Nat.le_of_ble_eq_true rfl) rfl rfl rfl gX12_deal_10.2.2.2.2.2.1 (fun H locs hP hD hS => ?_)
        refine lv_aload_n hx hb gX12_deal_10.2.2.2.2.2.2.1 rfl (lv_at3 hl) ?_
        refine lv_iconst (v := 0) hx hb gX12_deal_10.2.2.2.2.2.2.2.1 (by decide) ?_
        refine pf_X12_380 hC rfl hK hP hD hS 0 (ws' := [(h0, oX12 nw nk mhasKept nt mtaped nr mrowMany mroundOf mroundFrom mouts nm mfromHour mtoHour ns mfrom mto msort misFault mdeep mcoded mlines nl nc nF np ntr nb mbestCost nso nsi nit nsh nsf nss nrc 0 6 (nI jno) x7452 x7453 0), (nw, iA G 1662 fnw), (nsh, iA G 4 fnsh), (nsf, iA G 4 fnsf), (nrc, iA G 30 fnrc)]) rfl (Nat.le_of_ble_eq_true rfl) rfl (by decide +kernel) (by decide +kernel) gX12_deal_10.2.2.2.2.2.2.2.2.1 (fun H locs hP hD hS => ?_)
        obtain ⟨jdl, hjdl, rfl⟩ := Wi_nat (N := 3) (by decide) a7271
        rcases (show jdl = 0 ∨ jdl = 1 ∨ jdl = 2 ∨ jdl = 3 by omega) with rfl | rfl | rfl | rfl
        · refine lv_aload_n hx hb gX12_deal_10.2.2.2.2.2.2.2.2.2 rfl (lv_at3 hl) ?_
          refine lv_iload_n hx hb gX12_deal_11.1 rfl (lv_at5 hl) ?_
          refine lv_iload_n hx hb gX12_deal_11.2.1 rfl (lv_at6 hl) ?_
          refine iV (wr := [(nw, iA G 1662 fnw), (nsh, iA G 4 fnsh), (nsf, iA G 4 fnsf)]) hC hK hl hP hD hS hA (m_dealt0 l G h0 x3 nw nk mhasKept nt mtaped nr mrowMany mroundOf mroundFrom mouts nm mfromHour mtoHour ns mfrom mto msort misFault mdeep mcoded mlines nl nc nF np ntr nb mbestCost nso nsi nit nsh nsf nss nrc 0 6 (nI jno) x7452 x7453 0 fnrc (by omega) (by omega)) si_X12_372 [0, 4] [1, 2, 3] sm_0_4 fm_0_4 nd_0_4 sm_1_2_3 nd_1_2_3 dj_0_4__1_2_3 rfl rfl rfl rfl rfl (Nat.le_of_ble_eq_true rfl) rm_60_14_3 ⟨Nat.le_of_ble_eq_true rfl, Nat.le_of_ble_eq_true rfl⟩ gX12_deal_11.2.2.1 (fun r7454 => Ktu3 fun jr17456 ip17457 gtrc7458 => ?_)
          intro H locs hr7454 hP hD hS
          try dsimp only at hr7454
          refine Kpdr (ws := [(nw, iA G 1662 fnw), (nsh, iA G 4 fnsh), (nsf, iA G 4 fnsf), (h0, oX12 nw nk mhasKept nt mtaped nr mrowMany mroundOf mroundFrom mouts nm mfromHour mtoHour ns mfrom mto msort misFault mdeep mcoded mlines nl nc nF np ntr nb mbestCost nso nsi nit nsh nsf nss nrc (nI jr17456) 6 (nI jno) x7452 x7453 ip17457), (nrc, iA G 30 gtrc7458)]) hP hD (fun hP hD => ?_)
          obtain ⟨hr7454, w7459⟩ := hr7454
          refine lv_istore (lv' := [(7, .int r7454), (6, .int 0), (5, .int 0), (4, .int 6), (0, .ref h0), (1, .int (nI jt)), (2, .int 0), (3, .int x3)]) hx hb gX12_deal_11.2.2.2.1 hl (by decide) rfl (fun ls hl => ?_)
          refine lv_aload_n hx hb gX12_deal_11.2.2.2.2.1 rfl (lv_at4 hl) ?_
          refine gf_X12_380 hC rfl hK hP 3 rfl rfl gX12_deal_11.2.2.2.2.2.1 ?_
          refine lv_if_eq (tgt := 222) hx hb gX12_deal_11.2.2.2.2.2.2.1 (by decide) (fun c_214_7460 => ?_) (fun c_214_7460 => ?_)
          · refine lv_iload hx hb gX12_deal_11.2.2.2.2.2.2.2.2.2 (lv_at0 hl) ?_
            refine toQ hQ0 ?_
            exact RI (v := r7454) hC hP hD hS [3, 0, 1, 2, 4] (jr17456, 6, nI jno, x7452, x7453, ip17457, gtrc7458) rfl rfl (by decide) (⟨trivial, by omega⟩) rfl gX12_deal_12
          · refine lv_bipush (v := (-15)) hx hb gX12_deal_11.2.2.2.2.2.2.2.1 (by decide) ?_
            refine lv_goto (tgt := 224) hx hb gX12_deal_11.2.2.2.2.2.2.2.2.1 (by decide) ?_
            refine toQ hQ0 ?_
            exact RI (v := (-15)) hC hP hD hS [3, 0, 1, 2, 4] (jr17456, 6, nI jno, x7452, x7453, ip17457, gtrc7458) rfl rfl (by decide) (⟨trivial, by omega⟩) rfl gX12_deal_12
        · refine lv_aload_n hx hb gX12_deal_10.2.2.2.2.2.2.2.2.2 rfl (lv_at3 hl) ?_
          refine lv_iload_n hx hb gX12_deal_11.1 rfl (lv_at5 hl) ?_
          refine lv_iload_n hx hb gX12_deal_11.2.1 rfl (lv_at6 hl) ?_
          refine iV (wr := [(nw, iA G 1662 fnw), (nsh, iA G 4 fnsh), (nsf, iA G 4 fnsf)]) hC hK hl hP hD hS hA (m_dealt1 l G h0 x3 nw nk mhasKept nt mtaped nr mrowMany mroundOf mroundFrom mouts nm mfromHour mtoHour ns mfrom mto msort misFault mdeep mcoded mlines nl nc nF np ntr nb mbestCost nso nsi nit nsh nsf nss nrc 0 6 (nI jno) x7452 x7453 0 fnrc (by omega) (by omega)) si_X12_372 [0, 4] [1, 2, 3] sm_0_4 fm_0_4 nd_0_4 sm_1_2_3 nd_1_2_3 dj_0_4__1_2_3 rfl rfl rfl rfl rfl (Nat.le_of_ble_eq_true rfl) rm_60_26_3 ⟨Nat.le_of_ble_eq_true rfl, Nat.le_of_ble_eq_true rfl⟩ gX12_deal_11.2.2.1 (fun r7461 => Ktu3 fun jr17463 ip17464 gtrc7465 => ?_)
          intro H locs hr7461 hP hD hS
          try dsimp only at hr7461
          refine Kpdr (ws := [(nw, iA G 1662 fnw), (nsh, iA G 4 fnsh), (nsf, iA G 4 fnsf), (h0, oX12 nw nk mhasKept nt mtaped nr mrowMany mroundOf mroundFrom mouts nm mfromHour mtoHour ns mfrom mto msort misFault mdeep mcoded mlines nl nc nF np ntr nb mbestCost nso nsi nit nsh nsf nss nrc (nI jr17463) 6 (nI jno) x7452 x7453 ip17464), (nrc, iA G 30 gtrc7465)]) hP hD (fun hP hD => ?_)
          obtain ⟨hr7461, w7466⟩ := hr7461
          refine lv_istore (lv' := [(7, .int r7461), (6, .int 0), (5, .int 0), (4, .int 6), (0, .ref h0), (1, .int (nI jt)), (2, .int 1), (3, .int x3)]) hx hb gX12_deal_11.2.2.2.1 hl (by decide) rfl (fun ls hl => ?_)
          refine lv_aload_n hx hb gX12_deal_11.2.2.2.2.1 rfl (lv_at4 hl) ?_
          refine gf_X12_380 hC rfl hK hP 3 rfl rfl gX12_deal_11.2.2.2.2.2.1 ?_
          refine lv_if_eq (tgt := 222) hx hb gX12_deal_11.2.2.2.2.2.2.1 (by decide) (fun c_214_7467 => ?_) (fun c_214_7467 => ?_)
          · refine lv_iload hx hb gX12_deal_11.2.2.2.2.2.2.2.2.2 (lv_at0 hl) ?_
            refine toQ hQ0 ?_
            exact RI (v := r7461) hC hP hD hS [3, 0, 1, 2, 4] (jr17463, 6, nI jno, x7452, x7453, ip17464, gtrc7465) rfl rfl (by decide) (⟨trivial, by omega⟩) rfl gX12_deal_12
          · refine lv_bipush (v := (-15)) hx hb gX12_deal_11.2.2.2.2.2.2.2.1 (by decide) ?_
            refine lv_goto (tgt := 224) hx hb gX12_deal_11.2.2.2.2.2.2.2.2.1 (by decide) ?_
            refine toQ hQ0 ?_
            exact RI (v := (-15)) hC hP hD hS [3, 0, 1, 2, 4] (jr17463, 6, nI jno, x7452, x7453, ip17464, gtrc7465) rfl rfl (by decide) (⟨trivial, by omega⟩) rfl gX12_deal_12
        · refine lv_aload_n hx hb gX12_deal_10.2.2.2.2.2.2.2.2.2 rfl (lv_at3 hl) ?_
          refine lv_iload_n hx hb gX12_deal_11.1 rfl (lv_at5 hl) ?_
          refine lv_iload_n hx hb gX12_deal_11.2.1 rfl (lv_at6 hl) ?_
          refine iV (wr := [(nw, iA G 1662 fnw), (nsh, iA G 4 fnsh), (nsf, iA G 4 fnsf)]) hC hK hl hP hD hS hA (m_dealt2 l G h0 x3 nw nk mhasKept nt mtaped nr mrowMany mroundOf mroundFrom mouts nm mfromHour mtoHour ns mfrom mto msort misFault mdeep mcoded mlines nl nc nF np ntr nb mbestCost nso nsi nit nsh nsf nss nrc 0 6 (nI jno) x7452 x7453 0 fnrc (by omega) (by omega)) si_X12_372 [0, 4] [1, 2, 3] sm_0_4 fm_0_4 nd_0_4 sm_1_2_3 nd_1_2_3 dj_0_4__1_2_3 rfl rfl rfl rfl rfl (Nat.le_of_ble_eq_true rfl) rm_60_38_3 ⟨Nat.le_of_ble_eq_true rfl, Nat.le_of_ble_eq_true rfl⟩ gX12_deal_11.2.2.1 (fun r7468 => Ktu3 fun jr17470 ip17471 gtrc7472 => ?_)
          intro H locs hr7468 hP hD hS
          try dsimp only at hr7468
          refine Kpdr (ws := [(nw, iA G 1662 fnw), (nsh, iA G 4 fnsh), (nsf, iA G 4 fnsf), (h0, oX12 nw nk mhasKept nt mtaped nr mrowMany mroundOf mroundFrom mouts nm mfromHour mtoHour ns mfrom mto msort misFault mdeep mcoded mlines nl nc nF np ntr nb mbestCost nso nsi nit nsh nsf nss nrc (nI jr17470) 6 (nI jno) x7452 x7453 ip17471), (nrc, iA G 30 gtrc7472)]) hP hD (fun hP hD => ?_)
          obtain ⟨hr7468, w7473⟩ := hr7468
          refine lv_istore (lv' := [(7, .int r7468), (6, .int 0), (5, .int 0), (4, .int 6), (0, .ref h0), (1, .int (nI jt)), (2, .int 2), (3, .int x3)]) hx hb gX12_deal_11.2.2.2.1 hl (by decide) rfl (fun ls hl => ?_)
          refine lv_aload_n hx hb gX12_deal_11.2.2.2.2.1 rfl (lv_at4 hl) ?_
          refine gf_X12_380 hC rfl hK hP 3 rfl rfl gX12_deal_11.2.2.2.2.2.1 ?_
          refine lv_if_eq (tgt := 222) hx hb gX12_deal_11.2.2.2.2.2.2.1 (by decide) (fun c_214_7474 => ?_) (fun c_214_7474 => ?_)
          · refine lv_iload hx hb gX12_deal_11.2.2.2.2.2.2.2.2.2 (lv_at0 hl) ?_
            refine toQ hQ0 ?_
            exact RI (v := r7468) hC hP hD hS [3, 0, 1, 2, 4] (jr17470, 6, nI jno, x7452, x7453, ip17471, gtrc7472) rfl rfl (by decide) (⟨trivial, by omega⟩) rfl gX12_deal_12
          · refine lv_bipush (v := (-15)) hx hb gX12_deal_11.2.2.2.2.2.2.2.1 (by decide) ?_
            refine lv_goto (tgt := 224) hx hb gX12_deal_11.2.2.2.2.2.2.2.2.1 (by decide) ?_
            refine toQ hQ0 ?_
            exact RI (v := (-15)) hC hP hD hS [3, 0, 1, 2, 4] (jr17470, 6, nI jno, x7452, x7453, ip17471, gtrc7472) rfl rfl (by decide) (⟨trivial, by omega⟩) rfl gX12_deal_12
        · refine lv_aload_n hx hb gX12_deal_10.2.2.2.2.2.2.2.2.2 rfl (lv_at3 hl) ?_
          refine lv_iload_n hx hb gX12_deal_11.1 rfl (lv_at5 hl) ?_
          refine lv_iload_n hx hb gX12_deal_11.2.1 rfl (lv_at6 hl) ?_
          refine iV (wr := [(nw, iA G 1662 fnw), (nsh, iA G 4 fnsh), (nsf, iA G 4 fnsf)]) hC hK hl hP hD hS hA (m_dealt3 l G h0 x3 nw nk mhasKept nt mtaped nr mrowMany mroundOf mroundFrom mouts nm mfromHour mtoHour ns mfrom mto msort misFault mdeep mcoded mlines nl nc nF np ntr nb mbestCost nso nsi nit nsh nsf nss nrc 0 6 (nI jno) x7452 x7453 0 fnrc (by omega) (by omega)) si_X12_372 [0, 4] [1, 2, 3] sm_0_4 fm_0_4 nd_0_4 sm_1_2_3 nd_1_2_3 dj_0_4__1_2_3 rfl rfl rfl rfl rfl (Nat.le_of_ble_eq_true rfl) rm_60_50_3 ⟨Nat.le_of_ble_eq_true rfl, Nat.le_of_ble_eq_true rfl⟩ gX12_deal_11.2.2.1 (fun r7475 => Ktu3 fun jr17477 ip17478 gtrc7479 => ?_)
          intro H locs hr7475 hP hD hS
          try dsimp only at hr7475
          refine Kpdr (ws := [(nw, iA G 1662 fnw), (nsh, iA G 4 fnsh), (nsf, iA G 4 fnsf), (h0, oX12 nw nk mhasKept nt mtaped nr mrowMany mroundOf mroundFrom mouts nm mfromHour mtoHour ns mfrom mto msort misFault mdeep mcoded mlines nl nc nF np ntr nb mbestCost nso nsi nit nsh nsf nss nrc (nI jr17477) 6 (nI jno) x7452 x7453 ip17478), (nrc, iA G 30 gtrc7479)]) hP hD (fun hP hD => ?_)
          obtain ⟨hr7475, w7480⟩ := hr7475
          refine lv_istore (lv' := [(7, .int r7475), (6, .int 0), (5, .int 0), (4, .int 6), (0, .ref h0), (1, .int (nI jt)), (2, .int 3), (3, .int x3)]) hx hb gX12_deal_11.2.2.2.1 hl (by decide) rfl (fun ls hl => ?_)
          refine lv_aload_n hx hb gX12_deal_11.2.2.2.2.1 rfl (lv_at4 hl) ?_
          refine gf_X12_380 hC rfl hK hP 3 rfl rfl gX12_deal_11.2.2.2.2.2.1 ?_
          refine lv_if_eq (tgt := 222) hx hb gX12_deal_11.2.2.2.2.2.2.1 (by decide) (fun c_214_7481 => ?_) (fun c_214_7481 => ?_)
          · refine lv_iload hx hb gX12_deal_11.2.2.2.2.2.2.2.2.2 (lv_at0 hl) ?_
            refine toQ hQ0 ?_
            exact RI (v := r7475) hC hP hD hS [3, 0, 1, 2, 4] (jr17477, 6, nI jno, x7452, x7453, ip17478, gtrc7479) rfl rfl (by decide) (⟨trivial, by omega⟩) rfl gX12_deal_12
          · refine lv_bipush (v := (-15)) hx hb gX12_deal_11.2.2.2.2.2.2.2.1 (by decide) ?_
            refine lv_goto (tgt := 224) hx hb gX12_deal_11.2.2.2.2.2.2.2.2.1 (by decide) ?_
            refine toQ hQ0 ?_
            exact RI (v := (-15)) hC hP hD hS [3, 0, 1, 2, 4] (jr17477, 6, nI jno, x7452, x7453, ip17478, gtrc7479) rfl rfl (by decide) (⟨trivial, by omega⟩) rfl gX12_deal_12
    · refine lv_if_ne (tgt := 23) hx hb gX12_deal_0.2.2.2.2.2.2.2.2.1 (by decide) (fun c9 => absurd (by decide) c9) (fun _ => ?_)
      refine lv_iconst (v := (-1)) hx hb gX12_deal_0.2.2.2.2.2.2.2.2.2 (by decide) ?_
      refine lv_goto (tgt := 28) hx hb gX12_deal_1.1 (by decide) ?_
      refine lv_istore (lv' := [(4, .int (-1)), (0, .ref h0), (1, .int x1), (2, .int x2), (3, .int x3)]) hx hb gX12_deal_1.2.2.2.2.1 hl (by decide) rfl (fun ls hl => ?_)
      refine lv_iload hx hb gX12_deal_1.2.2.2.2.2.1 (lv_at0 hl) ?_
      refine lv_if_ge (tgt := 37) hx hb gX12_deal_1.2.2.2.2.2.2.1 (by decide) (fun c9 => absurd c9 (by decide)) (fun _ => ?_)
      refine lv_iconst (v := 0) hx hb gX12_deal_1.2.2.2.2.2.2.2.1 (by decide) ?_
      refine toQ hQ0 ?_
      exact RI (v := 0) hC hP hD hS [0, 1, 2, 3, 4] (0, mdealer, mnumber, mwhose, msize, misParted, fnrc) rfl rfl (by decide) (⟨trivial, by omega⟩) rfl gX12_deal_1.2.2.2.2.2.2.2.2.1
  · refine lv_if_eq (tgt := 19) hx hb gX12_deal_0.2.2.2.2.2.1 (by decide) (fun _ => ?_) (fun c9 => absurd (by decide) c9)
    refine lv_iconst (v := (-1)) hx hb gX12_deal_0.2.2.2.2.2.2.2.2.2 (by decide) ?_
    refine lv_goto (tgt := 28) hx hb gX12_deal_1.1 (by decide) ?_
    refine lv_istore (lv' := [(4, .int (-1)), (0, .ref h0), (1, .int x1), (2, .int x2), (3, .int x3)]) hx hb gX12_deal_1.2.2.2.2.1 hl (by decide) rfl (fun ls hl => ?_)
    refine lv_iload hx hb gX12_deal_1.2.2.2.2.2.1 (lv_at0 hl) ?_
    refine lv_if_ge (tgt := 37) hx hb gX12_deal_1.2.2.2.2.2.2.1 (by decide) (fun c9 => absurd c9 (by decide)) (fun _ => ?_)
    refine lv_iconst (v := 0) hx hb gX12_deal_1.2.2.2.2.2.2.2.1 (by decide) ?_
    refine toQ hQ0 ?_
    exact RI (v := 0) hC hP hD hS [0, 1, 2, 3, 4] (0, mdealer, mnumber, mwhose, msize, misParted, fnrc) rfl rfl (by decide) (⟨trivial, by omega⟩) rfl gX12_deal_1.2.2.2.2.2.2.2.2.1
def K_r_trace (l : Launch) (G : GG) (h0 : Nat) (x1 : Int32) (nw : Nat) (nk : Nat) (mhasKept : Int32) (nt : Nat) (mtaped : Int32) (nr : Nat) (mrowMany : Int32) (mroundOf : Int32) (mroundFrom : Int32) (mouts : Int32) (nm : Nat) (mfromHour : Int32) (mtoHour : Int32) (ns : Nat) (mfrom : Int32) (mto : Int32) (msort : Int32) (misFault : Int32) (mdeep : Int32) (mcoded : Int32) (mlines : Int32) (nl : Nat) (nc : Nat) (nF : Nat) (np : Nat) (ntr : Nat) (nb : Nat) (mbestCost : Int32) (nso : Nat) (nsi : Nat) (nit : Nat) (nsh : Nat) (nsf : Nat) (nss : Nat) (nrc : Nat) (jr : Nat) (mdealer : Int32) (mnumber : Int32) (mwhose : Int32) (msize : Int32) (misParted : Int32) (fnrc : Nat → Int32) : Prop := MP l G yX12_trace cX12_trace 2 (some .int) 2 [.ref h0, .int x1] [(h0, oX12 nw nk mhasKept nt mtaped nr mrowMany mroundOf mroundFrom mouts nm mfromHour mtoHour ns mfrom mto msort misFault mdeep mcoded mlines nl nc nF np ntr nb mbestCost nso nsi nit nsh nsf nss nrc (nI jr) mdealer mnumber mwhose msize misParted), (nrc, iA G 30 fnrc)] (fun r : Int32 => r = ifc (Hs x1 jr) (fnrc x1.toNatClampNeg) (-3))
set_option maxHeartbeats 4000000 in
set_option maxRecDepth 100000 in
theorem r_trace (l : Launch) (G : GG) (h0 : Nat) (x1 : Int32) (nw : Nat) (nk : Nat) (mhasKept : Int32) (nt : Nat) (mtaped : Int32) (nr : Nat) (mrowMany : Int32) (mroundOf : Int32) (mroundFrom : Int32) (mouts : Int32) (nm : Nat) (mfromHour : Int32) (mtoHour : Int32) (ns : Nat) (mfrom : Int32) (mto : Int32) (msort : Int32) (misFault : Int32) (mdeep : Int32) (mcoded : Int32) (mlines : Int32) (nl : Nat) (nc : Nat) (nF : Nat) (np : Nat) (ntr : Nat) (nb : Nat) (mbestCost : Int32) (nso : Nat) (nsi : Nat) (nit : Nat) (nsh : Nat) (nsf : Nat) (nss : Nat) (nrc : Nat) (jr : Nat) (mdealer : Int32) (mnumber : Int32) (mwhose : Int32) (msize : Int32) (misParted : Int32) (fnrc : Nat → Int32) (hjr : jr ≤ 30) : K_r_trace l G h0 x1 nw nk mhasKept nt mtaped nr mrowMany mroundOf mroundFrom mouts nm mfromHour mtoHour ns mfrom mto msort misFault mdeep mcoded mlines nl nc nF np ntr nb mbestCost nso nsi nit nsh nsf nss nrc jr mdealer mnumber mwhose msize misParted fnrc := by
  refine MP.start (by decide +kernel) (Nat.le_of_ble_eq_true rfl) ?_
  intro p e s m below meth c ls hC hK hP hD hl
  refine absQ (fun Q0 hQ0 => ?_)
  have hl : lv_has ls 2 [(0, .ref h0), (1, .int x1)] := hl
  refine Kan8 hC (fun hx hb hr hml hB hown hlocks hnm => ?_)
  refine lv_iload_n hx hb gX12_trace_0.1 rfl (lv_at1 hl) ?_
  refine lv_iconst (v := 0) hx hb gX12_trace_0.2.1 (by decide) ?_
  refine lv_aload_n hx hb gX12_trace_0.2.2.1 rfl (lv_at0 hl) ?_
  refine gf_X12_351 hC rfl hK hP 0 rfl rfl gX12_trace_0.2.2.2.1 ?_
  refine lv_iconst (v := 1) hx hb gX12_trace_0.2.2.2.2.1 (by decide) ?_
  refine lv_isub hx hb gX12_trace_0.2.2.2.2.2.1 ?_
  refine eqi (x1 := (nI jr) - 1) (rfl) ?_
  refine pS hC hK hl (m_within l G x1 0 ((nI jr) - 1)) si_X12_84 rfl rfl (Nat.le_of_ble_eq_true rfl) rm_2_1_3 ⟨by first | exact Nat.le_of_ble_eq_true rfl | exact Nat.zero_le _, by first | exact Nat.le_of_ble_eq_true rfl | exact Nat.zero_le _⟩ gX12_trace_0.2.2.2.2.2.2.1 (Kors (Keqa fun a7483 => ?_) (Keqa fun a7483 => ?_))
  · refine lv_if_eq (tgt := 23) hx hb gX12_trace_0.2.2.2.2.2.2.2.1 (by decide) (fun c9 => absurd c9 (by decide)) (fun _ => ?_)
    obtain ⟨ji, hji, rfl⟩ := Hs_nat (by omega) ((WiHs (by omega)).mp a7483)
    refine lv_aload_n hx hb gX12_trace_0.2.2.2.2.2.2.2.2.1 rfl (lv_at0 hl) ?_
    refine gf_X12_81 hC rfl hK hP 0 rfl rfl gX12_trace_0.2.2.2.2.2.2.2.2.2 ?_
    refine lv_iload_n hx hb gX12_trace_1.1 rfl (lv_at1 hl) ?_
    refine aldN hC hK hP 1 rfl (k := ji) (by omega) (Nat.le_of_ble_eq_true rfl) (v := fnrc ji) rfl gX12_trace_1.2.1 ?_
    refine lv_goto (tgt := 25) hx hb gX12_trace_1.2.2.1 (by decide) ?_
    refine toQ hQ0 ?_
    exact RP (v := fnrc ji) hC ((by simp only [nI_clamp (n := ji) (by omega), ifc_t (q := Hs (nI ji) jr) ((WiHc (by omega)).mp a7483)])) rfl gX12_trace_1.2.2.2.2
  · refine lv_if_eq (tgt := 23) hx hb gX12_trace_0.2.2.2.2.2.2.2.1 (by decide) (fun _ => ?_) (fun c9 => absurd (by decide) c9)
    refine lv_bipush (v := (-3)) hx hb gX12_trace_1.2.2.2.1 (by decide) ?_
    refine toQ hQ0 ?_
    exact RP (v := (-3)) hC ((by simp only [ifc_f (q := Hs x1 jr) (fun h9 => a7483 ((WiHc (by omega)).mpr h9))])) rfl gX12_trace_1.2.2.2.2
def K_r_many (l : Launch) (G : GG) (h0 : Nat) (x1 : Int32) (nw : Nat) (nk : Nat) (mhasKept : Int32) (nt : Nat) (mtaped : Int32) (nr : Nat) (mrowMany : Int32) (mroundOf : Int32) (mroundFrom : Int32) (mouts : Int32) (nm : Nat) (mfromHour : Int32) (mtoHour : Int32) (ns : Nat) (mfrom : Int32) (mto : Int32) (msort : Int32) (misFault : Int32) (mdeep : Int32) (mcoded : Int32) (mlines : Int32) (nl : Nat) (nc : Nat) (nF : Nat) (np : Nat) (ntr : Nat) (nb : Nat) (mbestCost : Int32) (nso : Nat) (nsi : Nat) (nit : Nat) (nsh : Nat) (nsf : Nat) (nss : Nat) (nrc : Nat) (mtraced : Int32) (mdealer : Int32) (mnumber : Int32) (mwhose : Int32) (msize : Int32) (misParted : Int32) (fnw : Nat → Int32) (fnm : Nat → Int32) (fns : Nat → Int32) (fnp : Nat → Int32) : Prop := MI l G yX12_many cX12_many 4 (some .int) 10 0 0 [.ref h0, .int x1] [(h0, oX12 nw nk mhasKept nt mtaped nr mrowMany mroundOf mroundFrom mouts nm mfromHour mtoHour ns mfrom mto msort misFault mdeep mcoded mlines nl nc nF np ntr nb mbestCost nso nsi nit nsh nsf nss nrc mtraced mdealer mnumber mwhose msize misParted), (nw, iA G 1662 fnw), (nm, iA G 36 fnm), (ns, iA G 8 fns), (np, iA G 100 fnp)] (fun (r : Int32) (u : Int32 × Int32 × (Nat → Int32) × (Nat → Int32) × (Nat → Int32)) => (True) ∧ (MB u.2.2.1)) (fun u : Int32 × Int32 × (Nat → Int32) × (Nat → Int32) × (Nat → Int32) => [(h0, oX12 nw nk mhasKept nt mtaped nr mrowMany mroundOf mroundFrom mouts nm u.1 u.2.1 ns mfrom mto msort misFault mdeep mcoded mlines nl nc nF np ntr nb mbestCost nso nsi nit nsh nsf nss nrc mtraced mdealer mnumber mwhose msize misParted), (nw, iA G 1662 fnw), (nm, iA G 36 u.2.2.1), (ns, iA G 8 u.2.2.2.1), (np, iA G 100 u.2.2.2.2)])
set_option maxHeartbeats 4000000 in
set_option maxRecDepth 100000 in
theorem r_many (l : Launch) (G : GG) (h0 : Nat) (x1 : Int32) (nw : Nat) (nk : Nat) (mhasKept : Int32) (nt : Nat) (mtaped : Int32) (nr : Nat) (mrowMany : Int32) (mroundOf : Int32) (mroundFrom : Int32) (mouts : Int32) (nm : Nat) (mfromHour : Int32) (mtoHour : Int32) (ns : Nat) (mfrom : Int32) (mto : Int32) (msort : Int32) (misFault : Int32) (mdeep : Int32) (mcoded : Int32) (mlines : Int32) (nl : Nat) (nc : Nat) (nF : Nat) (np : Nat) (ntr : Nat) (nb : Nat) (mbestCost : Int32) (nso : Nat) (nsi : Nat) (nit : Nat) (nsh : Nat) (nsf : Nat) (nss : Nat) (nrc : Nat) (mtraced : Int32) (mdealer : Int32) (mnumber : Int32) (mwhose : Int32) (msize : Int32) (misParted : Int32) (fnw : Nat → Int32) (fnm : Nat → Int32) (fns : Nat → Int32) (fnp : Nat → Int32) (hN : NI fnw) (hV : VI fnw) (hM : MB fnm) : K_r_many l G h0 x1 nw nk mhasKept nt mtaped nr mrowMany mroundOf mroundFrom mouts nm mfromHour mtoHour ns mfrom mto msort misFault mdeep mcoded mlines nl nc nF np ntr nb mbestCost nso nsi nit nsh nsf nss nrc mtraced mdealer mnumber mwhose msize misParted fnw fnm fns fnp := by
  refine MI.start (by decide +kernel) (Nat.le_of_ble_eq_true rfl) ?_
  intro p e s m below meth c A ls hC hK hP hD hS hA hl
  refine absQ (fun Q0 hQ0 => ?_)
  have hl : lv_has ls 4 [(0, .ref h0), (1, .int x1)] := hl
  refine Kan8 hC (fun hx hb hr hml hB hown hlocks hnm => ?_)
  obtain ⟨k9, hk9, ek9⟩ := NI.nat hN (i := 9) (B := 12) (by decide +kernel) (by decide)
  refine lv_iload_n hx hb gX12_many_0.1 rfl (lv_at1 hl) ?_
  by_cases c_1_7484 : x1 = 0
  · refine lv_tableIn (tgt := 76) hx hb gX12_many_0.2.1 (by rw [c_1_7484]; decide) (by rw [c_1_7484]; decide) (by rw [c_1_7484]; rfl) (by decide) ?_
    refine lv_aload_n hx hb gX12_many_0.2.2.1 rfl (lv_at0 hl) ?_
    refine gf_X12_9 hC rfl hK hP 0 rfl rfl gX12_many_0.2.2.2.1 ?_
    refine lv_iconst (v := 0) hx hb gX12_many_0.2.2.2.2.1 (by decide) ?_
    refine ald hC hK hP 1 rfl (vin (by decide +kernel)) (k := 0) (by decide +kernel) (v := fnw 0) (rfl) gX12_many_0.2.2.2.2.2.1 ?_
    refine toQ hQ0 ?_
    exact RI (v := fnw 0) hC hP hD hS [0, 1, 2, 3, 4] (mfromHour, mtoHour, fnm, fns, fnp) rfl rfl (by decide) (⟨trivial, by first | assumption | exact hM⟩) rfl gX12_many_0.2.2.2.2.2.2.1
  by_cases c_1_7485 : x1 = 1
  · refine lv_tableIn (tgt := 83) hx hb gX12_many_0.2.1 (by rw [c_1_7485]; decide) (by rw [c_1_7485]; decide) (by rw [c_1_7485]; rfl) (by decide) ?_
    refine lv_aload_n hx hb gX12_many_0.2.2.2.2.2.2.2.1 rfl (lv_at0 hl) ?_
    refine gf_X12_9 hC rfl hK hP 0 rfl rfl gX12_many_0.2.2.2.2.2.2.2.2.1 ?_
    refine lv_iconst (v := 4) hx hb gX12_many_0.2.2.2.2.2.2.2.2.2 (by decide) ?_
    refine ald hC hK hP 1 rfl (vin (by decide +kernel)) (k := 4) (by decide +kernel) (v := fnw 4) (rfl) gX12_many_1.1 ?_
    refine toQ hQ0 ?_
    exact RI (v := fnw 4) hC hP hD hS [0, 1, 2, 3, 4] (mfromHour, mtoHour, fnm, fns, fnp) rfl rfl (by decide) (⟨trivial, by first | assumption | exact hM⟩) rfl gX12_many_1.2.1
  by_cases c_1_7486 : x1 = 2
  · refine lv_tableIn (tgt := 90) hx hb gX12_many_0.2.1 (by rw [c_1_7486]; decide) (by rw [c_1_7486]; decide) (by rw [c_1_7486]; rfl) (by decide) ?_
    refine lv_aload_n hx hb gX12_many_1.2.2.1 rfl (lv_at0 hl) ?_
    refine gf_X12_9 hC rfl hK hP 0 rfl rfl gX12_many_1.2.2.2.1 ?_
    refine lv_iconst (v := 5) hx hb gX12_many_1.2.2.2.2.1 (by decide) ?_
    refine ald hC hK hP 1 rfl (vin (by decide +kernel)) (k := 5) (by decide +kernel) (v := fnw 5) (rfl) gX12_many_1.2.2.2.2.2.1 ?_
    refine toQ hQ0 ?_
    exact RI (v := fnw 5) hC hP hD hS [0, 1, 2, 3, 4] (mfromHour, mtoHour, fnm, fns, fnp) rfl rfl (by decide) (⟨trivial, by first | assumption | exact hM⟩) rfl gX12_many_1.2.2.2.2.2.2.1
  by_cases c_1_7487 : x1 = 3
  · refine lv_tableIn (tgt := 97) hx hb gX12_many_0.2.1 (by rw [c_1_7487]; decide) (by rw [c_1_7487]; decide) (by rw [c_1_7487]; rfl) (by decide) ?_
    refine lv_aload_n hx hb gX12_many_1.2.2.2.2.2.2.2.1 rfl (lv_at0 hl) ?_
    refine pV hC hK hl hP hD (m_inView l G h0 nw nk mhasKept nt mtaped nr mrowMany mroundOf mroundFrom mouts nm mfromHour mtoHour ns mfrom mto msort misFault mdeep mcoded mlines nl nc nF np ntr nb mbestCost nso nsi nit nsh nsf nss nrc mtraced mdealer mnumber mwhose msize misParted fnw (hN)) si_X12_107 [0, 1] sm_0_1 fm_0_1 nd_0_1 rfl rfl rfl rfl rfl (Nat.le_of_ble_eq_true rfl) rm_10_3_3 ⟨by first | exact Nat.le_of_ble_eq_true rfl | exact Nat.zero_le _, by first | exact Nat.le_of_ble_eq_true rfl | exact Nat.zero_le _⟩ gX12_many_1.2.2.2.2.2.2.2.2.1 (fun r7488 hr7488 => ?_)
    refine pS hC hK hl (m_bits l G r7488) si_X12_110 rfl rfl (Nat.le_of_ble_eq_true rfl) rm_10_1_3 ⟨by first | exact Nat.le_of_ble_eq_true rfl | exact Nat.zero_le _, by first | exact Nat.le_of_ble_eq_true rfl | exact Nat.zero_le _⟩ gX12_many_1.2.2.2.2.2.2.2.2.2 (fun r7489 hr7489 => ?_)
    refine toQ hQ0 ?_
    exact RI (v := r7489) hC hP hD hS [0, 1, 2, 3, 4] (mfromHour, mtoHour, fnm, fns, fnp) rfl rfl (by decide) (⟨trivial, by first | assumption | exact hM⟩) rfl gX12_many_2.1
  by_cases c_1_7490 : x1 = 4
  · refine lv_tableIn (tgt := 105) hx hb gX12_many_0.2.1 (by rw [c_1_7490]; decide) (by rw [c_1_7490]; decide) (by rw [c_1_7490]; rfl) (by decide) ?_
    refine lv_aload_n hx hb gX12_many_2.2.1 rfl (lv_at0 hl) ?_
    refine gf_X12_9 hC rfl hK hP 0 rfl rfl gX12_many_2.2.2.1 ?_
    refine lv_bipush (v := 6) hx hb gX12_many_2.2.2.2.1 (by decide) ?_
    refine ald hC hK hP 1 rfl (vin (by decide +kernel)) (k := 6) (by decide +kernel) (v := fnw 6) (rfl) gX12_many_2.2.2.2.2.1 ?_
    refine toQ hQ0 ?_
    exact RI (v := fnw 6) hC hP hD hS [0, 1, 2, 3, 4] (mfromHour, mtoHour, fnm, fns, fnp) rfl rfl (by decide) (⟨trivial, by first | assumption | exact hM⟩) rfl gX12_many_2.2.2.2.2.2.1
  by_cases c_1_7491 : x1 = 5
  · refine lv_tableIn (tgt := 113) hx hb gX12_many_0.2.1 (by rw [c_1_7491]; decide) (by rw [c_1_7491]; decide) (by rw [c_1_7491]; rfl) (by decide) ?_
    refine lv_aload_n hx hb gX12_many_2.2.2.2.2.2.2.1 rfl (lv_at0 hl) ?_
    refine gf_X12_9 hC rfl hK hP 0 rfl rfl gX12_many_2.2.2.2.2.2.2.2.1 ?_
    refine lv_bipush (v := 7) hx hb gX12_many_2.2.2.2.2.2.2.2.2.1 (by decide) ?_
    refine ald hC hK hP 1 rfl (vin (by decide +kernel)) (k := 7) (by decide +kernel) (v := fnw 7) (rfl) gX12_many_2.2.2.2.2.2.2.2.2.2 ?_
    refine toQ hQ0 ?_
    exact RI (v := fnw 7) hC hP hD hS [0, 1, 2, 3, 4] (mfromHour, mtoHour, fnm, fns, fnp) rfl rfl (by decide) (⟨trivial, by first | assumption | exact hM⟩) rfl gX12_many_3.1
  by_cases c_1_7492 : x1 = 6
  · refine lv_tableIn (tgt := 121) hx hb gX12_many_0.2.1 (by rw [c_1_7492]; decide) (by rw [c_1_7492]; decide) (by rw [c_1_7492]; rfl) (by decide) ?_
    refine lv_aload_n hx hb gX12_many_3.2.1 rfl (lv_at0 hl) ?_
    refine gf_X12_9 hC rfl hK hP 0 rfl rfl gX12_many_3.2.2.1 ?_
    refine lv_bipush (v := 8) hx hb gX12_many_3.2.2.2.1 (by decide) ?_
    refine ald hC hK hP 1 rfl (vin (by decide +kernel)) (k := 8) (by decide +kernel) (v := fnw 8) (rfl) gX12_many_3.2.2.2.2.1 ?_
    refine toQ hQ0 ?_
    exact RI (v := fnw 8) hC hP hD hS [0, 1, 2, 3, 4] (mfromHour, mtoHour, fnm, fns, fnp) rfl rfl (by decide) (⟨trivial, by first | assumption | exact hM⟩) rfl gX12_many_3.2.2.2.2.2.1
  by_cases c_1_7493 : x1 = 7
  · refine lv_tableIn (tgt := 129) hx hb gX12_many_0.2.1 (by rw [c_1_7493]; decide) (by rw [c_1_7493]; decide) (by rw [c_1_7493]; rfl) (by decide) ?_
    refine lv_aload_n hx hb gX12_many_3.2.2.2.2.2.2.1 rfl (lv_at0 hl) ?_
    refine lv_iconst (v := (-1)) hx hb gX12_many_3.2.2.2.2.2.2.2.1 (by decide) ?_
    refine pV hC hK hl hP hD (m_saidBy l G h0 (-1) nw nk mhasKept nt mtaped nr mrowMany mroundOf mroundFrom mouts nm mfromHour mtoHour ns mfrom mto msort misFault mdeep mcoded mlines nl nc nF np ntr nb mbestCost nso nsi nit nsh nsf nss nrc mtraced mdealer mnumber mwhose msize misParted fnw (hN)) si_X12_127 [0, 1] sm_0_1 fm_0_1 nd_0_1 rfl rfl rfl rfl rfl (Nat.le_of_ble_eq_true rfl) rm_10_5_4 ⟨by first | exact Nat.le_of_ble_eq_true rfl | exact Nat.zero_le _, by first | exact Nat.le_of_ble_eq_true rfl | exact Nat.zero_le _⟩ gX12_many_3.2.2.2.2.2.2.2.2.1 (fun r7494 hr7494 => ?_)
    refine toQ hQ0 ?_
    exact RI (v := r7494) hC hP hD hS [0, 1, 2, 3, 4] (mfromHour, mtoHour, fnm, fns, fnp) rfl rfl (by decide) (⟨trivial, by first | assumption | exact hM⟩) rfl gX12_many_3.2.2.2.2.2.2.2.2.2
  by_cases c_1_7495 : x1 = 8
  · refine lv_tableIn (tgt := 135) hx hb gX12_many_0.2.1 (by rw [c_1_7495]; decide) (by rw [c_1_7495]; decide) (by rw [c_1_7495]; rfl) (by decide) ?_
    refine lv_aload_n hx hb gX12_many_4.1 rfl (lv_at0 hl) ?_
    refine gf_X12_9 hC rfl hK hP 0 rfl rfl gX12_many_4.2.1 ?_
    refine lv_bipush (v := 9) hx hb gX12_many_4.2.2.1 (by decide) ?_
    refine ald hC hK hP 1 rfl (vin (by decide +kernel)) (k := 9) (by decide +kernel) (v := nI k9) (ek9) gX12_many_4.2.2.2.1 ?_
    refine toQ hQ0 ?_
    exact RI (v := nI k9) hC hP hD hS [0, 1, 2, 3, 4] (mfromHour, mtoHour, fnm, fns, fnp) rfl rfl (by decide) (⟨trivial, by first | assumption | exact hM⟩) rfl gX12_many_4.2.2.2.2.1
  by_cases c_1_7496 : x1 = 9
  · refine lv_tableIn (tgt := 143) hx hb gX12_many_0.2.1 (by rw [c_1_7496]; decide) (by rw [c_1_7496]; decide) (by rw [c_1_7496]; rfl) (by decide) ?_
    refine lv_iconst (v := 0) hx hb gX12_many_4.2.2.2.2.2.1 (by decide) ?_
    refine lv_istore_n (lv' := [(2, .int 0), (0, .ref h0), (1, .int x1)]) hx hb gX12_many_4.2.2.2.2.2.2.1 rfl hl (by decide) rfl (fun ls hl => ?_)
    refine lv_iconst (v := 0) hx hb gX12_many_4.2.2.2.2.2.2.2.1 (by decide) ?_
    refine lv_istore_n (lv' := [(3, .int 0), (2, .int 0), (0, .ref h0), (1, .int x1)]) hx hb gX12_many_4.2.2.2.2.2.2.2.2.1 rfl hl (by decide) rfl (fun ls hl => ?_)
    have keyP : ∀ (nP kP : Nat) (nn : Int32) (vfh : Int32) (vth : Int32) (vA : Nat → Int32) (vS : Nat → Int32) (vR : Nat → Int32) (H : Heap) (locs : List Loc) (ls : Array Slot), kP + nP = k9 → (MB vA) → va_PD G A [(h0, oX12 nw nk mhasKept nt mtaped nr mrowMany mroundOf mroundFrom mouts nm vfh vth ns mfrom mto msort misFault mdeep mcoded mlines nl nc nF np ntr nb mbestCost nso nsi nit nsh nsf nss nrc mtraced mdealer mnumber mwhose msize misParted), (nw, iA G 1662 fnw), (nm, iA G 36 vA), (ns, iA G 8 vS), (np, iA G 100 vR)] H → va_S A s.heap H locs → lv_has ls 4 [(3, .int (nI kP)), (2, .int nn), (0, .ref h0), (1, .int x1)] → W p l e (RM 10 0 0) s m ([.ref h0, .int x1] : List Value).toArray below meth c H locs 0 0 Q0 (F0 m 147 ls []) := by
      intro nP
      induction nP with
      | zero =>
        intro kP nn vfh vth vA vS vR H locs ls hkP hvA hPD hS hl
        refine Kan2 hPD (fun hP hD => ?_)
        obtain rfl : k9 = kP := by omega
        have hl : lv_has ls 4 [(3, .int (nI k9)), (2, .int nn), (0, .ref h0), (1, .int x1)] := hl
        refine lv_iload_n hx hb gX12_many_4.2.2.2.2.2.2.2.2.2 rfl (lv_at0 hl) ?_
        refine lv_aload_n hx hb gX12_many_5.1 rfl (lv_at2 hl) ?_
        refine gf_X12_9 hC rfl hK hP 0 rfl rfl gX12_many_5.2.1 ?_
        refine lv_bipush (v := 9) hx hb gX12_many_5.2.2.1 (by decide) ?_
        refine ald hC hK hP 1 rfl (vin (by decide +kernel)) (k := 9) (by decide +kernel) (v := nI k9) (ek9) gX12_many_5.2.2.2.1 ?_
        refine lv_icmp_ge (tgt := 180) hx hb gX12_many_5.2.2.2.2.1 (by decide) (fun _ => ?_) (fun c9 => absurd (Int32.le_refl _) c9)
        refine lv_iload_n hx hb gX12_many_6.2.2.2.2.2.2.2.1 rfl (lv_at1 hl) ?_
        refine toQ hQ0 ?_
        exact RI (v := nn) hC hP hD hS [0, 1, 2, 3, 4] (vfh, vth, vA, vS, vR) rfl rfl (by decide) (⟨trivial, by first | assumption | exact hM⟩) rfl gX12_many_6.2.2.2.2.2.2.2.2.1
      | succ nP ihP =>
        intro kP nn vfh vth vA vS vR H locs ls hkP hvA hPD hS hl
        refine Kan2 hPD (fun hP hD => ?_)
        refine lv_iload_n hx hb gX12_many_4.2.2.2.2.2.2.2.2.2 rfl (lv_at0 hl) ?_
        refine lv_aload_n hx hb gX12_many_5.1 rfl (lv_at2 hl) ?_
        refine gf_X12_9 hC rfl hK hP 0 rfl rfl gX12_many_5.2.1 ?_
        refine lv_bipush (v := 9) hx hb gX12_many_5.2.2.1 (by decide) ?_
        refine ald hC hK hP 1 rfl (vin (by decide +kernel)) (k := 9) (by decide +kernel) (v := nI k9) (ek9) gX12_many_5.2.2.2.1 ?_
        refine lv_icmp_ge (tgt := 180) hx hb gX12_many_5.2.2.2.2.1 (by decide) (fun c9 => absurd c9 (nI_ge (a := kP) (b := k9) (by omega) (by omega))) (fun _ => ?_)
        refine lv_iload_n hx hb gX12_many_5.2.2.2.2.2.1 rfl (lv_at1 hl) ?_
        refine lv_aload_n hx hb gX12_many_5.2.2.2.2.2.2.1 rfl (lv_at2 hl) ?_
        refine lv_iload_n hx hb gX12_many_5.2.2.2.2.2.2.2.1 rfl (lv_at0 hl) ?_
        refine iV (wr := []) hC hK hl hP hD hS hA (m_stands l G h0 kP nw nk mhasKept nt mtaped nr mrowMany mroundOf mroundFrom mouts nm vfh vth ns mfrom mto msort misFault mdeep mcoded mlines nl nc nF np ntr nb mbestCost nso nsi nit nsh nsf nss nrc mtraced mdealer mnumber mwhose msize misParted fnw vA vS vR (by omega) (hN) (hV) (hvA)) si_X12_305 [0, 1, 2, 3, 4] [] sm_0_1_2_3_4 fm_0_1_2_3_4 nd_0_1_2_3_4 rfl rfl (by decide) rfl rfl rfl rfl rfl (Nat.le_of_ble_eq_true rfl) rm_10_9_3 ⟨Nat.le_of_ble_eq_true rfl, Nat.le_of_ble_eq_true rfl⟩ gX12_many_5.2.2.2.2.2.2.2.2.1 (fun r7497 => Ktu5 fun fh17499 th17500 gnm7501 gns7502 gnp7503 => ?_)
        intro H locs hr7497 hP hD hS
        try dsimp only at hr7497
        refine Kpdr (ws := [(h0, oX12 nw nk mhasKept nt mtaped nr mrowMany mroundOf mroundFrom mouts nm fh17499 th17500 ns mfrom mto msort misFault mdeep mcoded mlines nl nc nF np ntr nb mbestCost nso nsi nit nsh nsf nss nrc mtraced mdealer mnumber mwhose msize misParted), (nw, iA G 1662 fnw), (nm, iA G 36 gnm7501), (ns, iA G 8 gns7502), (np, iA G 100 gnp7503)]) hP hD (fun hP hD => ?_)
        obtain ⟨hr7497, w7504⟩ := hr7497
        rcases hr7497 with rfl | rfl
        · refine lv_if_eq (tgt := 171) hx hb gX12_many_5.2.2.2.2.2.2.2.2.2 (by decide) (fun c9 => absurd c9 (by decide)) (fun _ => ?_)
          refine lv_iconst (v := 1) hx hb gX12_many_6.1 (by decide) ?_
          refine lv_goto (tgt := 172) hx hb gX12_many_6.2.1 (by decide) ?_
          refine lv_iadd hx hb gX12_many_6.2.2.2.1 ?_
          refine lv_istore_n (lv' := [(2, .int (nn + 1)), (3, .int (nI kP)), (0, .ref h0), (1, .int x1)]) hx hb gX12_many_6.2.2.2.2.1 rfl hl (by decide) rfl (fun ls hl => ?_)
          refine lv_iinc (v := nI (kP + 1)) (lv' := [(3, .int (nI (kP + 1))), (2, .int (nn + 1)), (0, .ref h0), (1, .int x1)]) hx hb gX12_many_6.2.2.2.2.2.1 hl (k := 1) rfl (nI_1 _) (by decide) rfl (fun ls hl => ?_)
          refine lv_goto (tgt := 147) hx hb gX12_many_6.2.2.2.2.2.2.1 (by decide) ?_
          exact ihP (kP + 1) (nn + 1) fh17499 th17500 gnm7501 gns7502 gnp7503 _ _ _ (by omega) (by first | assumption | exact Or.inl rfl | exact Or.inr rfl) (And.intro hP hD) hS (lv_sub hl [0, 1, 2, 3] rfl)
        · refine lv_if_eq (tgt := 171) hx hb gX12_many_5.2.2.2.2.2.2.2.2.2 (by decide) (fun _ => ?_) (fun c9 => absurd (by decide) c9)
          refine lv_iconst (v := 0) hx hb gX12_many_6.2.2.1 (by decide) ?_
          refine lv_iadd hx hb gX12_many_6.2.2.2.1 ?_
          refine lv_istore_n (lv' := [(2, .int (nn + 0)), (3, .int (nI kP)), (0, .ref h0), (1, .int x1)]) hx hb gX12_many_6.2.2.2.2.1 rfl hl (by decide) rfl (fun ls hl => ?_)
          refine lv_iinc (v := nI (kP + 1)) (lv' := [(3, .int (nI (kP + 1))), (2, .int (nn + 0)), (0, .ref h0), (1, .int x1)]) hx hb gX12_many_6.2.2.2.2.2.1 hl (k := 1) rfl (nI_1 _) (by decide) rfl (fun ls hl => ?_)
          refine lv_goto (tgt := 147) hx hb gX12_many_6.2.2.2.2.2.2.1 (by decide) ?_
          exact ihP (kP + 1) (nn + 0) fh17499 th17500 gnm7501 gns7502 gnp7503 _ _ _ (by omega) (by first | assumption | exact Or.inl rfl | exact Or.inr rfl) (And.intro hP hD) hS (lv_sub hl [0, 1, 2, 3] rfl)
    exact keyP k9 0 0 mfromHour mtoHour fnm fns fnp _ _ _ (by omega) (by first | assumption | exact Or.inl rfl | exact Or.inr rfl) (And.intro hP hD) hS (lv_sub hl [0, 1, 2, 3] rfl)
  by_cases c_1_7506 : x1 = 10
  · refine lv_tableIn (tgt := 182) hx hb gX12_many_0.2.1 (by rw [c_1_7506]; decide) (by rw [c_1_7506]; decide) (by rw [c_1_7506]; rfl) (by decide) ?_
    refine lv_aload_n hx hb gX12_many_6.2.2.2.2.2.2.2.2.2 rfl (lv_at0 hl) ?_
    refine gf_X12_9 hC rfl hK hP 0 rfl rfl gX12_many_7.1 ?_
    refine lv_bipush (v := 10) hx hb gX12_many_7.2.1 (by decide) ?_
    refine ald hC hK hP 1 rfl (vin (by decide +kernel)) (k := 10) (by decide +kernel) (v := fnw 10) (rfl) gX12_many_7.2.2.1 ?_
    refine toQ hQ0 ?_
    exact RI (v := fnw 10) hC hP hD hS [0, 1, 2, 3, 4] (mfromHour, mtoHour, fnm, fns, fnp) rfl rfl (by decide) (⟨trivial, by first | assumption | exact hM⟩) rfl gX12_many_7.2.2.2.1
  by_cases c_1_7507 : x1 = 11
  · refine lv_tableIn (tgt := 190) hx hb gX12_many_0.2.1 (by rw [c_1_7507]; decide) (by rw [c_1_7507]; decide) (by rw [c_1_7507]; rfl) (by decide) ?_
    refine lv_aload_n hx hb gX12_many_7.2.2.2.2.1 rfl (lv_at0 hl) ?_
    refine gf_X12_9 hC rfl hK hP 0 rfl rfl gX12_many_7.2.2.2.2.2.1 ?_
    refine lv_bipush (v := 11) hx hb gX12_many_7.2.2.2.2.2.2.1 (by decide) ?_
    refine ald hC hK hP 1 rfl (vin (by decide +kernel)) (k := 11) (by decide +kernel) (v := fnw 11) (rfl) gX12_many_7.2.2.2.2.2.2.2.1 ?_
    refine toQ hQ0 ?_
    exact RI (v := fnw 11) hC hP hD hS [0, 1, 2, 3, 4] (mfromHour, mtoHour, fnm, fns, fnp) rfl rfl (by decide) (⟨trivial, by first | assumption | exact hM⟩) rfl gX12_many_7.2.2.2.2.2.2.2.2.1
  by_cases c_1_7508 : x1 = 12
  · refine lv_tableIn (tgt := 198) hx hb gX12_many_0.2.1 (by rw [c_1_7508]; decide) (by rw [c_1_7508]; decide) (by rw [c_1_7508]; rfl) (by decide) ?_
    refine lv_aload_n hx hb gX12_many_7.2.2.2.2.2.2.2.2.2 rfl (lv_at0 hl) ?_
    refine gf_X12_327 hC rfl hK hP 0 rfl rfl gX12_many_8.1 ?_
    refine toQ hQ0 ?_
    exact RI (v := mrowMany) hC hP hD hS [0, 1, 2, 3, 4] (mfromHour, mtoHour, fnm, fns, fnp) rfl rfl (by decide) (⟨trivial, by first | assumption | exact hM⟩) rfl gX12_many_8.2.1
  by_cases c_1_7509 : x1 = 13
  · refine lv_tableIn (tgt := 203) hx hb gX12_many_0.2.1 (by rw [c_1_7509]; decide) (by rw [c_1_7509]; decide) (by rw [c_1_7509]; rfl) (by decide) ?_
    refine lv_aload_n hx hb gX12_many_8.2.2.1 rfl (lv_at0 hl) ?_
    refine gf_X12_206 hC rfl hK hP 0 rfl rfl gX12_many_8.2.2.2.1 ?_
    refine toQ hQ0 ?_
    exact RI (v := mtaped) hC hP hD hS [0, 1, 2, 3, 4] (mfromHour, mtoHour, fnm, fns, fnp) rfl rfl (by decide) (⟨trivial, by first | assumption | exact hM⟩) rfl gX12_many_8.2.2.2.2.1
  by_cases c_1_7510 : x1 = 14
  · refine lv_tableIn (tgt := 208) hx hb gX12_many_0.2.1 (by rw [c_1_7510]; decide) (by rw [c_1_7510]; decide) (by rw [c_1_7510]; rfl) (by decide) ?_
    refine lv_aload_n hx hb gX12_many_8.2.2.2.2.2.1 rfl (lv_at0 hl) ?_
    refine gf_X12_351 hC rfl hK hP 0 rfl rfl gX12_many_8.2.2.2.2.2.2.1 ?_
    refine toQ hQ0 ?_
    exact RI (v := mtraced) hC hP hD hS [0, 1, 2, 3, 4] (mfromHour, mtoHour, fnm, fns, fnp) rfl rfl (by decide) (⟨trivial, by first | assumption | exact hM⟩) rfl gX12_many_8.2.2.2.2.2.2.2.1
  refine lv_tableOut (tgt := 213) hx hb gX12_many_0.2.1 (by have q9 := sw_0_14 (x := x1); simp only [c_1_7484, c_1_7485, c_1_7486, c_1_7487, c_1_7490, c_1_7491, c_1_7492, c_1_7493, c_1_7495, c_1_7496, c_1_7506, c_1_7507, c_1_7508, c_1_7509, c_1_7510, not_false_eq_true, true_implies] at q9; exact q9) (by decide) ?_
  refine lv_iconst (v := (-1)) hx hb gX12_many_8.2.2.2.2.2.2.2.2.1 (by decide) ?_
  refine toQ hQ0 ?_
  exact RI (v := (-1)) hC hP hD hS [0, 1, 2, 3, 4] (mfromHour, mtoHour, fnm, fns, fnp) rfl rfl (by decide) (⟨trivial, by first | assumption | exact hM⟩) rfl gX12_many_8.2.2.2.2.2.2.2.2.2
def K_w_keep (l : Launch) (G : GG) (h0 : Nat) (nw : Nat) (nk : Nat) (mhasKept : Int32) (nt : Nat) (mtaped : Int32) (nr : Nat) (mrowMany : Int32) (mroundOf : Int32) (mroundFrom : Int32) (mouts : Int32) (nm : Nat) (mfromHour : Int32) (mtoHour : Int32) (ns : Nat) (mfrom : Int32) (mto : Int32) (msort : Int32) (misFault : Int32) (mdeep : Int32) (mcoded : Int32) (mlines : Int32) (nl : Nat) (nc : Nat) (nF : Nat) (np : Nat) (ntr : Nat) (nb : Nat) (mbestCost : Int32) (nso : Nat) (nsi : Nat) (nit : Nat) (nsh : Nat) (nsf : Nat) (nss : Nat) (nrc : Nat) (mtraced : Int32) (mdealer : Int32) (mnumber : Int32) (mwhose : Int32) (msize : Int32) (misParted : Int32) (fnw : Nat → Int32) (fnk : Nat → Int32) : Prop := MI l G yX12_keep cX12_keep 2 (some .int) 1 0 0 [.ref h0] [(h0, oX12 nw nk mhasKept nt mtaped nr mrowMany mroundOf mroundFrom mouts nm mfromHour mtoHour ns mfrom mto msort misFault mdeep mcoded mlines nl nc nF np ntr nb mbestCost nso nsi nit nsh nsf nss nrc mtraced mdealer mnumber mwhose msize misParted), (nw, iA G 1662 fnw), (nk, iA G 1662 fnk)] (fun (r : Int32) (u : (Nat → Int32)) => (r = 1) ∧ (NI u ∧ VI u ∧ SCX u (fnw 0) (fnw 1) (fnw 2) (fnw 3) (fnw 4) (fnw 5) (fnw 6) (fnw 8) (fnw 9) (fnw 10) (fnw 11) ∧ AG 1662 fnw u)) (fun u : (Nat → Int32) => [(h0, oX12 nw nk 1 nt mtaped nr mrowMany mroundOf mroundFrom mouts nm mfromHour mtoHour ns mfrom mto msort misFault mdeep mcoded mlines nl nc nF np ntr nb mbestCost nso nsi nit nsh nsf nss nrc mtraced mdealer mnumber mwhose msize misParted), (nw, iA G 1662 fnw), (nk, iA G 1662 u)])
set_option maxHeartbeats 4000000 in
set_option maxRecDepth 100000 in
theorem w_keep (l : Launch) (G : GG) (h0 : Nat) (nw : Nat) (nk : Nat) (mhasKept : Int32) (nt : Nat) (mtaped : Int32) (nr : Nat) (mrowMany : Int32) (mroundOf : Int32) (mroundFrom : Int32) (mouts : Int32) (nm : Nat) (mfromHour : Int32) (mtoHour : Int32) (ns : Nat) (mfrom : Int32) (mto : Int32) (msort : Int32) (misFault : Int32) (mdeep : Int32) (mcoded : Int32) (mlines : Int32) (nl : Nat) (nc : Nat) (nF : Nat) (np : Nat) (ntr : Nat) (nb : Nat) (mbestCost : Int32) (nso : Nat) (nsi : Nat) (nit : Nat) (nsh : Nat) (nsf : Nat) (nss : Nat) (nrc : Nat) (mtraced : Int32) (mdealer : Int32) (mnumber : Int32) (mwhose : Int32) (msize : Int32) (misParted : Int32) (fnw : Nat → Int32) (fnk : Nat → Int32) (hN : NI fnw) (hV : VI fnw) : K_w_keep l G h0 nw nk mhasKept nt mtaped nr mrowMany mroundOf mroundFrom mouts nm mfromHour mtoHour ns mfrom mto msort misFault mdeep mcoded mlines nl nc nF np ntr nb mbestCost nso nsi nit nsh nsf nss nrc mtraced mdealer mnumber mwhose msize misParted fnw fnk := by
  refine MI.start (by decide +kernel) (Nat.le_of_ble_eq_true rfl) ?_
  intro p e s m below meth c A ls hC hK hP hD hS hA hl
  refine absQ (fun Q0 hQ0 => ?_)
  have hl : lv_has ls 2 [(0, .ref h0)] := hl
  refine Kan8 hC (fun hx hb hr hml hB hown hlocks hnm => ?_)
  refine lv_iconst (v := 0) hx hb gX12_keep_0.1 (by decide) ?_
  refine lv_istore_n (lv' := [(1, .int 0), (0, .ref h0)]) hx hb gX12_keep_0.2.1 rfl hl (by decide) rfl (fun ls hl => ?_)
  have keyP : ∀ (nP kP : Nat) (vK : Nat → Int32) (H : Heap) (locs : List Loc) (ls : Array Slot), kP + nP = 1662 → (AG kP fnw vK) → va_PD G A [(h0, oX12 nw nk mhasKept nt mtaped nr mrowMany mroundOf mroundFrom mouts nm mfromHour mtoHour ns mfrom mto msort misFault mdeep mcoded mlines nl nc nF np ntr nb mbestCost nso nsi nit nsh nsf nss nrc mtraced mdealer mnumber mwhose msize misParted), (nw, iA G 1662 fnw), (nk, iA G 1662 vK)] H → va_S A s.heap H locs → lv_has ls 2 [(1, .int (nI kP)), (0, .ref h0)] → W p l e (RM 1 0 0) s m ([.ref h0] : List Value).toArray below meth c H locs 0 0 Q0 (F0 m 2 ls []) := by
    intro nP
    induction nP with
    | zero =>
      intro kP vK H locs ls hkP hag hPD hS hl
      refine Kan2 hPD (fun hP hD => ?_)
      obtain rfl : 1662 = kP := by omega
      have hl : lv_has ls 2 [(1, .int 1662), (0, .ref h0)] := hl
      refine lv_iload_n hx hb gX12_keep_0.2.2.1 rfl (lv_at0 hl) ?_
      refine lv_sipush (v := 1662) hx hb gX12_keep_0.2.2.2.1 (by decide) ?_
      refine lv_icmp_ge (tgt := 27) hx hb gX12_keep_0.2.2.2.2.1 (by decide) (fun _ => ?_) (fun c9 => absurd (by decide) c9)
      refine lv_aload_n hx hb gX12_keep_1.2.2.2.2.2.1 rfl (lv_at1 hl) ?_
      refine lv_iconst (v := 1) hx hb gX12_keep_1.2.2.2.2.2.2.1 (by decide) ?_
      refine pf_X12_383 hC rfl hK hP hD hS 0 (ws' := [(h0, oX12 nw nk 1 nt mtaped nr mrowMany mroundOf mroundFrom mouts nm mfromHour mtoHour ns mfrom mto msort misFault mdeep mcoded mlines nl nc nF np ntr nb mbestCost nso nsi nit nsh nsf nss nrc mtraced mdealer mnumber mwhose msize misParted), (nw, iA G 1662 fnw), (nk, iA G 1662 vK)]) rfl (Nat.le_of_ble_eq_true rfl) rfl (by decide +kernel) (by decide +kernel) gX12_keep_1.2.2.2.2.2.2.2.1 (fun H locs hP hD hS => ?_)
      refine lv_iconst (v := 1) hx hb gX12_keep_1.2.2.2.2.2.2.2.2.1 (by decide) ?_
      refine toQ hQ0 ?_
      exact RI (v := 1) hC hP hD hS [0, 1, 2] vK rfl rfl (by decide) (⟨rfl, ⟨AG.NI hag hN, AG.VI hag hV, AG.SC hag, hag⟩⟩) rfl gX12_keep_1.2.2.2.2.2.2.2.2.2
    | succ nP ihP =>
      intro kP vK H locs ls hkP hag hPD hS hl
      refine Kan2 hPD (fun hP hD => ?_)
      refine lv_iload_n hx hb gX12_keep_0.2.2.1 rfl (lv_at0 hl) ?_
      refine lv_sipush (v := 1662) hx hb gX12_keep_0.2.2.2.1 (by decide) ?_
      refine lv_icmp_ge (tgt := 27) hx hb gX12_keep_0.2.2.2.2.1 (by decide) (fun c9 => absurd c9 (nI_ge (a := kP) (b := 1662) (by omega) (by omega))) (fun _ => ?_)
      refine lv_aload_n hx hb gX12_keep_0.2.2.2.2.2.1 rfl (lv_at1 hl) ?_
      refine gf_X12_13 hC rfl hK hP 0 rfl rfl gX12_keep_0.2.2.2.2.2.2.1 ?_
      refine lv_iload_n hx hb gX12_keep_0.2.2.2.2.2.2.2.1 rfl (lv_at0 hl) ?_
      refine lv_aload_n hx hb gX12_keep_0.2.2.2.2.2.2.2.2.1 rfl (lv_at1 hl) ?_
      refine gf_X12_9 hC rfl hK hP 0 rfl rfl gX12_keep_0.2.2.2.2.2.2.2.2.2 ?_
      refine lv_iload_n hx hb gX12_keep_1.1 rfl (lv_at0 hl) ?_
      refine aldN hC hK hP 1 rfl (k := kP) (by omega) (Nat.le_of_ble_eq_true rfl) (v := fnw kP) rfl gX12_keep_1.2.1 ?_
      refine lv_topi (fun x7511 ex7511 => ?_)
      refine astN hC hK hP hD hS 2 (ws' := [(h0, oX12 nw nk mhasKept nt mtaped nr mrowMany mroundOf mroundFrom mouts nm mfromHour mtoHour ns mfrom mto msort misFault mdeep mcoded mlines nl nc nF np ntr nb mbestCost nso nsi nit nsh nsf nss nrc mtraced mdealer mnumber mwhose msize misParted), (nw, iA G 1662 fnw), (nk, iA G 1662 (upd vK kP x7511))]) rfl (k := kP) (by omega) (Nat.le_of_ble_eq_true rfl) (rfl) gX12_keep_1.2.2.1 (fun H locs hP hD hS => ?_)
      refine lv_iinc (v := nI (kP + 1)) (lv' := [(1, .int (nI (kP + 1))), (0, .ref h0)]) hx hb gX12_keep_1.2.2.2.1 hl (k := 0) rfl (nI_1 _) (by decide) rfl (fun ls hl => ?_)
      refine lv_goto (tgt := 2) hx hb gX12_keep_1.2.2.2.2.1 (by decide) ?_
      exact ihP (kP + 1) (upd vK kP x7511) _ _ _ (by omega) (by first | assumption | exact Or.inl rfl | exact Or.inr rfl | exact AG.zero | exact AG.next (by assumption) (by assumption)) (And.intro hP hD) hS (lv_sub hl [0, 1] rfl)
  exact keyP 1662 0 fnk _ _ _ (by omega) (by first | assumption | exact Or.inl rfl | exact Or.inr rfl | exact AG.zero | exact AG.next (by assumption) (by assumption)) (And.intro hP hD) hS (lv_sub hl [0, 1] rfl)
def K_w_again0 (l : Launch) (G : GG) (h0 : Nat) (nw : Nat) (nk : Nat) (nt : Nat) (mtaped : Int32) (nr : Nat) (mrowMany : Int32) (mroundOf : Int32) (mroundFrom : Int32) (mouts : Int32) (nm : Nat) (mfromHour : Int32) (mtoHour : Int32) (ns : Nat) (mfrom : Int32) (mto : Int32) (msort : Int32) (misFault : Int32) (mdeep : Int32) (mcoded : Int32) (mlines : Int32) (nl : Nat) (nc : Nat) (nF : Nat) (np : Nat) (ntr : Nat) (nb : Nat) (mbestCost : Int32) (nso : Nat) (nsi : Nat) (nit : Nat) (nsh : Nat) (nsf : Nat) (nss : Nat) (nrc : Nat) (mtraced : Int32) (mdealer : Int32) (mnumber : Int32) (mwhose : Int32) (msize : Int32) (misParted : Int32) : Prop := MP l G yX12_again cX12_again 2 (some .int) 1 [.ref h0] [(h0, oX12 nw nk 0 nt mtaped nr mrowMany mroundOf mroundFrom mouts nm mfromHour mtoHour ns mfrom mto msort misFault mdeep mcoded mlines nl nc nF np ntr nb mbestCost nso nsi nit nsh nsf nss nrc mtraced mdealer mnumber mwhose msize misParted)] (fun r : Int32 => r = (-3))
set_option maxHeartbeats 4000000 in
set_option maxRecDepth 100000 in
theorem w_again0 (l : Launch) (G : GG) (h0 : Nat) (nw : Nat) (nk : Nat) (nt : Nat) (mtaped : Int32) (nr : Nat) (mrowMany : Int32) (mroundOf : Int32) (mroundFrom : Int32) (mouts : Int32) (nm : Nat) (mfromHour : Int32) (mtoHour : Int32) (ns : Nat) (mfrom : Int32) (mto : Int32) (msort : Int32) (misFault : Int32) (mdeep : Int32) (mcoded : Int32) (mlines : Int32) (nl : Nat) (nc : Nat) (nF : Nat) (np : Nat) (ntr : Nat) (nb : Nat) (mbestCost : Int32) (nso : Nat) (nsi : Nat) (nit : Nat) (nsh : Nat) (nsf : Nat) (nss : Nat) (nrc : Nat) (mtraced : Int32) (mdealer : Int32) (mnumber : Int32) (mwhose : Int32) (msize : Int32) (misParted : Int32) : K_w_again0 l G h0 nw nk nt mtaped nr mrowMany mroundOf mroundFrom mouts nm mfromHour mtoHour ns mfrom mto msort misFault mdeep mcoded mlines nl nc nF np ntr nb mbestCost nso nsi nit nsh nsf nss nrc mtraced mdealer mnumber mwhose msize misParted := by
  refine MP.start (by decide +kernel) (Nat.le_of_ble_eq_true rfl) ?_
  intro p e s m below meth c ls hC hK hP hD hl
  refine absQ (fun Q0 hQ0 => ?_)
  have hl : lv_has ls 2 [(0, .ref h0)] := hl
  refine Kan8 hC (fun hx hb hr hml hB hown hlocks hnm => ?_)
  refine lv_aload_n hx hb gX12_again_0.1 rfl (lv_at0 hl) ?_
  refine gf_X12_383 hC rfl hK hP 0 rfl rfl gX12_again_0.2.1 ?_
  refine lv_if_ne (tgt := 10) hx hb gX12_again_0.2.2.1 (by decide) (fun c9 => absurd (by decide) c9) (fun _ => ?_)
  refine lv_bipush (v := (-3)) hx hb gX12_again_0.2.2.2.1 (by decide) ?_
  refine toQ hQ0 ?_
  exact RP (v := (-3)) hC (rfl) rfl gX12_again_0.2.2.2.2.1
def K_w_again1 (l : Launch) (G : GG) (h0 : Nat) (nw : Nat) (nk : Nat) (nt : Nat) (mtaped : Int32) (nr : Nat) (mrowMany : Int32) (mroundOf : Int32) (mroundFrom : Int32) (mouts : Int32) (nm : Nat) (mfromHour : Int32) (mtoHour : Int32) (ns : Nat) (mfrom : Int32) (mto : Int32) (msort : Int32) (misFault : Int32) (mdeep : Int32) (mcoded : Int32) (mlines : Int32) (nl : Nat) (nc : Nat) (nF : Nat) (np : Nat) (ntr : Nat) (nb : Nat) (mbestCost : Int32) (nso : Nat) (nsi : Nat) (nit : Nat) (nsh : Nat) (nsf : Nat) (nss : Nat) (nrc : Nat) (mtraced : Int32) (mdealer : Int32) (mnumber : Int32) (mwhose : Int32) (msize : Int32) (misParted : Int32) (fnw : Nat → Int32) (fnk : Nat → Int32) : Prop := MI l G yX12_again cX12_again 2 (some .int) 1 0 0 [.ref h0] [(h0, oX12 nw nk 1 nt mtaped nr mrowMany mroundOf mroundFrom mouts nm mfromHour mtoHour ns mfrom mto msort misFault mdeep mcoded mlines nl nc nF np ntr nb mbestCost nso nsi nit nsh nsf nss nrc mtraced mdealer mnumber mwhose msize misParted), (nw, iA G 1662 fnw), (nk, iA G 1662 fnk)] (fun (r : Int32) (u : (Nat → Int32)) => (r = 1) ∧ (NI u ∧ VI u ∧ SCX u (fnk 0) (fnk 1) (fnk 2) (fnk 3) (fnk 4) (fnk 5) (fnk 6) (fnk 8) (fnk 9) (fnk 10) (fnk 11) ∧ AG 1662 fnk u)) (fun u : (Nat → Int32) => [(h0, oX12 nw nk 1 nt mtaped nr mrowMany mroundOf mroundFrom mouts nm mfromHour mtoHour ns mfrom mto msort misFault mdeep mcoded mlines nl nc nF np ntr nb mbestCost nso nsi nit nsh nsf nss nrc mtraced mdealer mnumber mwhose msize misParted), (nw, iA G 1662 u), (nk, iA G 1662 fnk)])
set_option maxHeartbeats 4000000 in
set_option maxRecDepth 100000 in
theorem w_again1 (l : Launch) (G : GG) (h0 : Nat) (nw : Nat) (nk : Nat) (nt : Nat) (mtaped : Int32) (nr : Nat) (mrowMany : Int32) (mroundOf : Int32) (mroundFrom : Int32) (mouts : Int32) (nm : Nat) (mfromHour : Int32) (mtoHour : Int32) (ns : Nat) (mfrom : Int32) (mto : Int32) (msort : Int32) (misFault : Int32) (mdeep : Int32) (mcoded : Int32) (mlines : Int32) (nl : Nat) (nc : Nat) (nF : Nat) (np : Nat) (ntr : Nat) (nb : Nat) (mbestCost : Int32) (nso : Nat) (nsi : Nat) (nit : Nat) (nsh : Nat) (nsf : Nat) (nss : Nat) (nrc : Nat) (mtraced : Int32) (mdealer : Int32) (mnumber : Int32) (mwhose : Int32) (msize : Int32) (misParted : Int32) (fnw : Nat → Int32) (fnk : Nat → Int32) (hN : NI fnw) (hV : VI fnw) (hNk : NI fnk) (hVk : VI fnk) : K_w_again1 l G h0 nw nk nt mtaped nr mrowMany mroundOf mroundFrom mouts nm mfromHour mtoHour ns mfrom mto msort misFault mdeep mcoded mlines nl nc nF np ntr nb mbestCost nso nsi nit nsh nsf nss nrc mtraced mdealer mnumber mwhose msize misParted fnw fnk := by
  refine MI.start (by decide +kernel) (Nat.le_of_ble_eq_true rfl) ?_
  intro p e s m below meth c A ls hC hK hP hD hS hA hl
  refine absQ (fun Q0 hQ0 => ?_)
  have hl : lv_has ls 2 [(0, .ref h0)] := hl
  refine Kan8 hC (fun hx hb hr hml hB hown hlocks hnm => ?_)
  refine lv_aload_n hx hb gX12_again_0.1 rfl (lv_at0 hl) ?_
  refine gf_X12_383 hC rfl hK hP 0 rfl rfl gX12_again_0.2.1 ?_
  refine lv_if_ne (tgt := 10) hx hb gX12_again_0.2.2.1 (by decide) (fun _ => ?_) (fun c9 => absurd c9 (by decide))
  refine lv_iconst (v := 0) hx hb gX12_again_0.2.2.2.2.2.1 (by decide) ?_
  refine lv_istore_n (lv' := [(1, .int 0), (0, .ref h0)]) hx hb gX12_again_0.2.2.2.2.2.2.1 rfl hl (by decide) rfl (fun ls hl => ?_)
  have keyP : ∀ (nP kP : Nat) (vK : Nat → Int32) (H : Heap) (locs : List Loc) (ls : Array Slot), kP + nP = 1662 → (AG kP fnk vK) → va_PD G A [(h0, oX12 nw nk 1 nt mtaped nr mrowMany mroundOf mroundFrom mouts nm mfromHour mtoHour ns mfrom mto msort misFault mdeep mcoded mlines nl nc nF np ntr nb mbestCost nso nsi nit nsh nsf nss nrc mtraced mdealer mnumber mwhose msize misParted), (nw, iA G 1662 vK), (nk, iA G 1662 fnk)] H → va_S A s.heap H locs → lv_has ls 2 [(1, .int (nI kP)), (0, .ref h0)] → W p l e (RM 1 0 0) s m ([.ref h0] : List Value).toArray below meth c H locs 0 0 Q0 (F0 m 12 ls []) := by
    intro nP
    induction nP with
    | zero =>
      intro kP vK H locs ls hkP hag hPD hS hl
      refine Kan2 hPD (fun hP hD => ?_)
      obtain rfl : 1662 = kP := by omega
      have hl : lv_has ls 2 [(1, .int 1662), (0, .ref h0)] := hl
      refine lv_iload_n hx hb gX12_again_0.2.2.2.2.2.2.2.1 rfl (lv_at0 hl) ?_
      refine lv_sipush (v := 1662) hx hb gX12_again_0.2.2.2.2.2.2.2.2.1 (by decide) ?_
      refine lv_icmp_ge (tgt := 37) hx hb gX12_again_0.2.2.2.2.2.2.2.2.2 (by decide) (fun _ => ?_) (fun c9 => absurd (by decide) c9)
      refine lv_iconst (v := 1) hx hb gX12_again_2.1 (by decide) ?_
      refine toQ hQ0 ?_
      exact RI (v := 1) hC hP hD hS [0, 1, 2] vK rfl rfl (by decide) (⟨rfl, ⟨AG.NI hag hNk, AG.VI hag hVk, AG.SC hag, hag⟩⟩) rfl gX12_again_2.2
    | succ nP ihP =>
      intro kP vK H locs ls hkP hag hPD hS hl
      refine Kan2 hPD (fun hP hD => ?_)
      refine lv_iload_n hx hb gX12_again_0.2.2.2.2.2.2.2.1 rfl (lv_at0 hl) ?_
      refine lv_sipush (v := 1662) hx hb gX12_again_0.2.2.2.2.2.2.2.2.1 (by decide) ?_
      refine lv_icmp_ge (tgt := 37) hx hb gX12_again_0.2.2.2.2.2.2.2.2.2 (by decide) (fun c9 => absurd c9 (nI_ge (a := kP) (b := 1662) (by omega) (by omega))) (fun _ => ?_)
      refine lv_aload_n hx hb gX12_again_1.1 rfl (lv_at1 hl) ?_
      refine gf_X12_9 hC rfl hK hP 0 rfl rfl gX12_again_1.2.1 ?_
      refine lv_iload_n hx hb gX12_again_1.2.2.1 rfl (lv_at0 hl) ?_
      refine lv_aload_n hx hb gX12_again_1.2.2.2.1 rfl (lv_at1 hl) ?_
      refine gf_X12_13 hC rfl hK hP 0 rfl rfl gX12_again_1.2.2.2.2.1 ?_
      refine lv_iload_n hx hb gX12_again_1.2.2.2.2.2.1 rfl (lv_at0 hl) ?_
      refine aldN hC hK hP 2 rfl (k := kP) (by omega) (Nat.le_of_ble_eq_true rfl) (v := fnk kP) rfl gX12_again_1.2.2.2.2.2.2.1 ?_
      refine lv_topi (fun x7512 ex7512 => ?_)
      refine astN hC hK hP hD hS 1 (ws' := [(h0, oX12 nw nk 1 nt mtaped nr mrowMany mroundOf mroundFrom mouts nm mfromHour mtoHour ns mfrom mto msort misFault mdeep mcoded mlines nl nc nF np ntr nb mbestCost nso nsi nit nsh nsf nss nrc mtraced mdealer mnumber mwhose msize misParted), (nw, iA G 1662 (upd vK kP x7512)), (nk, iA G 1662 fnk)]) rfl (k := kP) (by omega) (Nat.le_of_ble_eq_true rfl) (rfl) gX12_again_1.2.2.2.2.2.2.2.1 (fun H locs hP hD hS => ?_)
      refine lv_iinc (v := nI (kP + 1)) (lv' := [(1, .int (nI (kP + 1))), (0, .ref h0)]) hx hb gX12_again_1.2.2.2.2.2.2.2.2.1 hl (k := 0) rfl (nI_1 _) (by decide) rfl (fun ls hl => ?_)
      refine lv_goto (tgt := 12) hx hb gX12_again_1.2.2.2.2.2.2.2.2.2 (by decide) ?_
      exact ihP (kP + 1) (upd vK kP x7512) _ _ _ (by omega) (by first | assumption | exact Or.inl rfl | exact Or.inr rfl | exact AG.zero | exact AG.next (by assumption) (by assumption)) (And.intro hP hD) hS (lv_sub hl [0, 1] rfl)
  exact keyP 1662 0 fnw _ _ _ (by omega) (by first | assumption | exact Or.inl rfl | exact Or.inr rfl | exact AG.zero | exact AG.next (by assumption) (by assumption)) (And.intro hP hD) hS (lv_sub hl [0, 1] rfl)
