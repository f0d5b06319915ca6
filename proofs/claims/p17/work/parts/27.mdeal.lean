section WR
variable {p : Program} {l : Launch} {e : Env} {R : Room} {s : State} {m : MethodId} {args : Array Value} {below : List Frame} {meth : Method} {c : Code} {H : Heap} {locs : List Loc} {cells slots : Nat} {Q : State → Prop}
variable {pc : Nat} {ls : Array Slot} {rest : List Value} {G : GG} {ws : va_W} {A : Nat → Prop} {y0 : MethodName} {b0 : ByteArray} {mL0 : Nat} {rt0 : Option FieldType} {a : Nat} {H0 : Heap}
end WR
/-- what a kind tells of its shelf -/
def KO1 (x : Int32) (y : Int32) (k : Nat) (B : Nat) : Prop := x = nI k ∧ ∃ j, j < B ∧ y = nI j
theorem KO1.mk {x x2 y y2 : Int32} {k B kk : Nat} (hB : kk ≤ B) (hk : kk < 2 ^ 31) (ex : x2 = x) (ey : y2 = y) (c : x2 = nI k) (h : Hs y2 kk) : KO1 x y k B := by
  obtain ⟨j, hj, e⟩ := Hs_nat hk h
  exact ⟨ex.symm.trans c, j, by omega, ey.symm.trans e⟩
/-- the first n alike -/
def AG (n : Nat) (f g : Nat → Int32) : Prop := ∀ i, i < n → g i = f i
theorem AG.zero {f g : Nat → Int32} : AG 0 f g := fun i h => absurd h (Nat.not_lt_zero i)
theorem AG.next {n : Nat} {f g : Nat → Int32} {x : Int32} (h : AG n f g) (hx : x = f n) : AG (n + 1) f (upd g n x) := by
  intro i hi
  unfold upd
  by_cases c : i = n
  · rw [if_pos c, hx, c]
  · rw [if_neg c]; exact h i (by omega)
theorem AG.SC {f g : Nat → Int32} (h : AG 1662 f g) : SCX g (f 0) (f 1) (f 2) (f 3) (f 4) (f 5) (f 6) (f 8) (f 9) (f 10) (f 11) := SCX.rf.ag fun i h1 _ => h i (by omega)
theorem AG.NI {f g : Nat → Int32} (h : AG 1662 f g) (hN : NI f) : NI g := by
  intro i
  by_cases c : i < 1662
  · rw [h i c]; exact hN i
  · rw [bnd_end (by omega)]
    exact ⟨ti_lo _, ti_hi _⟩
theorem AG.VI {f g : Nat → Int32} (h : AG 1662 f g) (hV : VI f) : VI g := by
  intro v hv
  exact VOK.ext (fun j hj => (h _ (by omega)).symm) (hV v hv)
section WR
variable {p : Program} {l : Launch} {e : Env} {R : Room} {s : State} {m : MethodId} {args : Array Value} {below : List Frame} {meth : Method} {c : Code} {H : Heap} {locs : List Loc} {cells slots : Nat} {Q : State → Prop}
variable {pc : Nat} {ls : Array Slot} {rest : List Value} {G : GG} {ws : va_W} {A : Nat → Prop} {y0 : MethodName} {b0 : ByteArray} {mL0 : Nat} {rt0 : Option FieldType} {a : Nat} {H0 : Heap}
theorem gX12_kindOn_0 : (decode cX12_kindOn 0 = .ok (.aload_n 0, 1)) ∧ (decode cX12_kindOn 1 = .ok (.getfield 75, 3)) ∧ (decode cX12_kindOn 4 = .ok (.iload_n 1, 1)) ∧ (decode cX12_kindOn 5 = .ok (.iaload, 1)) ∧ (decode cX12_kindOn 6 = .ok (.istore_n 2, 1)) ∧ (decode cX12_kindOn 7 = .ok (.aload_n 0, 1)) ∧ (decode cX12_kindOn 8 = .ok (.getfield 72, 3)) ∧ (decode cX12_kindOn 11 = .ok (.iload_n 1, 1)) ∧ (decode cX12_kindOn 12 = .ok (.iaload, 1)) ∧ (decode cX12_kindOn 13 = .ok (.tableswitch 145 1 3 #[27, 98, 128], 27)) := by decide +kernel
theorem gX12_kindOn_1 : (decode cX12_kindOn 40 = .ok (.aload_n 0, 1)) ∧ (decode cX12_kindOn 41 = .ok (.iload_n 2, 1)) ∧ (decode cX12_kindOn 42 = .ok (.iconst 5, 1)) ∧ (decode cX12_kindOn 43 = .ok (.invokevirtual 120, 3)) ∧ (decode cX12_kindOn 46 = .ok (.ifCond .eq 27, 3)) ∧ (decode cX12_kindOn 49 = .ok (.aload_n 0, 1)) ∧ (decode cX12_kindOn 50 = .ok (.iload_n 2, 1)) ∧ (decode cX12_kindOn 51 = .ok (.iconst 1, 1)) ∧ (decode cX12_kindOn 52 = .ok (.invokevirtual 88, 3)) ∧ (decode cX12_kindOn 55 = .ok (.iconst 1, 1)) := by decide +kernel
theorem gX12_kindOn_2 : (decode cX12_kindOn 56 = .ok (.aload_n 0, 1)) ∧ (decode cX12_kindOn 57 = .ok (.iload_n 2, 1)) ∧ (decode cX12_kindOn 58 = .ok (.iconst 0, 1)) ∧ (decode cX12_kindOn 59 = .ok (.invokevirtual 88, 3)) ∧ (decode cX12_kindOn 62 = .ok (.ishl, 1)) ∧ (decode cX12_kindOn 63 = .ok (.iconst (-1), 1)) ∧ (decode cX12_kindOn 64 = .ok (.ixor, 1)) ∧ (decode cX12_kindOn 65 = .ok (.iand, 1)) ∧ (decode cX12_kindOn 66 = .ok (.ifCond .eq 7, 3)) ∧ (decode cX12_kindOn 69 = .ok (.iconst 1, 1)) := by decide +kernel
theorem gX12_kindOn_3 : (decode cX12_kindOn 70 = .ok (.goto 4, 3)) ∧ (decode cX12_kindOn 73 = .ok (.iconst 0, 1)) ∧ (decode cX12_kindOn 74 = .ok (.istore_n 3, 1)) ∧ (decode cX12_kindOn 75 = .ok (.aload_n 0, 1)) ∧ (decode cX12_kindOn 76 = .ok (.iload_n 2, 1)) ∧ (decode cX12_kindOn 77 = .ok (.iconst 5, 1)) ∧ (decode cX12_kindOn 78 = .ok (.invokevirtual 120, 3)) ∧ (decode cX12_kindOn 81 = .ok (.ifCond .ne 7, 3)) ∧ (decode cX12_kindOn 84 = .ok (.iconst (-1), 1)) ∧ (decode cX12_kindOn 85 = .ok (.goto 25, 3)) := by decide +kernel
theorem gX12_kindOn_4 : (decode cX12_kindOn 88 = .ok (.iload_n 3, 1)) ∧ (decode cX12_kindOn 89 = .ok (.ifCond .ne 7, 3)) ∧ (decode cX12_kindOn 92 = .ok (.iconst 2, 1)) ∧ (decode cX12_kindOn 93 = .ok (.goto 17, 3)) ∧ (decode cX12_kindOn 96 = .ok (.aload_n 0, 1)) ∧ (decode cX12_kindOn 97 = .ok (.iload_n 2, 1)) ∧ (decode cX12_kindOn 98 = .ok (.iconst 3, 1)) ∧ (decode cX12_kindOn 99 = .ok (.invokevirtual 88, 3)) ∧ (decode cX12_kindOn 102 = .ok (.ifCond .le 7, 3)) ∧ (decode cX12_kindOn 105 = .ok (.iconst 3, 1)) := by decide +kernel
theorem gX12_kindOn_5 : (decode cX12_kindOn 106 = .ok (.goto 4, 3)) ∧ (decode cX12_kindOn 109 = .ok (.iconst 1, 1)) ∧ (decode cX12_kindOn 110 = .ok (.ireturn, 1)) ∧ (decode cX12_kindOn 111 = .ok (.aload_n 0, 1)) ∧ (decode cX12_kindOn 112 = .ok (.iload_n 2, 1)) ∧ (decode cX12_kindOn 113 = .ok (.bipush 8, 2)) ∧ (decode cX12_kindOn 115 = .ok (.invokevirtual 120, 3)) ∧ (decode cX12_kindOn 118 = .ok (.ifCond .ne 7, 3)) ∧ (decode cX12_kindOn 121 = .ok (.iconst (-1), 1)) ∧ (decode cX12_kindOn 122 = .ok (.goto 18, 3)) := by decide +kernel
theorem gX12_kindOn_6 : (decode cX12_kindOn 125 = .ok (.aload_n 0, 1)) ∧ (decode cX12_kindOn 126 = .ok (.iload_n 2, 1)) ∧ (decode cX12_kindOn 127 = .ok (.bipush 6, 2)) ∧ (decode cX12_kindOn 129 = .ok (.invokevirtual 114, 3)) ∧ (decode cX12_kindOn 132 = .ok (.ifCond .ge 7, 3)) ∧ (decode cX12_kindOn 135 = .ok (.iconst 5, 1)) ∧ (decode cX12_kindOn 136 = .ok (.goto 4, 3)) ∧ (decode cX12_kindOn 139 = .ok (.iconst 4, 1)) ∧ (decode cX12_kindOn 140 = .ok (.ireturn, 1)) ∧ (decode cX12_kindOn 141 = .ok (.aload_n 0, 1)) := by decide +kernel
theorem gX12_kindOn_7 : (decode cX12_kindOn 142 = .ok (.iload_n 2, 1)) ∧ (decode cX12_kindOn 143 = .ok (.bipush 9, 2)) ∧ (decode cX12_kindOn 145 = .ok (.invokevirtual 120, 3)) ∧ (decode cX12_kindOn 148 = .ok (.ifCond .eq 8, 3)) ∧ (decode cX12_kindOn 151 = .ok (.bipush 6, 2)) ∧ (decode cX12_kindOn 153 = .ok (.goto 4, 3)) ∧ (decode cX12_kindOn 156 = .ok (.iconst (-1), 1)) ∧ (decode cX12_kindOn 157 = .ok (.ireturn, 1)) ∧ (decode cX12_kindOn 158 = .ok (.iconst (-1), 1)) ∧ (decode cX12_kindOn 159 = .ok (.ireturn, 1)) := by decide +kernel
theorem sw_1_3 {x : Int32} : ¬ x = 1 → ¬ x = 2 → ¬ x = 3 →  (x.toInt < 1 ∨ 3 < x.toInt) := by
  intros
  simp only [← Int32.toInt_inj] at *
  have hk : ∀ k : Int, x.toInt = k → x.toInt = k := fun _ h => h
  have k1 : (1 : Int32).toInt = 1 := by decide
  have k2 : (2 : Int32).toInt = 2 := by decide
  have k3 : (3 : Int32).toInt = 3 := by decide
  omega
theorem gX12_above_0 : (decode cX12_above 0 = .ok (.iload_n 0, 1)) ∧ (decode cX12_above 1 = .ok (.iconst 3, 1)) ∧ (decode cX12_above 2 = .ok (.if_icmp .ne 7, 3)) ∧ (decode cX12_above 5 = .ok (.iconst 1, 1)) ∧ (decode cX12_above 6 = .ok (.goto 21, 3)) ∧ (decode cX12_above 9 = .ok (.iload_n 0, 1)) ∧ (decode cX12_above 10 = .ok (.iconst 5, 1)) ∧ (decode cX12_above 11 = .ok (.if_icmp .ne 7, 3)) ∧ (decode cX12_above 14 = .ok (.iconst 4, 1)) ∧ (decode cX12_above 15 = .ok (.goto 12, 3)) := by decide +kernel
theorem gX12_above_1 : (decode cX12_above 18 = .ok (.iload_n 0, 1)) ∧ (decode cX12_above 19 = .ok (.ifCond .ne 7, 3)) ∧ (decode cX12_above 22 = .ok (.iconst (-1), 1)) ∧ (decode cX12_above 23 = .ok (.goto 4, 3)) ∧ (decode cX12_above 26 = .ok (.iconst 0, 1)) ∧ (decode cX12_above 27 = .ok (.ireturn, 1)) := by decide +kernel
theorem gX12_hasOwn_0 : (decode cX12_hasOwn 0 = .ok (.iload_n 0, 1)) ∧ (decode cX12_hasOwn 1 = .ok (.tableswitch 94 0 5 #[39, 41, 52, 63, 79, 79], 39)) ∧ (decode cX12_hasOwn 40 = .ok (.iconst 1, 1)) ∧ (decode cX12_hasOwn 41 = .ok (.ireturn, 1)) ∧ (decode cX12_hasOwn 42 = .ok (.iload_n 1, 1)) ∧ (decode cX12_hasOwn 43 = .ok (.iconst 1, 1)) ∧ (decode cX12_hasOwn 44 = .ok (.if_icmp .ne 7, 3)) ∧ (decode cX12_hasOwn 47 = .ok (.iconst 1, 1)) ∧ (decode cX12_hasOwn 48 = .ok (.goto 4, 3)) ∧ (decode cX12_hasOwn 51 = .ok (.iconst 0, 1)) := by decide +kernel
theorem gX12_hasOwn_1 : (decode cX12_hasOwn 52 = .ok (.ireturn, 1)) ∧ (decode cX12_hasOwn 53 = .ok (.iload_n 1, 1)) ∧ (decode cX12_hasOwn 54 = .ok (.iconst 2, 1)) ∧ (decode cX12_hasOwn 55 = .ok (.if_icmp .ne 7, 3)) ∧ (decode cX12_hasOwn 58 = .ok (.iconst 1, 1)) ∧ (decode cX12_hasOwn 59 = .ok (.goto 4, 3)) ∧ (decode cX12_hasOwn 62 = .ok (.iconst 0, 1)) ∧ (decode cX12_hasOwn 63 = .ok (.ireturn, 1)) ∧ (decode cX12_hasOwn 64 = .ok (.iload_n 1, 1)) ∧ (decode cX12_hasOwn 65 = .ok (.iconst 1, 1)) := by decide +kernel
theorem gX12_hasOwn_2 : (decode cX12_hasOwn 66 = .ok (.if_icmp .eq 8, 3)) ∧ (decode cX12_hasOwn 69 = .ok (.iload_n 1, 1)) ∧ (decode cX12_hasOwn 70 = .ok (.iconst 3, 1)) ∧ (decode cX12_hasOwn 71 = .ok (.if_icmp .ne 7, 3)) ∧ (decode cX12_hasOwn 74 = .ok (.iconst 1, 1)) ∧ (decode cX12_hasOwn 75 = .ok (.goto 4, 3)) ∧ (decode cX12_hasOwn 78 = .ok (.iconst 0, 1)) ∧ (decode cX12_hasOwn 79 = .ok (.ireturn, 1)) ∧ (decode cX12_hasOwn 80 = .ok (.iload_n 1, 1)) ∧ (decode cX12_hasOwn 81 = .ok (.ifCond .eq 8, 3)) := by decide +kernel
theorem gX12_hasOwn_3 : (decode cX12_hasOwn 84 = .ok (.iload_n 1, 1)) ∧ (decode cX12_hasOwn 85 = .ok (.iconst 2, 1)) ∧ (decode cX12_hasOwn 86 = .ok (.if_icmp .ne 7, 3)) ∧ (decode cX12_hasOwn 89 = .ok (.iconst 1, 1)) ∧ (decode cX12_hasOwn 90 = .ok (.goto 4, 3)) ∧ (decode cX12_hasOwn 93 = .ok (.iconst 0, 1)) ∧ (decode cX12_hasOwn 94 = .ok (.ireturn, 1)) ∧ (decode cX12_hasOwn 95 = .ok (.iload_n 1, 1)) ∧ (decode cX12_hasOwn 96 = .ok (.iconst 3, 1)) ∧ (decode cX12_hasOwn 97 = .ok (.if_icmp .ne 7, 3)) := by decide +kernel
theorem gX12_hasOwn_4 : (decode cX12_hasOwn 100 = .ok (.iconst 1, 1)) ∧ (decode cX12_hasOwn 101 = .ok (.goto 4, 3)) ∧ (decode cX12_hasOwn 104 = .ok (.iconst 0, 1)) ∧ (decode cX12_hasOwn 105 = .ok (.ireturn, 1)) := by decide +kernel
end WR
/-- the reference's word for the kind of what a shelf holds -/
noncomputable def KOM (s o : Int32) (kp ks kf : Nat) (gp gs : Nat → Int32) : Int32 := ifc (s = 1) (ifc (Hs o kp) (nI (PKn (gp (o.toNatClampNeg * 6 + 1)) (gp (o.toNatClampNeg * 6 + 0)) (gp (o.toNatClampNeg * 6 + 3)))) (-1)) (ifc (s = 2) (ifc (Hs o ks) (nI (SKn (gs (o.toNatClampNeg * 8 + 6)))) (-1)) (ifc (s = 3) (ifc (Hs o kf) 6 (-1)) (-1)))
theorem wi_ten {x : Int32} : Wi (x - 10) 0 4 ↔ Wi x 10 14 := by
  constructor
  · intro h
    obtain ⟨j, hj, e⟩ := Wi_nat (N := 4) (by decide) h
    have h1 : x - 10 + 10 = x := by rw [Int32.sub_add_cancel]
    rw [e] at h1
    have e2 : x = nI (j + 10) := h1.symm.trans (nI_add j 10)
    rw [e2, wi_lit (a := 10) (b := 14) (by omega) (by decide) (by decide)]
    omega
  · intro h
    have h0 : ¬ x < 0 := fun h9 => h.1 (by
      rw [Int32.lt_iff_toInt_lt] at h9 ⊢
      have e0 : (0 : Int32).toInt = 0 := by decide
      have e10 : (10 : Int32).toInt = 10 := by decide
      omega)
    obtain ⟨n, hn, rfl⟩ := nI_of h0
    rw [wi_lit (a := 10) (b := 14) hn (by decide) (by decide)] at h
    have e2 : nI n - 10 = nI (n - 10) := pk_sub (b := 10) (by omega)
    rw [e2, wi_lit (a := 0) (b := 4) (by omega) (by decide) (by decide)]
    omega
section WR
variable {p : Program} {l : Launch} {e : Env} {R : Room} {s : State} {m : MethodId} {args : Array Value} {below : List Frame} {meth : Method} {c : Code} {H : Heap} {locs : List Loc} {cells slots : Nat} {Q : State → Prop}
variable {pc : Nat} {ls : Array Slot} {rest : List Value} {G : GG} {ws : va_W} {A : Nat → Prop} {y0 : MethodName} {b0 : ByteArray} {mL0 : Nat} {rt0 : Option FieldType} {a : Nat} {H0 : Heap}
theorem gX12_taken_0 : (decode cX12_taken 0 = .ok (.iload_n 1, 1)) ∧ (decode cX12_taken 1 = .ok (.invokestatic 336, 3)) ∧ (decode cX12_taken 4 = .ok (.ifCond .eq 24, 3)) ∧ (decode cX12_taken 7 = .ok (.iload_n 2, 1)) ∧ (decode cX12_taken 8 = .ok (.iconst 0, 1)) ∧ (decode cX12_taken 9 = .ok (.bipush 6, 2)) ∧ (decode cX12_taken 11 = .ok (.invokestatic 84, 3)) ∧ (decode cX12_taken 14 = .ok (.ifCond .ne 16, 3)) ∧ (decode cX12_taken 17 = .ok (.iload_n 2, 1)) ∧ (decode cX12_taken 18 = .ok (.bipush 10, 2)) := by decide +kernel
theorem gX12_taken_1 : (decode cX12_taken 20 = .ok (.bipush 14, 2)) ∧ (decode cX12_taken 22 = .ok (.invokestatic 84, 3)) ∧ (decode cX12_taken 25 = .ok (.ifCond .ne 5, 3)) ∧ (decode cX12_taken 28 = .ok (.iconst (-1), 1)) ∧ (decode cX12_taken 29 = .ok (.ireturn, 1)) ∧ (decode cX12_taken 30 = .ok (.aload_n 0, 1)) ∧ (decode cX12_taken 31 = .ok (.getfield 72, 3)) ∧ (decode cX12_taken 34 = .ok (.iload_n 1, 1)) ∧ (decode cX12_taken 35 = .ok (.iaload, 1)) ∧ (decode cX12_taken 36 = .ok (.iconst 4, 1)) := by decide +kernel
theorem gX12_taken_2 : (decode cX12_taken 37 = .ok (.if_icmp .ne 28, 3)) ∧ (decode cX12_taken 40 = .ok (.iload_n 2, 1)) ∧ (decode cX12_taken 41 = .ok (.bipush 10, 2)) ∧ (decode cX12_taken 43 = .ok (.isub, 1)) ∧ (decode cX12_taken 44 = .ok (.aload_n 0, 1)) ∧ (decode cX12_taken 45 = .ok (.getfield 75, 3)) ∧ (decode cX12_taken 48 = .ok (.iload_n 1, 1)) ∧ (decode cX12_taken 49 = .ok (.iaload, 1)) ∧ (decode cX12_taken 50 = .ok (.if_icmp .ne 12, 3)) ∧ (decode cX12_taken 53 = .ok (.aload_n 0, 1)) := by decide +kernel
theorem gX12_taken_3 : (decode cX12_taken 54 = .ok (.getfield 78, 3)) ∧ (decode cX12_taken 57 = .ok (.iload_n 1, 1)) ∧ (decode cX12_taken 58 = .ok (.iaload, 1)) ∧ (decode cX12_taken 59 = .ok (.goto 5, 3)) ∧ (decode cX12_taken 62 = .ok (.bipush (-13), 2)) ∧ (decode cX12_taken 64 = .ok (.ireturn, 1)) ∧ (decode cX12_taken 65 = .ok (.aload_n 0, 1)) ∧ (decode cX12_taken 66 = .ok (.iload_n 1, 1)) ∧ (decode cX12_taken 67 = .ok (.invokevirtual 345, 3)) ∧ (decode cX12_taken 70 = .ok (.istore_n 3, 1)) := by decide +kernel
theorem m_1387 : Cond.code yX12_kindOn cX12_kindOn 4 (some .int) ∈ BW := iB_BW74 _ (List.mem_of_getElem? (i := 3) rfl)
theorem m_1385 : Cond.methodLink RX12 345 yX12_kindOn ∈ BW := iB_BW74 _ (List.mem_of_getElem? (i := 1) rfl)
theorem m_1386 : Cond.instanceMethod yX12_kindOn ∈ BW := iB_BW74 _ (List.mem_of_getElem? (i := 2) rfl)
theorem m_97 : Cond.selects RX12 yX12_kindOn yX12_kindOn ∈ BW := iB_BW4 _ (List.mem_of_getElem? (i := 17) rfl)
theorem si_X12_345 : SV RX12 RX12 345 yX12_kindOn cX12_kindOn 4 (some .int) 1 := ⟨⟨m_1385, m_1386, m_97, m_115, m_1387⟩, rfl, nK_RX12.1, nK_RX12.2, pd_7⟩
theorem gX12_taken_4 : (decode cX12_taken 71 = .ok (.iload_n 3, 1)) ∧ (decode cX12_taken 72 = .ok (.ifCond .ge 6, 3)) ∧ (decode cX12_taken 75 = .ok (.bipush (-11), 2)) ∧ (decode cX12_taken 77 = .ok (.ireturn, 1)) ∧ (decode cX12_taken 78 = .ok (.iload_n 3, 1)) ∧ (decode cX12_taken 79 = .ok (.ifCond .lt 16, 3)) ∧ (decode cX12_taken 82 = .ok (.iload_n 3, 1)) ∧ (decode cX12_taken 83 = .ok (.iload_n 2, 1)) ∧ (decode cX12_taken 84 = .ok (.if_icmp .eq 11, 3)) ∧ (decode cX12_taken 87 = .ok (.iload_n 3, 1)) := by decide +kernel
theorem gX12_taken_5 : (decode cX12_taken 88 = .ok (.invokestatic 348, 3)) ∧ (decode cX12_taken 91 = .ok (.istore_n 3, 1)) ∧ (decode cX12_taken 92 = .ok (.goto (-14), 3)) ∧ (decode cX12_taken 95 = .ok (.iload_n 3, 1)) ∧ (decode cX12_taken 96 = .ok (.iload_n 2, 1)) ∧ (decode cX12_taken 97 = .ok (.if_icmp .ne 12, 3)) ∧ (decode cX12_taken 100 = .ok (.aload_n 0, 1)) ∧ (decode cX12_taken 101 = .ok (.getfield 75, 3)) ∧ (decode cX12_taken 104 = .ok (.iload_n 1, 1)) ∧ (decode cX12_taken 105 = .ok (.iaload, 1)) := by decide +kernel
theorem gX12_taken_6 : (decode cX12_taken 106 = .ok (.goto 5, 3)) ∧ (decode cX12_taken 109 = .ok (.bipush (-13), 2)) ∧ (decode cX12_taken 111 = .ok (.ireturn, 1)) := by decide +kernel
theorem m_1390 : Cond.code yX12_above cX12_above 1 (some .int) ∈ BW := iB_BW74 _ (List.mem_of_getElem? (i := 6) rfl)
theorem m_1388 : Cond.methodLink RX12 348 yX12_above ∈ BW := iB_BW74 _ (List.mem_of_getElem? (i := 4) rfl)
theorem m_1389 : Cond.static yX12_above ∈ BW := iB_BW74 _ (List.mem_of_getElem? (i := 5) rfl)
theorem si_X12_348 : SS RX12 348 yX12_above cX12_above 1 (some .int) 1 := ⟨⟨m_1388, m_1389, m_115, m_1390⟩, ⟨nK_RX12.1, nK_RX12.2, pd_7⟩⟩
end WR
theorem TK.cg {x1 x2 : Int32} {hw hn ht sh sf ss fp gp fs gs : Nat → Int32} {kp ks kf : Nat} (h : SLR hw hn ht sh sf ss) (hp : ∀ i, i < 72 → gp i = fp i) (hs : ∀ i, i < 128 → gs i = fs i) (hkp : kp ≤ 12) (hks : ks ≤ 16) : ifc (Wi x1 0 3) (ifc (Wi x2 0 6 ∨ Wi (x2 - 10) 0 4) (ifc (HLD (hw x1.toNatClampNeg) (hn x1.toNatClampNeg) kp ks kf = 4) (-11) (ifc (hw x1.toNatClampNeg = 3) (ifc (ht x1.toNatClampNeg = x2 - 10) (hn x1.toNatClampNeg) (-13)) (ifc (UNl (KNn (hw x1.toNatClampNeg) (hn x1.toNatClampNeg).toNatClampNeg fp fs) x2) (hn x1.toNatClampNeg) (-13)))) (-1)) (-1) = ifc (Wi x1 0 3) (ifc (Wi x2 0 6 ∨ Wi x2 10 14) (ifc (sh x1.toNatClampNeg = 4) (ifc (x2 - 10 = sf x1.toNatClampNeg) (ss x1.toNatClampNeg) (-13)) (ifc (KOM (sh x1.toNatClampNeg) (sf x1.toNatClampNeg) kp ks kf gp gs < 0) (-11) (ifc (UNl (KOM (sh x1.toNatClampNeg) (sf x1.toNatClampNeg) kp ks kf gp gs).toNatClampNeg x2) (sf x1.toNatClampNeg) (-13)))) (-1)) (-1) := by
  by_cases c1 : Wi x1 0 3
  · rw [ifc_t c1, ifc_t c1]
    obtain ⟨j, hj, rfl⟩ := Wi3 c1
    rw [nI_clamp (n := j) (by omega)]
    have hc : (Wi x2 0 6 ∨ Wi (x2 - 10) 0 4) = (Wi x2 0 6 ∨ Wi x2 10 14) := by rw [propext wi_ten]
    rw [hc]
    refine ifc_cg fun _ => ?_
    have n34 : ¬ (3 : Int32) = 4 := by decide
    rcases h j hj with ⟨a1, a2⟩ | ⟨a1, a2, a3⟩ | ⟨a1, a2, a3⟩ | ⟨a1, a2, a3⟩ | ⟨a1, a2, a3, a4, a5⟩
    · have e1 : HLD 4 (hn j) kp ks kf = 4 := by unfold HLD; rw [ifc_f (q := (4 : Int32) = 0) (by decide), ifc_f (q := (4 : Int32) = 1) (by decide), ifc_f (q := (4 : Int32) = 2) (by decide)]
      have e2 : KOM 0 (sf j) kp ks kf gp gs = (-1) := by unfold KOM; rw [ifc_f (q := (0 : Int32) = 1) (by decide), ifc_f (q := (0 : Int32) = 2) (by decide), ifc_f (q := (0 : Int32) = 3) (by decide)]
      rw [a1, a2, e1, e2, ifc_t (q := (4 : Int32) = 4) rfl, ifc_f (q := (0 : Int32) = 4) (by decide), ifc_t (q := (-1 : Int32) < 0) (by decide)]
    · have e1 : HLD 0 (sf j) kp ks kf = ifc (Hs (sf j) kp) 0 4 := by unfold HLD; rw [ifc_t (q := (0 : Int32) = 0) rfl]
      have e2 : KOM 1 (sf j) kp ks kf gp gs = ifc (Hs (sf j) kp) (nI (PKn (gp ((sf j).toNatClampNeg * 6 + 1)) (gp ((sf j).toNatClampNeg * 6 + 0)) (gp ((sf j).toNatClampNeg * 6 + 3)))) (-1) := by unfold KOM; rw [ifc_t (q := (1 : Int32) = 1) rfl]
      rw [a1, a2, a3, ifc_f (q := (1 : Int32) = 4) (by decide), e1, e2]
      by_cases c2 : Hs (sf j) kp
      · have e3 : KNn 0 (sf j).toNatClampNeg fp fs = PKn (gp ((sf j).toNatClampNeg * 6 + 1)) (gp ((sf j).toNatClampNeg * 6 + 0)) (gp ((sf j).toNatClampNeg * 6 + 3)) := by
          have hb := Hs_at (by omega) c2
          unfold KNn
          rw [ifn_t (q := (0 : Int32) = 0) rfl, hp ((sf j).toNatClampNeg * 6 + 1) (by omega), hp ((sf j).toNatClampNeg * 6 + 0) (by omega), hp ((sf j).toNatClampNeg * 6 + 3) (by omega)]
        have hl : PKn (gp ((sf j).toNatClampNeg * 6 + 1)) (gp ((sf j).toNatClampNeg * 6 + 0)) (gp ((sf j).toNatClampNeg * 6 + 3)) < 7 := PKn.lt
        rw [ifc_t c2, ifc_t c2, ifc_f (q := (0 : Int32) = 4) (by decide), ifc_f (q := (0 : Int32) = 3) (by decide), e3, ifc_f (q := nI (PKn (gp ((sf j).toNatClampNeg * 6 + 1)) (gp ((sf j).toNatClampNeg * 6 + 0)) (gp ((sf j).toNatClampNeg * 6 + 3))) < 0) (nI_nn (by omega)), nI_clamp (n := PKn (gp ((sf j).toNatClampNeg * 6 + 1)) (gp ((sf j).toNatClampNeg * 6 + 0)) (gp ((sf j).toNatClampNeg * 6 + 3))) (by omega)]
      · rw [ifc_f c2, ifc_f c2, ifc_t (q := (4 : Int32) = 4) rfl, ifc_t (q := (-1 : Int32) < 0) (by decide)]
    · have e1 : HLD 1 (sf j) kp ks kf = ifc (Hs (sf j) ks) 1 4 := by unfold HLD; rw [ifc_f (q := (1 : Int32) = 0) (by decide), ifc_t (q := (1 : Int32) = 1) rfl]
      have e2 : KOM 2 (sf j) kp ks kf gp gs = ifc (Hs (sf j) ks) (nI (SKn (gs ((sf j).toNatClampNeg * 8 + 6)))) (-1) := by unfold KOM; rw [ifc_f (q := (2 : Int32) = 1) (by decide), ifc_t (q := (2 : Int32) = 2) rfl]
      rw [a1, a2, a3, ifc_f (q := (2 : Int32) = 4) (by decide), e1, e2]
      by_cases c2 : Hs (sf j) ks
      · have e3 : KNn 1 (sf j).toNatClampNeg fp fs = SKn (gs ((sf j).toNatClampNeg * 8 + 6)) := by
          have hb := Hs_at (by omega) c2
          unfold KNn
          rw [ifn_f (q := (1 : Int32) = 0) (by decide), ifn_t (q := (1 : Int32) = 1) rfl, hs ((sf j).toNatClampNeg * 8 + 6) (by omega)]
        have hl : SKn (gs ((sf j).toNatClampNeg * 8 + 6)) < 7 := SKn.lt
        rw [ifc_t c2, ifc_t c2, ifc_f (q := (1 : Int32) = 4) (by decide), ifc_f (q := (1 : Int32) = 3) (by decide), e3, ifc_f (q := nI (SKn (gs ((sf j).toNatClampNeg * 8 + 6))) < 0) (nI_nn (by omega)), nI_clamp (n := SKn (gs ((sf j).toNatClampNeg * 8 + 6))) (by omega)]
      · rw [ifc_f c2, ifc_f c2, ifc_t (q := (4 : Int32) = 4) rfl, ifc_t (q := (-1 : Int32) < 0) (by decide)]
    · have e1 : HLD 2 (sf j) kp ks kf = ifc (Hs (sf j) kf) 2 4 := by unfold HLD; rw [ifc_f (q := (2 : Int32) = 0) (by decide), ifc_f (q := (2 : Int32) = 1) (by decide), ifc_t (q := (2 : Int32) = 2) rfl]
      have e2 : KOM 3 (sf j) kp ks kf gp gs = ifc (Hs (sf j) kf) 6 (-1) := by unfold KOM; rw [ifc_f (q := (3 : Int32) = 1) (by decide), ifc_f (q := (3 : Int32) = 2) (by decide), ifc_t (q := (3 : Int32) = 3) rfl]
      rw [a1, a2, a3, ifc_f n34, e1, e2]
      by_cases c2 : Hs (sf j) kf
      · have e3 : KNn 2 (sf j).toNatClampNeg fp fs = 6 := by unfold KNn; rw [ifn_f (q := (2 : Int32) = 0) (by decide), ifn_f (q := (2 : Int32) = 1) (by decide)]
        have e6 : (6 : Int32).toNatClampNeg = 6 := by decide
        rw [ifc_t c2, ifc_t c2, ifc_f (q := (2 : Int32) = 4) (by decide), ifc_f (q := (2 : Int32) = 3) (by decide), e3, ifc_f (q := (6 : Int32) < 0) (by decide), e6]
      · rw [ifc_f c2, ifc_f c2, ifc_t (q := (4 : Int32) = 4) rfl, ifc_t (q := (-1 : Int32) < 0) (by decide)]
    · have e1 : HLD 3 (hn j) kp ks kf = 3 := by unfold HLD; rw [ifc_f (q := (3 : Int32) = 0) (by decide), ifc_f (q := (3 : Int32) = 1) (by decide), ifc_f (q := (3 : Int32) = 2) (by decide)]
      rw [a1, a2, e1, ifc_f n34, ifc_t (q := (3 : Int32) = 3) rfl, ifc_t (q := (4 : Int32) = 4) rfl, a3, a4]
      by_cases c5 : sf j = x2 - 10
      · rw [ifc_t c5, ifc_t c5.symm]
      · rw [ifc_f c5, ifc_f (fun h9 => c5 h9.symm)]
  · rw [ifc_f c1, ifc_f c1]
section WR
variable {p : Program} {l : Launch} {e : Env} {R : Room} {s : State} {m : MethodId} {args : Array Value} {below : List Frame} {meth : Method} {c : Code} {H : Heap} {locs : List Loc} {cells slots : Nat} {Q : State → Prop}
variable {pc : Nat} {ls : Array Slot} {rest : List Value} {G : GG} {ws : va_W} {A : Nat → Prop} {y0 : MethodName} {b0 : ByteArray} {mL0 : Nat} {rt0 : Option FieldType} {a : Nat} {H0 : Heap}
theorem gX12_began_0 : (decode cX12_began 0 = .ok (.aload_n 0, 1)) ∧ (decode cX12_began 1 = .ok (.getfield 351, 3)) ∧ (decode cX12_began 4 = .ok (.bipush 30, 2)) ∧ (decode cX12_began 6 = .ok (.if_icmp .ge 23, 3)) ∧ (decode cX12_began 9 = .ok (.aload_n 0, 1)) ∧ (decode cX12_began 10 = .ok (.getfield 81, 3)) ∧ (decode cX12_began 13 = .ok (.aload_n 0, 1)) ∧ (decode cX12_began 14 = .ok (.getfield 351, 3)) ∧ (decode cX12_began 17 = .ok (.iload_n 1, 1)) ∧ (decode cX12_began 18 = .ok (.iastore, 1)) := by decide +kernel
theorem m_1065 : Cond.fieldLink RX12 351 "InquiryBenchModel" "traced" "I" ∈ BW := iB_BW56 _ (List.mem_of_getElem? (i := 14) rfl)
theorem gf_X12_351 (hC : CX p s m meth c y0 b0 mL0 rt0 args) (hy0 : y0.cls = RX12) (hK : KK G s) (hP : va_P G.1 vwCl ws H) (q0 : Nat) {fs : List Value} {v : Value} (he : ws[q0]? = some (a, .inr (12, fs))) (hv : fs[35]? = some v) (hdg : decode b0 pc = .ok (.getfield 351, 3)) (kk : W p l e R s m args below meth c H locs cells slots Q (F0 m (pc + 3) ls (v :: rest))) : W p l e R s m args below meth c H locs cells slots Q (F0 m pc ls (.ref a :: rest)) := by
  obtain ⟨hx, hb, hr, hml, hB, hown, hlocks, hnm⟩ := hC
  rw [hy0] at hown
  exact va_get (ci := 12) (C := RX12) (T := TX12) (N := 41) hx hb hB in_X12 hown hK.1 hP q0 he rfl 35 (by decide) (hB _ m_1065) (fun _ h => h) hv hdg kk
theorem gX12_began_1 : (decode cX12_began 19 = .ok (.aload_n 0, 1)) ∧ (decode cX12_began 20 = .ok (.dup, 1)) ∧ (decode cX12_began 21 = .ok (.getfield 351, 3)) ∧ (decode cX12_began 24 = .ok (.iconst 1, 1)) ∧ (decode cX12_began 25 = .ok (.iadd, 1)) ∧ (decode cX12_began 26 = .ok (.putfield 351, 3)) ∧ (decode cX12_began 29 = .ok (.return_, 1)) := by decide +kernel
theorem m_1064 : Cond.fieldLink RX12 81 "InquiryBenchModel" "trace" "[I" ∈ BW := iB_BW56 _ (List.mem_of_getElem? (i := 13) rfl)
theorem gf_X12_81 (hC : CX p s m meth c y0 b0 mL0 rt0 args) (hy0 : y0.cls = RX12) (hK : KK G s) (hP : va_P G.1 vwCl ws H) (q0 : Nat) {fs : List Value} {v : Value} (he : ws[q0]? = some (a, .inr (12, fs))) (hv : fs[34]? = some v) (hdg : decode b0 pc = .ok (.getfield 81, 3)) (kk : W p l e R s m args below meth c H locs cells slots Q (F0 m (pc + 3) ls (v :: rest))) : W p l e R s m args below meth c H locs cells slots Q (F0 m pc ls (.ref a :: rest)) := by
  obtain ⟨hx, hb, hr, hml, hB, hown, hlocks, hnm⟩ := hC
  rw [hy0] at hown
  exact va_get (ci := 12) (C := RX12) (T := TX12) (N := 41) hx hb hB in_X12 hown hK.1 hP q0 he rfl 34 (by decide) (hB _ m_1064) (fun _ h => h) hv hdg kk
theorem pf_X12_351 (hC : CX p s m meth c y0 b0 mL0 rt0 args) (hy0 : y0.cls = RX12) (hK : KK G s) (hP : va_P G.1 vwCl ws H) (hD : va_D A ws) (hS : va_S A H0 H locs) (q0 : Nat) {fs : List Value} {v : Value} {ws' : va_W} (he : ws[q0]? = some (a, .inr (12, fs))) (hl : 35 < fs.length) (hws : ws.set q0 (a, .inr (12, fs.set 35 v)) = ws') (hn : narrow .int v = v) (hfit : fits .int v = true) (hdg : decode b0 pc = .ok (.putfield 351, 3)) (kk : ∀ (H1 : Heap) (locs1 : List Loc), va_P G.1 vwCl ws' H1 → va_D A ws' → va_S A H0 H1 locs1 → W p l e R s m args below meth c H1 locs1 cells slots Q (F0 m (pc + 3) ls rest)) : W p l e R s m args below meth c H locs cells slots Q (F0 m pc ls (v :: .ref a :: rest)) := by
  obtain ⟨hx, hb, hr, hml, hB, hown, hlocks, hnm⟩ := hC
  rw [hy0] at hown
  subst hws
  exact va_put (ci := 12) (ty := .int) (C := RX12) (T := TX12) (N := 41) hx hb hB in_X12 tyX12 tyX12_ok nmX12 hown hK.1 hP hD hS q0 he rfl 35 (by decide) (hB _ m_1065) (fun _ h => h) rfl (by decide +kernel) hn hfit hl hdg kk
end WR
theorem nz_sub {a b : Int32} (h : ¬ a = b) : ¬ a - b = 0 := by
  intro h9
  apply h
  have e : a - b + b = 0 + b := by rw [h9]
  rw [Int32.sub_add_cancel, Int32.zero_add] at e
  exact e
section WR
variable {p : Program} {l : Launch} {e : Env} {R : Room} {s : State} {m : MethodId} {args : Array Value} {below : List Frame} {meth : Method} {c : Code} {H : Heap} {locs : List Loc} {cells slots : Nat} {Q : State → Prop}
variable {pc : Nat} {ls : Array Slot} {rest : List Value} {G : GG} {ws : va_W} {A : Nat → Prop} {y0 : MethodName} {b0 : ByteArray} {mL0 : Nat} {rt0 : Option FieldType} {a : Nat} {H0 : Heap}
theorem gX12_body_0 : (decode cX12_body 0 = .ok (.iconst 4, 1)) ∧ (decode cX12_body 1 = .ok (.iload_n 1, 1)) ∧ (decode cX12_body 2 = .ok (.imul, 1)) ∧ (decode cX12_body 3 = .ok (.iload_n 2, 1)) ∧ (decode cX12_body 4 = .ok (.iadd, 1)) ∧ (decode cX12_body 5 = .ok (.tableswitch 348 0 22 #[107, 120, 135, 153, 348, 202, 348, 348, 348, 348, 221, 348, 348, 237, 348, 253, 269, 348, 288, 348, 329, 348, 313], 107)) ∧ (decode cX12_body 112 = .ok (.aload_n 0, 1)) ∧ (decode cX12_body 113 = .ok (.bipush 10, 2)) ∧ (decode cX12_body 115 = .ok (.invokevirtual 366, 3)) ∧ (decode cX12_body 118 = .ok (.iload_n 3, 1)) := by decide +kernel
theorem m_1409 : Cond.code yX12_began cX12_began 2 none ∈ BW := iB_BW75 _ (List.mem_of_getElem? (i := 5) rfl)
theorem m_1407 : Cond.methodLink RX12 366 yX12_began ∈ BW := iB_BW75 _ (List.mem_of_getElem? (i := 3) rfl)
theorem m_1408 : Cond.instanceMethod yX12_began ∈ BW := iB_BW75 _ (List.mem_of_getElem? (i := 4) rfl)
theorem m_101 : Cond.selects RX12 yX12_began yX12_began ∈ BW := iB_BW5 _ (List.mem_of_getElem? (i := 1) rfl)
theorem si_X12_366 : SV RX12 RX12 366 yX12_began cX12_began 2 none 1 := ⟨⟨m_1407, m_1408, m_101, m_115, m_1409⟩, rfl, nK_RX12.1, nK_RX12.2, pd_18⟩
theorem gX12_body_1 : (decode cX12_body 119 = .ok (.aload_n 0, 1)) ∧ (decode cX12_body 120 = .ok (.getfield 369, 3)) ∧ (decode cX12_body 123 = .ok (.iadd, 1)) ∧ (decode cX12_body 124 = .ok (.ireturn, 1)) ∧ (decode cX12_body 125 = .ok (.aload_n 0, 1)) ∧ (decode cX12_body 126 = .ok (.bipush 11, 2)) ∧ (decode cX12_body 128 = .ok (.invokevirtual 366, 3)) ∧ (decode cX12_body 131 = .ok (.aload_n 0, 1)) ∧ (decode cX12_body 132 = .ok (.iconst 0, 1)) ∧ (decode cX12_body 133 = .ok (.iload_n 3, 1)) := by decide +kernel
theorem m_1069 : Cond.fieldLink RX12 369 "InquiryBenchModel" "size" "I" ∈ BW := iB_BW56 _ (List.mem_of_getElem? (i := 18) rfl)
theorem gf_X12_369 (hC : CX p s m meth c y0 b0 mL0 rt0 args) (hy0 : y0.cls = RX12) (hK : KK G s) (hP : va_P G.1 vwCl ws H) (q0 : Nat) {fs : List Value} {v : Value} (he : ws[q0]? = some (a, .inr (12, fs))) (hv : fs[39]? = some v) (hdg : decode b0 pc = .ok (.getfield 369, 3)) (kk : W p l e R s m args below meth c H locs cells slots Q (F0 m (pc + 3) ls (v :: rest))) : W p l e R s m args below meth c H locs cells slots Q (F0 m pc ls (.ref a :: rest)) := by
  obtain ⟨hx, hb, hr, hml, hB, hown, hlocks, hnm⟩ := hC
  rw [hy0] at hown
  exact va_get (ci := 12) (C := RX12) (T := TX12) (N := 41) hx hb hB in_X12 hown hK.1 hP q0 he rfl 39 (by decide) (hB _ m_1069) (fun _ h => h) hv hdg kk
theorem gX12_bodyFrom_0 : (decode cX12_bodyFrom 0 = .ok (.iload_n 1, 1)) ∧ (decode cX12_bodyFrom 1 = .ok (.istore 4, 2)) ∧ (decode cX12_bodyFrom 3 = .ok (.iload 4, 2)) ∧ (decode cX12_bodyFrom 5 = .ok (.iload_n 2, 1)) ∧ (decode cX12_bodyFrom 6 = .ok (.invokestatic 360, 3)) ∧ (decode cX12_bodyFrom 9 = .ok (.ifCond .ne 13, 3)) ∧ (decode cX12_bodyFrom 12 = .ok (.iload 4, 2)) ∧ (decode cX12_bodyFrom 14 = .ok (.invokestatic 348, 3)) ∧ (decode cX12_bodyFrom 17 = .ok (.istore 4, 2)) ∧ (decode cX12_bodyFrom 19 = .ok (.goto (-16), 3)) := by decide +kernel
theorem m_1403 : Cond.code yX12_hasOwn cX12_hasOwn 2 (some .boolean) ∈ BW := iB_BW74 _ (List.mem_of_getElem? (i := 19) rfl)
theorem m_1401 : Cond.methodLink RX12 360 yX12_hasOwn ∈ BW := iB_BW74 _ (List.mem_of_getElem? (i := 17) rfl)
theorem m_1402 : Cond.static yX12_hasOwn ∈ BW := iB_BW74 _ (List.mem_of_getElem? (i := 18) rfl)
theorem si_X12_360 : SS RX12 360 yX12_hasOwn cX12_hasOwn 2 (some .boolean) 2 := ⟨⟨m_1401, m_1402, m_115, m_1403⟩, ⟨nK_RX12.1, nK_RX12.2, pd_3⟩⟩
theorem gX12_bodyFrom_1 : (decode cX12_bodyFrom 22 = .ok (.aload_n 0, 1)) ∧ (decode cX12_bodyFrom 23 = .ok (.iload 4, 2)) ∧ (decode cX12_bodyFrom 25 = .ok (.iload_n 2, 1)) ∧ (decode cX12_bodyFrom 26 = .ok (.iload_n 3, 1)) ∧ (decode cX12_bodyFrom 27 = .ok (.invokevirtual 363, 3)) ∧ (decode cX12_bodyFrom 30 = .ok (.ireturn, 1)) := by decide +kernel
theorem m_1406 : Cond.code yX12_body cX12_body 6 (some .int) ∈ BW := iB_BW75 _ (List.mem_of_getElem? (i := 2) rfl)
theorem m_1404 : Cond.methodLink RX12 363 yX12_body ∈ BW := iB_BW75 _ (List.mem_of_getElem? (i := 0) rfl)
theorem m_1405 : Cond.instanceMethod yX12_body ∈ BW := iB_BW75 _ (List.mem_of_getElem? (i := 1) rfl)
theorem m_100 : Cond.selects RX12 yX12_body yX12_body ∈ BW := iB_BW5 _ (List.mem_of_getElem? (i := 0) rfl)
theorem si_X12_363 : SV RX12 RX12 363 yX12_body cX12_body 6 (some .int) 3 := ⟨⟨m_1404, m_1405, m_100, m_115, m_1406⟩, rfl, nK_RX12.1, nK_RX12.2, pd_19⟩
theorem gX12_body_10 : (decode cX12_body 266 = .ok (.iconst 3, 1)) ∧ (decode cX12_body 267 = .ok (.iload_n 3, 1)) ∧ (decode cX12_body 268 = .ok (.iconst 2, 1)) ∧ (decode cX12_body 269 = .ok (.iadd, 1)) ∧ (decode cX12_body 270 = .ok (.invokevirtual 357, 3)) ∧ (decode cX12_body 273 = .ok (.ireturn, 1)) ∧ (decode cX12_body 274 = .ok (.aload_n 0, 1)) ∧ (decode cX12_body 275 = .ok (.bipush 50, 2)) ∧ (decode cX12_body 277 = .ok (.invokevirtual 366, 3)) ∧ (decode cX12_body 280 = .ok (.aload_n 0, 1)) := by decide +kernel
theorem gX12_body_11 : (decode cX12_body 281 = .ok (.iconst 0, 1)) ∧ (decode cX12_body 282 = .ok (.iconst 0, 1)) ∧ (decode cX12_body 283 = .ok (.iload_n 3, 1)) ∧ (decode cX12_body 284 = .ok (.invokevirtual 357, 3)) ∧ (decode cX12_body 287 = .ok (.aload_n 0, 1)) ∧ (decode cX12_body 288 = .ok (.getfield 378, 3)) ∧ (decode cX12_body 291 = .ok (.isub, 1)) ∧ (decode cX12_body 292 = .ok (.ireturn, 1)) ∧ (decode cX12_body 293 = .ok (.aload_n 0, 1)) ∧ (decode cX12_body 294 = .ok (.bipush 51, 2)) := by decide +kernel
theorem m_1400 : Cond.code yX12_bodyFrom cX12_bodyFrom 5 (some .int) ∈ BW := iB_BW74 _ (List.mem_of_getElem? (i := 16) rfl)
theorem m_1398 : Cond.methodLink RX12 357 yX12_bodyFrom ∈ BW := iB_BW74 _ (List.mem_of_getElem? (i := 14) rfl)
theorem m_1399 : Cond.instanceMethod yX12_bodyFrom ∈ BW := iB_BW74 _ (List.mem_of_getElem? (i := 15) rfl)
theorem m_99 : Cond.selects RX12 yX12_bodyFrom yX12_bodyFrom ∈ BW := iB_BW4 _ (List.mem_of_getElem? (i := 19) rfl)
theorem si_X12_357 : SV RX12 RX12 357 yX12_bodyFrom cX12_bodyFrom 5 (some .int) 3 := ⟨⟨m_1398, m_1399, m_99, m_115, m_1400⟩, rfl, nK_RX12.1, nK_RX12.2, pd_19⟩
theorem m_1067 : Cond.fieldLink RX12 378 "InquiryBenchModel" "numbe\x72" "I" ∈ BW := iB_BW56 _ (List.mem_of_getElem? (i := 16) rfl)
theorem gf_X12_378 (hC : CX p s m meth c y0 b0 mL0 rt0 args) (hy0 : y0.cls = RX12) (hK : KK G s) (hP : va_P G.1 vwCl ws H) (q0 : Nat) {fs : List Value} {v : Value} (he : ws[q0]? = some (a, .inr (12, fs))) (hv : fs[37]? = some v) (hdg : decode b0 pc = .ok (.getfield 378, 3)) (kk : W p l e R s m args below meth c H locs cells slots Q (F0 m (pc + 3) ls (v :: rest))) : W p l e R s m args below meth c H locs cells slots Q (F0 m pc ls (.ref a :: rest)) := by
  obtain ⟨hx, hb, hr, hml, hB, hown, hlocks, hnm⟩ := hC
  rw [hy0] at hown
  exact va_get (ci := 12) (C := RX12) (T := TX12) (N := 41) hx hb hB in_X12 hown hK.1 hP q0 he rfl 37 (by decide) (hB _ m_1067) (fun _ h => h) hv hdg kk
theorem gX12_body_14 : (decode cX12_body 327 = .ok (.iload_n 3, 1)) ∧ (decode cX12_body 328 = .ok (.invokevirtual 357, 3)) ∧ (decode cX12_body 331 = .ok (.iconst 2, 1)) ∧ (decode cX12_body 332 = .ok (.imul, 1)) ∧ (decode cX12_body 333 = .ok (.ireturn, 1)) ∧ (decode cX12_body 334 = .ok (.aload_n 0, 1)) ∧ (decode cX12_body 335 = .ok (.bipush 61, 2)) ∧ (decode cX12_body 337 = .ok (.invokevirtual 366, 3)) ∧ (decode cX12_body 340 = .ok (.aload_n 0, 1)) ∧ (decode cX12_body 341 = .ok (.iconst 4, 1)) := by decide +kernel
theorem gX12_body_15 : (decode cX12_body 342 = .ok (.iconst 0, 1)) ∧ (decode cX12_body 343 = .ok (.iload_n 3, 1)) ∧ (decode cX12_body 344 = .ok (.aload_n 0, 1)) ∧ (decode cX12_body 345 = .ok (.getfield 375, 3)) ∧ (decode cX12_body 348 = .ok (.iadd, 1)) ∧ (decode cX12_body 349 = .ok (.invokevirtual 357, 3)) ∧ (decode cX12_body 352 = .ok (.ireturn, 1)) ∧ (decode cX12_body 353 = .ok (.aload_n 0, 1)) ∧ (decode cX12_body 354 = .ok (.bipush 70, 2)) ∧ (decode cX12_body 356 = .ok (.invokevirtual 366, 3)) := by decide +kernel
theorem m_1068 : Cond.fieldLink RX12 375 "InquiryBenchModel" "whose" "I" ∈ BW := iB_BW56 _ (List.mem_of_getElem? (i := 17) rfl)
theorem gf_X12_375 (hC : CX p s m meth c y0 b0 mL0 rt0 args) (hy0 : y0.cls = RX12) (hK : KK G s) (hP : va_P G.1 vwCl ws H) (q0 : Nat) {fs : List Value} {v : Value} (he : ws[q0]? = some (a, .inr (12, fs))) (hv : fs[38]? = some v) (hdg : decode b0 pc = .ok (.getfield 375, 3)) (kk : W p l e R s m args below meth c H locs cells slots Q (F0 m (pc + 3) ls (v :: rest))) : W p l e R s m args below meth c H locs cells slots Q (F0 m pc ls (.ref a :: rest)) := by
  obtain ⟨hx, hb, hr, hml, hB, hown, hlocks, hnm⟩ := hC
  rw [hy0] at hown
  exact va_get (ci := 12) (C := RX12) (T := TX12) (N := 41) hx hb hB in_X12 hown hK.1 hP q0 he rfl 38 (by decide) (hB _ m_1068) (fun _ h => h) hv hdg kk
theorem gX12_dealt_0 : (decode cX12_dealt 0 = .ok (.aload_n 0, 1)) ∧ (decode cX12_dealt 1 = .ok (.aload_n 0, 1)) ∧ (decode cX12_dealt 2 = .ok (.getfield 354, 3)) ∧ (decode cX12_dealt 5 = .ok (.iload_n 1, 1)) ∧ (decode cX12_dealt 6 = .ok (.iload_n 2, 1)) ∧ (decode cX12_dealt 7 = .ok (.invokevirtual 357, 3)) ∧ (decode cX12_dealt 10 = .ok (.ireturn, 1)) := by decide +kernel
theorem m_1066 : Cond.fieldLink RX12 354 "InquiryBenchModel" "deale\x72" "I" ∈ BW := iB_BW56 _ (List.mem_of_getElem? (i := 15) rfl)
theorem gf_X12_354 (hC : CX p s m meth c y0 b0 mL0 rt0 args) (hy0 : y0.cls = RX12) (hK : KK G s) (hP : va_P G.1 vwCl ws H) (q0 : Nat) {fs : List Value} {v : Value} (he : ws[q0]? = some (a, .inr (12, fs))) (hv : fs[36]? = some v) (hdg : decode b0 pc = .ok (.getfield 354, 3)) (kk : W p l e R s m args below meth c H locs cells slots Q (F0 m (pc + 3) ls (v :: rest))) : W p l e R s m args below meth c H locs cells slots Q (F0 m pc ls (.ref a :: rest)) := by
  obtain ⟨hx, hb, hr, hml, hB, hown, hlocks, hnm⟩ := hC
  rw [hy0] at hown
  exact va_get (ci := 12) (C := RX12) (T := TX12) (N := 41) hx hb hB in_X12 hown hK.1 hP q0 he rfl 36 (by decide) (hB _ m_1066) (fun _ h => h) hv hdg kk
theorem gX12_body_2 : (decode cX12_body 134 = .ok (.invokevirtual 372, 3)) ∧ (decode cX12_body 137 = .ok (.iconst 2, 1)) ∧ (decode cX12_body 138 = .ok (.imul, 1)) ∧ (decode cX12_body 139 = .ok (.ireturn, 1)) ∧ (decode cX12_body 140 = .ok (.aload_n 0, 1)) ∧ (decode cX12_body 141 = .ok (.bipush 12, 2)) ∧ (decode cX12_body 143 = .ok (.invokevirtual 366, 3)) ∧ (decode cX12_body 146 = .ok (.aload_n 0, 1)) ∧ (decode cX12_body 147 = .ok (.iconst 1, 1)) ∧ (decode cX12_body 148 = .ok (.iload_n 3, 1)) := by decide +kernel
theorem m_1397 : Cond.code yX12_dealt cX12_dealt 3 (some .int) ∈ BW := iB_BW74 _ (List.mem_of_getElem? (i := 13) rfl)
theorem m_1395 : Cond.methodLink RX12 372 yX12_dealt ∈ BW := iB_BW74 _ (List.mem_of_getElem? (i := 11) rfl)
theorem m_1396 : Cond.instanceMethod yX12_dealt ∈ BW := iB_BW74 _ (List.mem_of_getElem? (i := 12) rfl)
theorem m_98 : Cond.selects RX12 yX12_dealt yX12_dealt ∈ BW := iB_BW4 _ (List.mem_of_getElem? (i := 18) rfl)
theorem si_X12_372 : SV RX12 RX12 372 yX12_dealt cX12_dealt 3 (some .int) 2 := ⟨⟨m_1395, m_1396, m_98, m_115, m_1397⟩, rfl, nK_RX12.1, nK_RX12.2, pd_2⟩
theorem gX12_body_6 : (decode cX12_body 206 = .ok (.ireturn, 1)) ∧ (decode cX12_body 207 = .ok (.aload_n 0, 1)) ∧ (decode cX12_body 208 = .ok (.bipush 20, 2)) ∧ (decode cX12_body 210 = .ok (.invokevirtual 366, 3)) ∧ (decode cX12_body 213 = .ok (.aload_n 0, 1)) ∧ (decode cX12_body 214 = .ok (.iconst 0, 1)) ∧ (decode cX12_body 215 = .ok (.iconst 1, 1)) ∧ (decode cX12_body 216 = .ok (.iload_n 3, 1)) ∧ (decode cX12_body 217 = .ok (.invokevirtual 357, 3)) ∧ (decode cX12_body 220 = .ok (.aload_n 0, 1)) := by decide +kernel
theorem gX12_body_7 : (decode cX12_body 221 = .ok (.getfield 378, 3)) ∧ (decode cX12_body 224 = .ok (.ixor, 1)) ∧ (decode cX12_body 225 = .ok (.ireturn, 1)) ∧ (decode cX12_body 226 = .ok (.aload_n 0, 1)) ∧ (decode cX12_body 227 = .ok (.bipush 30, 2)) ∧ (decode cX12_body 229 = .ok (.invokevirtual 366, 3)) ∧ (decode cX12_body 232 = .ok (.aload_n 0, 1)) ∧ (decode cX12_body 233 = .ok (.iconst 0, 1)) ∧ (decode cX12_body 234 = .ok (.iconst 2, 1)) ∧ (decode cX12_body 235 = .ok (.iload_n 3, 1)) := by decide +kernel
theorem gX12_body_8 : (decode cX12_body 236 = .ok (.invokevirtual 357, 3)) ∧ (decode cX12_body 239 = .ok (.iconst 3, 1)) ∧ (decode cX12_body 240 = .ok (.imul, 1)) ∧ (decode cX12_body 241 = .ok (.ireturn, 1)) ∧ (decode cX12_body 242 = .ok (.aload_n 0, 1)) ∧ (decode cX12_body 243 = .ok (.bipush 40, 2)) ∧ (decode cX12_body 245 = .ok (.invokevirtual 366, 3)) ∧ (decode cX12_body 248 = .ok (.iconst 0, 1)) ∧ (decode cX12_body 249 = .ok (.aload_n 0, 1)) ∧ (decode cX12_body 250 = .ok (.iconst 1, 1)) := by decide +kernel
theorem gX12_body_9 : (decode cX12_body 251 = .ok (.iconst 1, 1)) ∧ (decode cX12_body 252 = .ok (.iload_n 3, 1)) ∧ (decode cX12_body 253 = .ok (.invokevirtual 357, 3)) ∧ (decode cX12_body 256 = .ok (.isub, 1)) ∧ (decode cX12_body 257 = .ok (.ireturn, 1)) ∧ (decode cX12_body 258 = .ok (.aload_n 0, 1)) ∧ (decode cX12_body 259 = .ok (.bipush 41, 2)) ∧ (decode cX12_body 261 = .ok (.invokevirtual 366, 3)) ∧ (decode cX12_body 264 = .ok (.aload_n 0, 1)) ∧ (decode cX12_body 265 = .ok (.iconst 1, 1)) := by decide +kernel
theorem gX12_body_3 : (decode cX12_body 149 = .ok (.invokevirtual 372, 3)) ∧ (decode cX12_body 152 = .ok (.aload_n 0, 1)) ∧ (decode cX12_body 153 = .ok (.getfield 375, 3)) ∧ (decode cX12_body 156 = .ok (.isub, 1)) ∧ (decode cX12_body 157 = .ok (.ireturn, 1)) ∧ (decode cX12_body 158 = .ok (.aload_n 0, 1)) ∧ (decode cX12_body 159 = .ok (.bipush 13, 2)) ∧ (decode cX12_body 161 = .ok (.invokevirtual 366, 3)) ∧ (decode cX12_body 164 = .ok (.aload_n 0, 1)) ∧ (decode cX12_body 165 = .ok (.aload_n 0, 1)) := by decide +kernel
theorem gX12_body_12 : (decode cX12_body 296 = .ok (.invokevirtual 366, 3)) ∧ (decode cX12_body 299 = .ok (.aload_n 0, 1)) ∧ (decode cX12_body 300 = .ok (.iconst 0, 1)) ∧ (decode cX12_body 301 = .ok (.iconst 2, 1)) ∧ (decode cX12_body 302 = .ok (.iload_n 3, 1)) ∧ (decode cX12_body 303 = .ok (.invokevirtual 357, 3)) ∧ (decode cX12_body 306 = .ok (.istore 4, 2)) ∧ (decode cX12_body 308 = .ok (.iload 4, 2)) ∧ (decode cX12_body 310 = .ok (.aload_n 0, 1)) ∧ (decode cX12_body 311 = .ok (.iconst 1, 1)) := by decide +kernel
theorem gX12_body_13 : (decode cX12_body 312 = .ok (.iconst 1, 1)) ∧ (decode cX12_body 313 = .ok (.invokevirtual 372, 3)) ∧ (decode cX12_body 316 = .ok (.iadd, 1)) ∧ (decode cX12_body 317 = .ok (.ireturn, 1)) ∧ (decode cX12_body 318 = .ok (.aload_n 0, 1)) ∧ (decode cX12_body 319 = .ok (.bipush 60, 2)) ∧ (decode cX12_body 321 = .ok (.invokevirtual 366, 3)) ∧ (decode cX12_body 324 = .ok (.aload_n 0, 1)) ∧ (decode cX12_body 325 = .ok (.iconst 4, 1)) ∧ (decode cX12_body 326 = .ok (.iconst 2, 1)) := by decide +kernel
theorem gX12_body_4 : (decode cX12_body 166 = .ok (.getfield 375, 3)) ∧ (decode cX12_body 169 = .ok (.aload_n 0, 1)) ∧ (decode cX12_body 170 = .ok (.getfield 378, 3)) ∧ (decode cX12_body 173 = .ok (.if_icmp .ne 7, 3)) ∧ (decode cX12_body 176 = .ok (.iconst 1, 1)) ∧ (decode cX12_body 177 = .ok (.goto 4, 3)) ∧ (decode cX12_body 180 = .ok (.iconst 0, 1)) ∧ (decode cX12_body 181 = .ok (.putfield 380, 3)) ∧ (decode cX12_body 184 = .ok (.aload_n 0, 1)) ∧ (decode cX12_body 185 = .ok (.getfield 380, 3)) := by decide +kernel
theorem m_1070 : Cond.fieldLink RX12 380 "InquiryBenchModel" "isParted" "Z" ∈ BW := iB_BW56 _ (List.mem_of_getElem? (i := 19) rfl)
theorem pf_X12_380 (hC : CX p s m meth c y0 b0 mL0 rt0 args) (hy0 : y0.cls = RX12) (hK : KK G s) (hP : va_P G.1 vwCl ws H) (hD : va_D A ws) (hS : va_S A H0 H locs) (q0 : Nat) {fs : List Value} {v : Value} {ws' : va_W} (he : ws[q0]? = some (a, .inr (12, fs))) (hl : 40 < fs.length) (hws : ws.set q0 (a, .inr (12, fs.set 40 v)) = ws') (hn : narrow .boolean v = v) (hfit : fits .boolean v = true) (hdg : decode b0 pc = .ok (.putfield 380, 3)) (kk : ∀ (H1 : Heap) (locs1 : List Loc), va_P G.1 vwCl ws' H1 → va_D A ws' → va_S A H0 H1 locs1 → W p l e R s m args below meth c H1 locs1 cells slots Q (F0 m (pc + 3) ls rest)) : W p l e R s m args below meth c H locs cells slots Q (F0 m pc ls (v :: .ref a :: rest)) := by
  obtain ⟨hx, hb, hr, hml, hB, hown, hlocks, hnm⟩ := hC
  rw [hy0] at hown
  subst hws
  exact va_put (ci := 12) (ty := .boolean) (C := RX12) (T := TX12) (N := 41) hx hb hB in_X12 tyX12 tyX12_ok nmX12 hown hK.1 hP hD hS q0 he rfl 40 (by decide) (hB _ m_1070) (fun _ h => h) rfl (by decide +kernel) hn hfit hl hdg kk
theorem gf_X12_380 (hC : CX p s m meth c y0 b0 mL0 rt0 args) (hy0 : y0.cls = RX12) (hK : KK G s) (hP : va_P G.1 vwCl ws H) (q0 : Nat) {fs : List Value} {v : Value} (he : ws[q0]? = some (a, .inr (12, fs))) (hv : fs[40]? = some v) (hdg : decode b0 pc = .ok (.getfield 380, 3)) (kk : W p l e R s m args below meth c H locs cells slots Q (F0 m (pc + 3) ls (v :: rest))) : W p l e R s m args below meth c H locs cells slots Q (F0 m pc ls (.ref a :: rest)) := by
  obtain ⟨hx, hb, hr, hml, hB, hown, hlocks, hnm⟩ := hC
  rw [hy0] at hown
  exact va_get (ci := 12) (C := RX12) (T := TX12) (N := 41) hx hb hB in_X12 hown hK.1 hP q0 he rfl 40 (by decide) (hB _ m_1070) (fun _ h => h) hv hdg kk
theorem gX12_body_5 : (decode cX12_body 188 = .ok (.ifCond .eq 7, 3)) ∧ (decode cX12_body 191 = .ok (.iconst 0, 1)) ∧ (decode cX12_body 192 = .ok (.goto 14, 3)) ∧ (decode cX12_body 195 = .ok (.iload_n 3, 1)) ∧ (decode cX12_body 196 = .ok (.aload_n 0, 1)) ∧ (decode cX12_body 197 = .ok (.getfield 375, 3)) ∧ (decode cX12_body 200 = .ok (.aload_n 0, 1)) ∧ (decode cX12_body 201 = .ok (.getfield 378, 3)) ∧ (decode cX12_body 204 = .ok (.isub, 1)) ∧ (decode cX12_body 205 = .ok (.idiv, 1)) := by decide +kernel
theorem gX12_body_16 : (decode cX12_body 359 = .ok (.aload_n 0, 1)) ∧ (decode cX12_body 360 = .ok (.iconst 0, 1)) ∧ (decode cX12_body 361 = .ok (.iconst 3, 1)) ∧ (decode cX12_body 362 = .ok (.iload_n 3, 1)) ∧ (decode cX12_body 363 = .ok (.invokevirtual 357, 3)) ∧ (decode cX12_body 366 = .ok (.istore 5, 2)) ∧ (decode cX12_body 368 = .ok (.aload_n 0, 1)) ∧ (decode cX12_body 369 = .ok (.getfield 380, 3)) ∧ (decode cX12_body 372 = .ok (.ifCond .eq 7, 3)) ∧ (decode cX12_body 375 = .ok (.iconst 0, 1)) := by decide +kernel
theorem gX12_body_17 : (decode cX12_body 376 = .ok (.goto 15, 3)) ∧ (decode cX12_body 379 = .ok (.iload 5, 2)) ∧ (decode cX12_body 381 = .ok (.aload_n 0, 1)) ∧ (decode cX12_body 382 = .ok (.iconst 0, 1)) ∧ (decode cX12_body 383 = .ok (.aload_n 0, 1)) ∧ (decode cX12_body 384 = .ok (.getfield 378, 3)) ∧ (decode cX12_body 387 = .ok (.invokevirtual 372, 3)) ∧ (decode cX12_body 390 = .ok (.isub, 1)) ∧ (decode cX12_body 391 = .ok (.ireturn, 1)) := by decide +kernel
theorem gX12_deal_0 : (decode cX12_deal 0 = .ok (.aload_n 0, 1)) ∧ (decode cX12_deal 1 = .ok (.iconst 0, 1)) ∧ (decode cX12_deal 2 = .ok (.putfield 351, 3)) ∧ (decode cX12_deal 5 = .ok (.iload_n 1, 1)) ∧ (decode cX12_deal 6 = .ok (.invokestatic 336, 3)) ∧ (decode cX12_deal 9 = .ok (.ifCond .eq 10, 3)) ∧ (decode cX12_deal 12 = .ok (.iload_n 2, 1)) ∧ (decode cX12_deal 13 = .ok (.invokestatic 336, 3)) ∧ (decode cX12_deal 16 = .ok (.ifCond .ne 7, 3)) ∧ (decode cX12_deal 19 = .ok (.iconst (-1), 1)) := by decide +kernel
theorem gX12_deal_1 : (decode cX12_deal 20 = .ok (.goto 8, 3)) ∧ (decode cX12_deal 23 = .ok (.aload_n 0, 1)) ∧ (decode cX12_deal 24 = .ok (.iload_n 1, 1)) ∧ (decode cX12_deal 25 = .ok (.invokevirtual 345, 3)) ∧ (decode cX12_deal 28 = .ok (.istore 4, 2)) ∧ (decode cX12_deal 30 = .ok (.iload 4, 2)) ∧ (decode cX12_deal 32 = .ok (.ifCond .ge 5, 3)) ∧ (decode cX12_deal 35 = .ok (.iconst 0, 1)) ∧ (decode cX12_deal 36 = .ok (.ireturn, 1)) ∧ (decode cX12_deal 37 = .ok (.aload_n 0, 1)) := by decide +kernel
theorem gX12_deal_2 : (decode cX12_deal 38 = .ok (.iload 4, 2)) ∧ (decode cX12_deal 40 = .ok (.putfield 354, 3)) ∧ (decode cX12_deal 43 = .ok (.aload_n 0, 1)) ∧ (decode cX12_deal 44 = .ok (.aload_n 0, 1)) ∧ (decode cX12_deal 45 = .ok (.getfield 75, 3)) ∧ (decode cX12_deal 48 = .ok (.iload_n 1, 1)) ∧ (decode cX12_deal 49 = .ok (.iaload, 1)) ∧ (decode cX12_deal 50 = .ok (.putfield 378, 3)) ∧ (decode cX12_deal 53 = .ok (.aload_n 0, 1)) ∧ (decode cX12_deal 54 = .ok (.getfield 72, 3)) := by decide +kernel
theorem pf_X12_354 (hC : CX p s m meth c y0 b0 mL0 rt0 args) (hy0 : y0.cls = RX12) (hK : KK G s) (hP : va_P G.1 vwCl ws H) (hD : va_D A ws) (hS : va_S A H0 H locs) (q0 : Nat) {fs : List Value} {v : Value} {ws' : va_W} (he : ws[q0]? = some (a, .inr (12, fs))) (hl : 36 < fs.length) (hws : ws.set q0 (a, .inr (12, fs.set 36 v)) = ws') (hn : narrow .int v = v) (hfit : fits .int v = true) (hdg : decode b0 pc = .ok (.putfield 354, 3)) (kk : ∀ (H1 : Heap) (locs1 : List Loc), va_P G.1 vwCl ws' H1 → va_D A ws' → va_S A H0 H1 locs1 → W p l e R s m args below meth c H1 locs1 cells slots Q (F0 m (pc + 3) ls rest)) : W p l e R s m args below meth c H locs cells slots Q (F0 m pc ls (v :: .ref a :: rest)) := by
  obtain ⟨hx, hb, hr, hml, hB, hown, hlocks, hnm⟩ := hC
  rw [hy0] at hown
  subst hws
  exact va_put (ci := 12) (ty := .int) (C := RX12) (T := TX12) (N := 41) hx hb hB in_X12 tyX12 tyX12_ok nmX12 hown hK.1 hP hD hS q0 he rfl 36 (by decide) (hB _ m_1066) (fun _ h => h) rfl (by decide +kernel) hn hfit hl hdg kk
theorem pf_X12_378 (hC : CX p s m meth c y0 b0 mL0 rt0 args) (hy0 : y0.cls = RX12) (hK : KK G s) (hP : va_P G.1 vwCl ws H) (hD : va_D A ws) (hS : va_S A H0 H locs) (q0 : Nat) {fs : List Value} {v : Value} {ws' : va_W} (he : ws[q0]? = some (a, .inr (12, fs))) (hl : 37 < fs.length) (hws : ws.set q0 (a, .inr (12, fs.set 37 v)) = ws') (hn : narrow .int v = v) (hfit : fits .int v = true) (hdg : decode b0 pc = .ok (.putfield 378, 3)) (kk : ∀ (H1 : Heap) (locs1 : List Loc), va_P G.1 vwCl ws' H1 → va_D A ws' → va_S A H0 H1 locs1 → W p l e R s m args below meth c H1 locs1 cells slots Q (F0 m (pc + 3) ls rest)) : W p l e R s m args below meth c H locs cells slots Q (F0 m pc ls (v :: .ref a :: rest)) := by
  obtain ⟨hx, hb, hr, hml, hB, hown, hlocks, hnm⟩ := hC
  rw [hy0] at hown
  subst hws
  exact va_put (ci := 12) (ty := .int) (C := RX12) (T := TX12) (N := 41) hx hb hB in_X12 tyX12 tyX12_ok nmX12 hown hK.1 hP hD hS q0 he rfl 37 (by decide) (hB _ m_1067) (fun _ h => h) rfl (by decide +kernel) hn hfit hl hdg kk
theorem gX12_deal_3 : (decode cX12_deal 57 = .ok (.iload_n 1, 1)) ∧ (decode cX12_deal 58 = .ok (.iaload, 1)) ∧ (decode cX12_deal 59 = .ok (.iconst 1, 1)) ∧ (decode cX12_deal 60 = .ok (.if_icmp .ne 7, 3)) ∧ (decode cX12_deal 63 = .ok (.iconst 1, 1)) ∧ (decode cX12_deal 64 = .ok (.goto 4, 3)) ∧ (decode cX12_deal 67 = .ok (.iconst 0, 1)) ∧ (decode cX12_deal 68 = .ok (.istore 5, 2)) ∧ (decode cX12_deal 70 = .ok (.aload_n 0, 1)) ∧ (decode cX12_deal 71 = .ok (.getfield 72, 3)) := by decide +kernel
theorem gX12_deal_4 : (decode cX12_deal 74 = .ok (.iload_n 1, 1)) ∧ (decode cX12_deal 75 = .ok (.iaload, 1)) ∧ (decode cX12_deal 76 = .ok (.iconst 2, 1)) ∧ (decode cX12_deal 77 = .ok (.if_icmp .ne 7, 3)) ∧ (decode cX12_deal 80 = .ok (.iconst 1, 1)) ∧ (decode cX12_deal 81 = .ok (.goto 4, 3)) ∧ (decode cX12_deal 84 = .ok (.iconst 0, 1)) ∧ (decode cX12_deal 85 = .ok (.istore 6, 2)) ∧ (decode cX12_deal 87 = .ok (.aload_n 0, 1)) ∧ (decode cX12_deal 88 = .ok (.iload 5, 2)) := by decide +kernel
theorem gX12_deal_5 : (decode cX12_deal 90 = .ok (.ifCond .eq 15, 3)) ∧ (decode cX12_deal 93 = .ok (.aload_n 0, 1)) ∧ (decode cX12_deal 94 = .ok (.aload_n 0, 1)) ∧ (decode cX12_deal 95 = .ok (.getfield 378, 3)) ∧ (decode cX12_deal 98 = .ok (.iconst 0, 1)) ∧ (decode cX12_deal 99 = .ok (.invokevirtual 88, 3)) ∧ (decode cX12_deal 102 = .ok (.goto 37, 3)) ∧ (decode cX12_deal 105 = .ok (.iload 6, 2)) ∧ (decode cX12_deal 107 = .ok (.ifCond .eq 15, 3)) ∧ (decode cX12_deal 110 = .ok (.aload_n 0, 1)) := by decide +kernel
theorem gX12_deal_7 : (decode cX12_deal 131 = .ok (.getfield 378, 3)) ∧ (decode cX12_deal 134 = .ok (.imul, 1)) ∧ (decode cX12_deal 135 = .ok (.iadd, 1)) ∧ (decode cX12_deal 136 = .ok (.iconst 0, 1)) ∧ (decode cX12_deal 137 = .ok (.iadd, 1)) ∧ (decode cX12_deal 138 = .ok (.iaload, 1)) ∧ (decode cX12_deal 139 = .ok (.putfield 375, 3)) ∧ (decode cX12_deal 142 = .ok (.aload_n 0, 1)) ∧ (decode cX12_deal 143 = .ok (.iload 5, 2)) ∧ (decode cX12_deal 145 = .ok (.ifCond .eq 15, 3)) := by decide +kernel
theorem pf_X12_375 (hC : CX p s m meth c y0 b0 mL0 rt0 args) (hy0 : y0.cls = RX12) (hK : KK G s) (hP : va_P G.1 vwCl ws H) (hD : va_D A ws) (hS : va_S A H0 H locs) (q0 : Nat) {fs : List Value} {v : Value} {ws' : va_W} (he : ws[q0]? = some (a, .inr (12, fs))) (hl : 38 < fs.length) (hws : ws.set q0 (a, .inr (12, fs.set 38 v)) = ws') (hn : narrow .int v = v) (hfit : fits .int v = true) (hdg : decode b0 pc = .ok (.putfield 375, 3)) (kk : ∀ (H1 : Heap) (locs1 : List Loc), va_P G.1 vwCl ws' H1 → va_D A ws' → va_S A H0 H1 locs1 → W p l e R s m args below meth c H1 locs1 cells slots Q (F0 m (pc + 3) ls rest)) : W p l e R s m args below meth c H locs cells slots Q (F0 m pc ls (v :: .ref a :: rest)) := by
  obtain ⟨hx, hb, hr, hml, hB, hown, hlocks, hnm⟩ := hC
  rw [hy0] at hown
  subst hws
  exact va_put (ci := 12) (ty := .int) (C := RX12) (T := TX12) (N := 41) hx hb hB in_X12 tyX12 tyX12_ok nmX12 hown hK.1 hP hD hS q0 he rfl 38 (by decide) (hB _ m_1068) (fun _ h => h) rfl (by decide +kernel) hn hfit hl hdg kk
theorem gX12_deal_8 : (decode cX12_deal 148 = .ok (.aload_n 0, 1)) ∧ (decode cX12_deal 149 = .ok (.aload_n 0, 1)) ∧ (decode cX12_deal 150 = .ok (.getfield 378, 3)) ∧ (decode cX12_deal 153 = .ok (.iconst 2, 1)) ∧ (decode cX12_deal 154 = .ok (.invokevirtual 88, 3)) ∧ (decode cX12_deal 157 = .ok (.goto 37, 3)) ∧ (decode cX12_deal 160 = .ok (.iload 6, 2)) ∧ (decode cX12_deal 162 = .ok (.ifCond .eq 15, 3)) ∧ (decode cX12_deal 165 = .ok (.aload_n 0, 1)) ∧ (decode cX12_deal 166 = .ok (.aload_n 0, 1)) := by decide +kernel
theorem gX12_deal_10 : (decode cX12_deal 189 = .ok (.imul, 1)) ∧ (decode cX12_deal 190 = .ok (.iadd, 1)) ∧ (decode cX12_deal 191 = .ok (.iconst 2, 1)) ∧ (decode cX12_deal 192 = .ok (.iadd, 1)) ∧ (decode cX12_deal 193 = .ok (.iaload, 1)) ∧ (decode cX12_deal 194 = .ok (.putfield 369, 3)) ∧ (decode cX12_deal 197 = .ok (.aload_n 0, 1)) ∧ (decode cX12_deal 198 = .ok (.iconst 0, 1)) ∧ (decode cX12_deal 199 = .ok (.putfield 380, 3)) ∧ (decode cX12_deal 202 = .ok (.aload_n 0, 1)) := by decide +kernel
theorem pf_X12_369 (hC : CX p s m meth c y0 b0 mL0 rt0 args) (hy0 : y0.cls = RX12) (hK : KK G s) (hP : va_P G.1 vwCl ws H) (hD : va_D A ws) (hS : va_S A H0 H locs) (q0 : Nat) {fs : List Value} {v : Value} {ws' : va_W} (he : ws[q0]? = some (a, .inr (12, fs))) (hl : 39 < fs.length) (hws : ws.set q0 (a, .inr (12, fs.set 39 v)) = ws') (hn : narrow .int v = v) (hfit : fits .int v = true) (hdg : decode b0 pc = .ok (.putfield 369, 3)) (kk : ∀ (H1 : Heap) (locs1 : List Loc), va_P G.1 vwCl ws' H1 → va_D A ws' → va_S A H0 H1 locs1 → W p l e R s m args below meth c H1 locs1 cells slots Q (F0 m (pc + 3) ls rest)) : W p l e R s m args below meth c H locs cells slots Q (F0 m pc ls (v :: .ref a :: rest)) := by
  obtain ⟨hx, hb, hr, hml, hB, hown, hlocks, hnm⟩ := hC
  rw [hy0] at hown
  subst hws
  exact va_put (ci := 12) (ty := .int) (C := RX12) (T := TX12) (N := 41) hx hb hB in_X12 tyX12 tyX12_ok nmX12 hown hK.1 hP hD hS q0 he rfl 39 (by decide) (hB _ m_1069) (fun _ h => h) rfl (by decide +kernel) hn hfit hl hdg kk
theorem gX12_deal_11 : (decode cX12_deal 203 = .ok (.iload_n 2, 1)) ∧ (decode cX12_deal 204 = .ok (.iload_n 3, 1)) ∧ (decode cX12_deal 205 = .ok (.invokevirtual 372, 3)) ∧ (decode cX12_deal 208 = .ok (.istore 7, 2)) ∧ (decode cX12_deal 210 = .ok (.aload_n 0, 1)) ∧ (decode cX12_deal 211 = .ok (.getfield 380, 3)) ∧ (decode cX12_deal 214 = .ok (.ifCond .eq 8, 3)) ∧ (decode cX12_deal 217 = .ok (.bipush (-15), 2)) ∧ (decode cX12_deal 219 = .ok (.goto 5, 3)) ∧ (decode cX12_deal 222 = .ok (.iload 7, 2)) := by decide +kernel
theorem gX12_deal_12 : (decode cX12_deal 224 = .ok (.ireturn, 1)) := by decide +kernel
theorem gX12_deal_6 : (decode cX12_deal 111 = .ok (.aload_n 0, 1)) ∧ (decode cX12_deal 112 = .ok (.getfield 378, 3)) ∧ (decode cX12_deal 115 = .ok (.iconst 0, 1)) ∧ (decode cX12_deal 116 = .ok (.invokevirtual 114, 3)) ∧ (decode cX12_deal 119 = .ok (.goto 20, 3)) ∧ (decode cX12_deal 122 = .ok (.aload_n 0, 1)) ∧ (decode cX12_deal 123 = .ok (.getfield 9, 3)) ∧ (decode cX12_deal 126 = .ok (.sipush 1552, 3)) ∧ (decode cX12_deal 129 = .ok (.iconst 4, 1)) ∧ (decode cX12_deal 130 = .ok (.aload_n 0, 1)) := by decide +kernel
theorem gX12_deal_9 : (decode cX12_deal 167 = .ok (.getfield 378, 3)) ∧ (decode cX12_deal 170 = .ok (.iconst 4, 1)) ∧ (decode cX12_deal 171 = .ok (.invokevirtual 114, 3)) ∧ (decode cX12_deal 174 = .ok (.goto 20, 3)) ∧ (decode cX12_deal 177 = .ok (.aload_n 0, 1)) ∧ (decode cX12_deal 178 = .ok (.getfield 9, 3)) ∧ (decode cX12_deal 181 = .ok (.sipush 1552, 3)) ∧ (decode cX12_deal 184 = .ok (.iconst 4, 1)) ∧ (decode cX12_deal 185 = .ok (.aload_n 0, 1)) ∧ (decode cX12_deal 186 = .ok (.getfield 378, 3)) := by decide +kernel
theorem gX12_trace_0 : (decode cX12_trace 0 = .ok (.iload_n 1, 1)) ∧ (decode cX12_trace 1 = .ok (.iconst 0, 1)) ∧ (decode cX12_trace 2 = .ok (.aload_n 0, 1)) ∧ (decode cX12_trace 3 = .ok (.getfield 351, 3)) ∧ (decode cX12_trace 6 = .ok (.iconst 1, 1)) ∧ (decode cX12_trace 7 = .ok (.isub, 1)) ∧ (decode cX12_trace 8 = .ok (.invokestatic 84, 3)) ∧ (decode cX12_trace 11 = .ok (.ifCond .eq 12, 3)) ∧ (decode cX12_trace 14 = .ok (.aload_n 0, 1)) ∧ (decode cX12_trace 15 = .ok (.getfield 81, 3)) := by decide +kernel
theorem gX12_trace_1 : (decode cX12_trace 18 = .ok (.iload_n 1, 1)) ∧ (decode cX12_trace 19 = .ok (.iaload, 1)) ∧ (decode cX12_trace 20 = .ok (.goto 5, 3)) ∧ (decode cX12_trace 23 = .ok (.bipush (-3), 2)) ∧ (decode cX12_trace 25 = .ok (.ireturn, 1)) := by decide +kernel
theorem gX12_many_0 : (decode cX12_many 0 = .ok (.iload_n 1, 1)) ∧ (decode cX12_many 1 = .ok (.tableswitch 212 0 14 #[75, 82, 89, 96, 104, 112, 120, 128, 134, 142, 181, 189, 197, 202, 207], 75)) ∧ (decode cX12_many 76 = .ok (.aload_n 0, 1)) ∧ (decode cX12_many 77 = .ok (.getfield 9, 3)) ∧ (decode cX12_many 80 = .ok (.iconst 0, 1)) ∧ (decode cX12_many 81 = .ok (.iaload, 1)) ∧ (decode cX12_many 82 = .ok (.ireturn, 1)) ∧ (decode cX12_many 83 = .ok (.aload_n 0, 1)) ∧ (decode cX12_many 84 = .ok (.getfield 9, 3)) ∧ (decode cX12_many 87 = .ok (.iconst 4, 1)) := by decide +kernel
theorem gX12_many_1 : (decode cX12_many 88 = .ok (.iaload, 1)) ∧ (decode cX12_many 89 = .ok (.ireturn, 1)) ∧ (decode cX12_many 90 = .ok (.aload_n 0, 1)) ∧ (decode cX12_many 91 = .ok (.getfield 9, 3)) ∧ (decode cX12_many 94 = .ok (.iconst 5, 1)) ∧ (decode cX12_many 95 = .ok (.iaload, 1)) ∧ (decode cX12_many 96 = .ok (.ireturn, 1)) ∧ (decode cX12_many 97 = .ok (.aload_n 0, 1)) ∧ (decode cX12_many 98 = .ok (.invokevirtual 107, 3)) ∧ (decode cX12_many 101 = .ok (.invokestatic 110, 3)) := by decide +kernel
theorem gX12_many_2 : (decode cX12_many 104 = .ok (.ireturn, 1)) ∧ (decode cX12_many 105 = .ok (.aload_n 0, 1)) ∧ (decode cX12_many 106 = .ok (.getfield 9, 3)) ∧ (decode cX12_many 109 = .ok (.bipush 6, 2)) ∧ (decode cX12_many 111 = .ok (.iaload, 1)) ∧ (decode cX12_many 112 = .ok (.ireturn, 1)) ∧ (decode cX12_many 113 = .ok (.aload_n 0, 1)) ∧ (decode cX12_many 114 = .ok (.getfield 9, 3)) ∧ (decode cX12_many 117 = .ok (.bipush 7, 2)) ∧ (decode cX12_many 119 = .ok (.iaload, 1)) := by decide +kernel
theorem gX12_many_3 : (decode cX12_many 120 = .ok (.ireturn, 1)) ∧ (decode cX12_many 121 = .ok (.aload_n 0, 1)) ∧ (decode cX12_many 122 = .ok (.getfield 9, 3)) ∧ (decode cX12_many 125 = .ok (.bipush 8, 2)) ∧ (decode cX12_many 127 = .ok (.iaload, 1)) ∧ (decode cX12_many 128 = .ok (.ireturn, 1)) ∧ (decode cX12_many 129 = .ok (.aload_n 0, 1)) ∧ (decode cX12_many 130 = .ok (.iconst (-1), 1)) ∧ (decode cX12_many 131 = .ok (.invokevirtual 127, 3)) ∧ (decode cX12_many 134 = .ok (.ireturn, 1)) := by decide +kernel
theorem gX12_many_4 : (decode cX12_many 135 = .ok (.aload_n 0, 1)) ∧ (decode cX12_many 136 = .ok (.getfield 9, 3)) ∧ (decode cX12_many 139 = .ok (.bipush 9, 2)) ∧ (decode cX12_many 141 = .ok (.iaload, 1)) ∧ (decode cX12_many 142 = .ok (.ireturn, 1)) ∧ (decode cX12_many 143 = .ok (.iconst 0, 1)) ∧ (decode cX12_many 144 = .ok (.istore_n 2, 1)) ∧ (decode cX12_many 145 = .ok (.iconst 0, 1)) ∧ (decode cX12_many 146 = .ok (.istore_n 3, 1)) ∧ (decode cX12_many 147 = .ok (.iload_n 3, 1)) := by decide +kernel
theorem gX12_many_5 : (decode cX12_many 148 = .ok (.aload_n 0, 1)) ∧ (decode cX12_many 149 = .ok (.getfield 9, 3)) ∧ (decode cX12_many 152 = .ok (.bipush 9, 2)) ∧ (decode cX12_many 154 = .ok (.iaload, 1)) ∧ (decode cX12_many 155 = .ok (.if_icmp .ge 25, 3)) ∧ (decode cX12_many 158 = .ok (.iload_n 2, 1)) ∧ (decode cX12_many 159 = .ok (.aload_n 0, 1)) ∧ (decode cX12_many 160 = .ok (.iload_n 3, 1)) ∧ (decode cX12_many 161 = .ok (.invokevirtual 305, 3)) ∧ (decode cX12_many 164 = .ok (.ifCond .eq 7, 3)) := by decide +kernel
theorem gX12_many_6 : (decode cX12_many 167 = .ok (.iconst 1, 1)) ∧ (decode cX12_many 168 = .ok (.goto 4, 3)) ∧ (decode cX12_many 171 = .ok (.iconst 0, 1)) ∧ (decode cX12_many 172 = .ok (.iadd, 1)) ∧ (decode cX12_many 173 = .ok (.istore_n 2, 1)) ∧ (decode cX12_many 174 = .ok (.iinc 3 1, 3)) ∧ (decode cX12_many 177 = .ok (.goto (-30), 3)) ∧ (decode cX12_many 180 = .ok (.iload_n 2, 1)) ∧ (decode cX12_many 181 = .ok (.ireturn, 1)) ∧ (decode cX12_many 182 = .ok (.aload_n 0, 1)) := by decide +kernel
theorem gX12_many_7 : (decode cX12_many 183 = .ok (.getfield 9, 3)) ∧ (decode cX12_many 186 = .ok (.bipush 10, 2)) ∧ (decode cX12_many 188 = .ok (.iaload, 1)) ∧ (decode cX12_many 189 = .ok (.ireturn, 1)) ∧ (decode cX12_many 190 = .ok (.aload_n 0, 1)) ∧ (decode cX12_many 191 = .ok (.getfield 9, 3)) ∧ (decode cX12_many 194 = .ok (.bipush 11, 2)) ∧ (decode cX12_many 196 = .ok (.iaload, 1)) ∧ (decode cX12_many 197 = .ok (.ireturn, 1)) ∧ (decode cX12_many 198 = .ok (.aload_n 0, 1)) := by decide +kernel
theorem gX12_many_8 : (decode cX12_many 199 = .ok (.getfield 327, 3)) ∧ (decode cX12_many 202 = .ok (.ireturn, 1)) ∧ (decode cX12_many 203 = .ok (.aload_n 0, 1)) ∧ (decode cX12_many 204 = .ok (.getfield 206, 3)) ∧ (decode cX12_many 207 = .ok (.ireturn, 1)) ∧ (decode cX12_many 208 = .ok (.aload_n 0, 1)) ∧ (decode cX12_many 209 = .ok (.getfield 351, 3)) ∧ (decode cX12_many 212 = .ok (.ireturn, 1)) ∧ (decode cX12_many 213 = .ok (.iconst (-1), 1)) ∧ (decode cX12_many 214 = .ok (.ireturn, 1)) := by decide +kernel
theorem m_1034 : Cond.fieldLink RX12 206 "InquiryBenchModel" "taped" "I" ∈ BW := iB_BW55 _ (List.mem_of_getElem? (i := 3) rfl)
theorem gf_X12_206 (hC : CX p s m meth c y0 b0 mL0 rt0 args) (hy0 : y0.cls = RX12) (hK : KK G s) (hP : va_P G.1 vwCl ws H) (q0 : Nat) {fs : List Value} {v : Value} (he : ws[q0]? = some (a, .inr (12, fs))) (hv : fs[4]? = some v) (hdg : decode b0 pc = .ok (.getfield 206, 3)) (kk : W p l e R s m args below meth c H locs cells slots Q (F0 m (pc + 3) ls (v :: rest))) : W p l e R s m args below meth c H locs cells slots Q (F0 m pc ls (.ref a :: rest)) := by
  obtain ⟨hx, hb, hr, hml, hB, hown, hlocks, hnm⟩ := hC
  rw [hy0] at hown
  exact va_get (ci := 12) (C := RX12) (T := TX12) (N := 41) hx hb hB in_X12 hown hK.1 hP q0 he rfl 4 (by decide) (hB _ m_1034) (fun _ h => h) hv hdg kk
theorem gX12_keep_0 : (decode cX12_keep 0 = .ok (.iconst 0, 1)) ∧ (decode cX12_keep 1 = .ok (.istore_n 1, 1)) ∧ (decode cX12_keep 2 = .ok (.iload_n 1, 1)) ∧ (decode cX12_keep 3 = .ok (.sipush 1662, 3)) ∧ (decode cX12_keep 6 = .ok (.if_icmp .ge 21, 3)) ∧ (decode cX12_keep 9 = .ok (.aload_n 0, 1)) ∧ (decode cX12_keep 10 = .ok (.getfield 13, 3)) ∧ (decode cX12_keep 13 = .ok (.iload_n 1, 1)) ∧ (decode cX12_keep 14 = .ok (.aload_n 0, 1)) ∧ (decode cX12_keep 15 = .ok (.getfield 9, 3)) := by decide +kernel
theorem gX12_keep_1 : (decode cX12_keep 18 = .ok (.iload_n 1, 1)) ∧ (decode cX12_keep 19 = .ok (.iaload, 1)) ∧ (decode cX12_keep 20 = .ok (.iastore, 1)) ∧ (decode cX12_keep 21 = .ok (.iinc 1 1, 3)) ∧ (decode cX12_keep 24 = .ok (.goto (-22), 3)) ∧ (decode cX12_keep 27 = .ok (.aload_n 0, 1)) ∧ (decode cX12_keep 28 = .ok (.iconst 1, 1)) ∧ (decode cX12_keep 29 = .ok (.putfield 383, 3)) ∧ (decode cX12_keep 32 = .ok (.iconst 1, 1)) ∧ (decode cX12_keep 33 = .ok (.ireturn, 1)) := by decide +kernel
theorem m_1032 : Cond.fieldLink RX12 383 "InquiryBenchModel" "hasKept" "Z" ∈ BW := iB_BW55 _ (List.mem_of_getElem? (i := 1) rfl)
theorem pf_X12_383 (hC : CX p s m meth c y0 b0 mL0 rt0 args) (hy0 : y0.cls = RX12) (hK : KK G s) (hP : va_P G.1 vwCl ws H) (hD : va_D A ws) (hS : va_S A H0 H locs) (q0 : Nat) {fs : List Value} {v : Value} {ws' : va_W} (he : ws[q0]? = some (a, .inr (12, fs))) (hl : 2 < fs.length) (hws : ws.set q0 (a, .inr (12, fs.set 2 v)) = ws') (hn : narrow .boolean v = v) (hfit : fits .boolean v = true) (hdg : decode b0 pc = .ok (.putfield 383, 3)) (kk : ∀ (H1 : Heap) (locs1 : List Loc), va_P G.1 vwCl ws' H1 → va_D A ws' → va_S A H0 H1 locs1 → W p l e R s m args below meth c H1 locs1 cells slots Q (F0 m (pc + 3) ls rest)) : W p l e R s m args below meth c H locs cells slots Q (F0 m pc ls (v :: .ref a :: rest)) := by
  obtain ⟨hx, hb, hr, hml, hB, hown, hlocks, hnm⟩ := hC
  rw [hy0] at hown
  subst hws
  exact va_put (ci := 12) (ty := .boolean) (C := RX12) (T := TX12) (N := 41) hx hb hB in_X12 tyX12 tyX12_ok nmX12 hown hK.1 hP hD hS q0 he rfl 2 (by decide) (hB _ m_1032) (fun _ h => h) rfl (by decide +kernel) hn hfit hl hdg kk
theorem m_1031 : Cond.fieldLink RX12 13 "InquiryBenchModel" "kept" "[I" ∈ BW := iB_BW55 _ (List.mem_of_getElem? (i := 0) rfl)
theorem gf_X12_13 (hC : CX p s m meth c y0 b0 mL0 rt0 args) (hy0 : y0.cls = RX12) (hK : KK G s) (hP : va_P G.1 vwCl ws H) (q0 : Nat) {fs : List Value} {v : Value} (he : ws[q0]? = some (a, .inr (12, fs))) (hv : fs[1]? = some v) (hdg : decode b0 pc = .ok (.getfield 13, 3)) (kk : W p l e R s m args below meth c H locs cells slots Q (F0 m (pc + 3) ls (v :: rest))) : W p l e R s m args below meth c H locs cells slots Q (F0 m pc ls (.ref a :: rest)) := by
  obtain ⟨hx, hb, hr, hml, hB, hown, hlocks, hnm⟩ := hC
  rw [hy0] at hown
  exact va_get (ci := 12) (C := RX12) (T := TX12) (N := 41) hx hb hB in_X12 hown hK.1 hP q0 he rfl 1 (by decide) (hB _ m_1031) (fun _ h => h) hv hdg kk
theorem gX12_again_0 : (decode cX12_again 0 = .ok (.aload_n 0, 1)) ∧ (decode cX12_again 1 = .ok (.getfield 383, 3)) ∧ (decode cX12_again 4 = .ok (.ifCond .ne 6, 3)) ∧ (decode cX12_again 7 = .ok (.bipush (-3), 2)) ∧ (decode cX12_again 9 = .ok (.ireturn, 1)) ∧ (decode cX12_again 10 = .ok (.iconst 0, 1)) ∧ (decode cX12_again 11 = .ok (.istore_n 1, 1)) ∧ (decode cX12_again 12 = .ok (.iload_n 1, 1)) ∧ (decode cX12_again 13 = .ok (.sipush 1662, 3)) ∧ (decode cX12_again 16 = .ok (.if_icmp .ge 21, 3)) := by decide +kernel
theorem gf_X12_383 (hC : CX p s m meth c y0 b0 mL0 rt0 args) (hy0 : y0.cls = RX12) (hK : KK G s) (hP : va_P G.1 vwCl ws H) (q0 : Nat) {fs : List Value} {v : Value} (he : ws[q0]? = some (a, .inr (12, fs))) (hv : fs[2]? = some v) (hdg : decode b0 pc = .ok (.getfield 383, 3)) (kk : W p l e R s m args below meth c H locs cells slots Q (F0 m (pc + 3) ls (v :: rest))) : W p l e R s m args below meth c H locs cells slots Q (F0 m pc ls (.ref a :: rest)) := by
  obtain ⟨hx, hb, hr, hml, hB, hown, hlocks, hnm⟩ := hC
  rw [hy0] at hown
  exact va_get (ci := 12) (C := RX12) (T := TX12) (N := 41) hx hb hB in_X12 hown hK.1 hP q0 he rfl 2 (by decide) (hB _ m_1032) (fun _ h => h) hv hdg kk
theorem gX12_again_2 : (decode cX12_again 37 = .ok (.iconst 1, 1)) ∧ (decode cX12_again 38 = .ok (.ireturn, 1)) := by decide +kernel
theorem gX12_again_1 : (decode cX12_again 19 = .ok (.aload_n 0, 1)) ∧ (decode cX12_again 20 = .ok (.getfield 9, 3)) ∧ (decode cX12_again 23 = .ok (.iload_n 1, 1)) ∧ (decode cX12_again 24 = .ok (.aload_n 0, 1)) ∧ (decode cX12_again 25 = .ok (.getfield 13, 3)) ∧ (decode cX12_again 28 = .ok (.iload_n 1, 1)) ∧ (decode cX12_again 29 = .ok (.iaload, 1)) ∧ (decode cX12_again 30 = .ok (.iastore, 1)) ∧ (decode cX12_again 31 = .ok (.iinc 1 1, 3)) ∧ (decode cX12_again 34 = .ok (.goto (-22), 3)) := by decide +kernel
end WR
theorem rm_12_1_2 {mc ms : Nat} : 1 + 1 ≤ (RM 12 mc ms).frames ∧ 8 + (2 + 11) + 40 * 1 ≤ (RM 12 mc ms).locals := ⟨by show 1 + 1 ≤ 12; decide, by show 8 + (2 + 11) + 40 * 1 ≤ 40 * 12; decide⟩
theorem rm_12_1_1 {mc ms : Nat} : 1 + 1 ≤ (RM 12 mc ms).frames ∧ 8 + (1 + 11) + 40 * 1 ≤ (RM 12 mc ms).locals := ⟨by show 1 + 1 ≤ 12; decide, by show 8 + (1 + 11) + 40 * 1 ≤ 40 * 12; decide⟩
theorem rm_12_3_6 {mc ms : Nat} : 3 + 1 ≤ (RM 12 mc ms).frames ∧ 8 + (6 + 11) + 40 * 3 ≤ (RM 12 mc ms).locals := ⟨by show 3 + 1 ≤ 12; decide, by show 8 + (6 + 11) + 40 * 3 ≤ 40 * 12; decide⟩
theorem rm_14_4_5 {mc ms : Nat} : 4 + 1 ≤ (RM 14 mc ms).frames ∧ 8 + (5 + 11) + 40 * 4 ≤ (RM 14 mc ms).locals := ⟨by show 4 + 1 ≤ 14; decide, by show 8 + (5 + 11) + 40 * 4 ≤ 40 * 14; decide⟩
theorem rm_14_12_5 {mc ms : Nat} : 12 + 1 ≤ (RM 14 mc ms).frames ∧ 8 + (5 + 11) + 40 * 12 ≤ (RM 14 mc ms).locals := ⟨by show 12 + 1 ≤ 14; decide, by show 8 + (5 + 11) + 40 * 12 ≤ 40 * 14; decide⟩
theorem rm_14_6_5 {mc ms : Nat} : 6 + 1 ≤ (RM 14 mc ms).frames ∧ 8 + (5 + 11) + 40 * 6 ≤ (RM 14 mc ms).locals := ⟨by show 6 + 1 ≤ 14; decide, by show 8 + (5 + 11) + 40 * 6 ≤ 40 * 14; decide⟩
theorem rm_14_8_5 {mc ms : Nat} : 8 + 1 ≤ (RM 14 mc ms).frames ∧ 8 + (5 + 11) + 40 * 8 ≤ (RM 14 mc ms).locals := ⟨by show 8 + 1 ≤ 14; decide, by show 8 + (5 + 11) + 40 * 8 ≤ 40 * 14; decide⟩
theorem rm_15_1_2 {mc ms : Nat} : 1 + 1 ≤ (RM 15 mc ms).frames ∧ 8 + (2 + 11) + 40 * 1 ≤ (RM 15 mc ms).locals := ⟨by show 1 + 1 ≤ 15; decide, by show 8 + (2 + 11) + 40 * 1 ≤ 40 * 15; decide⟩
theorem rm_15_14_3 {mc ms : Nat} : 14 + 1 ≤ (RM 15 mc ms).frames ∧ 8 + (3 + 11) + 40 * 14 ≤ (RM 15 mc ms).locals := ⟨by show 14 + 1 ≤ 15; decide, by show 8 + (3 + 11) + 40 * 14 ≤ 40 * 15; decide⟩
theorem rm_16_1_2 {mc ms : Nat} : 1 + 1 ≤ (RM 16 mc ms).frames ∧ 8 + (2 + 11) + 40 * 1 ≤ (RM 16 mc ms).locals := ⟨by show 1 + 1 ≤ 16; decide, by show 8 + (2 + 11) + 40 * 1 ≤ 40 * 16; decide⟩
theorem rm_16_15_6 {mc ms : Nat} : 15 + 1 ≤ (RM 16 mc ms).frames ∧ 8 + (6 + 11) + 40 * 15 ≤ (RM 16 mc ms).locals := ⟨by show 15 + 1 ≤ 16; decide, by show 8 + (6 + 11) + 40 * 15 ≤ 40 * 16; decide⟩
theorem rm_17_1_2 {mc ms : Nat} : 1 + 1 ≤ (RM 17 mc ms).frames ∧ 8 + (2 + 11) + 40 * 1 ≤ (RM 17 mc ms).locals := ⟨by show 1 + 1 ≤ 17; decide, by show 8 + (2 + 11) + 40 * 1 ≤ 40 * 17; decide⟩
theorem rm_17_16_5 {mc ms : Nat} : 16 + 1 ≤ (RM 17 mc ms).frames ∧ 8 + (5 + 11) + 40 * 16 ≤ (RM 17 mc ms).locals := ⟨by show 16 + 1 ≤ 17; decide, by show 8 + (5 + 11) + 40 * 16 ≤ 40 * 17; decide⟩
theorem rm_18_1_2 {mc ms : Nat} : 1 + 1 ≤ (RM 18 mc ms).frames ∧ 8 + (2 + 11) + 40 * 1 ≤ (RM 18 mc ms).locals := ⟨by show 1 + 1 ≤ 18; decide, by show 8 + (2 + 11) + 40 * 1 ≤ 40 * 18; decide⟩
theorem rm_18_17_6 {mc ms : Nat} : 17 + 1 ≤ (RM 18 mc ms).frames ∧ 8 + (6 + 11) + 40 * 17 ≤ (RM 18 mc ms).locals := ⟨by show 17 + 1 ≤ 18; decide, by show 8 + (6 + 11) + 40 * 17 ≤ 40 * 18; decide⟩
theorem rm_19_1_2 {mc ms : Nat} : 1 + 1 ≤ (RM 19 mc ms).frames ∧ 8 + (2 + 11) + 40 * 1 ≤ (RM 19 mc ms).locals := ⟨by show 1 + 1 ≤ 19; decide, by show 8 + (2 + 11) + 40 * 1 ≤ 40 * 19; decide⟩
theorem rm_19_18_5 {mc ms : Nat} : 18 + 1 ≤ (RM 19 mc ms).frames ∧ 8 + (5 + 11) + 40 * 18 ≤ (RM 19 mc ms).locals := ⟨by show 18 + 1 ≤ 19; decide, by show 8 + (5 + 11) + 40 * 18 ≤ 40 * 19; decide⟩
theorem rm_20_1_2 {mc ms : Nat} : 1 + 1 ≤ (RM 20 mc ms).frames ∧ 8 + (2 + 11) + 40 * 1 ≤ (RM 20 mc ms).locals := ⟨by show 1 + 1 ≤ 20; decide, by show 8 + (2 + 11) + 40 * 1 ≤ 40 * 20; decide⟩
theorem rm_20_19_6 {mc ms : Nat} : 19 + 1 ≤ (RM 20 mc ms).frames ∧ 8 + (6 + 11) + 40 * 19 ≤ (RM 20 mc ms).locals := ⟨by show 19 + 1 ≤ 20; decide, by show 8 + (6 + 11) + 40 * 19 ≤ 40 * 20; decide⟩
theorem rm_24_1_2 {mc ms : Nat} : 1 + 1 ≤ (RM 24 mc ms).frames ∧ 8 + (2 + 11) + 40 * 1 ≤ (RM 24 mc ms).locals := ⟨by show 1 + 1 ≤ 24; decide, by show 8 + (2 + 11) + 40 * 1 ≤ 40 * 24; decide⟩
theorem rm_24_1_1 {mc ms : Nat} : 1 + 1 ≤ (RM 24 mc ms).frames ∧ 8 + (1 + 11) + 40 * 1 ≤ (RM 24 mc ms).locals := ⟨by show 1 + 1 ≤ 24; decide, by show 8 + (1 + 11) + 40 * 1 ≤ 40 * 24; decide⟩
theorem rm_24_15_6 {mc ms : Nat} : 15 + 1 ≤ (RM 24 mc ms).frames ∧ 8 + (6 + 11) + 40 * 15 ≤ (RM 24 mc ms).locals := ⟨by show 15 + 1 ≤ 24; decide, by show 8 + (6 + 11) + 40 * 15 ≤ 40 * 24; decide⟩
theorem rm_26_16_5 {mc ms : Nat} : 16 + 1 ≤ (RM 26 mc ms).frames ∧ 8 + (5 + 11) + 40 * 16 ≤ (RM 26 mc ms).locals := ⟨by show 16 + 1 ≤ 26; decide, by show 8 + (5 + 11) + 40 * 16 ≤ 40 * 26; decide⟩
theorem rm_26_18_5 {mc ms : Nat} : 18 + 1 ≤ (RM 26 mc ms).frames ∧ 8 + (5 + 11) + 40 * 18 ≤ (RM 26 mc ms).locals := ⟨by show 18 + 1 ≤ 26; decide, by show 8 + (5 + 11) + 40 * 18 ≤ 40 * 26; decide⟩
theorem rm_26_24_5 {mc ms : Nat} : 24 + 1 ≤ (RM 26 mc ms).frames ∧ 8 + (5 + 11) + 40 * 24 ≤ (RM 26 mc ms).locals := ⟨by show 24 + 1 ≤ 26; decide, by show 8 + (5 + 11) + 40 * 24 ≤ 40 * 26; decide⟩
theorem rm_26_20_5 {mc ms : Nat} : 20 + 1 ≤ (RM 26 mc ms).frames ∧ 8 + (5 + 11) + 40 * 20 ≤ (RM 26 mc ms).locals := ⟨by show 20 + 1 ≤ 26; decide, by show 8 + (5 + 11) + 40 * 20 ≤ 40 * 26; decide⟩
theorem rm_27_1_2 {mc ms : Nat} : 1 + 1 ≤ (RM 27 mc ms).frames ∧ 8 + (2 + 11) + 40 * 1 ≤ (RM 27 mc ms).locals := ⟨by show 1 + 1 ≤ 27; decide, by show 8 + (2 + 11) + 40 * 1 ≤ 40 * 27; decide⟩
theorem rm_27_26_3 {mc ms : Nat} : 26 + 1 ≤ (RM 27 mc ms).frames ∧ 8 + (3 + 11) + 40 * 26 ≤ (RM 27 mc ms).locals := ⟨by show 26 + 1 ≤ 27; decide, by show 8 + (3 + 11) + 40 * 26 ≤ 40 * 27; decide⟩
theorem rm_28_1_2 {mc ms : Nat} : 1 + 1 ≤ (RM 28 mc ms).frames ∧ 8 + (2 + 11) + 40 * 1 ≤ (RM 28 mc ms).locals := ⟨by show 1 + 1 ≤ 28; decide, by show 8 + (2 + 11) + 40 * 1 ≤ 40 * 28; decide⟩
theorem rm_28_27_6 {mc ms : Nat} : 27 + 1 ≤ (RM 28 mc ms).frames ∧ 8 + (6 + 11) + 40 * 27 ≤ (RM 28 mc ms).locals := ⟨by show 27 + 1 ≤ 28; decide, by show 8 + (6 + 11) + 40 * 27 ≤ 40 * 28; decide⟩
theorem rm_29_1_2 {mc ms : Nat} : 1 + 1 ≤ (RM 29 mc ms).frames ∧ 8 + (2 + 11) + 40 * 1 ≤ (RM 29 mc ms).locals := ⟨by show 1 + 1 ≤ 29; decide, by show 8 + (2 + 11) + 40 * 1 ≤ 40 * 29; decide⟩
theorem rm_29_28_5 {mc ms : Nat} : 28 + 1 ≤ (RM 29 mc ms).frames ∧ 8 + (5 + 11) + 40 * 28 ≤ (RM 29 mc ms).locals := ⟨by show 28 + 1 ≤ 29; decide, by show 8 + (5 + 11) + 40 * 28 ≤ 40 * 29; decide⟩
theorem rm_30_1_2 {mc ms : Nat} : 1 + 1 ≤ (RM 30 mc ms).frames ∧ 8 + (2 + 11) + 40 * 1 ≤ (RM 30 mc ms).locals := ⟨by show 1 + 1 ≤ 30; decide, by show 8 + (2 + 11) + 40 * 1 ≤ 40 * 30; decide⟩
theorem rm_30_29_6 {mc ms : Nat} : 29 + 1 ≤ (RM 30 mc ms).frames ∧ 8 + (6 + 11) + 40 * 29 ≤ (RM 30 mc ms).locals := ⟨by show 29 + 1 ≤ 30; decide, by show 8 + (6 + 11) + 40 * 29 ≤ 40 * 30; decide⟩
theorem rm_31_28_5 {mc ms : Nat} : 28 + 1 ≤ (RM 31 mc ms).frames ∧ 8 + (5 + 11) + 40 * 28 ≤ (RM 31 mc ms).locals := ⟨by show 28 + 1 ≤ 31; decide, by show 8 + (5 + 11) + 40 * 28 ≤ 40 * 31; decide⟩
theorem rm_31_26_3 {mc ms : Nat} : 26 + 1 ≤ (RM 31 mc ms).frames ∧ 8 + (3 + 11) + 40 * 26 ≤ (RM 31 mc ms).locals := ⟨by show 26 + 1 ≤ 31; decide, by show 8 + (3 + 11) + 40 * 26 ≤ 40 * 31; decide⟩
theorem rm_32_1_2 {mc ms : Nat} : 1 + 1 ≤ (RM 32 mc ms).frames ∧ 8 + (2 + 11) + 40 * 1 ≤ (RM 32 mc ms).locals := ⟨by show 1 + 1 ≤ 32; decide, by show 8 + (2 + 11) + 40 * 1 ≤ 40 * 32; decide⟩
theorem rm_32_31_6 {mc ms : Nat} : 31 + 1 ≤ (RM 32 mc ms).frames ∧ 8 + (6 + 11) + 40 * 31 ≤ (RM 32 mc ms).locals := ⟨by show 31 + 1 ≤ 32; decide, by show 8 + (6 + 11) + 40 * 31 ≤ 40 * 32; decide⟩
theorem rm_33_1_2 {mc ms : Nat} : 1 + 1 ≤ (RM 33 mc ms).frames ∧ 8 + (2 + 11) + 40 * 1 ≤ (RM 33 mc ms).locals := ⟨by show 1 + 1 ≤ 33; decide, by show 8 + (2 + 11) + 40 * 1 ≤ 40 * 33; decide⟩
theorem rm_33_32_5 {mc ms : Nat} : 32 + 1 ≤ (RM 33 mc ms).frames ∧ 8 + (5 + 11) + 40 * 32 ≤ (RM 33 mc ms).locals := ⟨by show 32 + 1 ≤ 33; decide, by show 8 + (5 + 11) + 40 * 32 ≤ 40 * 33; decide⟩
theorem rm_34_1_2 {mc ms : Nat} : 1 + 1 ≤ (RM 34 mc ms).frames ∧ 8 + (2 + 11) + 40 * 1 ≤ (RM 34 mc ms).locals := ⟨by show 1 + 1 ≤ 34; decide, by show 8 + (2 + 11) + 40 * 1 ≤ 40 * 34; decide⟩
theorem rm_34_33_6 {mc ms : Nat} : 33 + 1 ≤ (RM 34 mc ms).frames ∧ 8 + (6 + 11) + 40 * 33 ≤ (RM 34 mc ms).locals := ⟨by show 33 + 1 ≤ 34; decide, by show 8 + (6 + 11) + 40 * 33 ≤ 40 * 34; decide⟩
theorem rm_36_1_2 {mc ms : Nat} : 1 + 1 ≤ (RM 36 mc ms).frames ∧ 8 + (2 + 11) + 40 * 1 ≤ (RM 36 mc ms).locals := ⟨by show 1 + 1 ≤ 36; decide, by show 8 + (2 + 11) + 40 * 1 ≤ 40 * 36; decide⟩
theorem rm_36_1_1 {mc ms : Nat} : 1 + 1 ≤ (RM 36 mc ms).frames ∧ 8 + (1 + 11) + 40 * 1 ≤ (RM 36 mc ms).locals := ⟨by show 1 + 1 ≤ 36; decide, by show 8 + (1 + 11) + 40 * 1 ≤ 40 * 36; decide⟩
theorem rm_36_27_6 {mc ms : Nat} : 27 + 1 ≤ (RM 36 mc ms).frames ∧ 8 + (6 + 11) + 40 * 27 ≤ (RM 36 mc ms).locals := ⟨by show 27 + 1 ≤ 36; decide, by show 8 + (6 + 11) + 40 * 27 ≤ 40 * 36; decide⟩
theorem rm_38_28_5 {mc ms : Nat} : 28 + 1 ≤ (RM 38 mc ms).frames ∧ 8 + (5 + 11) + 40 * 28 ≤ (RM 38 mc ms).locals := ⟨by show 28 + 1 ≤ 38; decide, by show 8 + (5 + 11) + 40 * 28 ≤ 40 * 38; decide⟩
theorem rm_38_36_5 {mc ms : Nat} : 36 + 1 ≤ (RM 38 mc ms).frames ∧ 8 + (5 + 11) + 40 * 36 ≤ (RM 38 mc ms).locals := ⟨by show 36 + 1 ≤ 38; decide, by show 8 + (5 + 11) + 40 * 36 ≤ 40 * 38; decide⟩
theorem rm_38_30_5 {mc ms : Nat} : 30 + 1 ≤ (RM 38 mc ms).frames ∧ 8 + (5 + 11) + 40 * 30 ≤ (RM 38 mc ms).locals := ⟨by show 30 + 1 ≤ 38; decide, by show 8 + (5 + 11) + 40 * 30 ≤ 40 * 38; decide⟩
theorem rm_38_32_5 {mc ms : Nat} : 32 + 1 ≤ (RM 38 mc ms).frames ∧ 8 + (5 + 11) + 40 * 32 ≤ (RM 38 mc ms).locals := ⟨by show 32 + 1 ≤ 38; decide, by show 8 + (5 + 11) + 40 * 32 ≤ 40 * 38; decide⟩
theorem rm_38_34_5 {mc ms : Nat} : 34 + 1 ≤ (RM 38 mc ms).frames ∧ 8 + (5 + 11) + 40 * 34 ≤ (RM 38 mc ms).locals := ⟨by show 34 + 1 ≤ 38; decide, by show 8 + (5 + 11) + 40 * 34 ≤ 40 * 38; decide⟩
theorem rm_39_1_2 {mc ms : Nat} : 1 + 1 ≤ (RM 39 mc ms).frames ∧ 8 + (2 + 11) + 40 * 1 ≤ (RM 39 mc ms).locals := ⟨by show 1 + 1 ≤ 39; decide, by show 8 + (2 + 11) + 40 * 1 ≤ 40 * 39; decide⟩
theorem rm_40_39_6 {mc ms : Nat} : 39 + 1 ≤ (RM 40 mc ms).frames ∧ 8 + (6 + 11) + 40 * 39 ≤ (RM 40 mc ms).locals := ⟨by show 39 + 1 ≤ 40; decide, by show 8 + (6 + 11) + 40 * 39 ≤ 40 * 40; decide⟩
theorem rm_42_1_2 {mc ms : Nat} : 1 + 1 ≤ (RM 42 mc ms).frames ∧ 8 + (2 + 11) + 40 * 1 ≤ (RM 42 mc ms).locals := ⟨by show 1 + 1 ≤ 42; decide, by show 8 + (2 + 11) + 40 * 1 ≤ 40 * 42; decide⟩
theorem rm_42_39_6 {mc ms : Nat} : 39 + 1 ≤ (RM 42 mc ms).frames ∧ 8 + (6 + 11) + 40 * 39 ≤ (RM 42 mc ms).locals := ⟨by show 39 + 1 ≤ 42; decide, by show 8 + (6 + 11) + 40 * 39 ≤ 40 * 42; decide⟩
theorem rm_43_1_2 {mc ms : Nat} : 1 + 1 ≤ (RM 43 mc ms).frames ∧ 8 + (2 + 11) + 40 * 1 ≤ (RM 43 mc ms).locals := ⟨by show 1 + 1 ≤ 43; decide, by show 8 + (2 + 11) + 40 * 1 ≤ 40 * 43; decide⟩
theorem rm_43_42_5 {mc ms : Nat} : 42 + 1 ≤ (RM 43 mc ms).frames ∧ 8 + (5 + 11) + 40 * 42 ≤ (RM 43 mc ms).locals := ⟨by show 42 + 1 ≤ 43; decide, by show 8 + (5 + 11) + 40 * 42 ≤ 40 * 43; decide⟩
theorem rm_44_1_2 {mc ms : Nat} : 1 + 1 ≤ (RM 44 mc ms).frames ∧ 8 + (2 + 11) + 40 * 1 ≤ (RM 44 mc ms).locals := ⟨by show 1 + 1 ≤ 44; decide, by show 8 + (2 + 11) + 40 * 1 ≤ 40 * 44; decide⟩
theorem rm_44_43_6 {mc ms : Nat} : 43 + 1 ≤ (RM 44 mc ms).frames ∧ 8 + (6 + 11) + 40 * 43 ≤ (RM 44 mc ms).locals := ⟨by show 43 + 1 ≤ 44; decide, by show 8 + (6 + 11) + 40 * 43 ≤ 40 * 44; decide⟩
theorem rm_45_1_2 {mc ms : Nat} : 1 + 1 ≤ (RM 45 mc ms).frames ∧ 8 + (2 + 11) + 40 * 1 ≤ (RM 45 mc ms).locals := ⟨by show 1 + 1 ≤ 45; decide, by show 8 + (2 + 11) + 40 * 1 ≤ 40 * 45; decide⟩
theorem rm_45_40_5 {mc ms : Nat} : 40 + 1 ≤ (RM 45 mc ms).frames ∧ 8 + (5 + 11) + 40 * 40 ≤ (RM 45 mc ms).locals := ⟨by show 40 + 1 ≤ 45; decide, by show 8 + (5 + 11) + 40 * 40 ≤ 40 * 45; decide⟩
theorem rm_45_14_3 {mc ms : Nat} : 14 + 1 ≤ (RM 45 mc ms).frames ∧ 8 + (3 + 11) + 40 * 14 ≤ (RM 45 mc ms).locals := ⟨by show 14 + 1 ≤ 45; decide, by show 8 + (3 + 11) + 40 * 14 ≤ 40 * 45; decide⟩
theorem rm_46_1_2 {mc ms : Nat} : 1 + 1 ≤ (RM 46 mc ms).frames ∧ 8 + (2 + 11) + 40 * 1 ≤ (RM 46 mc ms).locals := ⟨by show 1 + 1 ≤ 46; decide, by show 8 + (2 + 11) + 40 * 1 ≤ 40 * 46; decide⟩
theorem rm_46_45_6 {mc ms : Nat} : 45 + 1 ≤ (RM 46 mc ms).frames ∧ 8 + (6 + 11) + 40 * 45 ≤ (RM 46 mc ms).locals := ⟨by show 45 + 1 ≤ 46; decide, by show 8 + (6 + 11) + 40 * 45 ≤ 40 * 46; decide⟩
theorem rm_48_1_2 {mc ms : Nat} : 1 + 1 ≤ (RM 48 mc ms).frames ∧ 8 + (2 + 11) + 40 * 1 ≤ (RM 48 mc ms).locals := ⟨by show 1 + 1 ≤ 48; decide, by show 8 + (2 + 11) + 40 * 1 ≤ 40 * 48; decide⟩
theorem rm_48_1_1 {mc ms : Nat} : 1 + 1 ≤ (RM 48 mc ms).frames ∧ 8 + (1 + 11) + 40 * 1 ≤ (RM 48 mc ms).locals := ⟨by show 1 + 1 ≤ 48; decide, by show 8 + (1 + 11) + 40 * 1 ≤ 40 * 48; decide⟩
theorem rm_48_39_6 {mc ms : Nat} : 39 + 1 ≤ (RM 48 mc ms).frames ∧ 8 + (6 + 11) + 40 * 39 ≤ (RM 48 mc ms).locals := ⟨by show 39 + 1 ≤ 48; decide, by show 8 + (6 + 11) + 40 * 39 ≤ 40 * 48; decide⟩
theorem rm_50_40_5 {mc ms : Nat} : 40 + 1 ≤ (RM 50 mc ms).frames ∧ 8 + (5 + 11) + 40 * 40 ≤ (RM 50 mc ms).locals := ⟨by show 40 + 1 ≤ 50; decide, by show 8 + (5 + 11) + 40 * 40 ≤ 40 * 50; decide⟩
theorem rm_50_42_5 {mc ms : Nat} : 42 + 1 ≤ (RM 50 mc ms).frames ∧ 8 + (5 + 11) + 40 * 42 ≤ (RM 50 mc ms).locals := ⟨by show 42 + 1 ≤ 50; decide, by show 8 + (5 + 11) + 40 * 42 ≤ 40 * 50; decide⟩
theorem rm_50_48_5 {mc ms : Nat} : 48 + 1 ≤ (RM 50 mc ms).frames ∧ 8 + (5 + 11) + 40 * 48 ≤ (RM 50 mc ms).locals := ⟨by show 48 + 1 ≤ 50; decide, by show 8 + (5 + 11) + 40 * 48 ≤ 40 * 50; decide⟩
theorem rm_50_44_5 {mc ms : Nat} : 44 + 1 ≤ (RM 50 mc ms).frames ∧ 8 + (5 + 11) + 40 * 44 ≤ (RM 50 mc ms).locals := ⟨by show 44 + 1 ≤ 50; decide, by show 8 + (5 + 11) + 40 * 44 ≤ 40 * 50; decide⟩
theorem rm_50_46_5 {mc ms : Nat} : 46 + 1 ≤ (RM 50 mc ms).frames ∧ 8 + (5 + 11) + 40 * 46 ≤ (RM 50 mc ms).locals := ⟨by show 46 + 1 ≤ 50; decide, by show 8 + (5 + 11) + 40 * 46 ≤ 40 * 50; decide⟩
theorem rm_60_2_1 {mc ms : Nat} : 2 + 1 ≤ (RM 60 mc ms).frames ∧ 8 + (1 + 11) + 40 * 2 ≤ (RM 60 mc ms).locals := ⟨by show 2 + 1 ≤ 60; decide, by show 8 + (1 + 11) + 40 * 2 ≤ 40 * 60; decide⟩
theorem rm_60_3_4 {mc ms : Nat} : 3 + 1 ≤ (RM 60 mc ms).frames ∧ 8 + (4 + 11) + 40 * 3 ≤ (RM 60 mc ms).locals := ⟨by show 3 + 1 ≤ 60; decide, by show 8 + (4 + 11) + 40 * 3 ≤ 40 * 60; decide⟩
theorem rm_60_1_3 {mc ms : Nat} : 1 + 1 ≤ (RM 60 mc ms).frames ∧ 8 + (3 + 11) + 40 * 1 ≤ (RM 60 mc ms).locals := ⟨by show 1 + 1 ≤ 60; decide, by show 8 + (3 + 11) + 40 * 1 ≤ 40 * 60; decide⟩
theorem rm_60_14_3 {mc ms : Nat} : 14 + 1 ≤ (RM 60 mc ms).frames ∧ 8 + (3 + 11) + 40 * 14 ≤ (RM 60 mc ms).locals := ⟨by show 14 + 1 ≤ 60; decide, by show 8 + (3 + 11) + 40 * 14 ≤ 40 * 60; decide⟩
theorem dj_0_4__1_2_3 : ∀ i ∈ ([1, 2, 3] : List Nat), i ∉ ([0, 4] : List Nat) := by decide
theorem rm_60_26_3 {mc ms : Nat} : 26 + 1 ≤ (RM 60 mc ms).frames ∧ 8 + (3 + 11) + 40 * 26 ≤ (RM 60 mc ms).locals := ⟨by show 26 + 1 ≤ 60; decide, by show 8 + (3 + 11) + 40 * 26 ≤ 40 * 60; decide⟩
theorem rm_60_38_3 {mc ms : Nat} : 38 + 1 ≤ (RM 60 mc ms).frames ∧ 8 + (3 + 11) + 40 * 38 ≤ (RM 60 mc ms).locals := ⟨by show 38 + 1 ≤ 60; decide, by show 8 + (3 + 11) + 40 * 38 ≤ 40 * 60; decide⟩
theorem rm_60_50_3 {mc ms : Nat} : 50 + 1 ≤ (RM 60 mc ms).frames ∧ 8 + (3 + 11) + 40 * 50 ≤ (RM 60 mc ms).locals := ⟨by show 50 + 1 ≤ 60; decide, by show 8 + (3 + 11) + 40 * 50 ≤ 40 * 60; decide⟩
theorem rm_10_5_4 {mc ms : Nat} : 5 + 1 ≤ (RM 10 mc ms).frames ∧ 8 + (4 + 11) + 40 * 5 ≤ (RM 10 mc ms).locals := ⟨by show 5 + 1 ≤ 10; decide, by show 8 + (4 + 11) + 40 * 5 ≤ 40 * 10; decide⟩
def K_m_kindOn (l : Launch) (G : GG) (h0 : Nat) (jt : Nat) (nw : Nat) (nk : Nat) (mhasKept : Int32) (nt : Nat) (mtaped : Int32) (nr : Nat) (mrowMany : Int32) (mroundOf : Int32) (mroundFrom : Int32) (mouts : Int32) (nm : Nat) (mfromHour : Int32) (mtoHour : Int32) (ns : Nat) (mfrom : Int32) (mto : Int32) (msort : Int32) (misFault : Int32) (mdeep : Int32) (mcoded : Int32) (mlines : Int32) (nl : Nat) (nc : Nat) (nF : Nat) (np : Nat) (ntr : Nat) (nb : Nat) (mbestCost : Int32) (nso : Nat) (nsi : Nat) (nit : Nat) (nsh : Nat) (nsf : Nat) (nss : Nat) (nrc : Nat) (mtraced : Int32) (mdealer : Int32) (mnumber : Int32) (mwhose : Int32) (msize : Int32) (misParted : Int32) (fnw : Nat → Int32) (fnsh : Nat → Int32) (fnsf : Nat → Int32) : Prop := MP l G yX12_kindOn cX12_kindOn 4 (some .int) 3 [.ref h0, .int (nI jt)] [(h0, oX12 nw nk mhasKept nt mtaped nr mrowMany mroundOf mroundFrom mouts nm mfromHour mtoHour ns mfrom mto msort misFault mdeep mcoded mlines nl nc nF np ntr nb mbestCost nso nsi nit nsh nsf nss nrc mtraced mdealer mnumber mwhose msize misParted), (nw, iA G 1662 fnw), (nsh, iA G 4 fnsh), (nsf, iA G 4 fnsf)] (fun r : Int32 => r = (-1) ∨ (r = 1 ∧ KO1 (fnsh jt) (fnsf jt) 1 12) ∨ (r = 2 ∧ KO1 (fnsh jt) (fnsf jt) 1 12) ∨ (r = 3 ∧ KO1 (fnsh jt) (fnsf jt) 1 12) ∨ (r = 4 ∧ KO1 (fnsh jt) (fnsf jt) 2 16) ∨ (r = 5 ∧ KO1 (fnsh jt) (fnsf jt) 2 16) ∨ (r = 6 ∧ KO1 (fnsh jt) (fnsf jt) 3 12))
set_option maxHeartbeats 4000000 in
set_option maxRecDepth 100000 in
theorem m_kindOn (l : Launch) (G : GG) (h0 : Nat) (jt : Nat) (nw : Nat) (nk : Nat) (mhasKept : Int32) (nt : Nat) (mtaped : Int32) (nr : Nat) (mrowMany : Int32) (mroundOf : Int32) (mroundFrom : Int32) (mouts : Int32) (nm : Nat) (mfromHour : Int32) (mtoHour : Int32) (ns : Nat) (mfrom : Int32) (mto : Int32) (msort : Int32) (misFault : Int32) (mdeep : Int32) (mcoded : Int32) (mlines : Int32) (nl : Nat) (nc : Nat) (nF : Nat) (np : Nat) (ntr : Nat) (nb : Nat) (mbestCost : Int32) (nso : Nat) (nsi : Nat) (nit : Nat) (nsh : Nat) (nsf : Nat) (nss : Nat) (nrc : Nat) (mtraced : Int32) (mdealer : Int32) (mnumber : Int32) (mwhose : Int32) (msize : Int32) (misParted : Int32) (fnw : Nat → Int32) (fnsh : Nat → Int32) (fnsf : Nat → Int32) (hjt : jt < 4) (hN : NI fnw) : K_m_kindOn l G h0 jt nw nk mhasKept nt mtaped nr mrowMany mroundOf mroundFrom mouts nm mfromHour mtoHour ns mfrom mto msort misFault mdeep mcoded mlines nl nc nF np ntr nb mbestCost nso nsi nit nsh nsf nss nrc mtraced mdealer mnumber mwhose msize misParted fnw fnsh fnsf := by
  refine MP.start (by decide +kernel) (Nat.le_of_ble_eq_true rfl) ?_
  intro p e s m below meth c ls hC hK hP hD hl
  refine absQ (fun Q0 hQ0 => ?_)
  have hl : lv_has ls 4 [(0, .ref h0), (1, .int (nI jt))] := hl
  refine Kan8 hC (fun hx hb hr hml hB hown hlocks hnm => ?_)
  obtain ⟨kq, hkq, ekq⟩ := NI.nat hN (i := 5) (B := 12) (by decide +kernel) (by decide)
  obtain ⟨k8, hk8, ek8⟩ := NI.nat hN (i := 8) (B := 16) (by decide +kernel) (by decide)
  obtain ⟨k9, hk9, ek9⟩ := NI.nat hN (i := 9) (B := 12) (by decide +kernel) (by decide)
  refine lv_aload_n hx hb gX12_kindOn_0.1 rfl (lv_at0 hl) ?_
  refine gf_X12_75 hC rfl hK hP 0 rfl rfl gX12_kindOn_0.2.1 ?_
  refine lv_iload_n hx hb gX12_kindOn_0.2.2.1 rfl (lv_at1 hl) ?_
  refine aldN hC hK hP 3 rfl (k := jt) (by omega) (Nat.le_of_ble_eq_true rfl) (v := fnsf jt) rfl gX12_kindOn_0.2.2.2.1 ?_
  refine lv_topi (fun x5812 ex5812 => ?_)
  refine lv_istore_n (lv' := [(2, .int x5812), (0, .ref h0), (1, .int (nI jt))]) hx hb gX12_kindOn_0.2.2.2.2.1 rfl hl (by decide) rfl (fun ls hl => ?_)
  refine lv_aload_n hx hb gX12_kindOn_0.2.2.2.2.2.1 rfl (lv_at1 hl) ?_
  refine gf_X12_72 hC rfl hK hP 0 rfl rfl gX12_kindOn_0.2.2.2.2.2.2.1 ?_
  refine lv_iload_n hx hb gX12_kindOn_0.2.2.2.2.2.2.2.1 rfl (lv_at2 hl) ?_
  refine aldN hC hK hP 2 rfl (k := jt) (by omega) (Nat.le_of_ble_eq_true rfl) (v := fnsh jt) rfl gX12_kindOn_0.2.2.2.2.2.2.2.2.1 ?_
  refine lv_topi (fun x5813 ex5813 => ?_)
  by_cases c_13_5814 : x5813 = 1
  · refine lv_tableIn (tgt := 40) hx hb gX12_kindOn_0.2.2.2.2.2.2.2.2.2 (by rw [c_13_5814]; decide) (by rw [c_13_5814]; decide) (by rw [c_13_5814]; rfl) (by decide) ?_
    refine lv_aload_n hx hb gX12_kindOn_1.1 rfl (lv_at1 hl) ?_
    refine lv_iload_n hx hb gX12_kindOn_1.2.1 rfl (lv_at0 hl) ?_
    refine lv_iconst (v := 5) hx hb gX12_kindOn_1.2.2.1 (by decide) ?_
    refine pV hC hK hl hP hD (m_is l G kq h0 x5812 5 nw nk mhasKept nt mtaped nr mrowMany mroundOf mroundFrom mouts nm mfromHour mtoHour ns mfrom mto msort misFault mdeep mcoded mlines nl nc nF np ntr nb mbestCost nso nsi nit nsh nsf nss nrc mtraced mdealer mnumber mwhose msize misParted fnw (by omega) (ekq) (by omega)) si_X12_120 [0, 1] sm_0_1 fm_0_1 nd_0_1 rfl rfl rfl rfl rfl (Nat.le_of_ble_eq_true rfl) rm_3_2_3 ⟨by first | exact Nat.le_of_ble_eq_true rfl | exact Nat.zero_le _, by first | exact Nat.le_of_ble_eq_true rfl | exact Nat.zero_le _⟩ gX12_kindOn_1.2.2.2.1 (Kors (Keqa fun a5816 => ?_) (Keqa fun a5816 => ?_))
    · refine lv_if_eq (tgt := 73) hx hb gX12_kindOn_1.2.2.2.2.1 (by decide) (fun c9 => absurd c9 (by decide)) (fun _ => ?_)
      refine lv_aload_n hx hb gX12_kindOn_1.2.2.2.2.2.1 rfl (lv_at1 hl) ?_
      refine lv_iload_n hx hb gX12_kindOn_1.2.2.2.2.2.2.1 rfl (lv_at0 hl) ?_
      obtain ⟨jn5817, hjn5817, ek5817⟩ := Hs_nat (by omega) a5816
      refine eqi (x1 := nI jn5817) ek5817 ?_
      refine lv_iconst (v := 1) hx hb gX12_kindOn_1.2.2.2.2.2.2.2.1 (by decide) ?_
      refine pV hC hK hl hP hD (m_paper l G h0 jn5817 1 nw nk mhasKept nt mtaped nr mrowMany mroundOf mroundFrom mouts nm mfromHour mtoHour ns mfrom mto msort misFault mdeep mcoded mlines nl nc nF np ntr nb mbestCost nso nsi nit nsh nsf nss nrc mtraced mdealer mnumber mwhose msize misParted fnw (by omega) (by omega)) si_X12_88 [0, 1] sm_0_1 fm_0_1 nd_0_1 rfl rfl rfl rfl rfl (Nat.le_of_ble_eq_true rfl) rm_3_1_3 ⟨by first | exact Nat.le_of_ble_eq_true rfl | exact Nat.zero_le _, by first | exact Nat.le_of_ble_eq_true rfl | exact Nat.zero_le _⟩ gX12_kindOn_1.2.2.2.2.2.2.2.2.1 (Keqr ?_)
      refine lv_iconst (v := 1) hx hb gX12_kindOn_1.2.2.2.2.2.2.2.2.2 (by decide) ?_
      refine lv_aload_n hx hb gX12_kindOn_2.1 rfl (lv_at1 hl) ?_
      refine lv_iload_n hx hb gX12_kindOn_2.2.1 rfl (lv_at0 hl) ?_
      obtain ⟨jn5820, hjn5820, ek5820⟩ := Hs_nat (by omega) a5816
      refine eqi (x1 := nI jn5820) ek5820 ?_
      refine lv_iconst (v := 0) hx hb gX12_kindOn_2.2.2.1 (by decide) ?_
      refine pV hC hK hl hP hD (m_paper l G h0 jn5820 0 nw nk mhasKept nt mtaped nr mrowMany mroundOf mroundFrom mouts nm mfromHour mtoHour ns mfrom mto msort misFault mdeep mcoded mlines nl nc nF np ntr nb mbestCost nso nsi nit nsh nsf nss nrc mtraced mdealer mnumber mwhose msize misParted fnw (by omega) (by omega)) si_X12_88 [0, 1] sm_0_1 fm_0_1 nd_0_1 rfl rfl rfl rfl rfl (Nat.le_of_ble_eq_true rfl) rm_3_1_3 ⟨by first | exact Nat.le_of_ble_eq_true rfl | exact Nat.zero_le _, by first | exact Nat.le_of_ble_eq_true rfl | exact Nat.zero_le _⟩ gX12_kindOn_2.2.2.2.1 (Keqr ?_)
      refine lv_ishl hx hb gX12_kindOn_2.2.2.2.2.1 ?_
      refine lv_iconst (v := (-1)) hx hb gX12_kindOn_2.2.2.2.2.2.1 (by decide) ?_
      refine lv_ixor hx hb gX12_kindOn_2.2.2.2.2.2.2.1 ?_
      refine lv_iand hx hb gX12_kindOn_2.2.2.2.2.2.2.2.1 ?_
      refine lv_if_eq (tgt := 73) hx hb gX12_kindOn_2.2.2.2.2.2.2.2.2.1 (by decide) (fun c_66_5823 => ?_) (fun c_66_5823 => ?_)
      · refine lv_iconst (v := 0) hx hb gX12_kindOn_3.2.1 (by decide) ?_
        refine lv_istore_n (lv' := [(3, .int 0), (2, .int x5812), (0, .ref h0), (1, .int (nI jt))]) hx hb gX12_kindOn_3.2.2.1 rfl hl (by decide) rfl (fun ls hl => ?_)
        refine lv_aload_n hx hb gX12_kindOn_3.2.2.2.1 rfl (lv_at2 hl) ?_
        refine lv_iload_n hx hb gX12_kindOn_3.2.2.2.2.1 rfl (lv_at1 hl) ?_
        refine lv_iconst (v := 5) hx hb gX12_kindOn_3.2.2.2.2.2.1 (by decide) ?_
        refine pV hC hK hl hP hD (m_is l G kq h0 x5812 5 nw nk mhasKept nt mtaped nr mrowMany mroundOf mroundFrom mouts nm mfromHour mtoHour ns mfrom mto msort misFault mdeep mcoded mlines nl nc nF np ntr nb mbestCost nso nsi nit nsh nsf nss nrc mtraced mdealer mnumber mwhose msize misParted fnw (by omega) (ekq) (by omega)) si_X12_120 [0, 1] sm_0_1 fm_0_1 nd_0_1 rfl rfl rfl rfl rfl (Nat.le_of_ble_eq_true rfl) rm_3_2_3 ⟨by first | exact Nat.le_of_ble_eq_true rfl | exact Nat.zero_le _, by first | exact Nat.le_of_ble_eq_true rfl | exact Nat.zero_le _⟩ gX12_kindOn_3.2.2.2.2.2.2.1 (Kors (Keqa fun a5825 => ?_) (Keqa fun a5825 => ?_))
        · refine lv_if_ne (tgt := 88) hx hb gX12_kindOn_3.2.2.2.2.2.2.2.1 (by decide) (fun _ => ?_) (fun c9 => absurd c9 (by decide))
          refine lv_iload_n hx hb gX12_kindOn_4.1 rfl (lv_at0 hl) ?_
          refine lv_if_ne (tgt := 96) hx hb gX12_kindOn_4.2.1 (by decide) (fun c9 => absurd (by decide) c9) (fun _ => ?_)
          refine lv_iconst (v := 2) hx hb gX12_kindOn_4.2.2.1 (by decide) ?_
          refine lv_goto (tgt := 110) hx hb gX12_kindOn_4.2.2.2.1 (by decide) ?_
          refine toQ hQ0 ?_
          exact RP (v := 2) hC (Or.inr (Or.inr (Or.inl (⟨rfl, KO1.mk (kk := kq) (by omega) (by omega) ex5813 ex5812 c_13_5814 a5825⟩)))) rfl gX12_kindOn_5.2.2.1
        · exact absurd a5816 a5825
      · refine lv_iconst (v := 1) hx hb gX12_kindOn_2.2.2.2.2.2.2.2.2.2 (by decide) ?_
        refine lv_goto (tgt := 74) hx hb gX12_kindOn_3.1 (by decide) ?_
        refine lv_istore_n (lv' := [(3, .int 1), (2, .int x5812), (0, .ref h0), (1, .int (nI jt))]) hx hb gX12_kindOn_3.2.2.1 rfl hl (by decide) rfl (fun ls hl => ?_)
        refine lv_aload_n hx hb gX12_kindOn_3.2.2.2.1 rfl (lv_at2 hl) ?_
        refine lv_iload_n hx hb gX12_kindOn_3.2.2.2.2.1 rfl (lv_at1 hl) ?_
        refine lv_iconst (v := 5) hx hb gX12_kindOn_3.2.2.2.2.2.1 (by decide) ?_
        refine pV hC hK hl hP hD (m_is l G kq h0 x5812 5 nw nk mhasKept nt mtaped nr mrowMany mroundOf mroundFrom mouts nm mfromHour mtoHour ns mfrom mto msort misFault mdeep mcoded mlines nl nc nF np ntr nb mbestCost nso nsi nit nsh nsf nss nrc mtraced mdealer mnumber mwhose msize misParted fnw (by omega) (ekq) (by omega)) si_X12_120 [0, 1] sm_0_1 fm_0_1 nd_0_1 rfl rfl rfl rfl rfl (Nat.le_of_ble_eq_true rfl) rm_3_2_3 ⟨by first | exact Nat.le_of_ble_eq_true rfl | exact Nat.zero_le _, by first | exact Nat.le_of_ble_eq_true rfl | exact Nat.zero_le _⟩ gX12_kindOn_3.2.2.2.2.2.2.1 (Kors (Keqa fun a5827 => ?_) (Keqa fun a5827 => ?_))
        · refine lv_if_ne (tgt := 88) hx hb gX12_kindOn_3.2.2.2.2.2.2.2.1 (by decide) (fun _ => ?_) (fun c9 => absurd c9 (by decide))
          refine lv_iload_n hx hb gX12_kindOn_4.1 rfl (lv_at0 hl) ?_
          refine lv_if_ne (tgt := 96) hx hb gX12_kindOn_4.2.1 (by decide) (fun _ => ?_) (fun c9 => absurd c9 (by decide))
          refine lv_aload_n hx hb gX12_kindOn_4.2.2.2.2.1 rfl (lv_at2 hl) ?_
          refine lv_iload_n hx hb gX12_kindOn_4.2.2.2.2.2.1 rfl (lv_at1 hl) ?_
          obtain ⟨jn5828, hjn5828, ek5828⟩ := Hs_nat (by omega) a5827
          refine eqi (x1 := nI jn5828) ek5828 ?_
          refine lv_iconst (v := 3) hx hb gX12_kindOn_4.2.2.2.2.2.2.1 (by decide) ?_
          refine pV hC hK hl hP hD (m_paper l G h0 jn5828 3 nw nk mhasKept nt mtaped nr mrowMany mroundOf mroundFrom mouts nm mfromHour mtoHour ns mfrom mto msort misFault mdeep mcoded mlines nl nc nF np ntr nb mbestCost nso nsi nit nsh nsf nss nrc mtraced mdealer mnumber mwhose msize misParted fnw (by omega) (by omega)) si_X12_88 [0, 1] sm_0_1 fm_0_1 nd_0_1 rfl rfl rfl rfl rfl (Nat.le_of_ble_eq_true rfl) rm_3_1_3 ⟨by first | exact Nat.le_of_ble_eq_true rfl | exact Nat.zero_le _, by first | exact Nat.le_of_ble_eq_true rfl | exact Nat.zero_le _⟩ gX12_kindOn_4.2.2.2.2.2.2.2.1 (Keqr ?_)
          refine lv_if_le (tgt := 109) hx hb gX12_kindOn_4.2.2.2.2.2.2.2.2.1 (by decide) (fun c_102_5831 => ?_) (fun c_102_5831 => ?_)
          · refine lv_iconst (v := 1) hx hb gX12_kindOn_5.2.1 (by decide) ?_
            refine toQ hQ0 ?_
            exact RP (v := 1) hC (Or.inr (Or.inl (⟨rfl, KO1.mk (kk := kq) (by omega) (by omega) ex5813 ex5812 c_13_5814 a5827⟩))) rfl gX12_kindOn_5.2.2.1
          · refine lv_iconst (v := 3) hx hb gX12_kindOn_4.2.2.2.2.2.2.2.2.2 (by decide) ?_
            refine lv_goto (tgt := 110) hx hb gX12_kindOn_5.1 (by decide) ?_
            refine toQ hQ0 ?_
            exact RP (v := 3) hC (Or.inr (Or.inr (Or.inr (Or.inl (⟨rfl, KO1.mk (kk := kq) (by omega) (by omega) ex5813 ex5812 c_13_5814 a5827⟩))))) rfl gX12_kindOn_5.2.2.1
        · exact absurd a5816 a5827
    · refine lv_if_eq (tgt := 73) hx hb gX12_kindOn_1.2.2.2.2.1 (by decide) (fun _ => ?_) (fun c9 => absurd (by decide) c9)
      refine lv_iconst (v := 0) hx hb gX12_kindOn_3.2.1 (by decide) ?_
      refine lv_istore_n (lv' := [(3, .int 0), (2, .int x5812), (0, .ref h0), (1, .int (nI jt))]) hx hb gX12_kindOn_3.2.2.1 rfl hl (by decide) rfl (fun ls hl => ?_)
      refine lv_aload_n hx hb gX12_kindOn_3.2.2.2.1 rfl (lv_at2 hl) ?_
      refine lv_iload_n hx hb gX12_kindOn_3.2.2.2.2.1 rfl (lv_at1 hl) ?_
      refine lv_iconst (v := 5) hx hb gX12_kindOn_3.2.2.2.2.2.1 (by decide) ?_
      refine pV hC hK hl hP hD (m_is l G kq h0 x5812 5 nw nk mhasKept nt mtaped nr mrowMany mroundOf mroundFrom mouts nm mfromHour mtoHour ns mfrom mto msort misFault mdeep mcoded mlines nl nc nF np ntr nb mbestCost nso nsi nit nsh nsf nss nrc mtraced mdealer mnumber mwhose msize misParted fnw (by omega) (ekq) (by omega)) si_X12_120 [0, 1] sm_0_1 fm_0_1 nd_0_1 rfl rfl rfl rfl rfl (Nat.le_of_ble_eq_true rfl) rm_3_2_3 ⟨by first | exact Nat.le_of_ble_eq_true rfl | exact Nat.zero_le _, by first | exact Nat.le_of_ble_eq_true rfl | exact Nat.zero_le _⟩ gX12_kindOn_3.2.2.2.2.2.2.1 (Kors (Keqa fun a5833 => ?_) (Keqa fun a5833 => ?_))
      · exact absurd a5833 a5816
      · refine lv_if_ne (tgt := 88) hx hb gX12_kindOn_3.2.2.2.2.2.2.2.1 (by decide) (fun c9 => absurd (by decide) c9) (fun _ => ?_)
        refine lv_iconst (v := (-1)) hx hb gX12_kindOn_3.2.2.2.2.2.2.2.2.1 (by decide) ?_
        refine lv_goto (tgt := 110) hx hb gX12_kindOn_3.2.2.2.2.2.2.2.2.2 (by decide) ?_
        refine toQ hQ0 ?_
        exact RP (v := (-1)) hC (Or.inl (rfl)) rfl gX12_kindOn_5.2.2.1
  by_cases c_13_5834 : x5813 = 2
  · refine lv_tableIn (tgt := 111) hx hb gX12_kindOn_0.2.2.2.2.2.2.2.2.2 (by rw [c_13_5834]; decide) (by rw [c_13_5834]; decide) (by rw [c_13_5834]; rfl) (by decide) ?_
    refine lv_aload_n hx hb gX12_kindOn_5.2.2.2.1 rfl (lv_at1 hl) ?_
    refine lv_iload_n hx hb gX12_kindOn_5.2.2.2.2.1 rfl (lv_at0 hl) ?_
    refine lv_bipush (v := 8) hx hb gX12_kindOn_5.2.2.2.2.2.1 (by decide) ?_
    refine pV hC hK hl hP hD (m_is l G k8 h0 x5812 8 nw nk mhasKept nt mtaped nr mrowMany mroundOf mroundFrom mouts nm mfromHour mtoHour ns mfrom mto msort misFault mdeep mcoded mlines nl nc nF np ntr nb mbestCost nso nsi nit nsh nsf nss nrc mtraced mdealer mnumber mwhose msize misParted fnw (by omega) (ek8) (by omega)) si_X12_120 [0, 1] sm_0_1 fm_0_1 nd_0_1 rfl rfl rfl rfl rfl (Nat.le_of_ble_eq_true rfl) rm_3_2_3 ⟨by first | exact Nat.le_of_ble_eq_true rfl | exact Nat.zero_le _, by first | exact Nat.le_of_ble_eq_true rfl | exact Nat.zero_le _⟩ gX12_kindOn_5.2.2.2.2.2.2.1 (Kors (Keqa fun a5836 => ?_) (Keqa fun a5836 => ?_))
    · refine lv_if_ne (tgt := 125) hx hb gX12_kindOn_5.2.2.2.2.2.2.2.1 (by decide) (fun _ => ?_) (fun c9 => absurd c9 (by decide))
      refine lv_aload_n hx hb gX12_kindOn_6.1 rfl (lv_at1 hl) ?_
      refine lv_iload_n hx hb gX12_kindOn_6.2.1 rfl (lv_at0 hl) ?_
      obtain ⟨jn5837, hjn5837, ek5837⟩ := Hs_nat (by omega) a5836
      refine eqi (x1 := nI jn5837) ek5837 ?_
      refine lv_bipush (v := 6) hx hb gX12_kindOn_6.2.2.1 (by decide) ?_
      refine pV hC hK hl hP hD (m_saying l G h0 jn5837 6 nw nk mhasKept nt mtaped nr mrowMany mroundOf mroundFrom mouts nm mfromHour mtoHour ns mfrom mto msort misFault mdeep mcoded mlines nl nc nF np ntr nb mbestCost nso nsi nit nsh nsf nss nrc mtraced mdealer mnumber mwhose msize misParted fnw (by omega) (by omega)) si_X12_114 [0, 1] sm_0_1 fm_0_1 nd_0_1 rfl rfl rfl rfl rfl (Nat.le_of_ble_eq_true rfl) rm_3_1_3 ⟨by first | exact Nat.le_of_ble_eq_true rfl | exact Nat.zero_le _, by first | exact Nat.le_of_ble_eq_true rfl | exact Nat.zero_le _⟩ gX12_kindOn_6.2.2.2.1 (Keqr ?_)
      refine lv_if_ge (tgt := 139) hx hb gX12_kindOn_6.2.2.2.2.1 (by decide) (fun c_132_5840 => ?_) (fun c_132_5840 => ?_)
      · refine lv_iconst (v := 4) hx hb gX12_kindOn_6.2.2.2.2.2.2.2.1 (by decide) ?_
        refine toQ hQ0 ?_
        exact RP (v := 4) hC (Or.inr (Or.inr (Or.inr (Or.inr (Or.inl (⟨rfl, KO1.mk (kk := k8) (by omega) (by omega) ex5813 ex5812 c_13_5834 a5836⟩)))))) rfl gX12_kindOn_6.2.2.2.2.2.2.2.2.1
      · refine lv_iconst (v := 5) hx hb gX12_kindOn_6.2.2.2.2.2.1 (by decide) ?_
        refine lv_goto (tgt := 140) hx hb gX12_kindOn_6.2.2.2.2.2.2.1 (by decide) ?_
        refine toQ hQ0 ?_
        exact RP (v := 5) hC (Or.inr (Or.inr (Or.inr (Or.inr (Or.inr (Or.inl (⟨rfl, KO1.mk (kk := k8) (by omega) (by omega) ex5813 ex5812 c_13_5834 a5836⟩))))))) rfl gX12_kindOn_6.2.2.2.2.2.2.2.2.1
    · refine lv_if_ne (tgt := 125) hx hb gX12_kindOn_5.2.2.2.2.2.2.2.1 (by decide) (fun c9 => absurd (by decide) c9) (fun _ => ?_)
      refine lv_iconst (v := (-1)) hx hb gX12_kindOn_5.2.2.2.2.2.2.2.2.1 (by decide) ?_
      refine lv_goto (tgt := 140) hx hb gX12_kindOn_5.2.2.2.2.2.2.2.2.2 (by decide) ?_
      refine toQ hQ0 ?_
      exact RP (v := (-1)) hC (Or.inl (rfl)) rfl gX12_kindOn_6.2.2.2.2.2.2.2.2.1
  by_cases c_13_5841 : x5813 = 3
  · refine lv_tableIn (tgt := 141) hx hb gX12_kindOn_0.2.2.2.2.2.2.2.2.2 (by rw [c_13_5841]; decide) (by rw [c_13_5841]; decide) (by rw [c_13_5841]; rfl) (by decide) ?_
    refine lv_aload_n hx hb gX12_kindOn_6.2.2.2.2.2.2.2.2.2 rfl (lv_at1 hl) ?_
    refine lv_iload_n hx hb gX12_kindOn_7.1 rfl (lv_at0 hl) ?_
    refine lv_bipush (v := 9) hx hb gX12_kindOn_7.2.1 (by decide) ?_
    refine pV hC hK hl hP hD (m_is l G k9 h0 x5812 9 nw nk mhasKept nt mtaped nr mrowMany mroundOf mroundFrom mouts nm mfromHour mtoHour ns mfrom mto msort misFault mdeep mcoded mlines nl nc nF np ntr nb mbestCost nso nsi nit nsh nsf nss nrc mtraced mdealer mnumber mwhose msize misParted fnw (by omega) (ek9) (by omega)) si_X12_120 [0, 1] sm_0_1 fm_0_1 nd_0_1 rfl rfl rfl rfl rfl (Nat.le_of_ble_eq_true rfl) rm_3_2_3 ⟨by first | exact Nat.le_of_ble_eq_true rfl | exact Nat.zero_le _, by first | exact Nat.le_of_ble_eq_true rfl | exact Nat.zero_le _⟩ gX12_kindOn_7.2.2.1 (Kors (Keqa fun a5843 => ?_) (Keqa fun a5843 => ?_))
    · refine lv_if_eq (tgt := 156) hx hb gX12_kindOn_7.2.2.2.1 (by decide) (fun c9 => absurd c9 (by decide)) (fun _ => ?_)
      refine lv_bipush (v := 6) hx hb gX12_kindOn_7.2.2.2.2.1 (by decide) ?_
      refine lv_goto (tgt := 157) hx hb gX12_kindOn_7.2.2.2.2.2.1 (by decide) ?_
      refine toQ hQ0 ?_
      exact RP (v := 6) hC (Or.inr (Or.inr (Or.inr (Or.inr (Or.inr (Or.inr (⟨rfl, KO1.mk (kk := k9) (by omega) (by omega) ex5813 ex5812 c_13_5841 a5843⟩))))))) rfl gX12_kindOn_7.2.2.2.2.2.2.2.1
    · refine lv_if_eq (tgt := 156) hx hb gX12_kindOn_7.2.2.2.1 (by decide) (fun _ => ?_) (fun c9 => absurd (by decide) c9)
      refine lv_iconst (v := (-1)) hx hb gX12_kindOn_7.2.2.2.2.2.2.1 (by decide) ?_
      refine toQ hQ0 ?_
      exact RP (v := (-1)) hC (Or.inl (rfl)) rfl gX12_kindOn_7.2.2.2.2.2.2.2.1
  refine lv_tableOut (tgt := 158) hx hb gX12_kindOn_0.2.2.2.2.2.2.2.2.2 (by have q9 := sw_1_3 (x := x5813); simp only [c_13_5814, c_13_5834, c_13_5841, not_false_eq_true, true_implies] at q9; exact q9) (by decide) ?_
  refine lv_iconst (v := (-1)) hx hb gX12_kindOn_7.2.2.2.2.2.2.2.2.1 (by decide) ?_
  refine toQ hQ0 ?_
  exact RP (v := (-1)) hC (Or.inl (rfl)) rfl gX12_kindOn_7.2.2.2.2.2.2.2.2.2
def K_m_above0 (l : Launch) (G : GG) : Prop := MP l G yX12_above cX12_above 1 (some .int) 1 [.int 0] [] (fun r : Int32 => r = (-1))
set_option maxHeartbeats 4000000 in
set_option maxRecDepth 100000 in
theorem m_above0 (l : Launch) (G : GG) : K_m_above0 l G := by
  refine MP.start (by decide +kernel) (Nat.le_of_ble_eq_true rfl) ?_
  intro p e s m below meth c ls hC hK hP hD hl
  refine absQ (fun Q0 hQ0 => ?_)
  have hl : lv_has ls 1 [(0, .int 0)] := hl
  refine Kan8 hC (fun hx hb hr hml hB hown hlocks hnm => ?_)
  refine lv_iload_n hx hb gX12_above_0.1 rfl (lv_at0 hl) ?_
  refine lv_iconst (v := 3) hx hb gX12_above_0.2.1 (by decide) ?_
  refine lv_icmp_ne (tgt := 9) hx hb gX12_above_0.2.2.1 (by decide) (fun _ => ?_) (fun c9 => absurd c9 (by decide))
  refine lv_iload_n hx hb gX12_above_0.2.2.2.2.2.1 rfl (lv_at0 hl) ?_
  refine lv_iconst (v := 5) hx hb gX12_above_0.2.2.2.2.2.2.1 (by decide) ?_
  refine lv_icmp_ne (tgt := 18) hx hb gX12_above_0.2.2.2.2.2.2.2.1 (by decide) (fun _ => ?_) (fun c9 => absurd c9 (by decide))
  refine lv_iload_n hx hb gX12_above_1.1 rfl (lv_at0 hl) ?_
  refine lv_if_ne (tgt := 26) hx hb gX12_above_1.2.1 (by decide) (fun c9 => absurd (by decide) c9) (fun _ => ?_)
  refine lv_iconst (v := (-1)) hx hb gX12_above_1.2.2.1 (by decide) ?_
  refine lv_goto (tgt := 27) hx hb gX12_above_1.2.2.2.1 (by decide) ?_
  refine toQ hQ0 ?_
  exact RP (v := (-1)) hC (rfl) rfl gX12_above_1.2.2.2.2.2
def K_m_above1 (l : Launch) (G : GG) : Prop := MP l G yX12_above cX12_above 1 (some .int) 1 [.int 1] [] (fun r : Int32 => r = 0)
set_option maxHeartbeats 4000000 in
set_option maxRecDepth 100000 in
theorem m_above1 (l : Launch) (G : GG) : K_m_above1 l G := by
  refine MP.start (by decide +kernel) (Nat.le_of_ble_eq_true rfl) ?_
  intro p e s m below meth c ls hC hK hP hD hl
  refine absQ (fun Q0 hQ0 => ?_)
  have hl : lv_has ls 1 [(0, .int 1)] := hl
  refine Kan8 hC (fun hx hb hr hml hB hown hlocks hnm => ?_)
  refine lv_iload_n hx hb gX12_above_0.1 rfl (lv_at0 hl) ?_
  refine lv_iconst (v := 3) hx hb gX12_above_0.2.1 (by decide) ?_
  refine lv_icmp_ne (tgt := 9) hx hb gX12_above_0.2.2.1 (by decide) (fun _ => ?_) (fun c9 => absurd c9 (by decide))
  refine lv_iload_n hx hb gX12_above_0.2.2.2.2.2.1 rfl (lv_at0 hl) ?_
  refine lv_iconst (v := 5) hx hb gX12_above_0.2.2.2.2.2.2.1 (by decide) ?_
  refine lv_icmp_ne (tgt := 18) hx hb gX12_above_0.2.2.2.2.2.2.2.1 (by decide) (fun _ => ?_) (fun c9 => absurd c9 (by decide))
  refine lv_iload_n hx hb gX12_above_1.1 rfl (lv_at0 hl) ?_
  refine lv_if_ne (tgt := 26) hx hb gX12_above_1.2.1 (by decide) (fun _ => ?_) (fun c9 => absurd c9 (by decide))
  refine lv_iconst (v := 0) hx hb gX12_above_1.2.2.2.2.1 (by decide) ?_
  refine toQ hQ0 ?_
  exact RP (v := 0) hC (rfl) rfl gX12_above_1.2.2.2.2.2
def K_m_above2 (l : Launch) (G : GG) : Prop := MP l G yX12_above cX12_above 1 (some .int) 1 [.int 2] [] (fun r : Int32 => r = 0)
set_option maxHeartbeats 4000000 in
set_option maxRecDepth 100000 in
theorem m_above2 (l : Launch) (G : GG) : K_m_above2 l G := by
  refine MP.start (by decide +kernel) (Nat.le_of_ble_eq_true rfl) ?_
  intro p e s m below meth c ls hC hK hP hD hl
  refine absQ (fun Q0 hQ0 => ?_)
  have hl : lv_has ls 1 [(0, .int 2)] := hl
  refine Kan8 hC (fun hx hb hr hml hB hown hlocks hnm => ?_)
  refine lv_iload_n hx hb gX12_above_0.1 rfl (lv_at0 hl) ?_
  refine lv_iconst (v := 3) hx hb gX12_above_0.2.1 (by decide) ?_
  refine lv_icmp_ne (tgt := 9) hx hb gX12_above_0.2.2.1 (by decide) (fun _ => ?_) (fun c9 => absurd c9 (by decide))
  refine lv_iload_n hx hb gX12_above_0.2.2.2.2.2.1 rfl (lv_at0 hl) ?_
  refine lv_iconst (v := 5) hx hb gX12_above_0.2.2.2.2.2.2.1 (by decide) ?_
  refine lv_icmp_ne (tgt := 18) hx hb gX12_above_0.2.2.2.2.2.2.2.1 (by decide) (fun _ => ?_) (fun c9 => absurd c9 (by decide))
  refine lv_iload_n hx hb gX12_above_1.1 rfl (lv_at0 hl) ?_
  refine lv_if_ne (tgt := 26) hx hb gX12_above_1.2.1 (by decide) (fun _ => ?_) (fun c9 => absurd c9 (by decide))
  refine lv_iconst (v := 0) hx hb gX12_above_1.2.2.2.2.1 (by decide) ?_
  refine toQ hQ0 ?_
  exact RP (v := 0) hC (rfl) rfl gX12_above_1.2.2.2.2.2
def K_m_above3 (l : Launch) (G : GG) : Prop := MP l G yX12_above cX12_above 1 (some .int) 1 [.int 3] [] (fun r : Int32 => r = 1)
set_option maxHeartbeats 4000000 in
set_option maxRecDepth 100000 in
theorem m_above3 (l : Launch) (G : GG) : K_m_above3 l G := by
  refine MP.start (by decide +kernel) (Nat.le_of_ble_eq_true rfl) ?_
  intro p e s m below meth c ls hC hK hP hD hl
  refine absQ (fun Q0 hQ0 => ?_)
  have hl : lv_has ls 1 [(0, .int 3)] := hl
  refine Kan8 hC (fun hx hb hr hml hB hown hlocks hnm => ?_)
  refine lv_iload_n hx hb gX12_above_0.1 rfl (lv_at0 hl) ?_
  refine lv_iconst (v := 3) hx hb gX12_above_0.2.1 (by decide) ?_
  refine lv_icmp_ne (tgt := 9) hx hb gX12_above_0.2.2.1 (by decide) (fun c9 => absurd (by decide) c9) (fun _ => ?_)
  refine lv_iconst (v := 1) hx hb gX12_above_0.2.2.2.1 (by decide) ?_
  refine lv_goto (tgt := 27) hx hb gX12_above_0.2.2.2.2.1 (by decide) ?_
  refine toQ hQ0 ?_
  exact RP (v := 1) hC (rfl) rfl gX12_above_1.2.2.2.2.2
def K_m_above4 (l : Launch) (G : GG) : Prop := MP l G yX12_above cX12_above 1 (some .int) 1 [.int 4] [] (fun r : Int32 => r = 0)
set_option maxHeartbeats 4000000 in
set_option maxRecDepth 100000 in
theorem m_above4 (l : Launch) (G : GG) : K_m_above4 l G := by
  refine MP.start (by decide +kernel) (Nat.le_of_ble_eq_true rfl) ?_
  intro p e s m below meth c ls hC hK hP hD hl
  refine absQ (fun Q0 hQ0 => ?_)
  have hl : lv_has ls 1 [(0, .int 4)] := hl
  refine Kan8 hC (fun hx hb hr hml hB hown hlocks hnm => ?_)
  refine lv_iload_n hx hb gX12_above_0.1 rfl (lv_at0 hl) ?_
  refine lv_iconst (v := 3) hx hb gX12_above_0.2.1 (by decide) ?_
  refine lv_icmp_ne (tgt := 9) hx hb gX12_above_0.2.2.1 (by decide) (fun _ => ?_) (fun c9 => absurd c9 (by decide))
  refine lv_iload_n hx hb gX12_above_0.2.2.2.2.2.1 rfl (lv_at0 hl) ?_
  refine lv_iconst (v := 5) hx hb gX12_above_0.2.2.2.2.2.2.1 (by decide) ?_
  refine lv_icmp_ne (tgt := 18) hx hb gX12_above_0.2.2.2.2.2.2.2.1 (by decide) (fun _ => ?_) (fun c9 => absurd c9 (by decide))
  refine lv_iload_n hx hb gX12_above_1.1 rfl (lv_at0 hl) ?_
  refine lv_if_ne (tgt := 26) hx hb gX12_above_1.2.1 (by decide) (fun _ => ?_) (fun c9 => absurd c9 (by decide))
  refine lv_iconst (v := 0) hx hb gX12_above_1.2.2.2.2.1 (by decide) ?_
  refine toQ hQ0 ?_
  exact RP (v := 0) hC (rfl) rfl gX12_above_1.2.2.2.2.2
def K_m_above5 (l : Launch) (G : GG) : Prop := MP l G yX12_above cX12_above 1 (some .int) 1 [.int 5] [] (fun r : Int32 => r = 4)
set_option maxHeartbeats 4000000 in
set_option maxRecDepth 100000 in
theorem m_above5 (l : Launch) (G : GG) : K_m_above5 l G := by
  refine MP.start (by decide +kernel) (Nat.le_of_ble_eq_true rfl) ?_
  intro p e s m below meth c ls hC hK hP hD hl
  refine absQ (fun Q0 hQ0 => ?_)
  have hl : lv_has ls 1 [(0, .int 5)] := hl
  refine Kan8 hC (fun hx hb hr hml hB hown hlocks hnm => ?_)
  refine lv_iload_n hx hb gX12_above_0.1 rfl (lv_at0 hl) ?_
  refine lv_iconst (v := 3) hx hb gX12_above_0.2.1 (by decide) ?_
  refine lv_icmp_ne (tgt := 9) hx hb gX12_above_0.2.2.1 (by decide) (fun _ => ?_) (fun c9 => absurd c9 (by decide))
  refine lv_iload_n hx hb gX12_above_0.2.2.2.2.2.1 rfl (lv_at0 hl) ?_
  refine lv_iconst (v := 5) hx hb gX12_above_0.2.2.2.2.2.2.1 (by decide) ?_
  refine lv_icmp_ne (tgt := 18) hx hb gX12_above_0.2.2.2.2.2.2.2.1 (by decide) (fun c9 => absurd (by decide) c9) (fun _ => ?_)
  refine lv_iconst (v := 4) hx hb gX12_above_0.2.2.2.2.2.2.2.2.1 (by decide) ?_
  refine lv_goto (tgt := 27) hx hb gX12_above_0.2.2.2.2.2.2.2.2.2 (by decide) ?_
  refine toQ hQ0 ?_
  exact RP (v := 4) hC (rfl) rfl gX12_above_1.2.2.2.2.2
def K_m_above6 (l : Launch) (G : GG) : Prop := MP l G yX12_above cX12_above 1 (some .int) 1 [.int 6] [] (fun r : Int32 => r = 0)
set_option maxHeartbeats 4000000 in
set_option maxRecDepth 100000 in
theorem m_above6 (l : Launch) (G : GG) : K_m_above6 l G := by
  refine MP.start (by decide +kernel) (Nat.le_of_ble_eq_true rfl) ?_
  intro p e s m below meth c ls hC hK hP hD hl
  refine absQ (fun Q0 hQ0 => ?_)
  have hl : lv_has ls 1 [(0, .int 6)] := hl
  refine Kan8 hC (fun hx hb hr hml hB hown hlocks hnm => ?_)
  refine lv_iload_n hx hb gX12_above_0.1 rfl (lv_at0 hl) ?_
  refine lv_iconst (v := 3) hx hb gX12_above_0.2.1 (by decide) ?_
  refine lv_icmp_ne (tgt := 9) hx hb gX12_above_0.2.2.1 (by decide) (fun _ => ?_) (fun c9 => absurd c9 (by decide))
  refine lv_iload_n hx hb gX12_above_0.2.2.2.2.2.1 rfl (lv_at0 hl) ?_
  refine lv_iconst (v := 5) hx hb gX12_above_0.2.2.2.2.2.2.1 (by decide) ?_
  refine lv_icmp_ne (tgt := 18) hx hb gX12_above_0.2.2.2.2.2.2.2.1 (by decide) (fun _ => ?_) (fun c9 => absurd c9 (by decide))
  refine lv_iload_n hx hb gX12_above_1.1 rfl (lv_at0 hl) ?_
  refine lv_if_ne (tgt := 26) hx hb gX12_above_1.2.1 (by decide) (fun _ => ?_) (fun c9 => absurd c9 (by decide))
  refine lv_iconst (v := 0) hx hb gX12_above_1.2.2.2.2.1 (by decide) ?_
  refine toQ hQ0 ?_
  exact RP (v := 0) hC (rfl) rfl gX12_above_1.2.2.2.2.2
def K_m_hasOwn00 (l : Launch) (G : GG) : Prop := MP l G yX12_hasOwn cX12_hasOwn 2 (some .boolean) 1 [.int 0, .int 0] [] (fun r : Int32 => r = 1)
set_option maxHeartbeats 4000000 in
set_option maxRecDepth 100000 in
theorem m_hasOwn00 (l : Launch) (G : GG) : K_m_hasOwn00 l G := by
  refine MP.start (by decide +kernel) (Nat.le_of_ble_eq_true rfl) ?_
  intro p e s m below meth c ls hC hK hP hD hl
  refine absQ (fun Q0 hQ0 => ?_)
  have hl : lv_has ls 2 [(0, .int 0), (1, .int 0)] := hl
  refine Kan8 hC (fun hx hb hr hml hB hown hlocks hnm => ?_)
  refine lv_iload_n hx hb gX12_hasOwn_0.1 rfl (lv_at0 hl) ?_
  refine lv_tableIn (tgt := 40) hx hb gX12_hasOwn_0.2.1 (by decide) (by decide) rfl (by decide) ?_
  refine lv_iconst (v := 1) hx hb gX12_hasOwn_0.2.2.1 (by decide) ?_
  refine toQ hQ0 ?_
  exact RP (v := 1) hC (rfl) (by decide +kernel) gX12_hasOwn_0.2.2.2.1
def K_m_hasOwn01 (l : Launch) (G : GG) : Prop := MP l G yX12_hasOwn cX12_hasOwn 2 (some .boolean) 1 [.int 0, .int 1] [] (fun r : Int32 => r = 1)
set_option maxHeartbeats 4000000 in
set_option maxRecDepth 100000 in
theorem m_hasOwn01 (l : Launch) (G : GG) : K_m_hasOwn01 l G := by
  refine MP.start (by decide +kernel) (Nat.le_of_ble_eq_true rfl) ?_
  intro p e s m below meth c ls hC hK hP hD hl
  refine absQ (fun Q0 hQ0 => ?_)
  have hl : lv_has ls 2 [(0, .int 0), (1, .int 1)] := hl
  refine Kan8 hC (fun hx hb hr hml hB hown hlocks hnm => ?_)
  refine lv_iload_n hx hb gX12_hasOwn_0.1 rfl (lv_at0 hl) ?_
  refine lv_tableIn (tgt := 40) hx hb gX12_hasOwn_0.2.1 (by decide) (by decide) rfl (by decide) ?_
  refine lv_iconst (v := 1) hx hb gX12_hasOwn_0.2.2.1 (by decide) ?_
  refine toQ hQ0 ?_
  exact RP (v := 1) hC (rfl) (by decide +kernel) gX12_hasOwn_0.2.2.2.1
def K_m_hasOwn02 (l : Launch) (G : GG) : Prop := MP l G yX12_hasOwn cX12_hasOwn 2 (some .boolean) 1 [.int 0, .int 2] [] (fun r : Int32 => r = 1)
set_option maxHeartbeats 4000000 in
set_option maxRecDepth 100000 in
theorem m_hasOwn02 (l : Launch) (G : GG) : K_m_hasOwn02 l G := by
  refine MP.start (by decide +kernel) (Nat.le_of_ble_eq_true rfl) ?_
  intro p e s m below meth c ls hC hK hP hD hl
  refine absQ (fun Q0 hQ0 => ?_)
  have hl : lv_has ls 2 [(0, .int 0), (1, .int 2)] := hl
  refine Kan8 hC (fun hx hb hr hml hB hown hlocks hnm => ?_)
  refine lv_iload_n hx hb gX12_hasOwn_0.1 rfl (lv_at0 hl) ?_
  refine lv_tableIn (tgt := 40) hx hb gX12_hasOwn_0.2.1 (by decide) (by decide) rfl (by decide) ?_
  refine lv_iconst (v := 1) hx hb gX12_hasOwn_0.2.2.1 (by decide) ?_
  refine toQ hQ0 ?_
  exact RP (v := 1) hC (rfl) (by decide +kernel) gX12_hasOwn_0.2.2.2.1
def K_m_hasOwn03 (l : Launch) (G : GG) : Prop := MP l G yX12_hasOwn cX12_hasOwn 2 (some .boolean) 1 [.int 0, .int 3] [] (fun r : Int32 => r = 1)
set_option maxHeartbeats 4000000 in
set_option maxRecDepth 100000 in
theorem m_hasOwn03 (l : Launch) (G : GG) : K_m_hasOwn03 l G := by
  refine MP.start (by decide +kernel) (Nat.le_of_ble_eq_true rfl) ?_
  intro p e s m below meth c ls hC hK hP hD hl
  refine absQ (fun Q0 hQ0 => ?_)
  have hl : lv_has ls 2 [(0, .int 0), (1, .int 3)] := hl
  refine Kan8 hC (fun hx hb hr hml hB hown hlocks hnm => ?_)
  refine lv_iload_n hx hb gX12_hasOwn_0.1 rfl (lv_at0 hl) ?_
  refine lv_tableIn (tgt := 40) hx hb gX12_hasOwn_0.2.1 (by decide) (by decide) rfl (by decide) ?_
  refine lv_iconst (v := 1) hx hb gX12_hasOwn_0.2.2.1 (by decide) ?_
  refine toQ hQ0 ?_
  exact RP (v := 1) hC (rfl) (by decide +kernel) gX12_hasOwn_0.2.2.2.1
def K_m_hasOwn10 (l : Launch) (G : GG) : Prop := MP l G yX12_hasOwn cX12_hasOwn 2 (some .boolean) 1 [.int 1, .int 0] [] (fun r : Int32 => r = 0)
set_option maxHeartbeats 4000000 in
set_option maxRecDepth 100000 in
theorem m_hasOwn10 (l : Launch) (G : GG) : K_m_hasOwn10 l G := by
  refine MP.start (by decide +kernel) (Nat.le_of_ble_eq_true rfl) ?_
  intro p e s m below meth c ls hC hK hP hD hl
  refine absQ (fun Q0 hQ0 => ?_)
  have hl : lv_has ls 2 [(0, .int 1), (1, .int 0)] := hl
  refine Kan8 hC (fun hx hb hr hml hB hown hlocks hnm => ?_)
  refine lv_iload_n hx hb gX12_hasOwn_0.1 rfl (lv_at0 hl) ?_
  refine lv_tableIn (tgt := 42) hx hb gX12_hasOwn_0.2.1 (by decide) (by decide) rfl (by decide) ?_
  refine lv_iload_n hx hb gX12_hasOwn_0.2.2.2.2.1 rfl (lv_at1 hl) ?_
  refine lv_iconst (v := 1) hx hb gX12_hasOwn_0.2.2.2.2.2.1 (by decide) ?_
  refine lv_icmp_ne (tgt := 51) hx hb gX12_hasOwn_0.2.2.2.2.2.2.1 (by decide) (fun _ => ?_) (fun c9 => absurd c9 (by decide))
  refine lv_iconst (v := 0) hx hb gX12_hasOwn_0.2.2.2.2.2.2.2.2.2 (by decide) ?_
  refine toQ hQ0 ?_
  exact RP (v := 0) hC (rfl) (by decide +kernel) gX12_hasOwn_1.1
def K_m_hasOwn11 (l : Launch) (G : GG) : Prop := MP l G yX12_hasOwn cX12_hasOwn 2 (some .boolean) 1 [.int 1, .int 1] [] (fun r : Int32 => r = 1)
set_option maxHeartbeats 4000000 in
set_option maxRecDepth 100000 in
theorem m_hasOwn11 (l : Launch) (G : GG) : K_m_hasOwn11 l G := by
  refine MP.start (by decide +kernel) (Nat.le_of_ble_eq_true rfl) ?_
  intro p e s m below meth c ls hC hK hP hD hl
  refine absQ (fun Q0 hQ0 => ?_)
  have hl : lv_has ls 2 [(0, .int 1), (1, .int 1)] := hl
  refine Kan8 hC (fun hx hb hr hml hB hown hlocks hnm => ?_)
  refine lv_iload_n hx hb gX12_hasOwn_0.1 rfl (lv_at0 hl) ?_
  refine lv_tableIn (tgt := 42) hx hb gX12_hasOwn_0.2.1 (by decide) (by decide) rfl (by decide) ?_
  refine lv_iload_n hx hb gX12_hasOwn_0.2.2.2.2.1 rfl (lv_at1 hl) ?_
  refine lv_iconst (v := 1) hx hb gX12_hasOwn_0.2.2.2.2.2.1 (by decide) ?_
  refine lv_icmp_ne (tgt := 51) hx hb gX12_hasOwn_0.2.2.2.2.2.2.1 (by decide) (fun c9 => absurd (by decide) c9) (fun _ => ?_)
  refine lv_iconst (v := 1) hx hb gX12_hasOwn_0.2.2.2.2.2.2.2.1 (by decide) ?_
  refine lv_goto (tgt := 52) hx hb gX12_hasOwn_0.2.2.2.2.2.2.2.2.1 (by decide) ?_
  refine toQ hQ0 ?_
  exact RP (v := 1) hC (rfl) (by decide +kernel) gX12_hasOwn_1.1
def K_m_hasOwn12 (l : Launch) (G : GG) : Prop := MP l G yX12_hasOwn cX12_hasOwn 2 (some .boolean) 1 [.int 1, .int 2] [] (fun r : Int32 => r = 0)
set_option maxHeartbeats 4000000 in
set_option maxRecDepth 100000 in
theorem m_hasOwn12 (l : Launch) (G : GG) : K_m_hasOwn12 l G := by
  refine MP.start (by decide +kernel) (Nat.le_of_ble_eq_true rfl) ?_
  intro p e s m below meth c ls hC hK hP hD hl
  refine absQ (fun Q0 hQ0 => ?_)
  have hl : lv_has ls 2 [(0, .int 1), (1, .int 2)] := hl
  refine Kan8 hC (fun hx hb hr hml hB hown hlocks hnm => ?_)
  refine lv_iload_n hx hb gX12_hasOwn_0.1 rfl (lv_at0 hl) ?_
  refine lv_tableIn (tgt := 42) hx hb gX12_hasOwn_0.2.1 (by decide) (by decide) rfl (by decide) ?_
  refine lv_iload_n hx hb gX12_hasOwn_0.2.2.2.2.1 rfl (lv_at1 hl) ?_
  refine lv_iconst (v := 1) hx hb gX12_hasOwn_0.2.2.2.2.2.1 (by decide) ?_
  refine lv_icmp_ne (tgt := 51) hx hb gX12_hasOwn_0.2.2.2.2.2.2.1 (by decide) (fun _ => ?_) (fun c9 => absurd c9 (by decide))
  refine lv_iconst (v := 0) hx hb gX12_hasOwn_0.2.2.2.2.2.2.2.2.2 (by decide) ?_
  refine toQ hQ0 ?_
  exact RP (v := 0) hC (rfl) (by decide +kernel) gX12_hasOwn_1.1
def K_m_hasOwn13 (l : Launch) (G : GG) : Prop := MP l G yX12_hasOwn cX12_hasOwn 2 (some .boolean) 1 [.int 1, .int 3] [] (fun r : Int32 => r = 0)
set_option maxHeartbeats 4000000 in
set_option maxRecDepth 100000 in
theorem m_hasOwn13 (l : Launch) (G : GG) : K_m_hasOwn13 l G := by
  refine MP.start (by decide +kernel) (Nat.le_of_ble_eq_true rfl) ?_
  intro p e s m below meth c ls hC hK hP hD hl
  refine absQ (fun Q0 hQ0 => ?_)
  have hl : lv_has ls 2 [(0, .int 1), (1, .int 3)] := hl
  refine Kan8 hC (fun hx hb hr hml hB hown hlocks hnm => ?_)
  refine lv_iload_n hx hb gX12_hasOwn_0.1 rfl (lv_at0 hl) ?_
  refine lv_tableIn (tgt := 42) hx hb gX12_hasOwn_0.2.1 (by decide) (by decide) rfl (by decide) ?_
  refine lv_iload_n hx hb gX12_hasOwn_0.2.2.2.2.1 rfl (lv_at1 hl) ?_
  refine lv_iconst (v := 1) hx hb gX12_hasOwn_0.2.2.2.2.2.1 (by decide) ?_
  refine lv_icmp_ne (tgt := 51) hx hb gX12_hasOwn_0.2.2.2.2.2.2.1 (by decide) (fun _ => ?_) (fun c9 => absurd c9 (by decide))
  refine lv_iconst (v := 0) hx hb gX12_hasOwn_0.2.2.2.2.2.2.2.2.2 (by decide) ?_
  refine toQ hQ0 ?_
  exact RP (v := 0) hC (rfl) (by decide +kernel) gX12_hasOwn_1.1
def K_m_hasOwn20 (l : Launch) (G : GG) : Prop := MP l G yX12_hasOwn cX12_hasOwn 2 (some .boolean) 1 [.int 2, .int 0] [] (fun r : Int32 => r = 0)
set_option maxHeartbeats 4000000 in
set_option maxRecDepth 100000 in
theorem m_hasOwn20 (l : Launch) (G : GG) : K_m_hasOwn20 l G := by
  refine MP.start (by decide +kernel) (Nat.le_of_ble_eq_true rfl) ?_
  intro p e s m below meth c ls hC hK hP hD hl
  refine absQ (fun Q0 hQ0 => ?_)
  have hl : lv_has ls 2 [(0, .int 2), (1, .int 0)] := hl
  refine Kan8 hC (fun hx hb hr hml hB hown hlocks hnm => ?_)
  refine lv_iload_n hx hb gX12_hasOwn_0.1 rfl (lv_at0 hl) ?_
  refine lv_tableIn (tgt := 53) hx hb gX12_hasOwn_0.2.1 (by decide) (by decide) rfl (by decide) ?_
  refine lv_iload_n hx hb gX12_hasOwn_1.2.1 rfl (lv_at1 hl) ?_
  refine lv_iconst (v := 2) hx hb gX12_hasOwn_1.2.2.1 (by decide) ?_
  refine lv_icmp_ne (tgt := 62) hx hb gX12_hasOwn_1.2.2.2.1 (by decide) (fun _ => ?_) (fun c9 => absurd c9 (by decide))
  refine lv_iconst (v := 0) hx hb gX12_hasOwn_1.2.2.2.2.2.2.1 (by decide) ?_
  refine toQ hQ0 ?_
  exact RP (v := 0) hC (rfl) (by decide +kernel) gX12_hasOwn_1.2.2.2.2.2.2.2.1
def K_m_hasOwn21 (l : Launch) (G : GG) : Prop := MP l G yX12_hasOwn cX12_hasOwn 2 (some .boolean) 1 [.int 2, .int 1] [] (fun r : Int32 => r = 0)
set_option maxHeartbeats 4000000 in
set_option maxRecDepth 100000 in
theorem m_hasOwn21 (l : Launch) (G : GG) : K_m_hasOwn21 l G := by
  refine MP.start (by decide +kernel) (Nat.le_of_ble_eq_true rfl) ?_
  intro p e s m below meth c ls hC hK hP hD hl
  refine absQ (fun Q0 hQ0 => ?_)
  have hl : lv_has ls 2 [(0, .int 2), (1, .int 1)] := hl
  refine Kan8 hC (fun hx hb hr hml hB hown hlocks hnm => ?_)
  refine lv_iload_n hx hb gX12_hasOwn_0.1 rfl (lv_at0 hl) ?_
  refine lv_tableIn (tgt := 53) hx hb gX12_hasOwn_0.2.1 (by decide) (by decide) rfl (by decide) ?_
  refine lv_iload_n hx hb gX12_hasOwn_1.2.1 rfl (lv_at1 hl) ?_
  refine lv_iconst (v := 2) hx hb gX12_hasOwn_1.2.2.1 (by decide) ?_
  refine lv_icmp_ne (tgt := 62) hx hb gX12_hasOwn_1.2.2.2.1 (by decide) (fun _ => ?_) (fun c9 => absurd c9 (by decide))
  refine lv_iconst (v := 0) hx hb gX12_hasOwn_1.2.2.2.2.2.2.1 (by decide) ?_
  refine toQ hQ0 ?_
  exact RP (v := 0) hC (rfl) (by decide +kernel) gX12_hasOwn_1.2.2.2.2.2.2.2.1
def K_m_hasOwn22 (l : Launch) (G : GG) : Prop := MP l G yX12_hasOwn cX12_hasOwn 2 (some .boolean) 1 [.int 2, .int 2] [] (fun r : Int32 => r = 1)
set_option maxHeartbeats 4000000 in
set_option maxRecDepth 100000 in
theorem m_hasOwn22 (l : Launch) (G : GG) : K_m_hasOwn22 l G := by
  refine MP.start (by decide +kernel) (Nat.le_of_ble_eq_true rfl) ?_
  intro p e s m below meth c ls hC hK hP hD hl
  refine absQ (fun Q0 hQ0 => ?_)
  have hl : lv_has ls 2 [(0, .int 2), (1, .int 2)] := hl
  refine Kan8 hC (fun hx hb hr hml hB hown hlocks hnm => ?_)
  refine lv_iload_n hx hb gX12_hasOwn_0.1 rfl (lv_at0 hl) ?_
  refine lv_tableIn (tgt := 53) hx hb gX12_hasOwn_0.2.1 (by decide) (by decide) rfl (by decide) ?_
  refine lv_iload_n hx hb gX12_hasOwn_1.2.1 rfl (lv_at1 hl) ?_
  refine lv_iconst (v := 2) hx hb gX12_hasOwn_1.2.2.1 (by decide) ?_
  refine lv_icmp_ne (tgt := 62) hx hb gX12_hasOwn_1.2.2.2.1 (by decide) (fun c9 => absurd (by decide) c9) (fun _ => ?_)
  refine lv_iconst (v := 1) hx hb gX12_hasOwn_1.2.2.2.2.1 (by decide) ?_
  refine lv_goto (tgt := 63) hx hb gX12_hasOwn_1.2.2.2.2.2.1 (by decide) ?_
  refine toQ hQ0 ?_
  exact RP (v := 1) hC (rfl) (by decide +kernel) gX12_hasOwn_1.2.2.2.2.2.2.2.1
def K_m_hasOwn23 (l : Launch) (G : GG) : Prop := MP l G yX12_hasOwn cX12_hasOwn 2 (some .boolean) 1 [.int 2, .int 3] [] (fun r : Int32 => r = 0)
set_option maxHeartbeats 4000000 in
set_option maxRecDepth 100000 in
theorem m_hasOwn23 (l : Launch) (G : GG) : K_m_hasOwn23 l G := by
  refine MP.start (by decide +kernel) (Nat.le_of_ble_eq_true rfl) ?_
  intro p e s m below meth c ls hC hK hP hD hl
  refine absQ (fun Q0 hQ0 => ?_)
  have hl : lv_has ls 2 [(0, .int 2), (1, .int 3)] := hl
  refine Kan8 hC (fun hx hb hr hml hB hown hlocks hnm => ?_)
  refine lv_iload_n hx hb gX12_hasOwn_0.1 rfl (lv_at0 hl) ?_
  refine lv_tableIn (tgt := 53) hx hb gX12_hasOwn_0.2.1 (by decide) (by decide) rfl (by decide) ?_
  refine lv_iload_n hx hb gX12_hasOwn_1.2.1 rfl (lv_at1 hl) ?_
  refine lv_iconst (v := 2) hx hb gX12_hasOwn_1.2.2.1 (by decide) ?_
  refine lv_icmp_ne (tgt := 62) hx hb gX12_hasOwn_1.2.2.2.1 (by decide) (fun _ => ?_) (fun c9 => absurd c9 (by decide))
  refine lv_iconst (v := 0) hx hb gX12_hasOwn_1.2.2.2.2.2.2.1 (by decide) ?_
  refine toQ hQ0 ?_
  exact RP (v := 0) hC (rfl) (by decide +kernel) gX12_hasOwn_1.2.2.2.2.2.2.2.1
def K_m_hasOwn30 (l : Launch) (G : GG) : Prop := MP l G yX12_hasOwn cX12_hasOwn 2 (some .boolean) 1 [.int 3, .int 0] [] (fun r : Int32 => r = 0)
set_option maxHeartbeats 4000000 in
set_option maxRecDepth 100000 in
theorem m_hasOwn30 (l : Launch) (G : GG) : K_m_hasOwn30 l G := by
  refine MP.start (by decide +kernel) (Nat.le_of_ble_eq_true rfl) ?_
  intro p e s m below meth c ls hC hK hP hD hl
  refine absQ (fun Q0 hQ0 => ?_)
  have hl : lv_has ls 2 [(0, .int 3), (1, .int 0)] := hl
  refine Kan8 hC (fun hx hb hr hml hB hown hlocks hnm => ?_)
  refine lv_iload_n hx hb gX12_hasOwn_0.1 rfl (lv_at0 hl) ?_
  refine lv_tableIn (tgt := 64) hx hb gX12_hasOwn_0.2.1 (by decide) (by decide) rfl (by decide) ?_
  refine lv_iload_n hx hb gX12_hasOwn_1.2.2.2.2.2.2.2.2.1 rfl (lv_at1 hl) ?_
  refine lv_iconst (v := 1) hx hb gX12_hasOwn_1.2.2.2.2.2.2.2.2.2 (by decide) ?_
  refine lv_icmp_eq (tgt := 74) hx hb gX12_hasOwn_2.1 (by decide) (fun c9 => absurd c9 (by decide)) (fun _ => ?_)
  refine lv_iload_n hx hb gX12_hasOwn_2.2.1 rfl (lv_at1 hl) ?_
  refine lv_iconst (v := 3) hx hb gX12_hasOwn_2.2.2.1 (by decide) ?_
  refine lv_icmp_ne (tgt := 78) hx hb gX12_hasOwn_2.2.2.2.1 (by decide) (fun _ => ?_) (fun c9 => absurd c9 (by decide))
  refine lv_iconst (v := 0) hx hb gX12_hasOwn_2.2.2.2.2.2.2.1 (by decide) ?_
  refine toQ hQ0 ?_
  exact RP (v := 0) hC (rfl) (by decide +kernel) gX12_hasOwn_2.2.2.2.2.2.2.2.1
def K_m_hasOwn31 (l : Launch) (G : GG) : Prop := MP l G yX12_hasOwn cX12_hasOwn 2 (some .boolean) 1 [.int 3, .int 1] [] (fun r : Int32 => r = 1)
set_option maxHeartbeats 4000000 in
set_option maxRecDepth 100000 in
theorem m_hasOwn31 (l : Launch) (G : GG) : K_m_hasOwn31 l G := by
  refine MP.start (by decide +kernel) (Nat.le_of_ble_eq_true rfl) ?_
  intro p e s m below meth c ls hC hK hP hD hl
  refine absQ (fun Q0 hQ0 => ?_)
  have hl : lv_has ls 2 [(0, .int 3), (1, .int 1)] := hl
  refine Kan8 hC (fun hx hb hr hml hB hown hlocks hnm => ?_)
  refine lv_iload_n hx hb gX12_hasOwn_0.1 rfl (lv_at0 hl) ?_
  refine lv_tableIn (tgt := 64) hx hb gX12_hasOwn_0.2.1 (by decide) (by decide) rfl (by decide) ?_
  refine lv_iload_n hx hb gX12_hasOwn_1.2.2.2.2.2.2.2.2.1 rfl (lv_at1 hl) ?_
  refine lv_iconst (v := 1) hx hb gX12_hasOwn_1.2.2.2.2.2.2.2.2.2 (by decide) ?_
  refine lv_icmp_eq (tgt := 74) hx hb gX12_hasOwn_2.1 (by decide) (fun _ => ?_) (fun c9 => absurd (by decide) c9)
  refine lv_iconst (v := 1) hx hb gX12_hasOwn_2.2.2.2.2.1 (by decide) ?_
  refine lv_goto (tgt := 79) hx hb gX12_hasOwn_2.2.2.2.2.2.1 (by decide) ?_
  refine toQ hQ0 ?_
  exact RP (v := 1) hC (rfl) (by decide +kernel) gX12_hasOwn_2.2.2.2.2.2.2.2.1
def K_m_hasOwn32 (l : Launch) (G : GG) : Prop := MP l G yX12_hasOwn cX12_hasOwn 2 (some .boolean) 1 [.int 3, .int 2] [] (fun r : Int32 => r = 0)
set_option maxHeartbeats 4000000 in
set_option maxRecDepth 100000 in
theorem m_hasOwn32 (l : Launch) (G : GG) : K_m_hasOwn32 l G := by
  refine MP.start (by decide +kernel) (Nat.le_of_ble_eq_true rfl) ?_
  intro p e s m below meth c ls hC hK hP hD hl
  refine absQ (fun Q0 hQ0 => ?_)
  have hl : lv_has ls 2 [(0, .int 3), (1, .int 2)] := hl
  refine Kan8 hC (fun hx hb hr hml hB hown hlocks hnm => ?_)
  refine lv_iload_n hx hb gX12_hasOwn_0.1 rfl (lv_at0 hl) ?_
  refine lv_tableIn (tgt := 64) hx hb gX12_hasOwn_0.2.1 (by decide) (by decide) rfl (by decide) ?_
  refine lv_iload_n hx hb gX12_hasOwn_1.2.2.2.2.2.2.2.2.1 rfl (lv_at1 hl) ?_
  refine lv_iconst (v := 1) hx hb gX12_hasOwn_1.2.2.2.2.2.2.2.2.2 (by decide) ?_
  refine lv_icmp_eq (tgt := 74) hx hb gX12_hasOwn_2.1 (by decide) (fun c9 => absurd c9 (by decide)) (fun _ => ?_)
  refine lv_iload_n hx hb gX12_hasOwn_2.2.1 rfl (lv_at1 hl) ?_
  refine lv_iconst (v := 3) hx hb gX12_hasOwn_2.2.2.1 (by decide) ?_
  refine lv_icmp_ne (tgt := 78) hx hb gX12_hasOwn_2.2.2.2.1 (by decide) (fun _ => ?_) (fun c9 => absurd c9 (by decide))
  refine lv_iconst (v := 0) hx hb gX12_hasOwn_2.2.2.2.2.2.2.1 (by decide) ?_
  refine toQ hQ0 ?_
  exact RP (v := 0) hC (rfl) (by decide +kernel) gX12_hasOwn_2.2.2.2.2.2.2.2.1
def K_m_hasOwn33 (l : Launch) (G : GG) : Prop := MP l G yX12_hasOwn cX12_hasOwn 2 (some .boolean) 1 [.int 3, .int 3] [] (fun r : Int32 => r = 1)
set_option maxHeartbeats 4000000 in
set_option maxRecDepth 100000 in
theorem m_hasOwn33 (l : Launch) (G : GG) : K_m_hasOwn33 l G := by
  refine MP.start (by decide +kernel) (Nat.le_of_ble_eq_true rfl) ?_
  intro p e s m below meth c ls hC hK hP hD hl
  refine absQ (fun Q0 hQ0 => ?_)
  have hl : lv_has ls 2 [(0, .int 3), (1, .int 3)] := hl
  refine Kan8 hC (fun hx hb hr hml hB hown hlocks hnm => ?_)
  refine lv_iload_n hx hb gX12_hasOwn_0.1 rfl (lv_at0 hl) ?_
  refine lv_tableIn (tgt := 64) hx hb gX12_hasOwn_0.2.1 (by decide) (by decide) rfl (by decide) ?_
  refine lv_iload_n hx hb gX12_hasOwn_1.2.2.2.2.2.2.2.2.1 rfl (lv_at1 hl) ?_
  refine lv_iconst (v := 1) hx hb gX12_hasOwn_1.2.2.2.2.2.2.2.2.2 (by decide) ?_
  refine lv_icmp_eq (tgt := 74) hx hb gX12_hasOwn_2.1 (by decide) (fun c9 => absurd c9 (by decide)) (fun _ => ?_)
  refine lv_iload_n hx hb gX12_hasOwn_2.2.1 rfl (lv_at1 hl) ?_
  refine lv_iconst (v := 3) hx hb gX12_hasOwn_2.2.2.1 (by decide) ?_
  refine lv_icmp_ne (tgt := 78) hx hb gX12_hasOwn_2.2.2.2.1 (by decide) (fun c9 => absurd (by decide) c9) (fun _ => ?_)
  refine lv_iconst (v := 1) hx hb gX12_hasOwn_2.2.2.2.2.1 (by decide) ?_
  refine lv_goto (tgt := 79) hx hb gX12_hasOwn_2.2.2.2.2.2.1 (by decide) ?_
  refine toQ hQ0 ?_
  exact RP (v := 1) hC (rfl) (by decide +kernel) gX12_hasOwn_2.2.2.2.2.2.2.2.1
def K_m_hasOwn40 (l : Launch) (G : GG) : Prop := MP l G yX12_hasOwn cX12_hasOwn 2 (some .boolean) 1 [.int 4, .int 0] [] (fun r : Int32 => r = 1)
set_option maxHeartbeats 4000000 in
set_option maxRecDepth 100000 in
theorem m_hasOwn40 (l : Launch) (G : GG) : K_m_hasOwn40 l G := by
  refine MP.start (by decide +kernel) (Nat.le_of_ble_eq_true rfl) ?_
  intro p e s m below meth c ls hC hK hP hD hl
  refine absQ (fun Q0 hQ0 => ?_)
  have hl : lv_has ls 2 [(0, .int 4), (1, .int 0)] := hl
  refine Kan8 hC (fun hx hb hr hml hB hown hlocks hnm => ?_)
  refine lv_iload_n hx hb gX12_hasOwn_0.1 rfl (lv_at0 hl) ?_
  refine lv_tableIn (tgt := 80) hx hb gX12_hasOwn_0.2.1 (by decide) (by decide) rfl (by decide) ?_
  refine lv_iload_n hx hb gX12_hasOwn_2.2.2.2.2.2.2.2.2.1 rfl (lv_at1 hl) ?_
  refine lv_if_eq (tgt := 89) hx hb gX12_hasOwn_2.2.2.2.2.2.2.2.2.2 (by decide) (fun _ => ?_) (fun c9 => absurd (by decide) c9)
  refine lv_iconst (v := 1) hx hb gX12_hasOwn_3.2.2.2.1 (by decide) ?_
  refine lv_goto (tgt := 94) hx hb gX12_hasOwn_3.2.2.2.2.1 (by decide) ?_
  refine toQ hQ0 ?_
  exact RP (v := 1) hC (rfl) (by decide +kernel) gX12_hasOwn_3.2.2.2.2.2.2.1
def K_m_hasOwn41 (l : Launch) (G : GG) : Prop := MP l G yX12_hasOwn cX12_hasOwn 2 (some .boolean) 1 [.int 4, .int 1] [] (fun r : Int32 => r = 0)
set_option maxHeartbeats 4000000 in
set_option maxRecDepth 100000 in
theorem m_hasOwn41 (l : Launch) (G : GG) : K_m_hasOwn41 l G := by
  refine MP.start (by decide +kernel) (Nat.le_of_ble_eq_true rfl) ?_
  intro p e s m below meth c ls hC hK hP hD hl
  refine absQ (fun Q0 hQ0 => ?_)
  have hl : lv_has ls 2 [(0, .int 4), (1, .int 1)] := hl
  refine Kan8 hC (fun hx hb hr hml hB hown hlocks hnm => ?_)
  refine lv_iload_n hx hb gX12_hasOwn_0.1 rfl (lv_at0 hl) ?_
  refine lv_tableIn (tgt := 80) hx hb gX12_hasOwn_0.2.1 (by decide) (by decide) rfl (by decide) ?_
  refine lv_iload_n hx hb gX12_hasOwn_2.2.2.2.2.2.2.2.2.1 rfl (lv_at1 hl) ?_
  refine lv_if_eq (tgt := 89) hx hb gX12_hasOwn_2.2.2.2.2.2.2.2.2.2 (by decide) (fun c9 => absurd c9 (by decide)) (fun _ => ?_)
  refine lv_iload_n hx hb gX12_hasOwn_3.1 rfl (lv_at1 hl) ?_
  refine lv_iconst (v := 2) hx hb gX12_hasOwn_3.2.1 (by decide) ?_
  refine lv_icmp_ne (tgt := 93) hx hb gX12_hasOwn_3.2.2.1 (by decide) (fun _ => ?_) (fun c9 => absurd c9 (by decide))
  refine lv_iconst (v := 0) hx hb gX12_hasOwn_3.2.2.2.2.2.1 (by decide) ?_
  refine toQ hQ0 ?_
  exact RP (v := 0) hC (rfl) (by decide +kernel) gX12_hasOwn_3.2.2.2.2.2.2.1
def K_m_hasOwn42 (l : Launch) (G : GG) : Prop := MP l G yX12_hasOwn cX12_hasOwn 2 (some .boolean) 1 [.int 4, .int 2] [] (fun r : Int32 => r = 1)
set_option maxHeartbeats 4000000 in
set_option maxRecDepth 100000 in
theorem m_hasOwn42 (l : Launch) (G : GG) : K_m_hasOwn42 l G := by
  refine MP.start (by decide +kernel) (Nat.le_of_ble_eq_true rfl) ?_
  intro p e s m below meth c ls hC hK hP hD hl
  refine absQ (fun Q0 hQ0 => ?_)
  have hl : lv_has ls 2 [(0, .int 4), (1, .int 2)] := hl
  refine Kan8 hC (fun hx hb hr hml hB hown hlocks hnm => ?_)
  refine lv_iload_n hx hb gX12_hasOwn_0.1 rfl (lv_at0 hl) ?_
  refine lv_tableIn (tgt := 80) hx hb gX12_hasOwn_0.2.1 (by decide) (by decide) rfl (by decide) ?_
  refine lv_iload_n hx hb gX12_hasOwn_2.2.2.2.2.2.2.2.2.1 rfl (lv_at1 hl) ?_
  refine lv_if_eq (tgt := 89) hx hb gX12_hasOwn_2.2.2.2.2.2.2.2.2.2 (by decide) (fun c9 => absurd c9 (by decide)) (fun _ => ?_)
  refine lv_iload_n hx hb gX12_hasOwn_3.1 rfl (lv_at1 hl) ?_
  refine lv_iconst (v := 2) hx hb gX12_hasOwn_3.2.1 (by decide) ?_
  refine lv_icmp_ne (tgt := 93) hx hb gX12_hasOwn_3.2.2.1 (by decide) (fun c9 => absurd (by decide) c9) (fun _ => ?_)
  refine lv_iconst (v := 1) hx hb gX12_hasOwn_3.2.2.2.1 (by decide) ?_
  refine lv_goto (tgt := 94) hx hb gX12_hasOwn_3.2.2.2.2.1 (by decide) ?_
  refine toQ hQ0 ?_
  exact RP (v := 1) hC (rfl) (by decide +kernel) gX12_hasOwn_3.2.2.2.2.2.2.1
def K_m_hasOwn43 (l : Launch) (G : GG) : Prop := MP l G yX12_hasOwn cX12_hasOwn 2 (some .boolean) 1 [.int 4, .int 3] [] (fun r : Int32 => r = 0)
set_option maxHeartbeats 4000000 in
set_option maxRecDepth 100000 in
theorem m_hasOwn43 (l : Launch) (G : GG) : K_m_hasOwn43 l G := by
  refine MP.start (by decide +kernel) (Nat.le_of_ble_eq_true rfl) ?_
  intro p e s m below meth c ls hC hK hP hD hl
  refine absQ (fun Q0 hQ0 => ?_)
  have hl : lv_has ls 2 [(0, .int 4), (1, .int 3)] := hl
  refine Kan8 hC (fun hx hb hr hml hB hown hlocks hnm => ?_)
  refine lv_iload_n hx hb gX12_hasOwn_0.1 rfl (lv_at0 hl) ?_
  refine lv_tableIn (tgt := 80) hx hb gX12_hasOwn_0.2.1 (by decide) (by decide) rfl (by decide) ?_
  refine lv_iload_n hx hb gX12_hasOwn_2.2.2.2.2.2.2.2.2.1 rfl (lv_at1 hl) ?_
  refine lv_if_eq (tgt := 89) hx hb gX12_hasOwn_2.2.2.2.2.2.2.2.2.2 (by decide) (fun c9 => absurd c9 (by decide)) (fun _ => ?_)
  refine lv_iload_n hx hb gX12_hasOwn_3.1 rfl (lv_at1 hl) ?_
  refine lv_iconst (v := 2) hx hb gX12_hasOwn_3.2.1 (by decide) ?_
  refine lv_icmp_ne (tgt := 93) hx hb gX12_hasOwn_3.2.2.1 (by decide) (fun _ => ?_) (fun c9 => absurd c9 (by decide))
  refine lv_iconst (v := 0) hx hb gX12_hasOwn_3.2.2.2.2.2.1 (by decide) ?_
  refine toQ hQ0 ?_
  exact RP (v := 0) hC (rfl) (by decide +kernel) gX12_hasOwn_3.2.2.2.2.2.2.1
def K_m_hasOwn50 (l : Launch) (G : GG) : Prop := MP l G yX12_hasOwn cX12_hasOwn 2 (some .boolean) 1 [.int 5, .int 0] [] (fun r : Int32 => r = 1)
set_option maxHeartbeats 4000000 in
set_option maxRecDepth 100000 in
theorem m_hasOwn50 (l : Launch) (G : GG) : K_m_hasOwn50 l G := by
  refine MP.start (by decide +kernel) (Nat.le_of_ble_eq_true rfl) ?_
  intro p e s m below meth c ls hC hK hP hD hl
  refine absQ (fun Q0 hQ0 => ?_)
  have hl : lv_has ls 2 [(0, .int 5), (1, .int 0)] := hl
  refine Kan8 hC (fun hx hb hr hml hB hown hlocks hnm => ?_)
  refine lv_iload_n hx hb gX12_hasOwn_0.1 rfl (lv_at0 hl) ?_
  refine lv_tableIn (tgt := 80) hx hb gX12_hasOwn_0.2.1 (by decide) (by decide) rfl (by decide) ?_
  refine lv_iload_n hx hb gX12_hasOwn_2.2.2.2.2.2.2.2.2.1 rfl (lv_at1 hl) ?_
  refine lv_if_eq (tgt := 89) hx hb gX12_hasOwn_2.2.2.2.2.2.2.2.2.2 (by decide) (fun _ => ?_) (fun c9 => absurd (by decide) c9)
  refine lv_iconst (v := 1) hx hb gX12_hasOwn_3.2.2.2.1 (by decide) ?_
  refine lv_goto (tgt := 94) hx hb gX12_hasOwn_3.2.2.2.2.1 (by decide) ?_
  refine toQ hQ0 ?_
  exact RP (v := 1) hC (rfl) (by decide +kernel) gX12_hasOwn_3.2.2.2.2.2.2.1
def K_m_hasOwn51 (l : Launch) (G : GG) : Prop := MP l G yX12_hasOwn cX12_hasOwn 2 (some .boolean) 1 [.int 5, .int 1] [] (fun r : Int32 => r = 0)
set_option maxHeartbeats 4000000 in
set_option maxRecDepth 100000 in
theorem m_hasOwn51 (l : Launch) (G : GG) : K_m_hasOwn51 l G := by
  refine MP.start (by decide +kernel) (Nat.le_of_ble_eq_true rfl) ?_
  intro p e s m below meth c ls hC hK hP hD hl
  refine absQ (fun Q0 hQ0 => ?_)
  have hl : lv_has ls 2 [(0, .int 5), (1, .int 1)] := hl
  refine Kan8 hC (fun hx hb hr hml hB hown hlocks hnm => ?_)
  refine lv_iload_n hx hb gX12_hasOwn_0.1 rfl (lv_at0 hl) ?_
  refine lv_tableIn (tgt := 80) hx hb gX12_hasOwn_0.2.1 (by decide) (by decide) rfl (by decide) ?_
  refine lv_iload_n hx hb gX12_hasOwn_2.2.2.2.2.2.2.2.2.1 rfl (lv_at1 hl) ?_
  refine lv_if_eq (tgt := 89) hx hb gX12_hasOwn_2.2.2.2.2.2.2.2.2.2 (by decide) (fun c9 => absurd c9 (by decide)) (fun _ => ?_)
  refine lv_iload_n hx hb gX12_hasOwn_3.1 rfl (lv_at1 hl) ?_
  refine lv_iconst (v := 2) hx hb gX12_hasOwn_3.2.1 (by decide) ?_
  refine lv_icmp_ne (tgt := 93) hx hb gX12_hasOwn_3.2.2.1 (by decide) (fun _ => ?_) (fun c9 => absurd c9 (by decide))
  refine lv_iconst (v := 0) hx hb gX12_hasOwn_3.2.2.2.2.2.1 (by decide) ?_
  refine toQ hQ0 ?_
  exact RP (v := 0) hC (rfl) (by decide +kernel) gX12_hasOwn_3.2.2.2.2.2.2.1
def K_m_hasOwn52 (l : Launch) (G : GG) : Prop := MP l G yX12_hasOwn cX12_hasOwn 2 (some .boolean) 1 [.int 5, .int 2] [] (fun r : Int32 => r = 1)
set_option maxHeartbeats 4000000 in
set_option maxRecDepth 100000 in
theorem m_hasOwn52 (l : Launch) (G : GG) : K_m_hasOwn52 l G := by
  refine MP.start (by decide +kernel) (Nat.le_of_ble_eq_true rfl) ?_
  intro p e s m below meth c ls hC hK hP hD hl
  refine absQ (fun Q0 hQ0 => ?_)
  have hl : lv_has ls 2 [(0, .int 5), (1, .int 2)] := hl
  refine Kan8 hC (fun hx hb hr hml hB hown hlocks hnm => ?_)
  refine lv_iload_n hx hb gX12_hasOwn_0.1 rfl (lv_at0 hl) ?_
  refine lv_tableIn (tgt := 80) hx hb gX12_hasOwn_0.2.1 (by decide) (by decide) rfl (by decide) ?_
  refine lv_iload_n hx hb gX12_hasOwn_2.2.2.2.2.2.2.2.2.1 rfl (lv_at1 hl) ?_
  refine lv_if_eq (tgt := 89) hx hb gX12_hasOwn_2.2.2.2.2.2.2.2.2.2 (by decide) (fun c9 => absurd c9 (by decide)) (fun _ => ?_)
  refine lv_iload_n hx hb gX12_hasOwn_3.1 rfl (lv_at1 hl) ?_
  refine lv_iconst (v := 2) hx hb gX12_hasOwn_3.2.1 (by decide) ?_
  refine lv_icmp_ne (tgt := 93) hx hb gX12_hasOwn_3.2.2.1 (by decide) (fun c9 => absurd (by decide) c9) (fun _ => ?_)
  refine lv_iconst (v := 1) hx hb gX12_hasOwn_3.2.2.2.1 (by decide) ?_
  refine lv_goto (tgt := 94) hx hb gX12_hasOwn_3.2.2.2.2.1 (by decide) ?_
  refine toQ hQ0 ?_
  exact RP (v := 1) hC (rfl) (by decide +kernel) gX12_hasOwn_3.2.2.2.2.2.2.1
def K_m_hasOwn53 (l : Launch) (G : GG) : Prop := MP l G yX12_hasOwn cX12_hasOwn 2 (some .boolean) 1 [.int 5, .int 3] [] (fun r : Int32 => r = 0)
set_option maxHeartbeats 4000000 in
set_option maxRecDepth 100000 in
theorem m_hasOwn53 (l : Launch) (G : GG) : K_m_hasOwn53 l G := by
  refine MP.start (by decide +kernel) (Nat.le_of_ble_eq_true rfl) ?_
  intro p e s m below meth c ls hC hK hP hD hl
  refine absQ (fun Q0 hQ0 => ?_)
  have hl : lv_has ls 2 [(0, .int 5), (1, .int 3)] := hl
  refine Kan8 hC (fun hx hb hr hml hB hown hlocks hnm => ?_)
  refine lv_iload_n hx hb gX12_hasOwn_0.1 rfl (lv_at0 hl) ?_
  refine lv_tableIn (tgt := 80) hx hb gX12_hasOwn_0.2.1 (by decide) (by decide) rfl (by decide) ?_
  refine lv_iload_n hx hb gX12_hasOwn_2.2.2.2.2.2.2.2.2.1 rfl (lv_at1 hl) ?_
  refine lv_if_eq (tgt := 89) hx hb gX12_hasOwn_2.2.2.2.2.2.2.2.2.2 (by decide) (fun c9 => absurd c9 (by decide)) (fun _ => ?_)
  refine lv_iload_n hx hb gX12_hasOwn_3.1 rfl (lv_at1 hl) ?_
  refine lv_iconst (v := 2) hx hb gX12_hasOwn_3.2.1 (by decide) ?_
  refine lv_icmp_ne (tgt := 93) hx hb gX12_hasOwn_3.2.2.1 (by decide) (fun _ => ?_) (fun c9 => absurd c9 (by decide))
  refine lv_iconst (v := 0) hx hb gX12_hasOwn_3.2.2.2.2.2.1 (by decide) ?_
  refine toQ hQ0 ?_
  exact RP (v := 0) hC (rfl) (by decide +kernel) gX12_hasOwn_3.2.2.2.2.2.2.1
def K_m_hasOwn60 (l : Launch) (G : GG) : Prop := MP l G yX12_hasOwn cX12_hasOwn 2 (some .boolean) 1 [.int 6, .int 0] [] (fun r : Int32 => r = 0)
set_option maxHeartbeats 4000000 in
set_option maxRecDepth 100000 in
theorem m_hasOwn60 (l : Launch) (G : GG) : K_m_hasOwn60 l G := by
  refine MP.start (by decide +kernel) (Nat.le_of_ble_eq_true rfl) ?_
  intro p e s m below meth c ls hC hK hP hD hl
  refine absQ (fun Q0 hQ0 => ?_)
  have hl : lv_has ls 2 [(0, .int 6), (1, .int 0)] := hl
  refine Kan8 hC (fun hx hb hr hml hB hown hlocks hnm => ?_)
  refine lv_iload_n hx hb gX12_hasOwn_0.1 rfl (lv_at0 hl) ?_
  refine lv_tableOut (tgt := 95) hx hb gX12_hasOwn_0.2.1 (by decide) (by decide) ?_
  refine lv_iload_n hx hb gX12_hasOwn_3.2.2.2.2.2.2.2.1 rfl (lv_at1 hl) ?_
  refine lv_iconst (v := 3) hx hb gX12_hasOwn_3.2.2.2.2.2.2.2.2.1 (by decide) ?_
  refine lv_icmp_ne (tgt := 104) hx hb gX12_hasOwn_3.2.2.2.2.2.2.2.2.2 (by decide) (fun _ => ?_) (fun c9 => absurd c9 (by decide))
  refine lv_iconst (v := 0) hx hb gX12_hasOwn_4.2.2.1 (by decide) ?_
  refine toQ hQ0 ?_
  exact RP (v := 0) hC (rfl) (by decide +kernel) gX12_hasOwn_4.2.2.2
def K_m_hasOwn61 (l : Launch) (G : GG) : Prop := MP l G yX12_hasOwn cX12_hasOwn 2 (some .boolean) 1 [.int 6, .int 1] [] (fun r : Int32 => r = 0)
set_option maxHeartbeats 4000000 in
set_option maxRecDepth 100000 in
theorem m_hasOwn61 (l : Launch) (G : GG) : K_m_hasOwn61 l G := by
  refine MP.start (by decide +kernel) (Nat.le_of_ble_eq_true rfl) ?_
  intro p e s m below meth c ls hC hK hP hD hl
  refine absQ (fun Q0 hQ0 => ?_)
  have hl : lv_has ls 2 [(0, .int 6), (1, .int 1)] := hl
  refine Kan8 hC (fun hx hb hr hml hB hown hlocks hnm => ?_)
  refine lv_iload_n hx hb gX12_hasOwn_0.1 rfl (lv_at0 hl) ?_
  refine lv_tableOut (tgt := 95) hx hb gX12_hasOwn_0.2.1 (by decide) (by decide) ?_
  refine lv_iload_n hx hb gX12_hasOwn_3.2.2.2.2.2.2.2.1 rfl (lv_at1 hl) ?_
  refine lv_iconst (v := 3) hx hb gX12_hasOwn_3.2.2.2.2.2.2.2.2.1 (by decide) ?_
  refine lv_icmp_ne (tgt := 104) hx hb gX12_hasOwn_3.2.2.2.2.2.2.2.2.2 (by decide) (fun _ => ?_) (fun c9 => absurd c9 (by decide))
  refine lv_iconst (v := 0) hx hb gX12_hasOwn_4.2.2.1 (by decide) ?_
  refine toQ hQ0 ?_
  exact RP (v := 0) hC (rfl) (by decide +kernel) gX12_hasOwn_4.2.2.2
def K_m_hasOwn62 (l : Launch) (G : GG) : Prop := MP l G yX12_hasOwn cX12_hasOwn 2 (some .boolean) 1 [.int 6, .int 2] [] (fun r : Int32 => r = 0)
set_option maxHeartbeats 4000000 in
set_option maxRecDepth 100000 in
theorem m_hasOwn62 (l : Launch) (G : GG) : K_m_hasOwn62 l G := by
  refine MP.start (by decide +kernel) (Nat.le_of_ble_eq_true rfl) ?_
  intro p e s m below meth c ls hC hK hP hD hl
  refine absQ (fun Q0 hQ0 => ?_)
  have hl : lv_has ls 2 [(0, .int 6), (1, .int 2)] := hl
  refine Kan8 hC (fun hx hb hr hml hB hown hlocks hnm => ?_)
  refine lv_iload_n hx hb gX12_hasOwn_0.1 rfl (lv_at0 hl) ?_
  refine lv_tableOut (tgt := 95) hx hb gX12_hasOwn_0.2.1 (by decide) (by decide) ?_
  refine lv_iload_n hx hb gX12_hasOwn_3.2.2.2.2.2.2.2.1 rfl (lv_at1 hl) ?_
  refine lv_iconst (v := 3) hx hb gX12_hasOwn_3.2.2.2.2.2.2.2.2.1 (by decide) ?_
  refine lv_icmp_ne (tgt := 104) hx hb gX12_hasOwn_3.2.2.2.2.2.2.2.2.2 (by decide) (fun _ => ?_) (fun c9 => absurd c9 (by decide))
  refine lv_iconst (v := 0) hx hb gX12_hasOwn_4.2.2.1 (by decide) ?_
  refine toQ hQ0 ?_
  exact RP (v := 0) hC (rfl) (by decide +kernel) gX12_hasOwn_4.2.2.2
def K_m_hasOwn63 (l : Launch) (G : GG) : Prop := MP l G yX12_hasOwn cX12_hasOwn 2 (some .boolean) 1 [.int 6, .int 3] [] (fun r : Int32 => r = 1)
set_option maxHeartbeats 4000000 in
set_option maxRecDepth 100000 in
theorem m_hasOwn63 (l : Launch) (G : GG) : K_m_hasOwn63 l G := by
  refine MP.start (by decide +kernel) (Nat.le_of_ble_eq_true rfl) ?_
  intro p e s m below meth c ls hC hK hP hD hl
  refine absQ (fun Q0 hQ0 => ?_)
  have hl : lv_has ls 2 [(0, .int 6), (1, .int 3)] := hl
  refine Kan8 hC (fun hx hb hr hml hB hown hlocks hnm => ?_)
  refine lv_iload_n hx hb gX12_hasOwn_0.1 rfl (lv_at0 hl) ?_
  refine lv_tableOut (tgt := 95) hx hb gX12_hasOwn_0.2.1 (by decide) (by decide) ?_
  refine lv_iload_n hx hb gX12_hasOwn_3.2.2.2.2.2.2.2.1 rfl (lv_at1 hl) ?_
  refine lv_iconst (v := 3) hx hb gX12_hasOwn_3.2.2.2.2.2.2.2.2.1 (by decide) ?_
  refine lv_icmp_ne (tgt := 104) hx hb gX12_hasOwn_3.2.2.2.2.2.2.2.2.2 (by decide) (fun c9 => absurd (by decide) c9) (fun _ => ?_)
  refine lv_iconst (v := 1) hx hb gX12_hasOwn_4.1 (by decide) ?_
  refine lv_goto (tgt := 105) hx hb gX12_hasOwn_4.2.1 (by decide) ?_
  refine toQ hQ0 ?_
  exact RP (v := 1) hC (rfl) (by decide +kernel) gX12_hasOwn_4.2.2.2
def K_m_kindOnX (l : Launch) (G : GG) (kq : Nat) (k8 : Nat) (k9 : Nat) (h0 : Nat) (jt : Nat) (nw : Nat) (nk : Nat) (mhasKept : Int32) (nt : Nat) (mtaped : Int32) (nr : Nat) (mrowMany : Int32) (mroundOf : Int32) (mroundFrom : Int32) (mouts : Int32) (nm : Nat) (mfromHour : Int32) (mtoHour : Int32) (ns : Nat) (mfrom : Int32) (mto : Int32) (msort : Int32) (misFault : Int32) (mdeep : Int32) (mcoded : Int32) (mlines : Int32) (nl : Nat) (nc : Nat) (nF : Nat) (np : Nat) (ntr : Nat) (nb : Nat) (mbestCost : Int32) (nso : Nat) (nsi : Nat) (nit : Nat) (nsh : Nat) (nsf : Nat) (nss : Nat) (nrc : Nat) (mtraced : Int32) (mdealer : Int32) (mnumber : Int32) (mwhose : Int32) (msize : Int32) (misParted : Int32) (fnw : Nat → Int32) (fnsh : Nat → Int32) (fnsf : Nat → Int32) : Prop := MP l G yX12_kindOn cX12_kindOn 4 (some .int) 3 [.ref h0, .int (nI jt)] [(h0, oX12 nw nk mhasKept nt mtaped nr mrowMany mroundOf mroundFrom mouts nm mfromHour mtoHour ns mfrom mto msort misFault mdeep mcoded mlines nl nc nF np ntr nb mbestCost nso nsi nit nsh nsf nss nrc mtraced mdealer mnumber mwhose msize misParted), (nw, iA G 1662 fnw), (nsh, iA G 4 fnsh), (nsf, iA G 4 fnsf)] (fun r : Int32 => (r = (-1) ∧ KOM (fnsh jt) (fnsf jt) kq k8 k9 (shf fnw 32) (shf fnw 1424) = (-1)) ∨ (r = 1 ∧ KOM (fnsh jt) (fnsf jt) kq k8 k9 (shf fnw 32) (shf fnw 1424) = 1) ∨ (r = 2 ∧ KOM (fnsh jt) (fnsf jt) kq k8 k9 (shf fnw 32) (shf fnw 1424) = 2) ∨ (r = 3 ∧ KOM (fnsh jt) (fnsf jt) kq k8 k9 (shf fnw 32) (shf fnw 1424) = 3) ∨ (r = 4 ∧ KOM (fnsh jt) (fnsf jt) kq k8 k9 (shf fnw 32) (shf fnw 1424) = 4) ∨ (r = 5 ∧ KOM (fnsh jt) (fnsf jt) kq k8 k9 (shf fnw 32) (shf fnw 1424) = 5) ∨ (r = 6 ∧ KOM (fnsh jt) (fnsf jt) kq k8 k9 (shf fnw 32) (shf fnw 1424) = 6))
set_option maxHeartbeats 4000000 in
set_option maxRecDepth 100000 in
theorem m_kindOnX (l : Launch) (G : GG) (kq : Nat) (k8 : Nat) (k9 : Nat) (h0 : Nat) (jt : Nat) (nw : Nat) (nk : Nat) (mhasKept : Int32) (nt : Nat) (mtaped : Int32) (nr : Nat) (mrowMany : Int32) (mroundOf : Int32) (mroundFrom : Int32) (mouts : Int32) (nm : Nat) (mfromHour : Int32) (mtoHour : Int32) (ns : Nat) (mfrom : Int32) (mto : Int32) (msort : Int32) (misFault : Int32) (mdeep : Int32) (mcoded : Int32) (mlines : Int32) (nl : Nat) (nc : Nat) (nF : Nat) (np : Nat) (ntr : Nat) (nb : Nat) (mbestCost : Int32) (nso : Nat) (nsi : Nat) (nit : Nat) (nsh : Nat) (nsf : Nat) (nss : Nat) (nrc : Nat) (mtraced : Int32) (mdealer : Int32) (mnumber : Int32) (mwhose : Int32) (msize : Int32) (misParted : Int32) (fnw : Nat → Int32) (fnsh : Nat → Int32) (fnsf : Nat → Int32) (hjt : jt < 4) (ekq : fnw 5 = nI kq) (hkq : kq ≤ 12) (ek8 : fnw 8 = nI k8) (hk8 : k8 ≤ 16) (ek9 : fnw 9 = nI k9) (hk9 : k9 ≤ 12) (hN : NI fnw) : K_m_kindOnX l G kq k8 k9 h0 jt nw nk mhasKept nt mtaped nr mrowMany mroundOf mroundFrom mouts nm mfromHour mtoHour ns mfrom mto msort misFault mdeep mcoded mlines nl nc nF np ntr nb mbestCost nso nsi nit nsh nsf nss nrc mtraced mdealer mnumber mwhose msize misParted fnw fnsh fnsf := by
  refine MP.start (by decide +kernel) (Nat.le_of_ble_eq_true rfl) ?_
  intro p e s m below meth c ls hC hK hP hD hl
  refine absQ (fun Q0 hQ0 => ?_)
  have hl : lv_has ls 4 [(0, .ref h0), (1, .int (nI jt))] := hl
  refine Kan8 hC (fun hx hb hr hml hB hown hlocks hnm => ?_)
  refine lv_aload_n hx hb gX12_kindOn_0.1 rfl (lv_at0 hl) ?_
  refine gf_X12_75 hC rfl hK hP 0 rfl rfl gX12_kindOn_0.2.1 ?_
  refine lv_iload_n hx hb gX12_kindOn_0.2.2.1 rfl (lv_at1 hl) ?_
  refine aldN hC hK hP 3 rfl (k := jt) (by omega) (Nat.le_of_ble_eq_true rfl) (v := fnsf jt) rfl gX12_kindOn_0.2.2.2.1 ?_
  refine lv_istore_n (lv' := [(2, .int (fnsf jt)), (0, .ref h0), (1, .int (nI jt))]) hx hb gX12_kindOn_0.2.2.2.2.1 rfl hl (by decide) rfl (fun ls hl => ?_)
  refine lv_aload_n hx hb gX12_kindOn_0.2.2.2.2.2.1 rfl (lv_at1 hl) ?_
  refine gf_X12_72 hC rfl hK hP 0 rfl rfl gX12_kindOn_0.2.2.2.2.2.2.1 ?_
  refine lv_iload_n hx hb gX12_kindOn_0.2.2.2.2.2.2.2.1 rfl (lv_at2 hl) ?_
  refine aldN hC hK hP 2 rfl (k := jt) (by omega) (Nat.le_of_ble_eq_true rfl) (v := fnsh jt) rfl gX12_kindOn_0.2.2.2.2.2.2.2.2.1 ?_
  by_cases c_13_5844 : fnsh jt = 1
  · refine lv_tableIn (tgt := 40) hx hb gX12_kindOn_0.2.2.2.2.2.2.2.2.2 (by rw [c_13_5844]; decide) (by rw [c_13_5844]; decide) (by rw [c_13_5844]; rfl) (by decide) ?_
    refine lv_aload_n hx hb gX12_kindOn_1.1 rfl (lv_at1 hl) ?_
    refine lv_iload_n hx hb gX12_kindOn_1.2.1 rfl (lv_at0 hl) ?_
    refine lv_iconst (v := 5) hx hb gX12_kindOn_1.2.2.1 (by decide) ?_
    refine pV hC hK hl hP hD (m_is l G kq h0 (fnsf jt) 5 nw nk mhasKept nt mtaped nr mrowMany mroundOf mroundFrom mouts nm mfromHour mtoHour ns mfrom mto msort misFault mdeep mcoded mlines nl nc nF np ntr nb mbestCost nso nsi nit nsh nsf nss nrc mtraced mdealer mnumber mwhose msize misParted fnw (by omega) (ekq) (by omega)) si_X12_120 [0, 1] sm_0_1 fm_0_1 nd_0_1 rfl rfl rfl rfl rfl (Nat.le_of_ble_eq_true rfl) rm_3_2_3 ⟨by first | exact Nat.le_of_ble_eq_true rfl | exact Nat.zero_le _, by first | exact Nat.le_of_ble_eq_true rfl | exact Nat.zero_le _⟩ gX12_kindOn_1.2.2.2.1 (Kors (Keqa fun a5846 => ?_) (Keqa fun a5846 => ?_))
    · refine lv_if_eq (tgt := 73) hx hb gX12_kindOn_1.2.2.2.2.1 (by decide) (fun c9 => absurd c9 (by decide)) (fun _ => ?_)
      refine lv_aload_n hx hb gX12_kindOn_1.2.2.2.2.2.1 rfl (lv_at1 hl) ?_
      refine lv_iload_n hx hb gX12_kindOn_1.2.2.2.2.2.2.1 rfl (lv_at0 hl) ?_
      obtain ⟨jn5847, hjn5847, ekjn5847⟩ := Hs_nat (by omega) a5846
      refine eqi (x1 := nI jn5847) ekjn5847 ?_
      refine lv_iconst (v := 1) hx hb gX12_kindOn_1.2.2.2.2.2.2.2.1 (by decide) ?_
      refine pV hC hK hl hP hD (m_paper l G h0 jn5847 1 nw nk mhasKept nt mtaped nr mrowMany mroundOf mroundFrom mouts nm mfromHour mtoHour ns mfrom mto msort misFault mdeep mcoded mlines nl nc nF np ntr nb mbestCost nso nsi nit nsh nsf nss nrc mtraced mdealer mnumber mwhose msize misParted fnw (by omega) (by omega)) si_X12_88 [0, 1] sm_0_1 fm_0_1 nd_0_1 rfl rfl rfl rfl rfl (Nat.le_of_ble_eq_true rfl) rm_3_1_3 ⟨by first | exact Nat.le_of_ble_eq_true rfl | exact Nat.zero_le _, by first | exact Nat.le_of_ble_eq_true rfl | exact Nat.zero_le _⟩ gX12_kindOn_1.2.2.2.2.2.2.2.2.1 (Keqr ?_)
      refine lv_iconst (v := 1) hx hb gX12_kindOn_1.2.2.2.2.2.2.2.2.2 (by decide) ?_
      refine lv_aload_n hx hb gX12_kindOn_2.1 rfl (lv_at1 hl) ?_
      refine lv_iload_n hx hb gX12_kindOn_2.2.1 rfl (lv_at0 hl) ?_
      refine eqi (x1 := nI jn5847) ekjn5847 ?_
      refine lv_iconst (v := 0) hx hb gX12_kindOn_2.2.2.1 (by decide) ?_
      refine pV hC hK hl hP hD (m_paper l G h0 jn5847 0 nw nk mhasKept nt mtaped nr mrowMany mroundOf mroundFrom mouts nm mfromHour mtoHour ns mfrom mto msort misFault mdeep mcoded mlines nl nc nF np ntr nb mbestCost nso nsi nit nsh nsf nss nrc mtraced mdealer mnumber mwhose msize misParted fnw (by omega) (by omega)) si_X12_88 [0, 1] sm_0_1 fm_0_1 nd_0_1 rfl rfl rfl rfl rfl (Nat.le_of_ble_eq_true rfl) rm_3_1_3 ⟨by first | exact Nat.le_of_ble_eq_true rfl | exact Nat.zero_le _, by first | exact Nat.le_of_ble_eq_true rfl | exact Nat.zero_le _⟩ gX12_kindOn_2.2.2.2.1 (Keqr ?_)
      refine lv_ishl hx hb gX12_kindOn_2.2.2.2.2.1 ?_
      refine lv_iconst (v := (-1)) hx hb gX12_kindOn_2.2.2.2.2.2.1 (by decide) ?_
      refine lv_ixor hx hb gX12_kindOn_2.2.2.2.2.2.2.1 ?_
      refine lv_iand hx hb gX12_kindOn_2.2.2.2.2.2.2.2.1 ?_
      refine lv_if_eq (tgt := 73) hx hb gX12_kindOn_2.2.2.2.2.2.2.2.2.1 (by decide) (fun c_66_5852 => ?_) (fun c_66_5852 => ?_)
      · refine lv_iconst (v := 0) hx hb gX12_kindOn_3.2.1 (by decide) ?_
        refine lv_istore_n (lv' := [(3, .int 0), (2, .int (fnsf jt)), (0, .ref h0), (1, .int (nI jt))]) hx hb gX12_kindOn_3.2.2.1 rfl hl (by decide) rfl (fun ls hl => ?_)
        refine lv_aload_n hx hb gX12_kindOn_3.2.2.2.1 rfl (lv_at2 hl) ?_
        refine lv_iload_n hx hb gX12_kindOn_3.2.2.2.2.1 rfl (lv_at1 hl) ?_
        refine lv_iconst (v := 5) hx hb gX12_kindOn_3.2.2.2.2.2.1 (by decide) ?_
        refine pV hC hK hl hP hD (m_is l G kq h0 (fnsf jt) 5 nw nk mhasKept nt mtaped nr mrowMany mroundOf mroundFrom mouts nm mfromHour mtoHour ns mfrom mto msort misFault mdeep mcoded mlines nl nc nF np ntr nb mbestCost nso nsi nit nsh nsf nss nrc mtraced mdealer mnumber mwhose msize misParted fnw (by omega) (ekq) (by omega)) si_X12_120 [0, 1] sm_0_1 fm_0_1 nd_0_1 rfl rfl rfl rfl rfl (Nat.le_of_ble_eq_true rfl) rm_3_2_3 ⟨by first | exact Nat.le_of_ble_eq_true rfl | exact Nat.zero_le _, by first | exact Nat.le_of_ble_eq_true rfl | exact Nat.zero_le _⟩ gX12_kindOn_3.2.2.2.2.2.2.1 (Kors (Keqa fun a5854 => ?_) (Keqa fun a5854 => ?_))
        · refine lv_if_ne (tgt := 88) hx hb gX12_kindOn_3.2.2.2.2.2.2.2.1 (by decide) (fun _ => ?_) (fun c9 => absurd c9 (by decide))
          refine lv_iload_n hx hb gX12_kindOn_4.1 rfl (lv_at0 hl) ?_
          refine lv_if_ne (tgt := 96) hx hb gX12_kindOn_4.2.1 (by decide) (fun c9 => absurd (by decide) c9) (fun _ => ?_)
          refine lv_iconst (v := 2) hx hb gX12_kindOn_4.2.2.1 (by decide) ?_
          refine lv_goto (tgt := 110) hx hb gX12_kindOn_4.2.2.2.1 (by decide) ?_
          refine toQ hQ0 ?_
          exact RP (v := 2) hC (Or.inr (Or.inr (Or.inl (⟨rfl, (by unfold KOM; simp only [ifc_t hjt, ifc_t ekq, ifc_t hkq, ifc_t ek8, ifc_t hk8, ifc_t ek9, ifc_t hk9, ifc_t hN, ifc_t c_13_5844, ifc_t a5854, ifc_t c_66_5852, ifc_f (q := fnsh jt = 2) (by rw [c_13_5844]; decide), ifc_f (q := fnsh jt = 3) (by rw [c_13_5844]; decide)]; unfold PKn; rw [show shf fnw 32 ((fnsf jt).toNatClampNeg * 6 + 1) = fnw (32 + 6 * jn5847 + 1) from congrArg fnw (by rw [ekjn5847, nI_clamp (n := jn5847) (by omega)]; omega), show shf fnw 32 ((fnsf jt).toNatClampNeg * 6 + 0) = fnw (32 + 6 * jn5847 + 0) from congrArg fnw (by rw [ekjn5847, nI_clamp (n := jn5847) (by omega)]; omega), ifn_t c_66_5852]; first | done | rfl)⟩)))) rfl gX12_kindOn_5.2.2.1
        · exact absurd a5846 a5854
      · refine lv_iconst (v := 1) hx hb gX12_kindOn_2.2.2.2.2.2.2.2.2.2 (by decide) ?_
        refine lv_goto (tgt := 74) hx hb gX12_kindOn_3.1 (by decide) ?_
        refine lv_istore_n (lv' := [(3, .int 1), (2, .int (fnsf jt)), (0, .ref h0), (1, .int (nI jt))]) hx hb gX12_kindOn_3.2.2.1 rfl hl (by decide) rfl (fun ls hl => ?_)
        refine lv_aload_n hx hb gX12_kindOn_3.2.2.2.1 rfl (lv_at2 hl) ?_
        refine lv_iload_n hx hb gX12_kindOn_3.2.2.2.2.1 rfl (lv_at1 hl) ?_
        refine lv_iconst (v := 5) hx hb gX12_kindOn_3.2.2.2.2.2.1 (by decide) ?_
        refine pV hC hK hl hP hD (m_is l G kq h0 (fnsf jt) 5 nw nk mhasKept nt mtaped nr mrowMany mroundOf mroundFrom mouts nm mfromHour mtoHour ns mfrom mto msort misFault mdeep mcoded mlines nl nc nF np ntr nb mbestCost nso nsi nit nsh nsf nss nrc mtraced mdealer mnumber mwhose msize misParted fnw (by omega) (ekq) (by omega)) si_X12_120 [0, 1] sm_0_1 fm_0_1 nd_0_1 rfl rfl rfl rfl rfl (Nat.le_of_ble_eq_true rfl) rm_3_2_3 ⟨by first | exact Nat.le_of_ble_eq_true rfl | exact Nat.zero_le _, by first | exact Nat.le_of_ble_eq_true rfl | exact Nat.zero_le _⟩ gX12_kindOn_3.2.2.2.2.2.2.1 (Kors (Keqa fun a5856 => ?_) (Keqa fun a5856 => ?_))
        · refine lv_if_ne (tgt := 88) hx hb gX12_kindOn_3.2.2.2.2.2.2.2.1 (by decide) (fun _ => ?_) (fun c9 => absurd c9 (by decide))
          refine lv_iload_n hx hb gX12_kindOn_4.1 rfl (lv_at0 hl) ?_
          refine lv_if_ne (tgt := 96) hx hb gX12_kindOn_4.2.1 (by decide) (fun _ => ?_) (fun c9 => absurd c9 (by decide))
          refine lv_aload_n hx hb gX12_kindOn_4.2.2.2.2.1 rfl (lv_at2 hl) ?_
          refine lv_iload_n hx hb gX12_kindOn_4.2.2.2.2.2.1 rfl (lv_at1 hl) ?_
          refine eqi (x1 := nI jn5847) ekjn5847 ?_
          refine lv_iconst (v := 3) hx hb gX12_kindOn_4.2.2.2.2.2.2.1 (by decide) ?_
          refine pV hC hK hl hP hD (m_paper l G h0 jn5847 3 nw nk mhasKept nt mtaped nr mrowMany mroundOf mroundFrom mouts nm mfromHour mtoHour ns mfrom mto msort misFault mdeep mcoded mlines nl nc nF np ntr nb mbestCost nso nsi nit nsh nsf nss nrc mtraced mdealer mnumber mwhose msize misParted fnw (by omega) (by omega)) si_X12_88 [0, 1] sm_0_1 fm_0_1 nd_0_1 rfl rfl rfl rfl rfl (Nat.le_of_ble_eq_true rfl) rm_3_1_3 ⟨by first | exact Nat.le_of_ble_eq_true rfl | exact Nat.zero_le _, by first | exact Nat.le_of_ble_eq_true rfl | exact Nat.zero_le _⟩ gX12_kindOn_4.2.2.2.2.2.2.2.1 (Keqr ?_)
          refine lv_if_le (tgt := 109) hx hb gX12_kindOn_4.2.2.2.2.2.2.2.2.1 (by decide) (fun c_102_5859 => ?_) (fun c_102_5859 => ?_)
          · refine lv_iconst (v := 1) hx hb gX12_kindOn_5.2.1 (by decide) ?_
            refine toQ hQ0 ?_
            exact RP (v := 1) hC (Or.inr (Or.inl (⟨rfl, (by unfold KOM; simp only [ifc_t hjt, ifc_t ekq, ifc_t hkq, ifc_t ek8, ifc_t hk8, ifc_t ek9, ifc_t hk9, ifc_t hN, ifc_t c_13_5844, ifc_t a5856, ifc_f c_66_5852, ifc_t c_102_5859, ifc_f (q := fnsh jt = 2) (by rw [c_13_5844]; decide), ifc_f (q := fnsh jt = 3) (by rw [c_13_5844]; decide)]; unfold PKn; rw [show shf fnw 32 ((fnsf jt).toNatClampNeg * 6 + 1) = fnw (32 + 6 * jn5847 + 1) from congrArg fnw (by rw [ekjn5847, nI_clamp (n := jn5847) (by omega)]; omega), show shf fnw 32 ((fnsf jt).toNatClampNeg * 6 + 0) = fnw (32 + 6 * jn5847 + 0) from congrArg fnw (by rw [ekjn5847, nI_clamp (n := jn5847) (by omega)]; omega), show shf fnw 32 ((fnsf jt).toNatClampNeg * 6 + 3) = fnw (32 + 6 * jn5847 + 3) from congrArg fnw (by rw [ekjn5847, nI_clamp (n := jn5847) (by omega)]; omega), ifn_f c_66_5852, ifn_f (Int32.not_lt.mpr c_102_5859)]; first | done | rfl)⟩))) rfl gX12_kindOn_5.2.2.1
          · refine lv_iconst (v := 3) hx hb gX12_kindOn_4.2.2.2.2.2.2.2.2.2 (by decide) ?_
            refine lv_goto (tgt := 110) hx hb gX12_kindOn_5.1 (by decide) ?_
            refine toQ hQ0 ?_
            exact RP (v := 3) hC (Or.inr (Or.inr (Or.inr (Or.inl (⟨rfl, (by unfold KOM; simp only [ifc_t hjt, ifc_t ekq, ifc_t hkq, ifc_t ek8, ifc_t hk8, ifc_t ek9, ifc_t hk9, ifc_t hN, ifc_t c_13_5844, ifc_t a5856, ifc_f c_66_5852, ifc_f c_102_5859, ifc_f (q := fnsh jt = 2) (by rw [c_13_5844]; decide), ifc_f (q := fnsh jt = 3) (by rw [c_13_5844]; decide)]; unfold PKn; rw [show shf fnw 32 ((fnsf jt).toNatClampNeg * 6 + 1) = fnw (32 + 6 * jn5847 + 1) from congrArg fnw (by rw [ekjn5847, nI_clamp (n := jn5847) (by omega)]; omega), show shf fnw 32 ((fnsf jt).toNatClampNeg * 6 + 0) = fnw (32 + 6 * jn5847 + 0) from congrArg fnw (by rw [ekjn5847, nI_clamp (n := jn5847) (by omega)]; omega), show shf fnw 32 ((fnsf jt).toNatClampNeg * 6 + 3) = fnw (32 + 6 * jn5847 + 3) from congrArg fnw (by rw [ekjn5847, nI_clamp (n := jn5847) (by omega)]; omega), ifn_f c_66_5852, ifn_t (Int32.not_le.mp c_102_5859)]; first | done | rfl)⟩))))) rfl gX12_kindOn_5.2.2.1
        · exact absurd a5846 a5856
    · refine lv_if_eq (tgt := 73) hx hb gX12_kindOn_1.2.2.2.2.1 (by decide) (fun _ => ?_) (fun c9 => absurd (by decide) c9)
      refine lv_iconst (v := 0) hx hb gX12_kindOn_3.2.1 (by decide) ?_
      refine lv_istore_n (lv' := [(3, .int 0), (2, .int (fnsf jt)), (0, .ref h0), (1, .int (nI jt))]) hx hb gX12_kindOn_3.2.2.1 rfl hl (by decide) rfl (fun ls hl => ?_)
      refine lv_aload_n hx hb gX12_kindOn_3.2.2.2.1 rfl (lv_at2 hl) ?_
      refine lv_iload_n hx hb gX12_kindOn_3.2.2.2.2.1 rfl (lv_at1 hl) ?_
      refine lv_iconst (v := 5) hx hb gX12_kindOn_3.2.2.2.2.2.1 (by decide) ?_
      refine pV hC hK hl hP hD (m_is l G kq h0 (fnsf jt) 5 nw nk mhasKept nt mtaped nr mrowMany mroundOf mroundFrom mouts nm mfromHour mtoHour ns mfrom mto msort misFault mdeep mcoded mlines nl nc nF np ntr nb mbestCost nso nsi nit nsh nsf nss nrc mtraced mdealer mnumber mwhose msize misParted fnw (by omega) (ekq) (by omega)) si_X12_120 [0, 1] sm_0_1 fm_0_1 nd_0_1 rfl rfl rfl rfl rfl (Nat.le_of_ble_eq_true rfl) rm_3_2_3 ⟨by first | exact Nat.le_of_ble_eq_true rfl | exact Nat.zero_le _, by first | exact Nat.le_of_ble_eq_true rfl | exact Nat.zero_le _⟩ gX12_kindOn_3.2.2.2.2.2.2.1 (Kors (Keqa fun a5861 => ?_) (Keqa fun a5861 => ?_))
      · exact absurd a5861 a5846
      · refine lv_if_ne (tgt := 88) hx hb gX12_kindOn_3.2.2.2.2.2.2.2.1 (by decide) (fun c9 => absurd (by decide) c9) (fun _ => ?_)
        refine lv_iconst (v := (-1)) hx hb gX12_kindOn_3.2.2.2.2.2.2.2.2.1 (by decide) ?_
        refine lv_goto (tgt := 110) hx hb gX12_kindOn_3.2.2.2.2.2.2.2.2.2 (by decide) ?_
        refine toQ hQ0 ?_
        exact RP (v := (-1)) hC (Or.inl (⟨rfl, (by unfold KOM; first | (simp only [ifc_t hjt, ifc_t ekq, ifc_t hkq, ifc_t ek8, ifc_t hk8, ifc_t ek9, ifc_t hk9, ifc_t hN, ifc_t c_13_5844, ifc_f a5861, ifc_f (q := fnsh jt = 2) (by rw [c_13_5844]; decide), ifc_f (q := fnsh jt = 3) (by rw [c_13_5844]; decide)]; done) | (simp only [ifc_t hjt, ifc_t ekq, ifc_t hkq, ifc_t ek8, ifc_t hk8, ifc_t ek9, ifc_t hk9, ifc_t hN, ifc_t c_13_5844, ifc_f a5861, ifc_f (q := fnsh jt = 2) (by rw [c_13_5844]; decide), ifc_f (q := fnsh jt = 3) (by rw [c_13_5844]; decide)]; rfl))⟩)) rfl gX12_kindOn_5.2.2.1
  by_cases c_13_5862 : fnsh jt = 2
  · refine lv_tableIn (tgt := 111) hx hb gX12_kindOn_0.2.2.2.2.2.2.2.2.2 (by rw [c_13_5862]; decide) (by rw [c_13_5862]; decide) (by rw [c_13_5862]; rfl) (by decide) ?_
    refine lv_aload_n hx hb gX12_kindOn_5.2.2.2.1 rfl (lv_at1 hl) ?_
    refine lv_iload_n hx hb gX12_kindOn_5.2.2.2.2.1 rfl (lv_at0 hl) ?_
    refine lv_bipush (v := 8) hx hb gX12_kindOn_5.2.2.2.2.2.1 (by decide) ?_
    refine pV hC hK hl hP hD (m_is l G k8 h0 (fnsf jt) 8 nw nk mhasKept nt mtaped nr mrowMany mroundOf mroundFrom mouts nm mfromHour mtoHour ns mfrom mto msort misFault mdeep mcoded mlines nl nc nF np ntr nb mbestCost nso nsi nit nsh nsf nss nrc mtraced mdealer mnumber mwhose msize misParted fnw (by omega) (ek8) (by omega)) si_X12_120 [0, 1] sm_0_1 fm_0_1 nd_0_1 rfl rfl rfl rfl rfl (Nat.le_of_ble_eq_true rfl) rm_3_2_3 ⟨by first | exact Nat.le_of_ble_eq_true rfl | exact Nat.zero_le _, by first | exact Nat.le_of_ble_eq_true rfl | exact Nat.zero_le _⟩ gX12_kindOn_5.2.2.2.2.2.2.1 (Kors (Keqa fun a5864 => ?_) (Keqa fun a5864 => ?_))
    · refine lv_if_ne (tgt := 125) hx hb gX12_kindOn_5.2.2.2.2.2.2.2.1 (by decide) (fun _ => ?_) (fun c9 => absurd c9 (by decide))
      refine lv_aload_n hx hb gX12_kindOn_6.1 rfl (lv_at1 hl) ?_
      refine lv_iload_n hx hb gX12_kindOn_6.2.1 rfl (lv_at0 hl) ?_
      obtain ⟨jn5865, hjn5865, ekjn5865⟩ := Hs_nat (by omega) a5864
      refine eqi (x1 := nI jn5865) ekjn5865 ?_
      refine lv_bipush (v := 6) hx hb gX12_kindOn_6.2.2.1 (by decide) ?_
      refine pV hC hK hl hP hD (m_saying l G h0 jn5865 6 nw nk mhasKept nt mtaped nr mrowMany mroundOf mroundFrom mouts nm mfromHour mtoHour ns mfrom mto msort misFault mdeep mcoded mlines nl nc nF np ntr nb mbestCost nso nsi nit nsh nsf nss nrc mtraced mdealer mnumber mwhose msize misParted fnw (by omega) (by omega)) si_X12_114 [0, 1] sm_0_1 fm_0_1 nd_0_1 rfl rfl rfl rfl rfl (Nat.le_of_ble_eq_true rfl) rm_3_1_3 ⟨by first | exact Nat.le_of_ble_eq_true rfl | exact Nat.zero_le _, by first | exact Nat.le_of_ble_eq_true rfl | exact Nat.zero_le _⟩ gX12_kindOn_6.2.2.2.1 (Keqr ?_)
      refine lv_if_ge (tgt := 139) hx hb gX12_kindOn_6.2.2.2.2.1 (by decide) (fun c_132_5868 => ?_) (fun c_132_5868 => ?_)
      · refine lv_iconst (v := 4) hx hb gX12_kindOn_6.2.2.2.2.2.2.2.1 (by decide) ?_
        refine toQ hQ0 ?_
        exact RP (v := 4) hC (Or.inr (Or.inr (Or.inr (Or.inr (Or.inl (⟨rfl, (by unfold KOM; simp only [ifc_t hjt, ifc_t ekq, ifc_t hkq, ifc_t ek8, ifc_t hk8, ifc_t ek9, ifc_t hk9, ifc_t hN, ifc_f c_13_5844, ifc_t c_13_5862, ifc_t a5864, ifc_t c_132_5868, ifc_f (q := fnsh jt = 1) (by rw [c_13_5862]; decide), ifc_f (q := fnsh jt = 3) (by rw [c_13_5862]; decide)]; unfold SKn; rw [show shf fnw 1424 ((fnsf jt).toNatClampNeg * 8 + 6) = fnw (1424 + 8 * jn5865 + 6) from congrArg fnw (by rw [ekjn5865, nI_clamp (n := jn5865) (by omega)]; omega), ifn_f (Int32.not_lt.mpr c_132_5868)]; first | done | rfl)⟩)))))) rfl gX12_kindOn_6.2.2.2.2.2.2.2.2.1
      · refine lv_iconst (v := 5) hx hb gX12_kindOn_6.2.2.2.2.2.1 (by decide) ?_
        refine lv_goto (tgt := 140) hx hb gX12_kindOn_6.2.2.2.2.2.2.1 (by decide) ?_
        refine toQ hQ0 ?_
        exact RP (v := 5) hC (Or.inr (Or.inr (Or.inr (Or.inr (Or.inr (Or.inl (⟨rfl, (by unfold KOM; simp only [ifc_t hjt, ifc_t ekq, ifc_t hkq, ifc_t ek8, ifc_t hk8, ifc_t ek9, ifc_t hk9, ifc_t hN, ifc_f c_13_5844, ifc_t c_13_5862, ifc_t a5864, ifc_f c_132_5868, ifc_f (q := fnsh jt = 1) (by rw [c_13_5862]; decide), ifc_f (q := fnsh jt = 3) (by rw [c_13_5862]; decide)]; unfold SKn; rw [show shf fnw 1424 ((fnsf jt).toNatClampNeg * 8 + 6) = fnw (1424 + 8 * jn5865 + 6) from congrArg fnw (by rw [ekjn5865, nI_clamp (n := jn5865) (by omega)]; omega), ifn_t (Int32.not_le.mp c_132_5868)]; first | done | rfl)⟩))))))) rfl gX12_kindOn_6.2.2.2.2.2.2.2.2.1
    · refine lv_if_ne (tgt := 125) hx hb gX12_kindOn_5.2.2.2.2.2.2.2.1 (by decide) (fun c9 => absurd (by decide) c9) (fun _ => ?_)
      refine lv_iconst (v := (-1)) hx hb gX12_kindOn_5.2.2.2.2.2.2.2.2.1 (by decide) ?_
      refine lv_goto (tgt := 140) hx hb gX12_kindOn_5.2.2.2.2.2.2.2.2.2 (by decide) ?_
      refine toQ hQ0 ?_
      exact RP (v := (-1)) hC (Or.inl (⟨rfl, (by unfold KOM; first | (simp only [ifc_t hjt, ifc_t ekq, ifc_t hkq, ifc_t ek8, ifc_t hk8, ifc_t ek9, ifc_t hk9, ifc_t hN, ifc_f c_13_5844, ifc_t c_13_5862, ifc_f a5864, ifc_f (q := fnsh jt = 1) (by rw [c_13_5862]; decide), ifc_f (q := fnsh jt = 3) (by rw [c_13_5862]; decide)]; done) | (simp only [ifc_t hjt, ifc_t ekq, ifc_t hkq, ifc_t ek8, ifc_t hk8, ifc_t ek9, ifc_t hk9, ifc_t hN, ifc_f c_13_5844, ifc_t c_13_5862, ifc_f a5864, ifc_f (q := fnsh jt = 1) (by rw [c_13_5862]; decide), ifc_f (q := fnsh jt = 3) (by rw [c_13_5862]; decide)]; rfl))⟩)) rfl gX12_kindOn_6.2.2.2.2.2.2.2.2.1
  by_cases c_13_5869 : fnsh jt = 3
  · refine lv_tableIn (tgt := 141) hx hb gX12_kindOn_0.2.2.2.2.2.2.2.2.2 (by rw [c_13_5869]; decide) (by rw [c_13_5869]; decide) (by rw [c_13_5869]; rfl) (by decide) ?_
    refine lv_aload_n hx hb gX12_kindOn_6.2.2.2.2.2.2.2.2.2 rfl (lv_at1 hl) ?_
    refine lv_iload_n hx hb gX12_kindOn_7.1 rfl (lv_at0 hl) ?_
    refine lv_bipush (v := 9) hx hb gX12_kindOn_7.2.1 (by decide) ?_
    refine pV hC hK hl hP hD (m_is l G k9 h0 (fnsf jt) 9 nw nk mhasKept nt mtaped nr mrowMany mroundOf mroundFrom mouts nm mfromHour mtoHour ns mfrom mto msort misFault mdeep mcoded mlines nl nc nF np ntr nb mbestCost nso nsi nit nsh nsf nss nrc mtraced mdealer mnumber mwhose msize misParted fnw (by omega) (ek9) (by omega)) si_X12_120 [0, 1] sm_0_1 fm_0_1 nd_0_1 rfl rfl rfl rfl rfl (Nat.le_of_ble_eq_true rfl) rm_3_2_3 ⟨by first | exact Nat.le_of_ble_eq_true rfl | exact Nat.zero_le _, by first | exact Nat.le_of_ble_eq_true rfl | exact Nat.zero_le _⟩ gX12_kindOn_7.2.2.1 (Kors (Keqa fun a5871 => ?_) (Keqa fun a5871 => ?_))
    · refine lv_if_eq (tgt := 156) hx hb gX12_kindOn_7.2.2.2.1 (by decide) (fun c9 => absurd c9 (by decide)) (fun _ => ?_)
      refine lv_bipush (v := 6) hx hb gX12_kindOn_7.2.2.2.2.1 (by decide) ?_
      refine lv_goto (tgt := 157) hx hb gX12_kindOn_7.2.2.2.2.2.1 (by decide) ?_
      refine toQ hQ0 ?_
      exact RP (v := 6) hC (Or.inr (Or.inr (Or.inr (Or.inr (Or.inr (Or.inr (⟨rfl, (by unfold KOM; first | (simp only [ifc_t hjt, ifc_t ekq, ifc_t hkq, ifc_t ek8, ifc_t hk8, ifc_t ek9, ifc_t hk9, ifc_t hN, ifc_f c_13_5844, ifc_f c_13_5862, ifc_t c_13_5869, ifc_t a5871, ifc_f (q := fnsh jt = 1) (by rw [c_13_5869]; decide), ifc_f (q := fnsh jt = 2) (by rw [c_13_5869]; decide)]; done) | (simp only [ifc_t hjt, ifc_t ekq, ifc_t hkq, ifc_t ek8, ifc_t hk8, ifc_t ek9, ifc_t hk9, ifc_t hN, ifc_f c_13_5844, ifc_f c_13_5862, ifc_t c_13_5869, ifc_t a5871, ifc_f (q := fnsh jt = 1) (by rw [c_13_5869]; decide), ifc_f (q := fnsh jt = 2) (by rw [c_13_5869]; decide)]; rfl))⟩))))))) rfl gX12_kindOn_7.2.2.2.2.2.2.2.1
    · refine lv_if_eq (tgt := 156) hx hb gX12_kindOn_7.2.2.2.1 (by decide) (fun _ => ?_) (fun c9 => absurd (by decide) c9)
      refine lv_iconst (v := (-1)) hx hb gX12_kindOn_7.2.2.2.2.2.2.1 (by decide) ?_
      refine toQ hQ0 ?_
      exact RP (v := (-1)) hC (Or.inl (⟨rfl, (by unfold KOM; first | (simp only [ifc_t hjt, ifc_t ekq, ifc_t hkq, ifc_t ek8, ifc_t hk8, ifc_t ek9, ifc_t hk9, ifc_t hN, ifc_f c_13_5844, ifc_f c_13_5862, ifc_t c_13_5869, ifc_f a5871, ifc_f (q := fnsh jt = 1) (by rw [c_13_5869]; decide), ifc_f (q := fnsh jt = 2) (by rw [c_13_5869]; decide)]; done) | (simp only [ifc_t hjt, ifc_t ekq, ifc_t hkq, ifc_t ek8, ifc_t hk8, ifc_t ek9, ifc_t hk9, ifc_t hN, ifc_f c_13_5844, ifc_f c_13_5862, ifc_t c_13_5869, ifc_f a5871, ifc_f (q := fnsh jt = 1) (by rw [c_13_5869]; decide), ifc_f (q := fnsh jt = 2) (by rw [c_13_5869]; decide)]; rfl))⟩)) rfl gX12_kindOn_7.2.2.2.2.2.2.2.1
  refine lv_tableOut (tgt := 158) hx hb gX12_kindOn_0.2.2.2.2.2.2.2.2.2 (by have q9 := sw_1_3 (x := fnsh jt); simp only [c_13_5844, c_13_5862, c_13_5869, not_false_eq_true, true_implies] at q9; exact q9) (by decide) ?_
  refine lv_iconst (v := (-1)) hx hb gX12_kindOn_7.2.2.2.2.2.2.2.2.1 (by decide) ?_
  refine toQ hQ0 ?_
  exact RP (v := (-1)) hC (Or.inl (⟨rfl, (by unfold KOM; first | (simp only [ifc_t hjt, ifc_t ekq, ifc_t hkq, ifc_t ek8, ifc_t hk8, ifc_t ek9, ifc_t hk9, ifc_t hN, ifc_f c_13_5844, ifc_f c_13_5862, ifc_f c_13_5869]; done) | (simp only [ifc_t hjt, ifc_t ekq, ifc_t hkq, ifc_t ek8, ifc_t hk8, ifc_t ek9, ifc_t hk9, ifc_t hN, ifc_f c_13_5844, ifc_f c_13_5862, ifc_f c_13_5869]; rfl))⟩)) rfl gX12_kindOn_7.2.2.2.2.2.2.2.2.2
def K_r_taken (l : Launch) (G : GG) (kq : Nat) (k8 : Nat) (k9 : Nat) (h0 : Nat) (x1 : Int32) (x2 : Int32) (nw : Nat) (nk : Nat) (mhasKept : Int32) (nt : Nat) (mtaped : Int32) (nr : Nat) (mrowMany : Int32) (mroundOf : Int32) (mroundFrom : Int32) (mouts : Int32) (nm : Nat) (mfromHour : Int32) (mtoHour : Int32) (ns : Nat) (mfrom : Int32) (mto : Int32) (msort : Int32) (misFault : Int32) (mdeep : Int32) (mcoded : Int32) (mlines : Int32) (nl : Nat) (nc : Nat) (nF : Nat) (np : Nat) (ntr : Nat) (nb : Nat) (mbestCost : Int32) (nso : Nat) (nsi : Nat) (nit : Nat) (nsh : Nat) (nsf : Nat) (nss : Nat) (nrc : Nat) (mtraced : Int32) (mdealer : Int32) (mnumber : Int32) (mwhose : Int32) (msize : Int32) (misParted : Int32) (fnw : Nat → Int32) (fnsh : Nat → Int32) (fnsf : Nat → Int32) (fnss : Nat → Int32) : Prop := MP l G yX12_taken cX12_taken 4 (some .int) 4 [.ref h0, .int x1, .int x2] [(h0, oX12 nw nk mhasKept nt mtaped nr mrowMany mroundOf mroundFrom mouts nm mfromHour mtoHour ns mfrom mto msort misFault mdeep mcoded mlines nl nc nF np ntr nb mbestCost nso nsi nit nsh nsf nss nrc mtraced mdealer mnumber mwhose msize misParted), (nw, iA G 1662 fnw), (nsh, iA G 4 fnsh), (nsf, iA G 4 fnsf), (nss, iA G 4 fnss)] (fun r : Int32 => r = ifc (Wi x1 0 3) (ifc (Wi x2 0 6 ∨ Wi x2 10 14) (ifc (fnsh x1.toNatClampNeg = 4) (ifc (x2 - 10 = fnsf x1.toNatClampNeg) (fnss x1.toNatClampNeg) (-13)) (ifc (KOM (fnsh x1.toNatClampNeg) (fnsf x1.toNatClampNeg) kq k8 k9 (shf fnw 32) (shf fnw 1424) < 0) (-11) (ifc (UNl (KOM (fnsh x1.toNatClampNeg) (fnsf x1.toNatClampNeg) kq k8 k9 (shf fnw 32) (shf fnw 1424)).toNatClampNeg x2) (fnsf x1.toNatClampNeg) (-13)))) (-1)) (-1))
set_option maxHeartbeats 4000000 in
set_option maxRecDepth 100000 in
theorem r_taken (l : Launch) (G : GG) (kq : Nat) (k8 : Nat) (k9 : Nat) (h0 : Nat) (x1 : Int32) (x2 : Int32) (nw : Nat) (nk : Nat) (mhasKept : Int32) (nt : Nat) (mtaped : Int32) (nr : Nat) (mrowMany : Int32) (mroundOf : Int32) (mroundFrom : Int32) (mouts : Int32) (nm : Nat) (mfromHour : Int32) (mtoHour : Int32) (ns : Nat) (mfrom : Int32) (mto : Int32) (msort : Int32) (misFault : Int32) (mdeep : Int32) (mcoded : Int32) (mlines : Int32) (nl : Nat) (nc : Nat) (nF : Nat) (np : Nat) (ntr : Nat) (nb : Nat) (mbestCost : Int32) (nso : Nat) (nsi : Nat) (nit : Nat) (nsh : Nat) (nsf : Nat) (nss : Nat) (nrc : Nat) (mtraced : Int32) (mdealer : Int32) (mnumber : Int32) (mwhose : Int32) (msize : Int32) (misParted : Int32) (fnw : Nat → Int32) (fnsh : Nat → Int32) (fnsf : Nat → Int32) (fnss : Nat → Int32) (ekq : fnw 5 = nI kq) (hkq : kq ≤ 12) (ek8 : fnw 8 = nI k8) (hk8 : k8 ≤ 16) (ek9 : fnw 9 = nI k9) (hk9 : k9 ≤ 12) (hN : NI fnw) : K_r_taken l G kq k8 k9 h0 x1 x2 nw nk mhasKept nt mtaped nr mrowMany mroundOf mroundFrom mouts nm mfromHour mtoHour ns mfrom mto msort misFault mdeep mcoded mlines nl nc nF np ntr nb mbestCost nso nsi nit nsh nsf nss nrc mtraced mdealer mnumber mwhose msize misParted fnw fnsh fnsf fnss := by
  refine MP.start (by decide +kernel) (Nat.le_of_ble_eq_true rfl) ?_
  intro p e s m below meth c ls hC hK hP hD hl
  refine absQ (fun Q0 hQ0 => ?_)
  have hl : lv_has ls 4 [(0, .ref h0), (1, .int x1), (2, .int x2)] := hl
  refine Kan8 hC (fun hx hb hr hml hB hown hlocks hnm => ?_)
  refine lv_iload_n hx hb gX12_taken_0.1 rfl (lv_at1 hl) ?_
  refine pS hC hK hl (m_isFour l G x1) si_X12_336 rfl rfl (Nat.le_of_ble_eq_true rfl) rm_4_2_1 ⟨by first | exact Nat.le_of_ble_eq_true rfl | exact Nat.zero_le _, by first | exact Nat.le_of_ble_eq_true rfl | exact Nat.zero_le _⟩ gX12_taken_0.2.1 (Kors (Keqa fun a5873 => ?_) (Keqa fun a5873 => ?_))
  · refine lv_if_eq (tgt := 28) hx hb gX12_taken_0.2.2.1 (by decide) (fun c9 => absurd c9 (by decide)) (fun _ => ?_)
    refine lv_iload_n hx hb gX12_taken_0.2.2.2.1 rfl (lv_at2 hl) ?_
    refine lv_iconst (v := 0) hx hb gX12_taken_0.2.2.2.2.1 (by decide) ?_
    refine lv_bipush (v := 6) hx hb gX12_taken_0.2.2.2.2.2.1 (by decide) ?_
    refine pS hC hK hl (m_within l G x2 0 6) si_X12_84 rfl rfl (Nat.le_of_ble_eq_true rfl) rm_4_1_3 ⟨by first | exact Nat.le_of_ble_eq_true rfl | exact Nat.zero_le _, by first | exact Nat.le_of_ble_eq_true rfl | exact Nat.zero_le _⟩ gX12_taken_0.2.2.2.2.2.2.1 (Kors (Keqa fun a5875 => ?_) (Keqa fun a5875 => ?_))
    · refine lv_if_ne (tgt := 30) hx hb gX12_taken_0.2.2.2.2.2.2.2.1 (by decide) (fun _ => ?_) (fun c9 => absurd c9 (by decide))
      obtain ⟨jt, hjt, rfl⟩ := Wi_nat (N := 3) (by decide) a5873
      refine lv_aload_n hx hb gX12_taken_1.2.2.2.2.2.1 rfl (lv_at0 hl) ?_
      refine gf_X12_72 hC rfl hK hP 0 rfl rfl gX12_taken_1.2.2.2.2.2.2.1 ?_
      refine lv_iload_n hx hb gX12_taken_1.2.2.2.2.2.2.2.1 rfl (lv_at1 hl) ?_
      refine aldN hC hK hP 2 rfl (k := jt) (by omega) (Nat.le_of_ble_eq_true rfl) (v := fnsh jt) rfl gX12_taken_1.2.2.2.2.2.2.2.2.1 ?_
      refine lv_iconst (v := 4) hx hb gX12_taken_1.2.2.2.2.2.2.2.2.2 (by decide) ?_
      refine lv_icmp_ne (tgt := 65) hx hb gX12_taken_2.1 (by decide) (fun c_37_5876 => ?_) (fun c_37_5876 => ?_)
      · refine lv_aload_n hx hb gX12_taken_3.2.2.2.2.2.2.1 rfl (lv_at0 hl) ?_
        refine lv_iload_n hx hb gX12_taken_3.2.2.2.2.2.2.2.1 rfl (lv_at1 hl) ?_
        refine pV hC hK hl hP hD (m_kindOnX l G kq k8 k9 h0 jt nw nk mhasKept nt mtaped nr mrowMany mroundOf mroundFrom mouts nm mfromHour mtoHour ns mfrom mto msort misFault mdeep mcoded mlines nl nc nF np ntr nb mbestCost nso nsi nit nsh nsf nss nrc mtraced mdealer mnumber mwhose msize misParted fnw fnsh fnsf (by omega) (ekq) (hkq) (ek8) (hk8) (ek9) (hk9) (hN)) si_X12_345 [0, 1, 2, 3] sm_0_1_2_3 fm_0_1_2_3 nd_0_1_2_3 rfl rfl rfl rfl rfl (Nat.le_of_ble_eq_true rfl) rm_4_3_4 ⟨by first | exact Nat.le_of_ble_eq_true rfl | exact Nat.zero_le _, by first | exact Nat.le_of_ble_eq_true rfl | exact Nat.zero_le _⟩ gX12_taken_3.2.2.2.2.2.2.2.2.1 (Kors (Keqa fun a5878 => ?_) (Kors (Keqa fun a5878 => ?_) (Kors (Keqa fun a5878 => ?_) (Kors (Keqa fun a5878 => ?_) (Kors (Keqa fun a5878 => ?_) (Kors (Keqa fun a5878 => ?_) (Keqa fun a5878 => ?_)))))))
        · refine lv_istore_n (lv' := [(3, .int (-1)), (0, .ref h0), (1, .int (nI jt)), (2, .int x2)]) hx hb gX12_taken_3.2.2.2.2.2.2.2.2.2 rfl hl (by decide) rfl (fun ls hl => ?_)
          refine lv_iload_n hx hb gX12_taken_4.1 rfl (lv_at0 hl) ?_
          refine lv_if_ge (tgt := 78) hx hb gX12_taken_4.2.1 (by decide) (fun c9 => absurd c9 (by decide)) (fun _ => ?_)
          refine lv_bipush (v := (-11)) hx hb gX12_taken_4.2.2.1 (by decide) ?_
          refine toQ hQ0 ?_
          exact RP (v := (-11)) hC ((by first | rfl | (simp only [nI_clamp (n := jt) (by omega), ifc_t ekq, ifc_t hkq, ifc_t ek8, ifc_t hk8, ifc_t ek9, ifc_t hk9, ifc_t hN, ifc_t a5873, ifc_t a5875, ifc_f c_37_5876, ifc_t (q := Wi x2 0 6 ∨ Wi x2 10 14) (Or.inl a5875), a5878, ifc_t (q := (-1 : Int32) < 0) (by decide)]; done) | (simp only [nI_clamp (n := jt) (by omega), ifc_t ekq, ifc_t hkq, ifc_t ek8, ifc_t hk8, ifc_t ek9, ifc_t hk9, ifc_t hN, ifc_t a5873, ifc_t a5875, ifc_f c_37_5876, ifc_t (q := Wi x2 0 6 ∨ Wi x2 10 14) (Or.inl a5875), a5878, ifc_t (q := (-1 : Int32) < 0) (by decide)]; rfl))) rfl gX12_taken_4.2.2.2.1
        · refine lv_istore_n (lv' := [(3, .int 1), (0, .ref h0), (1, .int (nI jt)), (2, .int x2)]) hx hb gX12_taken_3.2.2.2.2.2.2.2.2.2 rfl hl (by decide) rfl (fun ls hl => ?_)
          refine lv_iload_n hx hb gX12_taken_4.1 rfl (lv_at0 hl) ?_
          refine lv_if_ge (tgt := 78) hx hb gX12_taken_4.2.1 (by decide) (fun _ => ?_) (fun c9 => absurd (by decide) c9)
          refine lv_iload_n hx hb gX12_taken_4.2.2.2.2.1 rfl (lv_at0 hl) ?_
          refine lv_if_lt (tgt := 95) hx hb gX12_taken_4.2.2.2.2.2.1 (by decide) (fun c9 => absurd c9 (by decide)) (fun _ => ?_)
          refine lv_iload_n hx hb gX12_taken_4.2.2.2.2.2.2.1 rfl (lv_at0 hl) ?_
          refine lv_iload_n hx hb gX12_taken_4.2.2.2.2.2.2.2.1 rfl (lv_at3 hl) ?_
          refine lv_icmp_eq (tgt := 95) hx hb gX12_taken_4.2.2.2.2.2.2.2.2.1 (by decide) (fun c_84_5879 => ?_) (fun c_84_5879 => ?_)
          · refine lv_iload_n hx hb gX12_taken_5.2.2.2.1 rfl (lv_at0 hl) ?_
            refine lv_iload_n hx hb gX12_taken_5.2.2.2.2.1 rfl (lv_at3 hl) ?_
            refine lv_icmp_ne (tgt := 109) hx hb gX12_taken_5.2.2.2.2.2.1 (by decide) (fun c9 => absurd (c_84_5879) c9) (fun _ => ?_)
            refine lv_aload_n hx hb gX12_taken_5.2.2.2.2.2.2.1 rfl (lv_at1 hl) ?_
            refine gf_X12_75 hC rfl hK hP 0 rfl rfl gX12_taken_5.2.2.2.2.2.2.2.1 ?_
            refine lv_iload_n hx hb gX12_taken_5.2.2.2.2.2.2.2.2.1 rfl (lv_at2 hl) ?_
            refine aldN hC hK hP 3 rfl (k := jt) (by omega) (Nat.le_of_ble_eq_true rfl) (v := fnsf jt) rfl gX12_taken_5.2.2.2.2.2.2.2.2.2 ?_
            refine lv_goto (tgt := 111) hx hb gX12_taken_6.1 (by decide) ?_
            refine toQ hQ0 ?_
            exact RP (v := fnsf jt) hC ((by first | rfl | (simp only [nI_clamp (n := jt) (by omega), ifc_t ekq, ifc_t hkq, ifc_t ek8, ifc_t hk8, ifc_t ek9, ifc_t hk9, ifc_t hN, ifc_t a5873, ifc_t a5875, ifc_f c_37_5876, ifc_t c_84_5879, ifc_t (q := Wi x2 0 6 ∨ Wi x2 10 14) (Or.inl a5875), a5878, ifc_f (q := (1 : Int32) < 0) (by decide), ifc_t (q := UNl (1 : Int32).toNatClampNeg x2) (show UNl 1 x2 from Or.inl (c_84_5879.symm))]; done) | (simp only [nI_clamp (n := jt) (by omega), ifc_t ekq, ifc_t hkq, ifc_t ek8, ifc_t hk8, ifc_t ek9, ifc_t hk9, ifc_t hN, ifc_t a5873, ifc_t a5875, ifc_f c_37_5876, ifc_t c_84_5879, ifc_t (q := Wi x2 0 6 ∨ Wi x2 10 14) (Or.inl a5875), a5878, ifc_f (q := (1 : Int32) < 0) (by decide), ifc_t (q := UNl (1 : Int32).toNatClampNeg x2) (show UNl 1 x2 from Or.inl (c_84_5879.symm))]; rfl))) rfl gX12_taken_6.2.2
          · refine lv_iload_n hx hb gX12_taken_4.2.2.2.2.2.2.2.2.2 rfl (lv_at0 hl) ?_
            refine pS hC hK hl (m_above1 l G) si_X12_348 rfl rfl (Nat.le_of_ble_eq_true rfl) rm_4_1_1 ⟨by first | exact Nat.le_of_ble_eq_true rfl | exact Nat.zero_le _, by first | exact Nat.le_of_ble_eq_true rfl | exact Nat.zero_le _⟩ gX12_taken_5.1 (Keqr ?_)
            refine lv_istore_n (lv' := [(3, .int 0), (0, .ref h0), (1, .int (nI jt)), (2, .int x2)]) hx hb gX12_taken_5.2.1 rfl hl (by decide) rfl (fun ls hl => ?_)
            refine lv_goto (tgt := 78) hx hb gX12_taken_5.2.2.1 (by decide) ?_
            refine lv_iload_n hx hb gX12_taken_4.2.2.2.2.1 rfl (lv_at0 hl) ?_
            refine lv_if_lt (tgt := 95) hx hb gX12_taken_4.2.2.2.2.2.1 (by decide) (fun c9 => absurd c9 (by decide)) (fun _ => ?_)
            refine lv_iload_n hx hb gX12_taken_4.2.2.2.2.2.2.1 rfl (lv_at0 hl) ?_
            refine lv_iload_n hx hb gX12_taken_4.2.2.2.2.2.2.2.1 rfl (lv_at3 hl) ?_
            refine lv_icmp_eq (tgt := 95) hx hb gX12_taken_4.2.2.2.2.2.2.2.2.1 (by decide) (fun c_84_5882 => ?_) (fun c_84_5882 => ?_)
            · refine lv_iload_n hx hb gX12_taken_5.2.2.2.1 rfl (lv_at0 hl) ?_
              refine lv_iload_n hx hb gX12_taken_5.2.2.2.2.1 rfl (lv_at3 hl) ?_
              refine lv_icmp_ne (tgt := 109) hx hb gX12_taken_5.2.2.2.2.2.1 (by decide) (fun c9 => absurd (c_84_5882) c9) (fun _ => ?_)
              refine lv_aload_n hx hb gX12_taken_5.2.2.2.2.2.2.1 rfl (lv_at1 hl) ?_
              refine gf_X12_75 hC rfl hK hP 0 rfl rfl gX12_taken_5.2.2.2.2.2.2.2.1 ?_
              refine lv_iload_n hx hb gX12_taken_5.2.2.2.2.2.2.2.2.1 rfl (lv_at2 hl) ?_
              refine aldN hC hK hP 3 rfl (k := jt) (by omega) (Nat.le_of_ble_eq_true rfl) (v := fnsf jt) rfl gX12_taken_5.2.2.2.2.2.2.2.2.2 ?_
              refine lv_goto (tgt := 111) hx hb gX12_taken_6.1 (by decide) ?_
              refine toQ hQ0 ?_
              exact RP (v := fnsf jt) hC ((by first | rfl | (simp only [nI_clamp (n := jt) (by omega), ifc_t ekq, ifc_t hkq, ifc_t ek8, ifc_t hk8, ifc_t ek9, ifc_t hk9, ifc_t hN, ifc_t a5873, ifc_t a5875, ifc_f c_37_5876, ifc_f c_84_5879, ifc_t c_84_5882, ifc_t (q := Wi x2 0 6 ∨ Wi x2 10 14) (Or.inl a5875), a5878, ifc_f (q := (1 : Int32) < 0) (by decide), ifc_t (q := UNl (1 : Int32).toNatClampNeg x2) (show UNl 1 x2 from Or.inr (c_84_5882.symm))]; done) | (simp only [nI_clamp (n := jt) (by omega), ifc_t ekq, ifc_t hkq, ifc_t ek8, ifc_t hk8, ifc_t ek9, ifc_t hk9, ifc_t hN, ifc_t a5873, ifc_t a5875, ifc_f c_37_5876, ifc_f c_84_5879, ifc_t c_84_5882, ifc_t (q := Wi x2 0 6 ∨ Wi x2 10 14) (Or.inl a5875), a5878, ifc_f (q := (1 : Int32) < 0) (by decide), ifc_t (q := UNl (1 : Int32).toNatClampNeg x2) (show UNl 1 x2 from Or.inr (c_84_5882.symm))]; rfl))) rfl gX12_taken_6.2.2
            · refine lv_iload_n hx hb gX12_taken_4.2.2.2.2.2.2.2.2.2 rfl (lv_at0 hl) ?_
              refine pS hC hK hl (m_above0 l G) si_X12_348 rfl rfl (Nat.le_of_ble_eq_true rfl) rm_4_1_1 ⟨by first | exact Nat.le_of_ble_eq_true rfl | exact Nat.zero_le _, by first | exact Nat.le_of_ble_eq_true rfl | exact Nat.zero_le _⟩ gX12_taken_5.1 (Keqr ?_)
              refine lv_istore_n (lv' := [(3, .int (-1)), (0, .ref h0), (1, .int (nI jt)), (2, .int x2)]) hx hb gX12_taken_5.2.1 rfl hl (by decide) rfl (fun ls hl => ?_)
              refine lv_goto (tgt := 78) hx hb gX12_taken_5.2.2.1 (by decide) ?_
              refine lv_iload_n hx hb gX12_taken_4.2.2.2.2.1 rfl (lv_at0 hl) ?_
              refine lv_if_lt (tgt := 95) hx hb gX12_taken_4.2.2.2.2.2.1 (by decide) (fun _ => ?_) (fun c9 => absurd (by decide) c9)
              refine lv_iload_n hx hb gX12_taken_5.2.2.2.1 rfl (lv_at0 hl) ?_
              refine lv_iload_n hx hb gX12_taken_5.2.2.2.2.1 rfl (lv_at3 hl) ?_
              refine lv_icmp_ne (tgt := 109) hx hb gX12_taken_5.2.2.2.2.2.1 (by decide) (fun c_97_5885 => ?_) (fun c_97_5885 => ?_)
              · refine lv_bipush (v := (-13)) hx hb gX12_taken_6.2.1 (by decide) ?_
                refine toQ hQ0 ?_
                exact RP (v := (-13)) hC ((by first | rfl | (simp only [nI_clamp (n := jt) (by omega), ifc_t ekq, ifc_t hkq, ifc_t ek8, ifc_t hk8, ifc_t ek9, ifc_t hk9, ifc_t hN, ifc_t a5873, ifc_t a5875, ifc_f c_37_5876, ifc_f c_84_5879, ifc_f c_84_5882, ifc_f c_97_5885, ifc_t (q := Wi x2 0 6 ∨ Wi x2 10 14) (Or.inl a5875), a5878, ifc_f (q := (1 : Int32) < 0) (by decide), ifc_f (q := UNl (1 : Int32).toNatClampNeg x2) (fun h9 => (show False from by have h7 : x2 = 1 ∨ x2 = 0 := h9; rcases h7 with h8 | h8 <;> (first | exact c_84_5879 h8.symm | exact c_84_5882 h8.symm)))]; done) | (simp only [nI_clamp (n := jt) (by omega), ifc_t ekq, ifc_t hkq, ifc_t ek8, ifc_t hk8, ifc_t ek9, ifc_t hk9, ifc_t hN, ifc_t a5873, ifc_t a5875, ifc_f c_37_5876, ifc_f c_84_5879, ifc_f c_84_5882, ifc_f c_97_5885, ifc_t (q := Wi x2 0 6 ∨ Wi x2 10 14) (Or.inl a5875), a5878, ifc_f (q := (1 : Int32) < 0) (by decide), ifc_f (q := UNl (1 : Int32).toNatClampNeg x2) (fun h9 => (show False from by have h7 : x2 = 1 ∨ x2 = 0 := h9; rcases h7 with h8 | h8 <;> (first | exact c_84_5879 h8.symm | exact c_84_5882 h8.symm)))]; rfl))) rfl gX12_taken_6.2.2
              · refine lv_aload_n hx hb gX12_taken_5.2.2.2.2.2.2.1 rfl (lv_at1 hl) ?_
                refine gf_X12_75 hC rfl hK hP 0 rfl rfl gX12_taken_5.2.2.2.2.2.2.2.1 ?_
                refine lv_iload_n hx hb gX12_taken_5.2.2.2.2.2.2.2.2.1 rfl (lv_at2 hl) ?_
                refine aldN hC hK hP 3 rfl (k := jt) (by omega) (Nat.le_of_ble_eq_true rfl) (v := fnsf jt) rfl gX12_taken_5.2.2.2.2.2.2.2.2.2 ?_
                refine lv_goto (tgt := 111) hx hb gX12_taken_6.1 (by decide) ?_
                refine toQ hQ0 ?_
                exact RP (v := fnsf jt) hC ((absurd a5875 (by rw [← c_97_5885]; unfold Wi; decide))) rfl gX12_taken_6.2.2
        · refine lv_istore_n (lv' := [(3, .int 2), (0, .ref h0), (1, .int (nI jt)), (2, .int x2)]) hx hb gX12_taken_3.2.2.2.2.2.2.2.2.2 rfl hl (by decide) rfl (fun ls hl => ?_)
          refine lv_iload_n hx hb gX12_taken_4.1 rfl (lv_at0 hl) ?_
          refine lv_if_ge (tgt := 78) hx hb gX12_taken_4.2.1 (by decide) (fun _ => ?_) (fun c9 => absurd (by decide) c9)
          refine lv_iload_n hx hb gX12_taken_4.2.2.2.2.1 rfl (lv_at0 hl) ?_
          refine lv_if_lt (tgt := 95) hx hb gX12_taken_4.2.2.2.2.2.1 (by decide) (fun c9 => absurd c9 (by decide)) (fun _ => ?_)
          refine lv_iload_n hx hb gX12_taken_4.2.2.2.2.2.2.1 rfl (lv_at0 hl) ?_
          refine lv_iload_n hx hb gX12_taken_4.2.2.2.2.2.2.2.1 rfl (lv_at3 hl) ?_
          refine lv_icmp_eq (tgt := 95) hx hb gX12_taken_4.2.2.2.2.2.2.2.2.1 (by decide) (fun c_84_5886 => ?_) (fun c_84_5886 => ?_)
          · refine lv_iload_n hx hb gX12_taken_5.2.2.2.1 rfl (lv_at0 hl) ?_
            refine lv_iload_n hx hb gX12_taken_5.2.2.2.2.1 rfl (lv_at3 hl) ?_
            refine lv_icmp_ne (tgt := 109) hx hb gX12_taken_5.2.2.2.2.2.1 (by decide) (fun c9 => absurd (c_84_5886) c9) (fun _ => ?_)
            refine lv_aload_n hx hb gX12_taken_5.2.2.2.2.2.2.1 rfl (lv_at1 hl) ?_
            refine gf_X12_75 hC rfl hK hP 0 rfl rfl gX12_taken_5.2.2.2.2.2.2.2.1 ?_
            refine lv_iload_n hx hb gX12_taken_5.2.2.2.2.2.2.2.2.1 rfl (lv_at2 hl) ?_
            refine aldN hC hK hP 3 rfl (k := jt) (by omega) (Nat.le_of_ble_eq_true rfl) (v := fnsf jt) rfl gX12_taken_5.2.2.2.2.2.2.2.2.2 ?_
            refine lv_goto (tgt := 111) hx hb gX12_taken_6.1 (by decide) ?_
            refine toQ hQ0 ?_
            exact RP (v := fnsf jt) hC ((by first | rfl | (simp only [nI_clamp (n := jt) (by omega), ifc_t ekq, ifc_t hkq, ifc_t ek8, ifc_t hk8, ifc_t ek9, ifc_t hk9, ifc_t hN, ifc_t a5873, ifc_t a5875, ifc_f c_37_5876, ifc_t c_84_5886, ifc_t (q := Wi x2 0 6 ∨ Wi x2 10 14) (Or.inl a5875), a5878, ifc_f (q := (2 : Int32) < 0) (by decide), ifc_t (q := UNl (2 : Int32).toNatClampNeg x2) (show UNl 2 x2 from Or.inl (c_84_5886.symm))]; done) | (simp only [nI_clamp (n := jt) (by omega), ifc_t ekq, ifc_t hkq, ifc_t ek8, ifc_t hk8, ifc_t ek9, ifc_t hk9, ifc_t hN, ifc_t a5873, ifc_t a5875, ifc_f c_37_5876, ifc_t c_84_5886, ifc_t (q := Wi x2 0 6 ∨ Wi x2 10 14) (Or.inl a5875), a5878, ifc_f (q := (2 : Int32) < 0) (by decide), ifc_t (q := UNl (2 : Int32).toNatClampNeg x2) (show UNl 2 x2 from Or.inl (c_84_5886.symm))]; rfl))) rfl gX12_taken_6.2.2
          · refine lv_iload_n hx hb gX12_taken_4.2.2.2.2.2.2.2.2.2 rfl (lv_at0 hl) ?_
            refine pS hC hK hl (m_above2 l G) si_X12_348 rfl rfl (Nat.le_of_ble_eq_true rfl) rm_4_1_1 ⟨by first | exact Nat.le_of_ble_eq_true rfl | exact Nat.zero_le _, by first | exact Nat.le_of_ble_eq_true rfl | exact Nat.zero_le _⟩ gX12_taken_5.1 (Keqr ?_)
            refine lv_istore_n (lv' := [(3, .int 0), (0, .ref h0), (1, .int (nI jt)), (2, .int x2)]) hx hb gX12_taken_5.2.1 rfl hl (by decide) rfl (fun ls hl => ?_)
            refine lv_goto (tgt := 78) hx hb gX12_taken_5.2.2.1 (by decide) ?_
            refine lv_iload_n hx hb gX12_taken_4.2.2.2.2.1 rfl (lv_at0 hl) ?_
            refine lv_if_lt (tgt := 95) hx hb gX12_taken_4.2.2.2.2.2.1 (by decide) (fun c9 => absurd c9 (by decide)) (fun _ => ?_)
            refine lv_iload_n hx hb gX12_taken_4.2.2.2.2.2.2.1 rfl (lv_at0 hl) ?_
            refine lv_iload_n hx hb gX12_taken_4.2.2.2.2.2.2.2.1 rfl (lv_at3 hl) ?_
            refine lv_icmp_eq (tgt := 95) hx hb gX12_taken_4.2.2.2.2.2.2.2.2.1 (by decide) (fun c_84_5889 => ?_) (fun c_84_5889 => ?_)
            · refine lv_iload_n hx hb gX12_taken_5.2.2.2.1 rfl (lv_at0 hl) ?_
              refine lv_iload_n hx hb gX12_taken_5.2.2.2.2.1 rfl (lv_at3 hl) ?_
              refine lv_icmp_ne (tgt := 109) hx hb gX12_taken_5.2.2.2.2.2.1 (by decide) (fun c9 => absurd (c_84_5889) c9) (fun _ => ?_)
              refine lv_aload_n hx hb gX12_taken_5.2.2.2.2.2.2.1 rfl (lv_at1 hl) ?_
              refine gf_X12_75 hC rfl hK hP 0 rfl rfl gX12_taken_5.2.2.2.2.2.2.2.1 ?_
              refine lv_iload_n hx hb gX12_taken_5.2.2.2.2.2.2.2.2.1 rfl (lv_at2 hl) ?_
              refine aldN hC hK hP 3 rfl (k := jt) (by omega) (Nat.le_of_ble_eq_true rfl) (v := fnsf jt) rfl gX12_taken_5.2.2.2.2.2.2.2.2.2 ?_
              refine lv_goto (tgt := 111) hx hb gX12_taken_6.1 (by decide) ?_
              refine toQ hQ0 ?_
              exact RP (v := fnsf jt) hC ((by first | rfl | (simp only [nI_clamp (n := jt) (by omega), ifc_t ekq, ifc_t hkq, ifc_t ek8, ifc_t hk8, ifc_t ek9, ifc_t hk9, ifc_t hN, ifc_t a5873, ifc_t a5875, ifc_f c_37_5876, ifc_f c_84_5886, ifc_t c_84_5889, ifc_t (q := Wi x2 0 6 ∨ Wi x2 10 14) (Or.inl a5875), a5878, ifc_f (q := (2 : Int32) < 0) (by decide), ifc_t (q := UNl (2 : Int32).toNatClampNeg x2) (show UNl 2 x2 from Or.inr (c_84_5889.symm))]; done) | (simp only [nI_clamp (n := jt) (by omega), ifc_t ekq, ifc_t hkq, ifc_t ek8, ifc_t hk8, ifc_t ek9, ifc_t hk9, ifc_t hN, ifc_t a5873, ifc_t a5875, ifc_f c_37_5876, ifc_f c_84_5886, ifc_t c_84_5889, ifc_t (q := Wi x2 0 6 ∨ Wi x2 10 14) (Or.inl a5875), a5878, ifc_f (q := (2 : Int32) < 0) (by decide), ifc_t (q := UNl (2 : Int32).toNatClampNeg x2) (show UNl 2 x2 from Or.inr (c_84_5889.symm))]; rfl))) rfl gX12_taken_6.2.2
            · refine lv_iload_n hx hb gX12_taken_4.2.2.2.2.2.2.2.2.2 rfl (lv_at0 hl) ?_
              refine pS hC hK hl (m_above0 l G) si_X12_348 rfl rfl (Nat.le_of_ble_eq_true rfl) rm_4_1_1 ⟨by first | exact Nat.le_of_ble_eq_true rfl | exact Nat.zero_le _, by first | exact Nat.le_of_ble_eq_true rfl | exact Nat.zero_le _⟩ gX12_taken_5.1 (Keqr ?_)
              refine lv_istore_n (lv' := [(3, .int (-1)), (0, .ref h0), (1, .int (nI jt)), (2, .int x2)]) hx hb gX12_taken_5.2.1 rfl hl (by decide) rfl (fun ls hl => ?_)
              refine lv_goto (tgt := 78) hx hb gX12_taken_5.2.2.1 (by decide) ?_
              refine lv_iload_n hx hb gX12_taken_4.2.2.2.2.1 rfl (lv_at0 hl) ?_
              refine lv_if_lt (tgt := 95) hx hb gX12_taken_4.2.2.2.2.2.1 (by decide) (fun _ => ?_) (fun c9 => absurd (by decide) c9)
              refine lv_iload_n hx hb gX12_taken_5.2.2.2.1 rfl (lv_at0 hl) ?_
              refine lv_iload_n hx hb gX12_taken_5.2.2.2.2.1 rfl (lv_at3 hl) ?_
              refine lv_icmp_ne (tgt := 109) hx hb gX12_taken_5.2.2.2.2.2.1 (by decide) (fun c_97_5892 => ?_) (fun c_97_5892 => ?_)
              · refine lv_bipush (v := (-13)) hx hb gX12_taken_6.2.1 (by decide) ?_
                refine toQ hQ0 ?_
                exact RP (v := (-13)) hC ((by first | rfl | (simp only [nI_clamp (n := jt) (by omega), ifc_t ekq, ifc_t hkq, ifc_t ek8, ifc_t hk8, ifc_t ek9, ifc_t hk9, ifc_t hN, ifc_t a5873, ifc_t a5875, ifc_f c_37_5876, ifc_f c_84_5886, ifc_f c_84_5889, ifc_f c_97_5892, ifc_t (q := Wi x2 0 6 ∨ Wi x2 10 14) (Or.inl a5875), a5878, ifc_f (q := (2 : Int32) < 0) (by decide), ifc_f (q := UNl (2 : Int32).toNatClampNeg x2) (fun h9 => (show False from by have h7 : x2 = 2 ∨ x2 = 0 := h9; rcases h7 with h8 | h8 <;> (first | exact c_84_5886 h8.symm | exact c_84_5889 h8.symm)))]; done) | (simp only [nI_clamp (n := jt) (by omega), ifc_t ekq, ifc_t hkq, ifc_t ek8, ifc_t hk8, ifc_t ek9, ifc_t hk9, ifc_t hN, ifc_t a5873, ifc_t a5875, ifc_f c_37_5876, ifc_f c_84_5886, ifc_f c_84_5889, ifc_f c_97_5892, ifc_t (q := Wi x2 0 6 ∨ Wi x2 10 14) (Or.inl a5875), a5878, ifc_f (q := (2 : Int32) < 0) (by decide), ifc_f (q := UNl (2 : Int32).toNatClampNeg x2) (fun h9 => (show False from by have h7 : x2 = 2 ∨ x2 = 0 := h9; rcases h7 with h8 | h8 <;> (first | exact c_84_5886 h8.symm | exact c_84_5889 h8.symm)))]; rfl))) rfl gX12_taken_6.2.2
              · refine lv_aload_n hx hb gX12_taken_5.2.2.2.2.2.2.1 rfl (lv_at1 hl) ?_
                refine gf_X12_75 hC rfl hK hP 0 rfl rfl gX12_taken_5.2.2.2.2.2.2.2.1 ?_
                refine lv_iload_n hx hb gX12_taken_5.2.2.2.2.2.2.2.2.1 rfl (lv_at2 hl) ?_
                refine aldN hC hK hP 3 rfl (k := jt) (by omega) (Nat.le_of_ble_eq_true rfl) (v := fnsf jt) rfl gX12_taken_5.2.2.2.2.2.2.2.2.2 ?_
                refine lv_goto (tgt := 111) hx hb gX12_taken_6.1 (by decide) ?_
                refine toQ hQ0 ?_
                exact RP (v := fnsf jt) hC ((absurd a5875 (by rw [← c_97_5892]; unfold Wi; decide))) rfl gX12_taken_6.2.2
        · refine lv_istore_n (lv' := [(3, .int 3), (0, .ref h0), (1, .int (nI jt)), (2, .int x2)]) hx hb gX12_taken_3.2.2.2.2.2.2.2.2.2 rfl hl (by decide) rfl (fun ls hl => ?_)
          refine lv_iload_n hx hb gX12_taken_4.1 rfl (lv_at0 hl) ?_
          refine lv_if_ge (tgt := 78) hx hb gX12_taken_4.2.1 (by decide) (fun _ => ?_) (fun c9 => absurd (by decide) c9)
          refine lv_iload_n hx hb gX12_taken_4.2.2.2.2.1 rfl (lv_at0 hl) ?_
          refine lv_if_lt (tgt := 95) hx hb gX12_taken_4.2.2.2.2.2.1 (by decide) (fun c9 => absurd c9 (by decide)) (fun _ => ?_)
          refine lv_iload_n hx hb gX12_taken_4.2.2.2.2.2.2.1 rfl (lv_at0 hl) ?_
          refine lv_iload_n hx hb gX12_taken_4.2.2.2.2.2.2.2.1 rfl (lv_at3 hl) ?_
          refine lv_icmp_eq (tgt := 95) hx hb gX12_taken_4.2.2.2.2.2.2.2.2.1 (by decide) (fun c_84_5893 => ?_) (fun c_84_5893 => ?_)
          · refine lv_iload_n hx hb gX12_taken_5.2.2.2.1 rfl (lv_at0 hl) ?_
            refine lv_iload_n hx hb gX12_taken_5.2.2.2.2.1 rfl (lv_at3 hl) ?_
            refine lv_icmp_ne (tgt := 109) hx hb gX12_taken_5.2.2.2.2.2.1 (by decide) (fun c9 => absurd (c_84_5893) c9) (fun _ => ?_)
            refine lv_aload_n hx hb gX12_taken_5.2.2.2.2.2.2.1 rfl (lv_at1 hl) ?_
            refine gf_X12_75 hC rfl hK hP 0 rfl rfl gX12_taken_5.2.2.2.2.2.2.2.1 ?_
            refine lv_iload_n hx hb gX12_taken_5.2.2.2.2.2.2.2.2.1 rfl (lv_at2 hl) ?_
            refine aldN hC hK hP 3 rfl (k := jt) (by omega) (Nat.le_of_ble_eq_true rfl) (v := fnsf jt) rfl gX12_taken_5.2.2.2.2.2.2.2.2.2 ?_
            refine lv_goto (tgt := 111) hx hb gX12_taken_6.1 (by decide) ?_
            refine toQ hQ0 ?_
            exact RP (v := fnsf jt) hC ((by first | rfl | (simp only [nI_clamp (n := jt) (by omega), ifc_t ekq, ifc_t hkq, ifc_t ek8, ifc_t hk8, ifc_t ek9, ifc_t hk9, ifc_t hN, ifc_t a5873, ifc_t a5875, ifc_f c_37_5876, ifc_t c_84_5893, ifc_t (q := Wi x2 0 6 ∨ Wi x2 10 14) (Or.inl a5875), a5878, ifc_f (q := (3 : Int32) < 0) (by decide), ifc_t (q := UNl (3 : Int32).toNatClampNeg x2) (show UNl 3 x2 from Or.inl (c_84_5893.symm))]; done) | (simp only [nI_clamp (n := jt) (by omega), ifc_t ekq, ifc_t hkq, ifc_t ek8, ifc_t hk8, ifc_t ek9, ifc_t hk9, ifc_t hN, ifc_t a5873, ifc_t a5875, ifc_f c_37_5876, ifc_t c_84_5893, ifc_t (q := Wi x2 0 6 ∨ Wi x2 10 14) (Or.inl a5875), a5878, ifc_f (q := (3 : Int32) < 0) (by decide), ifc_t (q := UNl (3 : Int32).toNatClampNeg x2) (show UNl 3 x2 from Or.inl (c_84_5893.symm))]; rfl))) rfl gX12_taken_6.2.2
          · refine lv_iload_n hx hb gX12_taken_4.2.2.2.2.2.2.2.2.2 rfl (lv_at0 hl) ?_
            refine pS hC hK hl (m_above3 l G) si_X12_348 rfl rfl (Nat.le_of_ble_eq_true rfl) rm_4_1_1 ⟨by first | exact Nat.le_of_ble_eq_true rfl | exact Nat.zero_le _, by first | exact Nat.le_of_ble_eq_true rfl | exact Nat.zero_le _⟩ gX12_taken_5.1 (Keqr ?_)
            refine lv_istore_n (lv' := [(3, .int 1), (0, .ref h0), (1, .int (nI jt)), (2, .int x2)]) hx hb gX12_taken_5.2.1 rfl hl (by decide) rfl (fun ls hl => ?_)
            refine lv_goto (tgt := 78) hx hb gX12_taken_5.2.2.1 (by decide) ?_
            refine lv_iload_n hx hb gX12_taken_4.2.2.2.2.1 rfl (lv_at0 hl) ?_
            refine lv_if_lt (tgt := 95) hx hb gX12_taken_4.2.2.2.2.2.1 (by decide) (fun c9 => absurd c9 (by decide)) (fun _ => ?_)
            refine lv_iload_n hx hb gX12_taken_4.2.2.2.2.2.2.1 rfl (lv_at0 hl) ?_
            refine lv_iload_n hx hb gX12_taken_4.2.2.2.2.2.2.2.1 rfl (lv_at3 hl) ?_
            refine lv_icmp_eq (tgt := 95) hx hb gX12_taken_4.2.2.2.2.2.2.2.2.1 (by decide) (fun c_84_5896 => ?_) (fun c_84_5896 => ?_)
            · refine lv_iload_n hx hb gX12_taken_5.2.2.2.1 rfl (lv_at0 hl) ?_
              refine lv_iload_n hx hb gX12_taken_5.2.2.2.2.1 rfl (lv_at3 hl) ?_
              refine lv_icmp_ne (tgt := 109) hx hb gX12_taken_5.2.2.2.2.2.1 (by decide) (fun c9 => absurd (c_84_5896) c9) (fun _ => ?_)
              refine lv_aload_n hx hb gX12_taken_5.2.2.2.2.2.2.1 rfl (lv_at1 hl) ?_
              refine gf_X12_75 hC rfl hK hP 0 rfl rfl gX12_taken_5.2.2.2.2.2.2.2.1 ?_
              refine lv_iload_n hx hb gX12_taken_5.2.2.2.2.2.2.2.2.1 rfl (lv_at2 hl) ?_
              refine aldN hC hK hP 3 rfl (k := jt) (by omega) (Nat.le_of_ble_eq_true rfl) (v := fnsf jt) rfl gX12_taken_5.2.2.2.2.2.2.2.2.2 ?_
              refine lv_goto (tgt := 111) hx hb gX12_taken_6.1 (by decide) ?_
              refine toQ hQ0 ?_
              exact RP (v := fnsf jt) hC ((by first | rfl | (simp only [nI_clamp (n := jt) (by omega), ifc_t ekq, ifc_t hkq, ifc_t ek8, ifc_t hk8, ifc_t ek9, ifc_t hk9, ifc_t hN, ifc_t a5873, ifc_t a5875, ifc_f c_37_5876, ifc_f c_84_5893, ifc_t c_84_5896, ifc_t (q := Wi x2 0 6 ∨ Wi x2 10 14) (Or.inl a5875), a5878, ifc_f (q := (3 : Int32) < 0) (by decide), ifc_t (q := UNl (3 : Int32).toNatClampNeg x2) (show UNl 3 x2 from Or.inr (Or.inl (c_84_5896.symm)))]; done) | (simp only [nI_clamp (n := jt) (by omega), ifc_t ekq, ifc_t hkq, ifc_t ek8, ifc_t hk8, ifc_t ek9, ifc_t hk9, ifc_t hN, ifc_t a5873, ifc_t a5875, ifc_f c_37_5876, ifc_f c_84_5893, ifc_t c_84_5896, ifc_t (q := Wi x2 0 6 ∨ Wi x2 10 14) (Or.inl a5875), a5878, ifc_f (q := (3 : Int32) < 0) (by decide), ifc_t (q := UNl (3 : Int32).toNatClampNeg x2) (show UNl 3 x2 from Or.inr (Or.inl (c_84_5896.symm)))]; rfl))) rfl gX12_taken_6.2.2
            · refine lv_iload_n hx hb gX12_taken_4.2.2.2.2.2.2.2.2.2 rfl (lv_at0 hl) ?_
              refine pS hC hK hl (m_above1 l G) si_X12_348 rfl rfl (Nat.le_of_ble_eq_true rfl) rm_4_1_1 ⟨by first | exact Nat.le_of_ble_eq_true rfl | exact Nat.zero_le _, by first | exact Nat.le_of_ble_eq_true rfl | exact Nat.zero_le _⟩ gX12_taken_5.1 (Keqr ?_)
              refine lv_istore_n (lv' := [(3, .int 0), (0, .ref h0), (1, .int (nI jt)), (2, .int x2)]) hx hb gX12_taken_5.2.1 rfl hl (by decide) rfl (fun ls hl => ?_)
              refine lv_goto (tgt := 78) hx hb gX12_taken_5.2.2.1 (by decide) ?_
              refine lv_iload_n hx hb gX12_taken_4.2.2.2.2.1 rfl (lv_at0 hl) ?_
              refine lv_if_lt (tgt := 95) hx hb gX12_taken_4.2.2.2.2.2.1 (by decide) (fun c9 => absurd c9 (by decide)) (fun _ => ?_)
              refine lv_iload_n hx hb gX12_taken_4.2.2.2.2.2.2.1 rfl (lv_at0 hl) ?_
              refine lv_iload_n hx hb gX12_taken_4.2.2.2.2.2.2.2.1 rfl (lv_at3 hl) ?_
              refine lv_icmp_eq (tgt := 95) hx hb gX12_taken_4.2.2.2.2.2.2.2.2.1 (by decide) (fun c_84_5899 => ?_) (fun c_84_5899 => ?_)
              · refine lv_iload_n hx hb gX12_taken_5.2.2.2.1 rfl (lv_at0 hl) ?_
                refine lv_iload_n hx hb gX12_taken_5.2.2.2.2.1 rfl (lv_at3 hl) ?_
                refine lv_icmp_ne (tgt := 109) hx hb gX12_taken_5.2.2.2.2.2.1 (by decide) (fun c9 => absurd (c_84_5899) c9) (fun _ => ?_)
                refine lv_aload_n hx hb gX12_taken_5.2.2.2.2.2.2.1 rfl (lv_at1 hl) ?_
                refine gf_X12_75 hC rfl hK hP 0 rfl rfl gX12_taken_5.2.2.2.2.2.2.2.1 ?_
                refine lv_iload_n hx hb gX12_taken_5.2.2.2.2.2.2.2.2.1 rfl (lv_at2 hl) ?_
                refine aldN hC hK hP 3 rfl (k := jt) (by omega) (Nat.le_of_ble_eq_true rfl) (v := fnsf jt) rfl gX12_taken_5.2.2.2.2.2.2.2.2.2 ?_
                refine lv_goto (tgt := 111) hx hb gX12_taken_6.1 (by decide) ?_
                refine toQ hQ0 ?_
                exact RP (v := fnsf jt) hC ((by first | rfl | (simp only [nI_clamp (n := jt) (by omega), ifc_t ekq, ifc_t hkq, ifc_t ek8, ifc_t hk8, ifc_t ek9, ifc_t hk9, ifc_t hN, ifc_t a5873, ifc_t a5875, ifc_f c_37_5876, ifc_f c_84_5893, ifc_f c_84_5896, ifc_t c_84_5899, ifc_t (q := Wi x2 0 6 ∨ Wi x2 10 14) (Or.inl a5875), a5878, ifc_f (q := (3 : Int32) < 0) (by decide), ifc_t (q := UNl (3 : Int32).toNatClampNeg x2) (show UNl 3 x2 from Or.inr (Or.inr (c_84_5899.symm)))]; done) | (simp only [nI_clamp (n := jt) (by omega), ifc_t ekq, ifc_t hkq, ifc_t ek8, ifc_t hk8, ifc_t ek9, ifc_t hk9, ifc_t hN, ifc_t a5873, ifc_t a5875, ifc_f c_37_5876, ifc_f c_84_5893, ifc_f c_84_5896, ifc_t c_84_5899, ifc_t (q := Wi x2 0 6 ∨ Wi x2 10 14) (Or.inl a5875), a5878, ifc_f (q := (3 : Int32) < 0) (by decide), ifc_t (q := UNl (3 : Int32).toNatClampNeg x2) (show UNl 3 x2 from Or.inr (Or.inr (c_84_5899.symm)))]; rfl))) rfl gX12_taken_6.2.2
              · refine lv_iload_n hx hb gX12_taken_4.2.2.2.2.2.2.2.2.2 rfl (lv_at0 hl) ?_
                refine pS hC hK hl (m_above0 l G) si_X12_348 rfl rfl (Nat.le_of_ble_eq_true rfl) rm_4_1_1 ⟨by first | exact Nat.le_of_ble_eq_true rfl | exact Nat.zero_le _, by first | exact Nat.le_of_ble_eq_true rfl | exact Nat.zero_le _⟩ gX12_taken_5.1 (Keqr ?_)
                refine lv_istore_n (lv' := [(3, .int (-1)), (0, .ref h0), (1, .int (nI jt)), (2, .int x2)]) hx hb gX12_taken_5.2.1 rfl hl (by decide) rfl (fun ls hl => ?_)
                refine lv_goto (tgt := 78) hx hb gX12_taken_5.2.2.1 (by decide) ?_
                refine lv_iload_n hx hb gX12_taken_4.2.2.2.2.1 rfl (lv_at0 hl) ?_
                refine lv_if_lt (tgt := 95) hx hb gX12_taken_4.2.2.2.2.2.1 (by decide) (fun _ => ?_) (fun c9 => absurd (by decide) c9)
                refine lv_iload_n hx hb gX12_taken_5.2.2.2.1 rfl (lv_at0 hl) ?_
                refine lv_iload_n hx hb gX12_taken_5.2.2.2.2.1 rfl (lv_at3 hl) ?_
                refine lv_icmp_ne (tgt := 109) hx hb gX12_taken_5.2.2.2.2.2.1 (by decide) (fun c_97_5902 => ?_) (fun c_97_5902 => ?_)
                · refine lv_bipush (v := (-13)) hx hb gX12_taken_6.2.1 (by decide) ?_
                  refine toQ hQ0 ?_
                  exact RP (v := (-13)) hC ((by first | rfl | (simp only [nI_clamp (n := jt) (by omega), ifc_t ekq, ifc_t hkq, ifc_t ek8, ifc_t hk8, ifc_t ek9, ifc_t hk9, ifc_t hN, ifc_t a5873, ifc_t a5875, ifc_f c_37_5876, ifc_f c_84_5893, ifc_f c_84_5896, ifc_f c_84_5899, ifc_f c_97_5902, ifc_t (q := Wi x2 0 6 ∨ Wi x2 10 14) (Or.inl a5875), a5878, ifc_f (q := (3 : Int32) < 0) (by decide), ifc_f (q := UNl (3 : Int32).toNatClampNeg x2) (fun h9 => (show False from by have h7 : x2 = 3 ∨ x2 = 1 ∨ x2 = 0 := h9; rcases h7 with h8 | h8 | h8 <;> (first | exact c_84_5893 h8.symm | exact c_84_5896 h8.symm | exact c_84_5899 h8.symm)))]; done) | (simp only [nI_clamp (n := jt) (by omega), ifc_t ekq, ifc_t hkq, ifc_t ek8, ifc_t hk8, ifc_t ek9, ifc_t hk9, ifc_t hN, ifc_t a5873, ifc_t a5875, ifc_f c_37_5876, ifc_f c_84_5893, ifc_f c_84_5896, ifc_f c_84_5899, ifc_f c_97_5902, ifc_t (q := Wi x2 0 6 ∨ Wi x2 10 14) (Or.inl a5875), a5878, ifc_f (q := (3 : Int32) < 0) (by decide), ifc_f (q := UNl (3 : Int32).toNatClampNeg x2) (fun h9 => (show False from by have h7 : x2 = 3 ∨ x2 = 1 ∨ x2 = 0 := h9; rcases h7 with h8 | h8 | h8 <;> (first | exact c_84_5893 h8.symm | exact c_84_5896 h8.symm | exact c_84_5899 h8.symm)))]; rfl))) rfl gX12_taken_6.2.2
                · refine lv_aload_n hx hb gX12_taken_5.2.2.2.2.2.2.1 rfl (lv_at1 hl) ?_
                  refine gf_X12_75 hC rfl hK hP 0 rfl rfl gX12_taken_5.2.2.2.2.2.2.2.1 ?_
                  refine lv_iload_n hx hb gX12_taken_5.2.2.2.2.2.2.2.2.1 rfl (lv_at2 hl) ?_
                  refine aldN hC hK hP 3 rfl (k := jt) (by omega) (Nat.le_of_ble_eq_true rfl) (v := fnsf jt) rfl gX12_taken_5.2.2.2.2.2.2.2.2.2 ?_
                  refine lv_goto (tgt := 111) hx hb gX12_taken_6.1 (by decide) ?_
                  refine toQ hQ0 ?_
                  exact RP (v := fnsf jt) hC ((absurd a5875 (by rw [← c_97_5902]; unfold Wi; decide))) rfl gX12_taken_6.2.2
        · refine lv_istore_n (lv' := [(3, .int 4), (0, .ref h0), (1, .int (nI jt)), (2, .int x2)]) hx hb gX12_taken_3.2.2.2.2.2.2.2.2.2 rfl hl (by decide) rfl (fun ls hl => ?_)
          refine lv_iload_n hx hb gX12_taken_4.1 rfl (lv_at0 hl) ?_
          refine lv_if_ge (tgt := 78) hx hb gX12_taken_4.2.1 (by decide) (fun _ => ?_) (fun c9 => absurd (by decide) c9)
          refine lv_iload_n hx hb gX12_taken_4.2.2.2.2.1 rfl (lv_at0 hl) ?_
          refine lv_if_lt (tgt := 95) hx hb gX12_taken_4.2.2.2.2.2.1 (by decide) (fun c9 => absurd c9 (by decide)) (fun _ => ?_)
          refine lv_iload_n hx hb gX12_taken_4.2.2.2.2.2.2.1 rfl (lv_at0 hl) ?_
          refine lv_iload_n hx hb gX12_taken_4.2.2.2.2.2.2.2.1 rfl (lv_at3 hl) ?_
          refine lv_icmp_eq (tgt := 95) hx hb gX12_taken_4.2.2.2.2.2.2.2.2.1 (by decide) (fun c_84_5903 => ?_) (fun c_84_5903 => ?_)
          · refine lv_iload_n hx hb gX12_taken_5.2.2.2.1 rfl (lv_at0 hl) ?_
            refine lv_iload_n hx hb gX12_taken_5.2.2.2.2.1 rfl (lv_at3 hl) ?_
            refine lv_icmp_ne (tgt := 109) hx hb gX12_taken_5.2.2.2.2.2.1 (by decide) (fun c9 => absurd (c_84_5903) c9) (fun _ => ?_)
            refine lv_aload_n hx hb gX12_taken_5.2.2.2.2.2.2.1 rfl (lv_at1 hl) ?_
            refine gf_X12_75 hC rfl hK hP 0 rfl rfl gX12_taken_5.2.2.2.2.2.2.2.1 ?_
            refine lv_iload_n hx hb gX12_taken_5.2.2.2.2.2.2.2.2.1 rfl (lv_at2 hl) ?_
            refine aldN hC hK hP 3 rfl (k := jt) (by omega) (Nat.le_of_ble_eq_true rfl) (v := fnsf jt) rfl gX12_taken_5.2.2.2.2.2.2.2.2.2 ?_
            refine lv_goto (tgt := 111) hx hb gX12_taken_6.1 (by decide) ?_
            refine toQ hQ0 ?_
            exact RP (v := fnsf jt) hC ((by first | rfl | (simp only [nI_clamp (n := jt) (by omega), ifc_t ekq, ifc_t hkq, ifc_t ek8, ifc_t hk8, ifc_t ek9, ifc_t hk9, ifc_t hN, ifc_t a5873, ifc_t a5875, ifc_f c_37_5876, ifc_t c_84_5903, ifc_t (q := Wi x2 0 6 ∨ Wi x2 10 14) (Or.inl a5875), a5878, ifc_f (q := (4 : Int32) < 0) (by decide), ifc_t (q := UNl (4 : Int32).toNatClampNeg x2) (show UNl 4 x2 from Or.inl (c_84_5903.symm))]; done) | (simp only [nI_clamp (n := jt) (by omega), ifc_t ekq, ifc_t hkq, ifc_t ek8, ifc_t hk8, ifc_t ek9, ifc_t hk9, ifc_t hN, ifc_t a5873, ifc_t a5875, ifc_f c_37_5876, ifc_t c_84_5903, ifc_t (q := Wi x2 0 6 ∨ Wi x2 10 14) (Or.inl a5875), a5878, ifc_f (q := (4 : Int32) < 0) (by decide), ifc_t (q := UNl (4 : Int32).toNatClampNeg x2) (show UNl 4 x2 from Or.inl (c_84_5903.symm))]; rfl))) rfl gX12_taken_6.2.2
          · refine lv_iload_n hx hb gX12_taken_4.2.2.2.2.2.2.2.2.2 rfl (lv_at0 hl) ?_
            refine pS hC hK hl (m_above4 l G) si_X12_348 rfl rfl (Nat.le_of_ble_eq_true rfl) rm_4_1_1 ⟨by first | exact Nat.le_of_ble_eq_true rfl | exact Nat.zero_le _, by first | exact Nat.le_of_ble_eq_true rfl | exact Nat.zero_le _⟩ gX12_taken_5.1 (Keqr ?_)
            refine lv_istore_n (lv' := [(3, .int 0), (0, .ref h0), (1, .int (nI jt)), (2, .int x2)]) hx hb gX12_taken_5.2.1 rfl hl (by decide) rfl (fun ls hl => ?_)
            refine lv_goto (tgt := 78) hx hb gX12_taken_5.2.2.1 (by decide) ?_
            refine lv_iload_n hx hb gX12_taken_4.2.2.2.2.1 rfl (lv_at0 hl) ?_
            refine lv_if_lt (tgt := 95) hx hb gX12_taken_4.2.2.2.2.2.1 (by decide) (fun c9 => absurd c9 (by decide)) (fun _ => ?_)
            refine lv_iload_n hx hb gX12_taken_4.2.2.2.2.2.2.1 rfl (lv_at0 hl) ?_
            refine lv_iload_n hx hb gX12_taken_4.2.2.2.2.2.2.2.1 rfl (lv_at3 hl) ?_
            refine lv_icmp_eq (tgt := 95) hx hb gX12_taken_4.2.2.2.2.2.2.2.2.1 (by decide) (fun c_84_5906 => ?_) (fun c_84_5906 => ?_)
            · refine lv_iload_n hx hb gX12_taken_5.2.2.2.1 rfl (lv_at0 hl) ?_
              refine lv_iload_n hx hb gX12_taken_5.2.2.2.2.1 rfl (lv_at3 hl) ?_
              refine lv_icmp_ne (tgt := 109) hx hb gX12_taken_5.2.2.2.2.2.1 (by decide) (fun c9 => absurd (c_84_5906) c9) (fun _ => ?_)
              refine lv_aload_n hx hb gX12_taken_5.2.2.2.2.2.2.1 rfl (lv_at1 hl) ?_
              refine gf_X12_75 hC rfl hK hP 0 rfl rfl gX12_taken_5.2.2.2.2.2.2.2.1 ?_
              refine lv_iload_n hx hb gX12_taken_5.2.2.2.2.2.2.2.2.1 rfl (lv_at2 hl) ?_
              refine aldN hC hK hP 3 rfl (k := jt) (by omega) (Nat.le_of_ble_eq_true rfl) (v := fnsf jt) rfl gX12_taken_5.2.2.2.2.2.2.2.2.2 ?_
              refine lv_goto (tgt := 111) hx hb gX12_taken_6.1 (by decide) ?_
              refine toQ hQ0 ?_
              exact RP (v := fnsf jt) hC ((by first | rfl | (simp only [nI_clamp (n := jt) (by omega), ifc_t ekq, ifc_t hkq, ifc_t ek8, ifc_t hk8, ifc_t ek9, ifc_t hk9, ifc_t hN, ifc_t a5873, ifc_t a5875, ifc_f c_37_5876, ifc_f c_84_5903, ifc_t c_84_5906, ifc_t (q := Wi x2 0 6 ∨ Wi x2 10 14) (Or.inl a5875), a5878, ifc_f (q := (4 : Int32) < 0) (by decide), ifc_t (q := UNl (4 : Int32).toNatClampNeg x2) (show UNl 4 x2 from Or.inr (c_84_5906.symm))]; done) | (simp only [nI_clamp (n := jt) (by omega), ifc_t ekq, ifc_t hkq, ifc_t ek8, ifc_t hk8, ifc_t ek9, ifc_t hk9, ifc_t hN, ifc_t a5873, ifc_t a5875, ifc_f c_37_5876, ifc_f c_84_5903, ifc_t c_84_5906, ifc_t (q := Wi x2 0 6 ∨ Wi x2 10 14) (Or.inl a5875), a5878, ifc_f (q := (4 : Int32) < 0) (by decide), ifc_t (q := UNl (4 : Int32).toNatClampNeg x2) (show UNl 4 x2 from Or.inr (c_84_5906.symm))]; rfl))) rfl gX12_taken_6.2.2
            · refine lv_iload_n hx hb gX12_taken_4.2.2.2.2.2.2.2.2.2 rfl (lv_at0 hl) ?_
              refine pS hC hK hl (m_above0 l G) si_X12_348 rfl rfl (Nat.le_of_ble_eq_true rfl) rm_4_1_1 ⟨by first | exact Nat.le_of_ble_eq_true rfl | exact Nat.zero_le _, by first | exact Nat.le_of_ble_eq_true rfl | exact Nat.zero_le _⟩ gX12_taken_5.1 (Keqr ?_)
              refine lv_istore_n (lv' := [(3, .int (-1)), (0, .ref h0), (1, .int (nI jt)), (2, .int x2)]) hx hb gX12_taken_5.2.1 rfl hl (by decide) rfl (fun ls hl => ?_)
              refine lv_goto (tgt := 78) hx hb gX12_taken_5.2.2.1 (by decide) ?_
              refine lv_iload_n hx hb gX12_taken_4.2.2.2.2.1 rfl (lv_at0 hl) ?_
              refine lv_if_lt (tgt := 95) hx hb gX12_taken_4.2.2.2.2.2.1 (by decide) (fun _ => ?_) (fun c9 => absurd (by decide) c9)
              refine lv_iload_n hx hb gX12_taken_5.2.2.2.1 rfl (lv_at0 hl) ?_
              refine lv_iload_n hx hb gX12_taken_5.2.2.2.2.1 rfl (lv_at3 hl) ?_
              refine lv_icmp_ne (tgt := 109) hx hb gX12_taken_5.2.2.2.2.2.1 (by decide) (fun c_97_5909 => ?_) (fun c_97_5909 => ?_)
              · refine lv_bipush (v := (-13)) hx hb gX12_taken_6.2.1 (by decide) ?_
                refine toQ hQ0 ?_
                exact RP (v := (-13)) hC ((by first | rfl | (simp only [nI_clamp (n := jt) (by omega), ifc_t ekq, ifc_t hkq, ifc_t ek8, ifc_t hk8, ifc_t ek9, ifc_t hk9, ifc_t hN, ifc_t a5873, ifc_t a5875, ifc_f c_37_5876, ifc_f c_84_5903, ifc_f c_84_5906, ifc_f c_97_5909, ifc_t (q := Wi x2 0 6 ∨ Wi x2 10 14) (Or.inl a5875), a5878, ifc_f (q := (4 : Int32) < 0) (by decide), ifc_f (q := UNl (4 : Int32).toNatClampNeg x2) (fun h9 => (show False from by have h7 : x2 = 4 ∨ x2 = 0 := h9; rcases h7 with h8 | h8 <;> (first | exact c_84_5903 h8.symm | exact c_84_5906 h8.symm)))]; done) | (simp only [nI_clamp (n := jt) (by omega), ifc_t ekq, ifc_t hkq, ifc_t ek8, ifc_t hk8, ifc_t ek9, ifc_t hk9, ifc_t hN, ifc_t a5873, ifc_t a5875, ifc_f c_37_5876, ifc_f c_84_5903, ifc_f c_84_5906, ifc_f c_97_5909, ifc_t (q := Wi x2 0 6 ∨ Wi x2 10 14) (Or.inl a5875), a5878, ifc_f (q := (4 : Int32) < 0) (by decide), ifc_f (q := UNl (4 : Int32).toNatClampNeg x2) (fun h9 => (show False from by have h7 : x2 = 4 ∨ x2 = 0 := h9; rcases h7 with h8 | h8 <;> (first | exact c_84_5903 h8.symm | exact c_84_5906 h8.symm)))]; rfl))) rfl gX12_taken_6.2.2
              · refine lv_aload_n hx hb gX12_taken_5.2.2.2.2.2.2.1 rfl (lv_at1 hl) ?_
                refine gf_X12_75 hC rfl hK hP 0 rfl rfl gX12_taken_5.2.2.2.2.2.2.2.1 ?_
                refine lv_iload_n hx hb gX12_taken_5.2.2.2.2.2.2.2.2.1 rfl (lv_at2 hl) ?_
                refine aldN hC hK hP 3 rfl (k := jt) (by omega) (Nat.le_of_ble_eq_true rfl) (v := fnsf jt) rfl gX12_taken_5.2.2.2.2.2.2.2.2.2 ?_
                refine lv_goto (tgt := 111) hx hb gX12_taken_6.1 (by decide) ?_
                refine toQ hQ0 ?_
                exact RP (v := fnsf jt) hC ((absurd a5875 (by rw [← c_97_5909]; unfold Wi; decide))) rfl gX12_taken_6.2.2
        · refine lv_istore_n (lv' := [(3, .int 5), (0, .ref h0), (1, .int (nI jt)), (2, .int x2)]) hx hb gX12_taken_3.2.2.2.2.2.2.2.2.2 rfl hl (by decide) rfl (fun ls hl => ?_)
          refine lv_iload_n hx hb gX12_taken_4.1 rfl (lv_at0 hl) ?_
          refine lv_if_ge (tgt := 78) hx hb gX12_taken_4.2.1 (by decide) (fun _ => ?_) (fun c9 => absurd (by decide) c9)
          refine lv_iload_n hx hb gX12_taken_4.2.2.2.2.1 rfl (lv_at0 hl) ?_
          refine lv_if_lt (tgt := 95) hx hb gX12_taken_4.2.2.2.2.2.1 (by decide) (fun c9 => absurd c9 (by decide)) (fun _ => ?_)
          refine lv_iload_n hx hb gX12_taken_4.2.2.2.2.2.2.1 rfl (lv_at0 hl) ?_
          refine lv_iload_n hx hb gX12_taken_4.2.2.2.2.2.2.2.1 rfl (lv_at3 hl) ?_
          refine lv_icmp_eq (tgt := 95) hx hb gX12_taken_4.2.2.2.2.2.2.2.2.1 (by decide) (fun c_84_5910 => ?_) (fun c_84_5910 => ?_)
          · refine lv_iload_n hx hb gX12_taken_5.2.2.2.1 rfl (lv_at0 hl) ?_
            refine lv_iload_n hx hb gX12_taken_5.2.2.2.2.1 rfl (lv_at3 hl) ?_
            refine lv_icmp_ne (tgt := 109) hx hb gX12_taken_5.2.2.2.2.2.1 (by decide) (fun c9 => absurd (c_84_5910) c9) (fun _ => ?_)
            refine lv_aload_n hx hb gX12_taken_5.2.2.2.2.2.2.1 rfl (lv_at1 hl) ?_
            refine gf_X12_75 hC rfl hK hP 0 rfl rfl gX12_taken_5.2.2.2.2.2.2.2.1 ?_
            refine lv_iload_n hx hb gX12_taken_5.2.2.2.2.2.2.2.2.1 rfl (lv_at2 hl) ?_
            refine aldN hC hK hP 3 rfl (k := jt) (by omega) (Nat.le_of_ble_eq_true rfl) (v := fnsf jt) rfl gX12_taken_5.2.2.2.2.2.2.2.2.2 ?_
            refine lv_goto (tgt := 111) hx hb gX12_taken_6.1 (by decide) ?_
            refine toQ hQ0 ?_
            exact RP (v := fnsf jt) hC ((by first | rfl | (simp only [nI_clamp (n := jt) (by omega), ifc_t ekq, ifc_t hkq, ifc_t ek8, ifc_t hk8, ifc_t ek9, ifc_t hk9, ifc_t hN, ifc_t a5873, ifc_t a5875, ifc_f c_37_5876, ifc_t c_84_5910, ifc_t (q := Wi x2 0 6 ∨ Wi x2 10 14) (Or.inl a5875), a5878, ifc_f (q := (5 : Int32) < 0) (by decide), ifc_t (q := UNl (5 : Int32).toNatClampNeg x2) (show UNl 5 x2 from Or.inl (c_84_5910.symm))]; done) | (simp only [nI_clamp (n := jt) (by omega), ifc_t ekq, ifc_t hkq, ifc_t ek8, ifc_t hk8, ifc_t ek9, ifc_t hk9, ifc_t hN, ifc_t a5873, ifc_t a5875, ifc_f c_37_5876, ifc_t c_84_5910, ifc_t (q := Wi x2 0 6 ∨ Wi x2 10 14) (Or.inl a5875), a5878, ifc_f (q := (5 : Int32) < 0) (by decide), ifc_t (q := UNl (5 : Int32).toNatClampNeg x2) (show UNl 5 x2 from Or.inl (c_84_5910.symm))]; rfl))) rfl gX12_taken_6.2.2
          · refine lv_iload_n hx hb gX12_taken_4.2.2.2.2.2.2.2.2.2 rfl (lv_at0 hl) ?_
            refine pS hC hK hl (m_above5 l G) si_X12_348 rfl rfl (Nat.le_of_ble_eq_true rfl) rm_4_1_1 ⟨by first | exact Nat.le_of_ble_eq_true rfl | exact Nat.zero_le _, by first | exact Nat.le_of_ble_eq_true rfl | exact Nat.zero_le _⟩ gX12_taken_5.1 (Keqr ?_)
            refine lv_istore_n (lv' := [(3, .int 4), (0, .ref h0), (1, .int (nI jt)), (2, .int x2)]) hx hb gX12_taken_5.2.1 rfl hl (by decide) rfl (fun ls hl => ?_)
            refine lv_goto (tgt := 78) hx hb gX12_taken_5.2.2.1 (by decide) ?_
            refine lv_iload_n hx hb gX12_taken_4.2.2.2.2.1 rfl (lv_at0 hl) ?_
            refine lv_if_lt (tgt := 95) hx hb gX12_taken_4.2.2.2.2.2.1 (by decide) (fun c9 => absurd c9 (by decide)) (fun _ => ?_)
            refine lv_iload_n hx hb gX12_taken_4.2.2.2.2.2.2.1 rfl (lv_at0 hl) ?_
            refine lv_iload_n hx hb gX12_taken_4.2.2.2.2.2.2.2.1 rfl (lv_at3 hl) ?_
            refine lv_icmp_eq (tgt := 95) hx hb gX12_taken_4.2.2.2.2.2.2.2.2.1 (by decide) (fun c_84_5913 => ?_) (fun c_84_5913 => ?_)
            · refine lv_iload_n hx hb gX12_taken_5.2.2.2.1 rfl (lv_at0 hl) ?_
              refine lv_iload_n hx hb gX12_taken_5.2.2.2.2.1 rfl (lv_at3 hl) ?_
              refine lv_icmp_ne (tgt := 109) hx hb gX12_taken_5.2.2.2.2.2.1 (by decide) (fun c9 => absurd (c_84_5913) c9) (fun _ => ?_)
              refine lv_aload_n hx hb gX12_taken_5.2.2.2.2.2.2.1 rfl (lv_at1 hl) ?_
              refine gf_X12_75 hC rfl hK hP 0 rfl rfl gX12_taken_5.2.2.2.2.2.2.2.1 ?_
              refine lv_iload_n hx hb gX12_taken_5.2.2.2.2.2.2.2.2.1 rfl (lv_at2 hl) ?_
              refine aldN hC hK hP 3 rfl (k := jt) (by omega) (Nat.le_of_ble_eq_true rfl) (v := fnsf jt) rfl gX12_taken_5.2.2.2.2.2.2.2.2.2 ?_
              refine lv_goto (tgt := 111) hx hb gX12_taken_6.1 (by decide) ?_
              refine toQ hQ0 ?_
              exact RP (v := fnsf jt) hC ((by first | rfl | (simp only [nI_clamp (n := jt) (by omega), ifc_t ekq, ifc_t hkq, ifc_t ek8, ifc_t hk8, ifc_t ek9, ifc_t hk9, ifc_t hN, ifc_t a5873, ifc_t a5875, ifc_f c_37_5876, ifc_f c_84_5910, ifc_t c_84_5913, ifc_t (q := Wi x2 0 6 ∨ Wi x2 10 14) (Or.inl a5875), a5878, ifc_f (q := (5 : Int32) < 0) (by decide), ifc_t (q := UNl (5 : Int32).toNatClampNeg x2) (show UNl 5 x2 from Or.inr (Or.inl (c_84_5913.symm)))]; done) | (simp only [nI_clamp (n := jt) (by omega), ifc_t ekq, ifc_t hkq, ifc_t ek8, ifc_t hk8, ifc_t ek9, ifc_t hk9, ifc_t hN, ifc_t a5873, ifc_t a5875, ifc_f c_37_5876, ifc_f c_84_5910, ifc_t c_84_5913, ifc_t (q := Wi x2 0 6 ∨ Wi x2 10 14) (Or.inl a5875), a5878, ifc_f (q := (5 : Int32) < 0) (by decide), ifc_t (q := UNl (5 : Int32).toNatClampNeg x2) (show UNl 5 x2 from Or.inr (Or.inl (c_84_5913.symm)))]; rfl))) rfl gX12_taken_6.2.2
            · refine lv_iload_n hx hb gX12_taken_4.2.2.2.2.2.2.2.2.2 rfl (lv_at0 hl) ?_
              refine pS hC hK hl (m_above4 l G) si_X12_348 rfl rfl (Nat.le_of_ble_eq_true rfl) rm_4_1_1 ⟨by first | exact Nat.le_of_ble_eq_true rfl | exact Nat.zero_le _, by first | exact Nat.le_of_ble_eq_true rfl | exact Nat.zero_le _⟩ gX12_taken_5.1 (Keqr ?_)
              refine lv_istore_n (lv' := [(3, .int 0), (0, .ref h0), (1, .int (nI jt)), (2, .int x2)]) hx hb gX12_taken_5.2.1 rfl hl (by decide) rfl (fun ls hl => ?_)
              refine lv_goto (tgt := 78) hx hb gX12_taken_5.2.2.1 (by decide) ?_
              refine lv_iload_n hx hb gX12_taken_4.2.2.2.2.1 rfl (lv_at0 hl) ?_
              refine lv_if_lt (tgt := 95) hx hb gX12_taken_4.2.2.2.2.2.1 (by decide) (fun c9 => absurd c9 (by decide)) (fun _ => ?_)
              refine lv_iload_n hx hb gX12_taken_4.2.2.2.2.2.2.1 rfl (lv_at0 hl) ?_
              refine lv_iload_n hx hb gX12_taken_4.2.2.2.2.2.2.2.1 rfl (lv_at3 hl) ?_
              refine lv_icmp_eq (tgt := 95) hx hb gX12_taken_4.2.2.2.2.2.2.2.2.1 (by decide) (fun c_84_5916 => ?_) (fun c_84_5916 => ?_)
              · refine lv_iload_n hx hb gX12_taken_5.2.2.2.1 rfl (lv_at0 hl) ?_
                refine lv_iload_n hx hb gX12_taken_5.2.2.2.2.1 rfl (lv_at3 hl) ?_
                refine lv_icmp_ne (tgt := 109) hx hb gX12_taken_5.2.2.2.2.2.1 (by decide) (fun c9 => absurd (c_84_5916) c9) (fun _ => ?_)
                refine lv_aload_n hx hb gX12_taken_5.2.2.2.2.2.2.1 rfl (lv_at1 hl) ?_
                refine gf_X12_75 hC rfl hK hP 0 rfl rfl gX12_taken_5.2.2.2.2.2.2.2.1 ?_
                refine lv_iload_n hx hb gX12_taken_5.2.2.2.2.2.2.2.2.1 rfl (lv_at2 hl) ?_
                refine aldN hC hK hP 3 rfl (k := jt) (by omega) (Nat.le_of_ble_eq_true rfl) (v := fnsf jt) rfl gX12_taken_5.2.2.2.2.2.2.2.2.2 ?_
                refine lv_goto (tgt := 111) hx hb gX12_taken_6.1 (by decide) ?_
                refine toQ hQ0 ?_
                exact RP (v := fnsf jt) hC ((by first | rfl | (simp only [nI_clamp (n := jt) (by omega), ifc_t ekq, ifc_t hkq, ifc_t ek8, ifc_t hk8, ifc_t ek9, ifc_t hk9, ifc_t hN, ifc_t a5873, ifc_t a5875, ifc_f c_37_5876, ifc_f c_84_5910, ifc_f c_84_5913, ifc_t c_84_5916, ifc_t (q := Wi x2 0 6 ∨ Wi x2 10 14) (Or.inl a5875), a5878, ifc_f (q := (5 : Int32) < 0) (by decide), ifc_t (q := UNl (5 : Int32).toNatClampNeg x2) (show UNl 5 x2 from Or.inr (Or.inr (c_84_5916.symm)))]; done) | (simp only [nI_clamp (n := jt) (by omega), ifc_t ekq, ifc_t hkq, ifc_t ek8, ifc_t hk8, ifc_t ek9, ifc_t hk9, ifc_t hN, ifc_t a5873, ifc_t a5875, ifc_f c_37_5876, ifc_f c_84_5910, ifc_f c_84_5913, ifc_t c_84_5916, ifc_t (q := Wi x2 0 6 ∨ Wi x2 10 14) (Or.inl a5875), a5878, ifc_f (q := (5 : Int32) < 0) (by decide), ifc_t (q := UNl (5 : Int32).toNatClampNeg x2) (show UNl 5 x2 from Or.inr (Or.inr (c_84_5916.symm)))]; rfl))) rfl gX12_taken_6.2.2
              · refine lv_iload_n hx hb gX12_taken_4.2.2.2.2.2.2.2.2.2 rfl (lv_at0 hl) ?_
                refine pS hC hK hl (m_above0 l G) si_X12_348 rfl rfl (Nat.le_of_ble_eq_true rfl) rm_4_1_1 ⟨by first | exact Nat.le_of_ble_eq_true rfl | exact Nat.zero_le _, by first | exact Nat.le_of_ble_eq_true rfl | exact Nat.zero_le _⟩ gX12_taken_5.1 (Keqr ?_)
                refine lv_istore_n (lv' := [(3, .int (-1)), (0, .ref h0), (1, .int (nI jt)), (2, .int x2)]) hx hb gX12_taken_5.2.1 rfl hl (by decide) rfl (fun ls hl => ?_)
                refine lv_goto (tgt := 78) hx hb gX12_taken_5.2.2.1 (by decide) ?_
                refine lv_iload_n hx hb gX12_taken_4.2.2.2.2.1 rfl (lv_at0 hl) ?_
                refine lv_if_lt (tgt := 95) hx hb gX12_taken_4.2.2.2.2.2.1 (by decide) (fun _ => ?_) (fun c9 => absurd (by decide) c9)
                refine lv_iload_n hx hb gX12_taken_5.2.2.2.1 rfl (lv_at0 hl) ?_
                refine lv_iload_n hx hb gX12_taken_5.2.2.2.2.1 rfl (lv_at3 hl) ?_
                refine lv_icmp_ne (tgt := 109) hx hb gX12_taken_5.2.2.2.2.2.1 (by decide) (fun c_97_5919 => ?_) (fun c_97_5919 => ?_)
                · refine lv_bipush (v := (-13)) hx hb gX12_taken_6.2.1 (by decide) ?_
                  refine toQ hQ0 ?_
                  exact RP (v := (-13)) hC ((by first | rfl | (simp only [nI_clamp (n := jt) (by omega), ifc_t ekq, ifc_t hkq, ifc_t ek8, ifc_t hk8, ifc_t ek9, ifc_t hk9, ifc_t hN, ifc_t a5873, ifc_t a5875, ifc_f c_37_5876, ifc_f c_84_5910, ifc_f c_84_5913, ifc_f c_84_5916, ifc_f c_97_5919, ifc_t (q := Wi x2 0 6 ∨ Wi x2 10 14) (Or.inl a5875), a5878, ifc_f (q := (5 : Int32) < 0) (by decide), ifc_f (q := UNl (5 : Int32).toNatClampNeg x2) (fun h9 => (show False from by have h7 : x2 = 5 ∨ x2 = 4 ∨ x2 = 0 := h9; rcases h7 with h8 | h8 | h8 <;> (first | exact c_84_5910 h8.symm | exact c_84_5913 h8.symm | exact c_84_5916 h8.symm)))]; done) | (simp only [nI_clamp (n := jt) (by omega), ifc_t ekq, ifc_t hkq, ifc_t ek8, ifc_t hk8, ifc_t ek9, ifc_t hk9, ifc_t hN, ifc_t a5873, ifc_t a5875, ifc_f c_37_5876, ifc_f c_84_5910, ifc_f c_84_5913, ifc_f c_84_5916, ifc_f c_97_5919, ifc_t (q := Wi x2 0 6 ∨ Wi x2 10 14) (Or.inl a5875), a5878, ifc_f (q := (5 : Int32) < 0) (by decide), ifc_f (q := UNl (5 : Int32).toNatClampNeg x2) (fun h9 => (show False from by have h7 : x2 = 5 ∨ x2 = 4 ∨ x2 = 0 := h9; rcases h7 with h8 | h8 | h8 <;> (first | exact c_84_5910 h8.symm | exact c_84_5913 h8.symm | exact c_84_5916 h8.symm)))]; rfl))) rfl gX12_taken_6.2.2
                · refine lv_aload_n hx hb gX12_taken_5.2.2.2.2.2.2.1 rfl (lv_at1 hl) ?_
                  refine gf_X12_75 hC rfl hK hP 0 rfl rfl gX12_taken_5.2.2.2.2.2.2.2.1 ?_
                  refine lv_iload_n hx hb gX12_taken_5.2.2.2.2.2.2.2.2.1 rfl (lv_at2 hl) ?_
                  refine aldN hC hK hP 3 rfl (k := jt) (by omega) (Nat.le_of_ble_eq_true rfl) (v := fnsf jt) rfl gX12_taken_5.2.2.2.2.2.2.2.2.2 ?_
                  refine lv_goto (tgt := 111) hx hb gX12_taken_6.1 (by decide) ?_
                  refine toQ hQ0 ?_
                  exact RP (v := fnsf jt) hC ((absurd a5875 (by rw [← c_97_5919]; unfold Wi; decide))) rfl gX12_taken_6.2.2
        · refine lv_istore_n (lv' := [(3, .int 6), (0, .ref h0), (1, .int (nI jt)), (2, .int x2)]) hx hb gX12_taken_3.2.2.2.2.2.2.2.2.2 rfl hl (by decide) rfl (fun ls hl => ?_)
          refine lv_iload_n hx hb gX12_taken_4.1 rfl (lv_at0 hl) ?_
          refine lv_if_ge (tgt := 78) hx hb gX12_taken_4.2.1 (by decide) (fun _ => ?_) (fun c9 => absurd (by decide) c9)
          refine lv_iload_n hx hb gX12_taken_4.2.2.2.2.1 rfl (lv_at0 hl) ?_
          refine lv_if_lt (tgt := 95) hx hb gX12_taken_4.2.2.2.2.2.1 (by decide) (fun c9 => absurd c9 (by decide)) (fun _ => ?_)
          refine lv_iload_n hx hb gX12_taken_4.2.2.2.2.2.2.1 rfl (lv_at0 hl) ?_
          refine lv_iload_n hx hb gX12_taken_4.2.2.2.2.2.2.2.1 rfl (lv_at3 hl) ?_
          refine lv_icmp_eq (tgt := 95) hx hb gX12_taken_4.2.2.2.2.2.2.2.2.1 (by decide) (fun c_84_5920 => ?_) (fun c_84_5920 => ?_)
          · refine lv_iload_n hx hb gX12_taken_5.2.2.2.1 rfl (lv_at0 hl) ?_
            refine lv_iload_n hx hb gX12_taken_5.2.2.2.2.1 rfl (lv_at3 hl) ?_
            refine lv_icmp_ne (tgt := 109) hx hb gX12_taken_5.2.2.2.2.2.1 (by decide) (fun c9 => absurd (c_84_5920) c9) (fun _ => ?_)
            refine lv_aload_n hx hb gX12_taken_5.2.2.2.2.2.2.1 rfl (lv_at1 hl) ?_
            refine gf_X12_75 hC rfl hK hP 0 rfl rfl gX12_taken_5.2.2.2.2.2.2.2.1 ?_
            refine lv_iload_n hx hb gX12_taken_5.2.2.2.2.2.2.2.2.1 rfl (lv_at2 hl) ?_
            refine aldN hC hK hP 3 rfl (k := jt) (by omega) (Nat.le_of_ble_eq_true rfl) (v := fnsf jt) rfl gX12_taken_5.2.2.2.2.2.2.2.2.2 ?_
            refine lv_goto (tgt := 111) hx hb gX12_taken_6.1 (by decide) ?_
            refine toQ hQ0 ?_
            exact RP (v := fnsf jt) hC ((by first | rfl | (simp only [nI_clamp (n := jt) (by omega), ifc_t ekq, ifc_t hkq, ifc_t ek8, ifc_t hk8, ifc_t ek9, ifc_t hk9, ifc_t hN, ifc_t a5873, ifc_t a5875, ifc_f c_37_5876, ifc_t c_84_5920, ifc_t (q := Wi x2 0 6 ∨ Wi x2 10 14) (Or.inl a5875), a5878, ifc_f (q := (6 : Int32) < 0) (by decide), ifc_t (q := UNl (6 : Int32).toNatClampNeg x2) (show UNl 6 x2 from Or.inl (c_84_5920.symm))]; done) | (simp only [nI_clamp (n := jt) (by omega), ifc_t ekq, ifc_t hkq, ifc_t ek8, ifc_t hk8, ifc_t ek9, ifc_t hk9, ifc_t hN, ifc_t a5873, ifc_t a5875, ifc_f c_37_5876, ifc_t c_84_5920, ifc_t (q := Wi x2 0 6 ∨ Wi x2 10 14) (Or.inl a5875), a5878, ifc_f (q := (6 : Int32) < 0) (by decide), ifc_t (q := UNl (6 : Int32).toNatClampNeg x2) (show UNl 6 x2 from Or.inl (c_84_5920.symm))]; rfl))) rfl gX12_taken_6.2.2
          · refine lv_iload_n hx hb gX12_taken_4.2.2.2.2.2.2.2.2.2 rfl (lv_at0 hl) ?_
            refine pS hC hK hl (m_above6 l G) si_X12_348 rfl rfl (Nat.le_of_ble_eq_true rfl) rm_4_1_1 ⟨by first | exact Nat.le_of_ble_eq_true rfl | exact Nat.zero_le _, by first | exact Nat.le_of_ble_eq_true rfl | exact Nat.zero_le _⟩ gX12_taken_5.1 (Keqr ?_)
            refine lv_istore_n (lv' := [(3, .int 0), (0, .ref h0), (1, .int (nI jt)), (2, .int x2)]) hx hb gX12_taken_5.2.1 rfl hl (by decide) rfl (fun ls hl => ?_)
            refine lv_goto (tgt := 78) hx hb gX12_taken_5.2.2.1 (by decide) ?_
            refine lv_iload_n hx hb gX12_taken_4.2.2.2.2.1 rfl (lv_at0 hl) ?_
            refine lv_if_lt (tgt := 95) hx hb gX12_taken_4.2.2.2.2.2.1 (by decide) (fun c9 => absurd c9 (by decide)) (fun _ => ?_)
            refine lv_iload_n hx hb gX12_taken_4.2.2.2.2.2.2.1 rfl (lv_at0 hl) ?_
            refine lv_iload_n hx hb gX12_taken_4.2.2.2.2.2.2.2.1 rfl (lv_at3 hl) ?_
            refine lv_icmp_eq (tgt := 95) hx hb gX12_taken_4.2.2.2.2.2.2.2.2.1 (by decide) (fun c_84_5923 => ?_) (fun c_84_5923 => ?_)
            · refine lv_iload_n hx hb gX12_taken_5.2.2.2.1 rfl (lv_at0 hl) ?_
              refine lv_iload_n hx hb gX12_taken_5.2.2.2.2.1 rfl (lv_at3 hl) ?_
              refine lv_icmp_ne (tgt := 109) hx hb gX12_taken_5.2.2.2.2.2.1 (by decide) (fun c9 => absurd (c_84_5923) c9) (fun _ => ?_)
              refine lv_aload_n hx hb gX12_taken_5.2.2.2.2.2.2.1 rfl (lv_at1 hl) ?_
              refine gf_X12_75 hC rfl hK hP 0 rfl rfl gX12_taken_5.2.2.2.2.2.2.2.1 ?_
              refine lv_iload_n hx hb gX12_taken_5.2.2.2.2.2.2.2.2.1 rfl (lv_at2 hl) ?_
              refine aldN hC hK hP 3 rfl (k := jt) (by omega) (Nat.le_of_ble_eq_true rfl) (v := fnsf jt) rfl gX12_taken_5.2.2.2.2.2.2.2.2.2 ?_
              refine lv_goto (tgt := 111) hx hb gX12_taken_6.1 (by decide) ?_
              refine toQ hQ0 ?_
              exact RP (v := fnsf jt) hC ((by first | rfl | (simp only [nI_clamp (n := jt) (by omega), ifc_t ekq, ifc_t hkq, ifc_t ek8, ifc_t hk8, ifc_t ek9, ifc_t hk9, ifc_t hN, ifc_t a5873, ifc_t a5875, ifc_f c_37_5876, ifc_f c_84_5920, ifc_t c_84_5923, ifc_t (q := Wi x2 0 6 ∨ Wi x2 10 14) (Or.inl a5875), a5878, ifc_f (q := (6 : Int32) < 0) (by decide), ifc_t (q := UNl (6 : Int32).toNatClampNeg x2) (show UNl 6 x2 from Or.inr (c_84_5923.symm))]; done) | (simp only [nI_clamp (n := jt) (by omega), ifc_t ekq, ifc_t hkq, ifc_t ek8, ifc_t hk8, ifc_t ek9, ifc_t hk9, ifc_t hN, ifc_t a5873, ifc_t a5875, ifc_f c_37_5876, ifc_f c_84_5920, ifc_t c_84_5923, ifc_t (q := Wi x2 0 6 ∨ Wi x2 10 14) (Or.inl a5875), a5878, ifc_f (q := (6 : Int32) < 0) (by decide), ifc_t (q := UNl (6 : Int32).toNatClampNeg x2) (show UNl 6 x2 from Or.inr (c_84_5923.symm))]; rfl))) rfl gX12_taken_6.2.2
            · refine lv_iload_n hx hb gX12_taken_4.2.2.2.2.2.2.2.2.2 rfl (lv_at0 hl) ?_
              refine pS hC hK hl (m_above0 l G) si_X12_348 rfl rfl (Nat.le_of_ble_eq_true rfl) rm_4_1_1 ⟨by first | exact Nat.le_of_ble_eq_true rfl | exact Nat.zero_le _, by first | exact Nat.le_of_ble_eq_true rfl | exact Nat.zero_le _⟩ gX12_taken_5.1 (Keqr ?_)
              refine lv_istore_n (lv' := [(3, .int (-1)), (0, .ref h0), (1, .int (nI jt)), (2, .int x2)]) hx hb gX12_taken_5.2.1 rfl hl (by decide) rfl (fun ls hl => ?_)
              refine lv_goto (tgt := 78) hx hb gX12_taken_5.2.2.1 (by decide) ?_
              refine lv_iload_n hx hb gX12_taken_4.2.2.2.2.1 rfl (lv_at0 hl) ?_
              refine lv_if_lt (tgt := 95) hx hb gX12_taken_4.2.2.2.2.2.1 (by decide) (fun _ => ?_) (fun c9 => absurd (by decide) c9)
              refine lv_iload_n hx hb gX12_taken_5.2.2.2.1 rfl (lv_at0 hl) ?_
              refine lv_iload_n hx hb gX12_taken_5.2.2.2.2.1 rfl (lv_at3 hl) ?_
              refine lv_icmp_ne (tgt := 109) hx hb gX12_taken_5.2.2.2.2.2.1 (by decide) (fun c_97_5926 => ?_) (fun c_97_5926 => ?_)
              · refine lv_bipush (v := (-13)) hx hb gX12_taken_6.2.1 (by decide) ?_
                refine toQ hQ0 ?_
                exact RP (v := (-13)) hC ((by first | rfl | (simp only [nI_clamp (n := jt) (by omega), ifc_t ekq, ifc_t hkq, ifc_t ek8, ifc_t hk8, ifc_t ek9, ifc_t hk9, ifc_t hN, ifc_t a5873, ifc_t a5875, ifc_f c_37_5876, ifc_f c_84_5920, ifc_f c_84_5923, ifc_f c_97_5926, ifc_t (q := Wi x2 0 6 ∨ Wi x2 10 14) (Or.inl a5875), a5878, ifc_f (q := (6 : Int32) < 0) (by decide), ifc_f (q := UNl (6 : Int32).toNatClampNeg x2) (fun h9 => (show False from by have h7 : x2 = 6 ∨ x2 = 0 := h9; rcases h7 with h8 | h8 <;> (first | exact c_84_5920 h8.symm | exact c_84_5923 h8.symm)))]; done) | (simp only [nI_clamp (n := jt) (by omega), ifc_t ekq, ifc_t hkq, ifc_t ek8, ifc_t hk8, ifc_t ek9, ifc_t hk9, ifc_t hN, ifc_t a5873, ifc_t a5875, ifc_f c_37_5876, ifc_f c_84_5920, ifc_f c_84_5923, ifc_f c_97_5926, ifc_t (q := Wi x2 0 6 ∨ Wi x2 10 14) (Or.inl a5875), a5878, ifc_f (q := (6 : Int32) < 0) (by decide), ifc_f (q := UNl (6 : Int32).toNatClampNeg x2) (fun h9 => (show False from by have h7 : x2 = 6 ∨ x2 = 0 := h9; rcases h7 with h8 | h8 <;> (first | exact c_84_5920 h8.symm | exact c_84_5923 h8.symm)))]; rfl))) rfl gX12_taken_6.2.2
              · refine lv_aload_n hx hb gX12_taken_5.2.2.2.2.2.2.1 rfl (lv_at1 hl) ?_
                refine gf_X12_75 hC rfl hK hP 0 rfl rfl gX12_taken_5.2.2.2.2.2.2.2.1 ?_
                refine lv_iload_n hx hb gX12_taken_5.2.2.2.2.2.2.2.2.1 rfl (lv_at2 hl) ?_
                refine aldN hC hK hP 3 rfl (k := jt) (by omega) (Nat.le_of_ble_eq_true rfl) (v := fnsf jt) rfl gX12_taken_5.2.2.2.2.2.2.2.2.2 ?_
                refine lv_goto (tgt := 111) hx hb gX12_taken_6.1 (by decide) ?_
                refine toQ hQ0 ?_
                exact RP (v := fnsf jt) hC ((absurd a5875 (by rw [← c_97_5926]; unfold Wi; decide))) rfl gX12_taken_6.2.2
      · refine lv_iload_n hx hb gX12_taken_2.2.1 rfl (lv_at2 hl) ?_
        refine lv_bipush (v := 10) hx hb gX12_taken_2.2.2.1 (by decide) ?_
        refine lv_isub hx hb gX12_taken_2.2.2.2.1 ?_
        refine lv_aload_n hx hb gX12_taken_2.2.2.2.2.1 rfl (lv_at0 hl) ?_
        refine gf_X12_75 hC rfl hK hP 0 rfl rfl gX12_taken_2.2.2.2.2.2.1 ?_
        refine lv_iload_n hx hb gX12_taken_2.2.2.2.2.2.2.1 rfl (lv_at1 hl) ?_
        refine aldN hC hK hP 3 rfl (k := jt) (by omega) (Nat.le_of_ble_eq_true rfl) (v := fnsf jt) rfl gX12_taken_2.2.2.2.2.2.2.2.1 ?_
        refine lv_icmp_ne (tgt := 62) hx hb gX12_taken_2.2.2.2.2.2.2.2.2.1 (by decide) (fun c_50_5927 => ?_) (fun c_50_5927 => ?_)
        · refine lv_bipush (v := (-13)) hx hb gX12_taken_3.2.2.2.2.1 (by decide) ?_
          refine toQ hQ0 ?_
          exact RP (v := (-13)) hC ((by first | rfl | (simp only [nI_clamp (n := jt) (by omega), ifc_t ekq, ifc_t hkq, ifc_t ek8, ifc_t hk8, ifc_t ek9, ifc_t hk9, ifc_t hN, ifc_t a5873, ifc_t a5875, ifc_t c_37_5876, ifc_f c_50_5927, ifc_t (q := Wi x2 0 6 ∨ Wi x2 10 14) (Or.inl a5875)]; done) | (simp only [nI_clamp (n := jt) (by omega), ifc_t ekq, ifc_t hkq, ifc_t ek8, ifc_t hk8, ifc_t ek9, ifc_t hk9, ifc_t hN, ifc_t a5873, ifc_t a5875, ifc_t c_37_5876, ifc_f c_50_5927, ifc_t (q := Wi x2 0 6 ∨ Wi x2 10 14) (Or.inl a5875)]; rfl))) rfl gX12_taken_3.2.2.2.2.2.1
        · refine lv_aload_n hx hb gX12_taken_2.2.2.2.2.2.2.2.2.2 rfl (lv_at0 hl) ?_
          refine gf_X12_78 hC rfl hK hP 0 rfl rfl gX12_taken_3.1 ?_
          refine lv_iload_n hx hb gX12_taken_3.2.1 rfl (lv_at1 hl) ?_
          refine aldN hC hK hP 4 rfl (k := jt) (by omega) (Nat.le_of_ble_eq_true rfl) (v := fnss jt) rfl gX12_taken_3.2.2.1 ?_
          refine lv_goto (tgt := 64) hx hb gX12_taken_3.2.2.2.1 (by decide) ?_
          refine toQ hQ0 ?_
          exact RP (v := fnss jt) hC ((by first | rfl | (simp only [nI_clamp (n := jt) (by omega), ifc_t ekq, ifc_t hkq, ifc_t ek8, ifc_t hk8, ifc_t ek9, ifc_t hk9, ifc_t hN, ifc_t a5873, ifc_t a5875, ifc_t c_37_5876, ifc_t c_50_5927, ifc_t (q := Wi x2 0 6 ∨ Wi x2 10 14) (Or.inl a5875)]; done) | (simp only [nI_clamp (n := jt) (by omega), ifc_t ekq, ifc_t hkq, ifc_t ek8, ifc_t hk8, ifc_t ek9, ifc_t hk9, ifc_t hN, ifc_t a5873, ifc_t a5875, ifc_t c_37_5876, ifc_t c_50_5927, ifc_t (q := Wi x2 0 6 ∨ Wi x2 10 14) (Or.inl a5875)]; rfl))) rfl gX12_taken_3.2.2.2.2.2.1
    · refine lv_if_ne (tgt := 30) hx hb gX12_taken_0.2.2.2.2.2.2.2.1 (by decide) (fun c9 => absurd (by decide) c9) (fun _ => ?_)
      refine lv_iload_n hx hb gX12_taken_0.2.2.2.2.2.2.2.2.1 rfl (lv_at2 hl) ?_
      refine lv_bipush (v := 10) hx hb gX12_taken_0.2.2.2.2.2.2.2.2.2 (by decide) ?_
      refine lv_bipush (v := 14) hx hb gX12_taken_1.1 (by decide) ?_
      refine pS hC hK hl (m_within l G x2 10 14) si_X12_84 rfl rfl (Nat.le_of_ble_eq_true rfl) rm_4_1_3 ⟨by first | exact Nat.le_of_ble_eq_true rfl | exact Nat.zero_le _, by first | exact Nat.le_of_ble_eq_true rfl | exact Nat.zero_le _⟩ gX12_taken_1.2.1 (Kors (Keqa fun a5929 => ?_) (Keqa fun a5929 => ?_))
      · refine lv_if_ne (tgt := 30) hx hb gX12_taken_1.2.2.1 (by decide) (fun _ => ?_) (fun c9 => absurd c9 (by decide))
        obtain ⟨jt, hjt, rfl⟩ := Wi_nat (N := 3) (by decide) a5873
        refine lv_aload_n hx hb gX12_taken_1.2.2.2.2.2.1 rfl (lv_at0 hl) ?_
        refine gf_X12_72 hC rfl hK hP 0 rfl rfl gX12_taken_1.2.2.2.2.2.2.1 ?_
        refine lv_iload_n hx hb gX12_taken_1.2.2.2.2.2.2.2.1 rfl (lv_at1 hl) ?_
        refine aldN hC hK hP 2 rfl (k := jt) (by omega) (Nat.le_of_ble_eq_true rfl) (v := fnsh jt) rfl gX12_taken_1.2.2.2.2.2.2.2.2.1 ?_
        refine lv_iconst (v := 4) hx hb gX12_taken_1.2.2.2.2.2.2.2.2.2 (by decide) ?_
        refine lv_icmp_ne (tgt := 65) hx hb gX12_taken_2.1 (by decide) (fun c_37_5930 => ?_) (fun c_37_5930 => ?_)
        · refine lv_aload_n hx hb gX12_taken_3.2.2.2.2.2.2.1 rfl (lv_at0 hl) ?_
          refine lv_iload_n hx hb gX12_taken_3.2.2.2.2.2.2.2.1 rfl (lv_at1 hl) ?_
          refine pV hC hK hl hP hD (m_kindOnX l G kq k8 k9 h0 jt nw nk mhasKept nt mtaped nr mrowMany mroundOf mroundFrom mouts nm mfromHour mtoHour ns mfrom mto msort misFault mdeep mcoded mlines nl nc nF np ntr nb mbestCost nso nsi nit nsh nsf nss nrc mtraced mdealer mnumber mwhose msize misParted fnw fnsh fnsf (by omega) (ekq) (hkq) (ek8) (hk8) (ek9) (hk9) (hN)) si_X12_345 [0, 1, 2, 3] sm_0_1_2_3 fm_0_1_2_3 nd_0_1_2_3 rfl rfl rfl rfl rfl (Nat.le_of_ble_eq_true rfl) rm_4_3_4 ⟨by first | exact Nat.le_of_ble_eq_true rfl | exact Nat.zero_le _, by first | exact Nat.le_of_ble_eq_true rfl | exact Nat.zero_le _⟩ gX12_taken_3.2.2.2.2.2.2.2.2.1 (Kors (Keqa fun a5932 => ?_) (Kors (Keqa fun a5932 => ?_) (Kors (Keqa fun a5932 => ?_) (Kors (Keqa fun a5932 => ?_) (Kors (Keqa fun a5932 => ?_) (Kors (Keqa fun a5932 => ?_) (Keqa fun a5932 => ?_)))))))
          · refine lv_istore_n (lv' := [(3, .int (-1)), (0, .ref h0), (1, .int (nI jt)), (2, .int x2)]) hx hb gX12_taken_3.2.2.2.2.2.2.2.2.2 rfl hl (by decide) rfl (fun ls hl => ?_)
            refine lv_iload_n hx hb gX12_taken_4.1 rfl (lv_at0 hl) ?_
            refine lv_if_ge (tgt := 78) hx hb gX12_taken_4.2.1 (by decide) (fun c9 => absurd c9 (by decide)) (fun _ => ?_)
            refine lv_bipush (v := (-11)) hx hb gX12_taken_4.2.2.1 (by decide) ?_
            refine toQ hQ0 ?_
            exact RP (v := (-11)) hC ((by first | rfl | (simp only [nI_clamp (n := jt) (by omega), ifc_t ekq, ifc_t hkq, ifc_t ek8, ifc_t hk8, ifc_t ek9, ifc_t hk9, ifc_t hN, ifc_t a5873, ifc_f a5875, ifc_t a5929, ifc_f c_37_5930, ifc_t (q := Wi x2 0 6 ∨ Wi x2 10 14) (Or.inr a5929), a5932, ifc_t (q := (-1 : Int32) < 0) (by decide)]; done) | (simp only [nI_clamp (n := jt) (by omega), ifc_t ekq, ifc_t hkq, ifc_t ek8, ifc_t hk8, ifc_t ek9, ifc_t hk9, ifc_t hN, ifc_t a5873, ifc_f a5875, ifc_t a5929, ifc_f c_37_5930, ifc_t (q := Wi x2 0 6 ∨ Wi x2 10 14) (Or.inr a5929), a5932, ifc_t (q := (-1 : Int32) < 0) (by decide)]; rfl))) rfl gX12_taken_4.2.2.2.1
          · refine lv_istore_n (lv' := [(3, .int 1), (0, .ref h0), (1, .int (nI jt)), (2, .int x2)]) hx hb gX12_taken_3.2.2.2.2.2.2.2.2.2 rfl hl (by decide) rfl (fun ls hl => ?_)
            refine lv_iload_n hx hb gX12_taken_4.1 rfl (lv_at0 hl) ?_
            refine lv_if_ge (tgt := 78) hx hb gX12_taken_4.2.1 (by decide) (fun _ => ?_) (fun c9 => absurd (by decide) c9)
            refine lv_iload_n hx hb gX12_taken_4.2.2.2.2.1 rfl (lv_at0 hl) ?_
            refine lv_if_lt (tgt := 95) hx hb gX12_taken_4.2.2.2.2.2.1 (by decide) (fun c9 => absurd c9 (by decide)) (fun _ => ?_)
            refine lv_iload_n hx hb gX12_taken_4.2.2.2.2.2.2.1 rfl (lv_at0 hl) ?_
            refine lv_iload_n hx hb gX12_taken_4.2.2.2.2.2.2.2.1 rfl (lv_at3 hl) ?_
            refine lv_icmp_eq (tgt := 95) hx hb gX12_taken_4.2.2.2.2.2.2.2.2.1 (by decide) (fun c_84_5933 => ?_) (fun c_84_5933 => ?_)
            · refine lv_iload_n hx hb gX12_taken_5.2.2.2.1 rfl (lv_at0 hl) ?_
              refine lv_iload_n hx hb gX12_taken_5.2.2.2.2.1 rfl (lv_at3 hl) ?_
              refine lv_icmp_ne (tgt := 109) hx hb gX12_taken_5.2.2.2.2.2.1 (by decide) (fun c9 => absurd (c_84_5933) c9) (fun _ => ?_)
              refine lv_aload_n hx hb gX12_taken_5.2.2.2.2.2.2.1 rfl (lv_at1 hl) ?_
              refine gf_X12_75 hC rfl hK hP 0 rfl rfl gX12_taken_5.2.2.2.2.2.2.2.1 ?_
              refine lv_iload_n hx hb gX12_taken_5.2.2.2.2.2.2.2.2.1 rfl (lv_at2 hl) ?_
              refine aldN hC hK hP 3 rfl (k := jt) (by omega) (Nat.le_of_ble_eq_true rfl) (v := fnsf jt) rfl gX12_taken_5.2.2.2.2.2.2.2.2.2 ?_
              refine lv_goto (tgt := 111) hx hb gX12_taken_6.1 (by decide) ?_
              refine toQ hQ0 ?_
              exact RP (v := fnsf jt) hC ((by first | rfl | (simp only [nI_clamp (n := jt) (by omega), ifc_t ekq, ifc_t hkq, ifc_t ek8, ifc_t hk8, ifc_t ek9, ifc_t hk9, ifc_t hN, ifc_t a5873, ifc_f a5875, ifc_t a5929, ifc_f c_37_5930, ifc_t c_84_5933, ifc_t (q := Wi x2 0 6 ∨ Wi x2 10 14) (Or.inr a5929), a5932, ifc_f (q := (1 : Int32) < 0) (by decide), ifc_t (q := UNl (1 : Int32).toNatClampNeg x2) (show UNl 1 x2 from Or.inl (c_84_5933.symm))]; done) | (simp only [nI_clamp (n := jt) (by omega), ifc_t ekq, ifc_t hkq, ifc_t ek8, ifc_t hk8, ifc_t ek9, ifc_t hk9, ifc_t hN, ifc_t a5873, ifc_f a5875, ifc_t a5929, ifc_f c_37_5930, ifc_t c_84_5933, ifc_t (q := Wi x2 0 6 ∨ Wi x2 10 14) (Or.inr a5929), a5932, ifc_f (q := (1 : Int32) < 0) (by decide), ifc_t (q := UNl (1 : Int32).toNatClampNeg x2) (show UNl 1 x2 from Or.inl (c_84_5933.symm))]; rfl))) rfl gX12_taken_6.2.2
            · refine lv_iload_n hx hb gX12_taken_4.2.2.2.2.2.2.2.2.2 rfl (lv_at0 hl) ?_
              refine pS hC hK hl (m_above1 l G) si_X12_348 rfl rfl (Nat.le_of_ble_eq_true rfl) rm_4_1_1 ⟨by first | exact Nat.le_of_ble_eq_true rfl | exact Nat.zero_le _, by first | exact Nat.le_of_ble_eq_true rfl | exact Nat.zero_le _⟩ gX12_taken_5.1 (Keqr ?_)
              refine lv_istore_n (lv' := [(3, .int 0), (0, .ref h0), (1, .int (nI jt)), (2, .int x2)]) hx hb gX12_taken_5.2.1 rfl hl (by decide) rfl (fun ls hl => ?_)
              refine lv_goto (tgt := 78) hx hb gX12_taken_5.2.2.1 (by decide) ?_
              refine lv_iload_n hx hb gX12_taken_4.2.2.2.2.1 rfl (lv_at0 hl) ?_
              refine lv_if_lt (tgt := 95) hx hb gX12_taken_4.2.2.2.2.2.1 (by decide) (fun c9 => absurd c9 (by decide)) (fun _ => ?_)
              refine lv_iload_n hx hb gX12_taken_4.2.2.2.2.2.2.1 rfl (lv_at0 hl) ?_
              refine lv_iload_n hx hb gX12_taken_4.2.2.2.2.2.2.2.1 rfl (lv_at3 hl) ?_
              refine lv_icmp_eq (tgt := 95) hx hb gX12_taken_4.2.2.2.2.2.2.2.2.1 (by decide) (fun c_84_5936 => ?_) (fun c_84_5936 => ?_)
              · refine lv_iload_n hx hb gX12_taken_5.2.2.2.1 rfl (lv_at0 hl) ?_
                refine lv_iload_n hx hb gX12_taken_5.2.2.2.2.1 rfl (lv_at3 hl) ?_
                refine lv_icmp_ne (tgt := 109) hx hb gX12_taken_5.2.2.2.2.2.1 (by decide) (fun c9 => absurd (c_84_5936) c9) (fun _ => ?_)
                refine lv_aload_n hx hb gX12_taken_5.2.2.2.2.2.2.1 rfl (lv_at1 hl) ?_
                refine gf_X12_75 hC rfl hK hP 0 rfl rfl gX12_taken_5.2.2.2.2.2.2.2.1 ?_
                refine lv_iload_n hx hb gX12_taken_5.2.2.2.2.2.2.2.2.1 rfl (lv_at2 hl) ?_
                refine aldN hC hK hP 3 rfl (k := jt) (by omega) (Nat.le_of_ble_eq_true rfl) (v := fnsf jt) rfl gX12_taken_5.2.2.2.2.2.2.2.2.2 ?_
                refine lv_goto (tgt := 111) hx hb gX12_taken_6.1 (by decide) ?_
                refine toQ hQ0 ?_
                exact RP (v := fnsf jt) hC ((by first | rfl | (simp only [nI_clamp (n := jt) (by omega), ifc_t ekq, ifc_t hkq, ifc_t ek8, ifc_t hk8, ifc_t ek9, ifc_t hk9, ifc_t hN, ifc_t a5873, ifc_f a5875, ifc_t a5929, ifc_f c_37_5930, ifc_f c_84_5933, ifc_t c_84_5936, ifc_t (q := Wi x2 0 6 ∨ Wi x2 10 14) (Or.inr a5929), a5932, ifc_f (q := (1 : Int32) < 0) (by decide), ifc_t (q := UNl (1 : Int32).toNatClampNeg x2) (show UNl 1 x2 from Or.inr (c_84_5936.symm))]; done) | (simp only [nI_clamp (n := jt) (by omega), ifc_t ekq, ifc_t hkq, ifc_t ek8, ifc_t hk8, ifc_t ek9, ifc_t hk9, ifc_t hN, ifc_t a5873, ifc_f a5875, ifc_t a5929, ifc_f c_37_5930, ifc_f c_84_5933, ifc_t c_84_5936, ifc_t (q := Wi x2 0 6 ∨ Wi x2 10 14) (Or.inr a5929), a5932, ifc_f (q := (1 : Int32) < 0) (by decide), ifc_t (q := UNl (1 : Int32).toNatClampNeg x2) (show UNl 1 x2 from Or.inr (c_84_5936.symm))]; rfl))) rfl gX12_taken_6.2.2
              · refine lv_iload_n hx hb gX12_taken_4.2.2.2.2.2.2.2.2.2 rfl (lv_at0 hl) ?_
                refine pS hC hK hl (m_above0 l G) si_X12_348 rfl rfl (Nat.le_of_ble_eq_true rfl) rm_4_1_1 ⟨by first | exact Nat.le_of_ble_eq_true rfl | exact Nat.zero_le _, by first | exact Nat.le_of_ble_eq_true rfl | exact Nat.zero_le _⟩ gX12_taken_5.1 (Keqr ?_)
                refine lv_istore_n (lv' := [(3, .int (-1)), (0, .ref h0), (1, .int (nI jt)), (2, .int x2)]) hx hb gX12_taken_5.2.1 rfl hl (by decide) rfl (fun ls hl => ?_)
                refine lv_goto (tgt := 78) hx hb gX12_taken_5.2.2.1 (by decide) ?_
                refine lv_iload_n hx hb gX12_taken_4.2.2.2.2.1 rfl (lv_at0 hl) ?_
                refine lv_if_lt (tgt := 95) hx hb gX12_taken_4.2.2.2.2.2.1 (by decide) (fun _ => ?_) (fun c9 => absurd (by decide) c9)
                refine lv_iload_n hx hb gX12_taken_5.2.2.2.1 rfl (lv_at0 hl) ?_
                refine lv_iload_n hx hb gX12_taken_5.2.2.2.2.1 rfl (lv_at3 hl) ?_
                refine lv_icmp_ne (tgt := 109) hx hb gX12_taken_5.2.2.2.2.2.1 (by decide) (fun c_97_5939 => ?_) (fun c_97_5939 => ?_)
                · refine lv_bipush (v := (-13)) hx hb gX12_taken_6.2.1 (by decide) ?_
                  refine toQ hQ0 ?_
                  exact RP (v := (-13)) hC ((by first | rfl | (simp only [nI_clamp (n := jt) (by omega), ifc_t ekq, ifc_t hkq, ifc_t ek8, ifc_t hk8, ifc_t ek9, ifc_t hk9, ifc_t hN, ifc_t a5873, ifc_f a5875, ifc_t a5929, ifc_f c_37_5930, ifc_f c_84_5933, ifc_f c_84_5936, ifc_f c_97_5939, ifc_t (q := Wi x2 0 6 ∨ Wi x2 10 14) (Or.inr a5929), a5932, ifc_f (q := (1 : Int32) < 0) (by decide), ifc_f (q := UNl (1 : Int32).toNatClampNeg x2) (fun h9 => (show False from by have h7 : x2 = 1 ∨ x2 = 0 := h9; rcases h7 with h8 | h8 <;> (first | exact c_84_5933 h8.symm | exact c_84_5936 h8.symm)))]; done) | (simp only [nI_clamp (n := jt) (by omega), ifc_t ekq, ifc_t hkq, ifc_t ek8, ifc_t hk8, ifc_t ek9, ifc_t hk9, ifc_t hN, ifc_t a5873, ifc_f a5875, ifc_t a5929, ifc_f c_37_5930, ifc_f c_84_5933, ifc_f c_84_5936, ifc_f c_97_5939, ifc_t (q := Wi x2 0 6 ∨ Wi x2 10 14) (Or.inr a5929), a5932, ifc_f (q := (1 : Int32) < 0) (by decide), ifc_f (q := UNl (1 : Int32).toNatClampNeg x2) (fun h9 => (show False from by have h7 : x2 = 1 ∨ x2 = 0 := h9; rcases h7 with h8 | h8 <;> (first | exact c_84_5933 h8.symm | exact c_84_5936 h8.symm)))]; rfl))) rfl gX12_taken_6.2.2
                · refine lv_aload_n hx hb gX12_taken_5.2.2.2.2.2.2.1 rfl (lv_at1 hl) ?_
                  refine gf_X12_75 hC rfl hK hP 0 rfl rfl gX12_taken_5.2.2.2.2.2.2.2.1 ?_
                  refine lv_iload_n hx hb gX12_taken_5.2.2.2.2.2.2.2.2.1 rfl (lv_at2 hl) ?_
                  refine aldN hC hK hP 3 rfl (k := jt) (by omega) (Nat.le_of_ble_eq_true rfl) (v := fnsf jt) rfl gX12_taken_5.2.2.2.2.2.2.2.2.2 ?_
                  refine lv_goto (tgt := 111) hx hb gX12_taken_6.1 (by decide) ?_
                  refine toQ hQ0 ?_
                  exact RP (v := fnsf jt) hC ((absurd a5929 (by rw [← c_97_5939]; unfold Wi; decide))) rfl gX12_taken_6.2.2
          · refine lv_istore_n (lv' := [(3, .int 2), (0, .ref h0), (1, .int (nI jt)), (2, .int x2)]) hx hb gX12_taken_3.2.2.2.2.2.2.2.2.2 rfl hl (by decide) rfl (fun ls hl => ?_)
            refine lv_iload_n hx hb gX12_taken_4.1 rfl (lv_at0 hl) ?_
            refine lv_if_ge (tgt := 78) hx hb gX12_taken_4.2.1 (by decide) (fun _ => ?_) (fun c9 => absurd (by decide) c9)
            refine lv_iload_n hx hb gX12_taken_4.2.2.2.2.1 rfl (lv_at0 hl) ?_
            refine lv_if_lt (tgt := 95) hx hb gX12_taken_4.2.2.2.2.2.1 (by decide) (fun c9 => absurd c9 (by decide)) (fun _ => ?_)
            refine lv_iload_n hx hb gX12_taken_4.2.2.2.2.2.2.1 rfl (lv_at0 hl) ?_
            refine lv_iload_n hx hb gX12_taken_4.2.2.2.2.2.2.2.1 rfl (lv_at3 hl) ?_
            refine lv_icmp_eq (tgt := 95) hx hb gX12_taken_4.2.2.2.2.2.2.2.2.1 (by decide) (fun c_84_5940 => ?_) (fun c_84_5940 => ?_)
            · refine lv_iload_n hx hb gX12_taken_5.2.2.2.1 rfl (lv_at0 hl) ?_
              refine lv_iload_n hx hb gX12_taken_5.2.2.2.2.1 rfl (lv_at3 hl) ?_
              refine lv_icmp_ne (tgt := 109) hx hb gX12_taken_5.2.2.2.2.2.1 (by decide) (fun c9 => absurd (c_84_5940) c9) (fun _ => ?_)
              refine lv_aload_n hx hb gX12_taken_5.2.2.2.2.2.2.1 rfl (lv_at1 hl) ?_
              refine gf_X12_75 hC rfl hK hP 0 rfl rfl gX12_taken_5.2.2.2.2.2.2.2.1 ?_
              refine lv_iload_n hx hb gX12_taken_5.2.2.2.2.2.2.2.2.1 rfl (lv_at2 hl) ?_
              refine aldN hC hK hP 3 rfl (k := jt) (by omega) (Nat.le_of_ble_eq_true rfl) (v := fnsf jt) rfl gX12_taken_5.2.2.2.2.2.2.2.2.2 ?_
              refine lv_goto (tgt := 111) hx hb gX12_taken_6.1 (by decide) ?_
              refine toQ hQ0 ?_
              exact RP (v := fnsf jt) hC ((by first | rfl | (simp only [nI_clamp (n := jt) (by omega), ifc_t ekq, ifc_t hkq, ifc_t ek8, ifc_t hk8, ifc_t ek9, ifc_t hk9, ifc_t hN, ifc_t a5873, ifc_f a5875, ifc_t a5929, ifc_f c_37_5930, ifc_t c_84_5940, ifc_t (q := Wi x2 0 6 ∨ Wi x2 10 14) (Or.inr a5929), a5932, ifc_f (q := (2 : Int32) < 0) (by decide), ifc_t (q := UNl (2 : Int32).toNatClampNeg x2) (show UNl 2 x2 from Or.inl (c_84_5940.symm))]; done) | (simp only [nI_clamp (n := jt) (by omega), ifc_t ekq, ifc_t hkq, ifc_t ek8, ifc_t hk8, ifc_t ek9, ifc_t hk9, ifc_t hN, ifc_t a5873, ifc_f a5875, ifc_t a5929, ifc_f c_37_5930, ifc_t c_84_5940, ifc_t (q := Wi x2 0 6 ∨ Wi x2 10 14) (Or.inr a5929), a5932, ifc_f (q := (2 : Int32) < 0) (by decide), ifc_t (q := UNl (2 : Int32).toNatClampNeg x2) (show UNl 2 x2 from Or.inl (c_84_5940.symm))]; rfl))) rfl gX12_taken_6.2.2
            · refine lv_iload_n hx hb gX12_taken_4.2.2.2.2.2.2.2.2.2 rfl (lv_at0 hl) ?_
              refine pS hC hK hl (m_above2 l G) si_X12_348 rfl rfl (Nat.le_of_ble_eq_true rfl) rm_4_1_1 ⟨by first | exact Nat.le_of_ble_eq_true rfl | exact Nat.zero_le _, by first | exact Nat.le_of_ble_eq_true rfl | exact Nat.zero_le _⟩ gX12_taken_5.1 (Keqr ?_)
              refine lv_istore_n (lv' := [(3, .int 0), (0, .ref h0), (1, .int (nI jt)), (2, .int x2)]) hx hb gX12_taken_5.2.1 rfl hl (by decide) rfl (fun ls hl => ?_)
              refine lv_goto (tgt := 78) hx hb gX12_taken_5.2.2.1 (by decide) ?_
              refine lv_iload_n hx hb gX12_taken_4.2.2.2.2.1 rfl (lv_at0 hl) ?_
              refine lv_if_lt (tgt := 95) hx hb gX12_taken_4.2.2.2.2.2.1 (by decide) (fun c9 => absurd c9 (by decide)) (fun _ => ?_)
              refine lv_iload_n hx hb gX12_taken_4.2.2.2.2.2.2.1 rfl (lv_at0 hl) ?_
              refine lv_iload_n hx hb gX12_taken_4.2.2.2.2.2.2.2.1 rfl (lv_at3 hl) ?_
              refine lv_icmp_eq (tgt := 95) hx hb gX12_taken_4.2.2.2.2.2.2.2.2.1 (by decide) (fun c_84_5943 => ?_) (fun c_84_5943 => ?_)
              · refine lv_iload_n hx hb gX12_taken_5.2.2.2.1 rfl (lv_at0 hl) ?_
                refine lv_iload_n hx hb gX12_taken_5.2.2.2.2.1 rfl (lv_at3 hl) ?_
                refine lv_icmp_ne (tgt := 109) hx hb gX12_taken_5.2.2.2.2.2.1 (by decide) (fun c9 => absurd (c_84_5943) c9) (fun _ => ?_)
                refine lv_aload_n hx hb gX12_taken_5.2.2.2.2.2.2.1 rfl (lv_at1 hl) ?_
                refine gf_X12_75 hC rfl hK hP 0 rfl rfl gX12_taken_5.2.2.2.2.2.2.2.1 ?_
                refine lv_iload_n hx hb gX12_taken_5.2.2.2.2.2.2.2.2.1 rfl (lv_at2 hl) ?_
                refine aldN hC hK hP 3 rfl (k := jt) (by omega) (Nat.le_of_ble_eq_true rfl) (v := fnsf jt) rfl gX12_taken_5.2.2.2.2.2.2.2.2.2 ?_
                refine lv_goto (tgt := 111) hx hb gX12_taken_6.1 (by decide) ?_
                refine toQ hQ0 ?_
                exact RP (v := fnsf jt) hC ((by first | rfl | (simp only [nI_clamp (n := jt) (by omega), ifc_t ekq, ifc_t hkq, ifc_t ek8, ifc_t hk8, ifc_t ek9, ifc_t hk9, ifc_t hN, ifc_t a5873, ifc_f a5875, ifc_t a5929, ifc_f c_37_5930, ifc_f c_84_5940, ifc_t c_84_5943, ifc_t (q := Wi x2 0 6 ∨ Wi x2 10 14) (Or.inr a5929), a5932, ifc_f (q := (2 : Int32) < 0) (by decide), ifc_t (q := UNl (2 : Int32).toNatClampNeg x2) (show UNl 2 x2 from Or.inr (c_84_5943.symm))]; done) | (simp only [nI_clamp (n := jt) (by omega), ifc_t ekq, ifc_t hkq, ifc_t ek8, ifc_t hk8, ifc_t ek9, ifc_t hk9, ifc_t hN, ifc_t a5873, ifc_f a5875, ifc_t a5929, ifc_f c_37_5930, ifc_f c_84_5940, ifc_t c_84_5943, ifc_t (q := Wi x2 0 6 ∨ Wi x2 10 14) (Or.inr a5929), a5932, ifc_f (q := (2 : Int32) < 0) (by decide), ifc_t (q := UNl (2 : Int32).toNatClampNeg x2) (show UNl 2 x2 from Or.inr (c_84_5943.symm))]; rfl))) rfl gX12_taken_6.2.2
              · refine lv_iload_n hx hb gX12_taken_4.2.2.2.2.2.2.2.2.2 rfl (lv_at0 hl) ?_
                refine pS hC hK hl (m_above0 l G) si_X12_348 rfl rfl (Nat.le_of_ble_eq_true rfl) rm_4_1_1 ⟨by first | exact Nat.le_of_ble_eq_true rfl | exact Nat.zero_le _, by first | exact Nat.le_of_ble_eq_true rfl | exact Nat.zero_le _⟩ gX12_taken_5.1 (Keqr ?_)
                refine lv_istore_n (lv' := [(3, .int (-1)), (0, .ref h0), (1, .int (nI jt)), (2, .int x2)]) hx hb gX12_taken_5.2.1 rfl hl (by decide) rfl (fun ls hl => ?_)
                refine lv_goto (tgt := 78) hx hb gX12_taken_5.2.2.1 (by decide) ?_
                refine lv_iload_n hx hb gX12_taken_4.2.2.2.2.1 rfl (lv_at0 hl) ?_
                refine lv_if_lt (tgt := 95) hx hb gX12_taken_4.2.2.2.2.2.1 (by decide) (fun _ => ?_) (fun c9 => absurd (by decide) c9)
                refine lv_iload_n hx hb gX12_taken_5.2.2.2.1 rfl (lv_at0 hl) ?_
                refine lv_iload_n hx hb gX12_taken_5.2.2.2.2.1 rfl (lv_at3 hl) ?_
                refine lv_icmp_ne (tgt := 109) hx hb gX12_taken_5.2.2.2.2.2.1 (by decide) (fun c_97_5946 => ?_) (fun c_97_5946 => ?_)
                · refine lv_bipush (v := (-13)) hx hb gX12_taken_6.2.1 (by decide) ?_
                  refine toQ hQ0 ?_
                  exact RP (v := (-13)) hC ((by first | rfl | (simp only [nI_clamp (n := jt) (by omega), ifc_t ekq, ifc_t hkq, ifc_t ek8, ifc_t hk8, ifc_t ek9, ifc_t hk9, ifc_t hN, ifc_t a5873, ifc_f a5875, ifc_t a5929, ifc_f c_37_5930, ifc_f c_84_5940, ifc_f c_84_5943, ifc_f c_97_5946, ifc_t (q := Wi x2 0 6 ∨ Wi x2 10 14) (Or.inr a5929), a5932, ifc_f (q := (2 : Int32) < 0) (by decide), ifc_f (q := UNl (2 : Int32).toNatClampNeg x2) (fun h9 => (show False from by have h7 : x2 = 2 ∨ x2 = 0 := h9; rcases h7 with h8 | h8 <;> (first | exact c_84_5940 h8.symm | exact c_84_5943 h8.symm)))]; done) | (simp only [nI_clamp (n := jt) (by omega), ifc_t ekq, ifc_t hkq, ifc_t ek8, ifc_t hk8, ifc_t ek9, ifc_t hk9, ifc_t hN, ifc_t a5873, ifc_f a5875, ifc_t a5929, ifc_f c_37_5930, ifc_f c_84_5940, ifc_f c_84_5943, ifc_f c_97_5946, ifc_t (q := Wi x2 0 6 ∨ Wi x2 10 14) (Or.inr a5929), a5932, ifc_f (q := (2 : Int32) < 0) (by decide), ifc_f (q := UNl (2 : Int32).toNatClampNeg x2) (fun h9 => (show False from by have h7 : x2 = 2 ∨ x2 = 0 := h9; rcases h7 with h8 | h8 <;> (first | exact c_84_5940 h8.symm | exact c_84_5943 h8.symm)))]; rfl))) rfl gX12_taken_6.2.2
                · refine lv_aload_n hx hb gX12_taken_5.2.2.2.2.2.2.1 rfl (lv_at1 hl) ?_
                  refine gf_X12_75 hC rfl hK hP 0 rfl rfl gX12_taken_5.2.2.2.2.2.2.2.1 ?_
                  refine lv_iload_n hx hb gX12_taken_5.2.2.2.2.2.2.2.2.1 rfl (lv_at2 hl) ?_
                  refine aldN hC hK hP 3 rfl (k := jt) (by omega) (Nat.le_of_ble_eq_true rfl) (v := fnsf jt) rfl gX12_taken_5.2.2.2.2.2.2.2.2.2 ?_
                  refine lv_goto (tgt := 111) hx hb gX12_taken_6.1 (by decide) ?_
                  refine toQ hQ0 ?_
                  exact RP (v := fnsf jt) hC ((absurd a5929 (by rw [← c_97_5946]; unfold Wi; decide))) rfl gX12_taken_6.2.2
          · refine lv_istore_n (lv' := [(3, .int 3), (0, .ref h0), (1, .int (nI jt)), (2, .int x2)]) hx hb gX12_taken_3.2.2.2.2.2.2.2.2.2 rfl hl (by decide) rfl (fun ls hl => ?_)
            refine lv_iload_n hx hb gX12_taken_4.1 rfl (lv_at0 hl) ?_
            refine lv_if_ge (tgt := 78) hx hb gX12_taken_4.2.1 (by decide) (fun _ => ?_) (fun c9 => absurd (by decide) c9)
            refine lv_iload_n hx hb gX12_taken_4.2.2.2.2.1 rfl (lv_at0 hl) ?_
            refine lv_if_lt (tgt := 95) hx hb gX12_taken_4.2.2.2.2.2.1 (by decide) (fun c9 => absurd c9 (by decide)) (fun _ => ?_)
            refine lv_iload_n hx hb gX12_taken_4.2.2.2.2.2.2.1 rfl (lv_at0 hl) ?_
            refine lv_iload_n hx hb gX12_taken_4.2.2.2.2.2.2.2.1 rfl (lv_at3 hl) ?_
            refine lv_icmp_eq (tgt := 95) hx hb gX12_taken_4.2.2.2.2.2.2.2.2.1 (by decide) (fun c_84_5947 => ?_) (fun c_84_5947 => ?_)
            · refine lv_iload_n hx hb gX12_taken_5.2.2.2.1 rfl (lv_at0 hl) ?_
              refine lv_iload_n hx hb gX12_taken_5.2.2.2.2.1 rfl (lv_at3 hl) ?_
              refine lv_icmp_ne (tgt := 109) hx hb gX12_taken_5.2.2.2.2.2.1 (by decide) (fun c9 => absurd (c_84_5947) c9) (fun _ => ?_)
              refine lv_aload_n hx hb gX12_taken_5.2.2.2.2.2.2.1 rfl (lv_at1 hl) ?_
              refine gf_X12_75 hC rfl hK hP 0 rfl rfl gX12_taken_5.2.2.2.2.2.2.2.1 ?_
              refine lv_iload_n hx hb gX12_taken_5.2.2.2.2.2.2.2.2.1 rfl (lv_at2 hl) ?_
              refine aldN hC hK hP 3 rfl (k := jt) (by omega) (Nat.le_of_ble_eq_true rfl) (v := fnsf jt) rfl gX12_taken_5.2.2.2.2.2.2.2.2.2 ?_
              refine lv_goto (tgt := 111) hx hb gX12_taken_6.1 (by decide) ?_
              refine toQ hQ0 ?_
              exact RP (v := fnsf jt) hC ((by first | rfl | (simp only [nI_clamp (n := jt) (by omega), ifc_t ekq, ifc_t hkq, ifc_t ek8, ifc_t hk8, ifc_t ek9, ifc_t hk9, ifc_t hN, ifc_t a5873, ifc_f a5875, ifc_t a5929, ifc_f c_37_5930, ifc_t c_84_5947, ifc_t (q := Wi x2 0 6 ∨ Wi x2 10 14) (Or.inr a5929), a5932, ifc_f (q := (3 : Int32) < 0) (by decide), ifc_t (q := UNl (3 : Int32).toNatClampNeg x2) (show UNl 3 x2 from Or.inl (c_84_5947.symm))]; done) | (simp only [nI_clamp (n := jt) (by omega), ifc_t ekq, ifc_t hkq, ifc_t ek8, ifc_t hk8, ifc_t ek9, ifc_t hk9, ifc_t hN, ifc_t a5873, ifc_f a5875, ifc_t a5929, ifc_f c_37_5930, ifc_t c_84_5947, ifc_t (q := Wi x2 0 6 ∨ Wi x2 10 14) (Or.inr a5929), a5932, ifc_f (q := (3 : Int32) < 0) (by decide), ifc_t (q := UNl (3 : Int32).toNatClampNeg x2) (show UNl 3 x2 from Or.inl (c_84_5947.symm))]; rfl))) rfl gX12_taken_6.2.2
            · refine lv_iload_n hx hb gX12_taken_4.2.2.2.2.2.2.2.2.2 rfl (lv_at0 hl) ?_
              refine pS hC hK hl (m_above3 l G) si_X12_348 rfl rfl (Nat.le_of_ble_eq_true rfl) rm_4_1_1 ⟨by first | exact Nat.le_of_ble_eq_true rfl | exact Nat.zero_le _, by first | exact Nat.le_of_ble_eq_true rfl | exact Nat.zero_le _⟩ gX12_taken_5.1 (Keqr ?_)
              refine lv_istore_n (lv' := [(3, .int 1), (0, .ref h0), (1, .int (nI jt)), (2, .int x2)]) hx hb gX12_taken_5.2.1 rfl hl (by decide) rfl (fun ls hl => ?_)
              refine lv_goto (tgt := 78) hx hb gX12_taken_5.2.2.1 (by decide) ?_
              refine lv_iload_n hx hb gX12_taken_4.2.2.2.2.1 rfl (lv_at0 hl) ?_
              refine lv_if_lt (tgt := 95) hx hb gX12_taken_4.2.2.2.2.2.1 (by decide) (fun c9 => absurd c9 (by decide)) (fun _ => ?_)
              refine lv_iload_n hx hb gX12_taken_4.2.2.2.2.2.2.1 rfl (lv_at0 hl) ?_
              refine lv_iload_n hx hb gX12_taken_4.2.2.2.2.2.2.2.1 rfl (lv_at3 hl) ?_
              refine lv_icmp_eq (tgt := 95) hx hb gX12_taken_4.2.2.2.2.2.2.2.2.1 (by decide) (fun c_84_5950 => ?_) (fun c_84_5950 => ?_)
              · refine lv_iload_n hx hb gX12_taken_5.2.2.2.1 rfl (lv_at0 hl) ?_
                refine lv_iload_n hx hb gX12_taken_5.2.2.2.2.1 rfl (lv_at3 hl) ?_
                refine lv_icmp_ne (tgt := 109) hx hb gX12_taken_5.2.2.2.2.2.1 (by decide) (fun c9 => absurd (c_84_5950) c9) (fun _ => ?_)
                refine lv_aload_n hx hb gX12_taken_5.2.2.2.2.2.2.1 rfl (lv_at1 hl) ?_
                refine gf_X12_75 hC rfl hK hP 0 rfl rfl gX12_taken_5.2.2.2.2.2.2.2.1 ?_
                refine lv_iload_n hx hb gX12_taken_5.2.2.2.2.2.2.2.2.1 rfl (lv_at2 hl) ?_
                refine aldN hC hK hP 3 rfl (k := jt) (by omega) (Nat.le_of_ble_eq_true rfl) (v := fnsf jt) rfl gX12_taken_5.2.2.2.2.2.2.2.2.2 ?_
                refine lv_goto (tgt := 111) hx hb gX12_taken_6.1 (by decide) ?_
                refine toQ hQ0 ?_
                exact RP (v := fnsf jt) hC ((by first | rfl | (simp only [nI_clamp (n := jt) (by omega), ifc_t ekq, ifc_t hkq, ifc_t ek8, ifc_t hk8, ifc_t ek9, ifc_t hk9, ifc_t hN, ifc_t a5873, ifc_f a5875, ifc_t a5929, ifc_f c_37_5930, ifc_f c_84_5947, ifc_t c_84_5950, ifc_t (q := Wi x2 0 6 ∨ Wi x2 10 14) (Or.inr a5929), a5932, ifc_f (q := (3 : Int32) < 0) (by decide), ifc_t (q := UNl (3 : Int32).toNatClampNeg x2) (show UNl 3 x2 from Or.inr (Or.inl (c_84_5950.symm)))]; done) | (simp only [nI_clamp (n := jt) (by omega), ifc_t ekq, ifc_t hkq, ifc_t ek8, ifc_t hk8, ifc_t ek9, ifc_t hk9, ifc_t hN, ifc_t a5873, ifc_f a5875, ifc_t a5929, ifc_f c_37_5930, ifc_f c_84_5947, ifc_t c_84_5950, ifc_t (q := Wi x2 0 6 ∨ Wi x2 10 14) (Or.inr a5929), a5932, ifc_f (q := (3 : Int32) < 0) (by decide), ifc_t (q := UNl (3 : Int32).toNatClampNeg x2) (show UNl 3 x2 from Or.inr (Or.inl (c_84_5950.symm)))]; rfl))) rfl gX12_taken_6.2.2
              · refine lv_iload_n hx hb gX12_taken_4.2.2.2.2.2.2.2.2.2 rfl (lv_at0 hl) ?_
                refine pS hC hK hl (m_above1 l G) si_X12_348 rfl rfl (Nat.le_of_ble_eq_true rfl) rm_4_1_1 ⟨by first | exact Nat.le_of_ble_eq_true rfl | exact Nat.zero_le _, by first | exact Nat.le_of_ble_eq_true rfl | exact Nat.zero_le _⟩ gX12_taken_5.1 (Keqr ?_)
                refine lv_istore_n (lv' := [(3, .int 0), (0, .ref h0), (1, .int (nI jt)), (2, .int x2)]) hx hb gX12_taken_5.2.1 rfl hl (by decide) rfl (fun ls hl => ?_)
                refine lv_goto (tgt := 78) hx hb gX12_taken_5.2.2.1 (by decide) ?_
                refine lv_iload_n hx hb gX12_taken_4.2.2.2.2.1 rfl (lv_at0 hl) ?_
                refine lv_if_lt (tgt := 95) hx hb gX12_taken_4.2.2.2.2.2.1 (by decide) (fun c9 => absurd c9 (by decide)) (fun _ => ?_)
                refine lv_iload_n hx hb gX12_taken_4.2.2.2.2.2.2.1 rfl (lv_at0 hl) ?_
                refine lv_iload_n hx hb gX12_taken_4.2.2.2.2.2.2.2.1 rfl (lv_at3 hl) ?_
                refine lv_icmp_eq (tgt := 95) hx hb gX12_taken_4.2.2.2.2.2.2.2.2.1 (by decide) (fun c_84_5953 => ?_) (fun c_84_5953 => ?_)
                · refine lv_iload_n hx hb gX12_taken_5.2.2.2.1 rfl (lv_at0 hl) ?_
                  refine lv_iload_n hx hb gX12_taken_5.2.2.2.2.1 rfl (lv_at3 hl) ?_
                  refine lv_icmp_ne (tgt := 109) hx hb gX12_taken_5.2.2.2.2.2.1 (by decide) (fun c9 => absurd (c_84_5953) c9) (fun _ => ?_)
                  refine lv_aload_n hx hb gX12_taken_5.2.2.2.2.2.2.1 rfl (lv_at1 hl) ?_
                  refine gf_X12_75 hC rfl hK hP 0 rfl rfl gX12_taken_5.2.2.2.2.2.2.2.1 ?_
                  refine lv_iload_n hx hb gX12_taken_5.2.2.2.2.2.2.2.2.1 rfl (lv_at2 hl) ?_
                  refine aldN hC hK hP 3 rfl (k := jt) (by omega) (Nat.le_of_ble_eq_true rfl) (v := fnsf jt) rfl gX12_taken_5.2.2.2.2.2.2.2.2.2 ?_
                  refine lv_goto (tgt := 111) hx hb gX12_taken_6.1 (by decide) ?_
                  refine toQ hQ0 ?_
                  exact RP (v := fnsf jt) hC ((by first | rfl | (simp only [nI_clamp (n := jt) (by omega), ifc_t ekq, ifc_t hkq, ifc_t ek8, ifc_t hk8, ifc_t ek9, ifc_t hk9, ifc_t hN, ifc_t a5873, ifc_f a5875, ifc_t a5929, ifc_f c_37_5930, ifc_f c_84_5947, ifc_f c_84_5950, ifc_t c_84_5953, ifc_t (q := Wi x2 0 6 ∨ Wi x2 10 14) (Or.inr a5929), a5932, ifc_f (q := (3 : Int32) < 0) (by decide), ifc_t (q := UNl (3 : Int32).toNatClampNeg x2) (show UNl 3 x2 from Or.inr (Or.inr (c_84_5953.symm)))]; done) | (simp only [nI_clamp (n := jt) (by omega), ifc_t ekq, ifc_t hkq, ifc_t ek8, ifc_t hk8, ifc_t ek9, ifc_t hk9, ifc_t hN, ifc_t a5873, ifc_f a5875, ifc_t a5929, ifc_f c_37_5930, ifc_f c_84_5947, ifc_f c_84_5950, ifc_t c_84_5953, ifc_t (q := Wi x2 0 6 ∨ Wi x2 10 14) (Or.inr a5929), a5932, ifc_f (q := (3 : Int32) < 0) (by decide), ifc_t (q := UNl (3 : Int32).toNatClampNeg x2) (show UNl 3 x2 from Or.inr (Or.inr (c_84_5953.symm)))]; rfl))) rfl gX12_taken_6.2.2
                · refine lv_iload_n hx hb gX12_taken_4.2.2.2.2.2.2.2.2.2 rfl (lv_at0 hl) ?_
                  refine pS hC hK hl (m_above0 l G) si_X12_348 rfl rfl (Nat.le_of_ble_eq_true rfl) rm_4_1_1 ⟨by first | exact Nat.le_of_ble_eq_true rfl | exact Nat.zero_le _, by first | exact Nat.le_of_ble_eq_true rfl | exact Nat.zero_le _⟩ gX12_taken_5.1 (Keqr ?_)
                  refine lv_istore_n (lv' := [(3, .int (-1)), (0, .ref h0), (1, .int (nI jt)), (2, .int x2)]) hx hb gX12_taken_5.2.1 rfl hl (by decide) rfl (fun ls hl => ?_)
                  refine lv_goto (tgt := 78) hx hb gX12_taken_5.2.2.1 (by decide) ?_
                  refine lv_iload_n hx hb gX12_taken_4.2.2.2.2.1 rfl (lv_at0 hl) ?_
                  refine lv_if_lt (tgt := 95) hx hb gX12_taken_4.2.2.2.2.2.1 (by decide) (fun _ => ?_) (fun c9 => absurd (by decide) c9)
                  refine lv_iload_n hx hb gX12_taken_5.2.2.2.1 rfl (lv_at0 hl) ?_
                  refine lv_iload_n hx hb gX12_taken_5.2.2.2.2.1 rfl (lv_at3 hl) ?_
                  refine lv_icmp_ne (tgt := 109) hx hb gX12_taken_5.2.2.2.2.2.1 (by decide) (fun c_97_5956 => ?_) (fun c_97_5956 => ?_)
                  · refine lv_bipush (v := (-13)) hx hb gX12_taken_6.2.1 (by decide) ?_
                    refine toQ hQ0 ?_
                    exact RP (v := (-13)) hC ((by first | rfl | (simp only [nI_clamp (n := jt) (by omega), ifc_t ekq, ifc_t hkq, ifc_t ek8, ifc_t hk8, ifc_t ek9, ifc_t hk9, ifc_t hN, ifc_t a5873, ifc_f a5875, ifc_t a5929, ifc_f c_37_5930, ifc_f c_84_5947, ifc_f c_84_5950, ifc_f c_84_5953, ifc_f c_97_5956, ifc_t (q := Wi x2 0 6 ∨ Wi x2 10 14) (Or.inr a5929), a5932, ifc_f (q := (3 : Int32) < 0) (by decide), ifc_f (q := UNl (3 : Int32).toNatClampNeg x2) (fun h9 => (show False from by have h7 : x2 = 3 ∨ x2 = 1 ∨ x2 = 0 := h9; rcases h7 with h8 | h8 | h8 <;> (first | exact c_84_5947 h8.symm | exact c_84_5950 h8.symm | exact c_84_5953 h8.symm)))]; done) | (simp only [nI_clamp (n := jt) (by omega), ifc_t ekq, ifc_t hkq, ifc_t ek8, ifc_t hk8, ifc_t ek9, ifc_t hk9, ifc_t hN, ifc_t a5873, ifc_f a5875, ifc_t a5929, ifc_f c_37_5930, ifc_f c_84_5947, ifc_f c_84_5950, ifc_f c_84_5953, ifc_f c_97_5956, ifc_t (q := Wi x2 0 6 ∨ Wi x2 10 14) (Or.inr a5929), a5932, ifc_f (q := (3 : Int32) < 0) (by decide), ifc_f (q := UNl (3 : Int32).toNatClampNeg x2) (fun h9 => (show False from by have h7 : x2 = 3 ∨ x2 = 1 ∨ x2 = 0 := h9; rcases h7 with h8 | h8 | h8 <;> (first | exact c_84_5947 h8.symm | exact c_84_5950 h8.symm | exact c_84_5953 h8.symm)))]; rfl))) rfl gX12_taken_6.2.2
                  · refine lv_aload_n hx hb gX12_taken_5.2.2.2.2.2.2.1 rfl (lv_at1 hl) ?_
                    refine gf_X12_75 hC rfl hK hP 0 rfl rfl gX12_taken_5.2.2.2.2.2.2.2.1 ?_
                    refine lv_iload_n hx hb gX12_taken_5.2.2.2.2.2.2.2.2.1 rfl (lv_at2 hl) ?_
                    refine aldN hC hK hP 3 rfl (k := jt) (by omega) (Nat.le_of_ble_eq_true rfl) (v := fnsf jt) rfl gX12_taken_5.2.2.2.2.2.2.2.2.2 ?_
                    refine lv_goto (tgt := 111) hx hb gX12_taken_6.1 (by decide) ?_
                    refine toQ hQ0 ?_
                    exact RP (v := fnsf jt) hC ((absurd a5929 (by rw [← c_97_5956]; unfold Wi; decide))) rfl gX12_taken_6.2.2
          · refine lv_istore_n (lv' := [(3, .int 4), (0, .ref h0), (1, .int (nI jt)), (2, .int x2)]) hx hb gX12_taken_3.2.2.2.2.2.2.2.2.2 rfl hl (by decide) rfl (fun ls hl => ?_)
            refine lv_iload_n hx hb gX12_taken_4.1 rfl (lv_at0 hl) ?_
            refine lv_if_ge (tgt := 78) hx hb gX12_taken_4.2.1 (by decide) (fun _ => ?_) (fun c9 => absurd (by decide) c9)
            refine lv_iload_n hx hb gX12_taken_4.2.2.2.2.1 rfl (lv_at0 hl) ?_
            refine lv_if_lt (tgt := 95) hx hb gX12_taken_4.2.2.2.2.2.1 (by decide) (fun c9 => absurd c9 (by decide)) (fun _ => ?_)
            refine lv_iload_n hx hb gX12_taken_4.2.2.2.2.2.2.1 rfl (lv_at0 hl) ?_
            refine lv_iload_n hx hb gX12_taken_4.2.2.2.2.2.2.2.1 rfl (lv_at3 hl) ?_
            refine lv_icmp_eq (tgt := 95) hx hb gX12_taken_4.2.2.2.2.2.2.2.2.1 (by decide) (fun c_84_5957 => ?_) (fun c_84_5957 => ?_)
            · refine lv_iload_n hx hb gX12_taken_5.2.2.2.1 rfl (lv_at0 hl) ?_
              refine lv_iload_n hx hb gX12_taken_5.2.2.2.2.1 rfl (lv_at3 hl) ?_
              refine lv_icmp_ne (tgt := 109) hx hb gX12_taken_5.2.2.2.2.2.1 (by decide) (fun c9 => absurd (c_84_5957) c9) (fun _ => ?_)
              refine lv_aload_n hx hb gX12_taken_5.2.2.2.2.2.2.1 rfl (lv_at1 hl) ?_
              refine gf_X12_75 hC rfl hK hP 0 rfl rfl gX12_taken_5.2.2.2.2.2.2.2.1 ?_
              refine lv_iload_n hx hb gX12_taken_5.2.2.2.2.2.2.2.2.1 rfl (lv_at2 hl) ?_
              refine aldN hC hK hP 3 rfl (k := jt) (by omega) (Nat.le_of_ble_eq_true rfl) (v := fnsf jt) rfl gX12_taken_5.2.2.2.2.2.2.2.2.2 ?_
              refine lv_goto (tgt := 111) hx hb gX12_taken_6.1 (by decide) ?_
              refine toQ hQ0 ?_
              exact RP (v := fnsf jt) hC ((by first | rfl | (simp only [nI_clamp (n := jt) (by omega), ifc_t ekq, ifc_t hkq, ifc_t ek8, ifc_t hk8, ifc_t ek9, ifc_t hk9, ifc_t hN, ifc_t a5873, ifc_f a5875, ifc_t a5929, ifc_f c_37_5930, ifc_t c_84_5957, ifc_t (q := Wi x2 0 6 ∨ Wi x2 10 14) (Or.inr a5929), a5932, ifc_f (q := (4 : Int32) < 0) (by decide), ifc_t (q := UNl (4 : Int32).toNatClampNeg x2) (show UNl 4 x2 from Or.inl (c_84_5957.symm))]; done) | (simp only [nI_clamp (n := jt) (by omega), ifc_t ekq, ifc_t hkq, ifc_t ek8, ifc_t hk8, ifc_t ek9, ifc_t hk9, ifc_t hN, ifc_t a5873, ifc_f a5875, ifc_t a5929, ifc_f c_37_5930, ifc_t c_84_5957, ifc_t (q := Wi x2 0 6 ∨ Wi x2 10 14) (Or.inr a5929), a5932, ifc_f (q := (4 : Int32) < 0) (by decide), ifc_t (q := UNl (4 : Int32).toNatClampNeg x2) (show UNl 4 x2 from Or.inl (c_84_5957.symm))]; rfl))) rfl gX12_taken_6.2.2
            · refine lv_iload_n hx hb gX12_taken_4.2.2.2.2.2.2.2.2.2 rfl (lv_at0 hl) ?_
              refine pS hC hK hl (m_above4 l G) si_X12_348 rfl rfl (Nat.le_of_ble_eq_true rfl) rm_4_1_1 ⟨by first | exact Nat.le_of_ble_eq_true rfl | exact Nat.zero_le _, by first | exact Nat.le_of_ble_eq_true rfl | exact Nat.zero_le _⟩ gX12_taken_5.1 (Keqr ?_)
              refine lv_istore_n (lv' := [(3, .int 0), (0, .ref h0), (1, .int (nI jt)), (2, .int x2)]) hx hb gX12_taken_5.2.1 rfl hl (by decide) rfl (fun ls hl => ?_)
              refine lv_goto (tgt := 78) hx hb gX12_taken_5.2.2.1 (by decide) ?_
              refine lv_iload_n hx hb gX12_taken_4.2.2.2.2.1 rfl (lv_at0 hl) ?_
              refine lv_if_lt (tgt := 95) hx hb gX12_taken_4.2.2.2.2.2.1 (by decide) (fun c9 => absurd c9 (by decide)) (fun _ => ?_)
              refine lv_iload_n hx hb gX12_taken_4.2.2.2.2.2.2.1 rfl (lv_at0 hl) ?_
              refine lv_iload_n hx hb gX12_taken_4.2.2.2.2.2.2.2.1 rfl (lv_at3 hl) ?_
              refine lv_icmp_eq (tgt := 95) hx hb gX12_taken_4.2.2.2.2.2.2.2.2.1 (by decide) (fun c_84_5960 => ?_) (fun c_84_5960 => ?_)
              · refine lv_iload_n hx hb gX12_taken_5.2.2.2.1 rfl (lv_at0 hl) ?_
                refine lv_iload_n hx hb gX12_taken_5.2.2.2.2.1 rfl (lv_at3 hl) ?_
                refine lv_icmp_ne (tgt := 109) hx hb gX12_taken_5.2.2.2.2.2.1 (by decide) (fun c9 => absurd (c_84_5960) c9) (fun _ => ?_)
                refine lv_aload_n hx hb gX12_taken_5.2.2.2.2.2.2.1 rfl (lv_at1 hl) ?_
                refine gf_X12_75 hC rfl hK hP 0 rfl rfl gX12_taken_5.2.2.2.2.2.2.2.1 ?_
                refine lv_iload_n hx hb gX12_taken_5.2.2.2.2.2.2.2.2.1 rfl (lv_at2 hl) ?_
                refine aldN hC hK hP 3 rfl (k := jt) (by omega) (Nat.le_of_ble_eq_true rfl) (v := fnsf jt) rfl gX12_taken_5.2.2.2.2.2.2.2.2.2 ?_
                refine lv_goto (tgt := 111) hx hb gX12_taken_6.1 (by decide) ?_
                refine toQ hQ0 ?_
                exact RP (v := fnsf jt) hC ((by first | rfl | (simp only [nI_clamp (n := jt) (by omega), ifc_t ekq, ifc_t hkq, ifc_t ek8, ifc_t hk8, ifc_t ek9, ifc_t hk9, ifc_t hN, ifc_t a5873, ifc_f a5875, ifc_t a5929, ifc_f c_37_5930, ifc_f c_84_5957, ifc_t c_84_5960, ifc_t (q := Wi x2 0 6 ∨ Wi x2 10 14) (Or.inr a5929), a5932, ifc_f (q := (4 : Int32) < 0) (by decide), ifc_t (q := UNl (4 : Int32).toNatClampNeg x2) (show UNl 4 x2 from Or.inr (c_84_5960.symm))]; done) | (simp only [nI_clamp (n := jt) (by omega), ifc_t ekq, ifc_t hkq, ifc_t ek8, ifc_t hk8, ifc_t ek9, ifc_t hk9, ifc_t hN, ifc_t a5873, ifc_f a5875, ifc_t a5929, ifc_f c_37_5930, ifc_f c_84_5957, ifc_t c_84_5960, ifc_t (q := Wi x2 0 6 ∨ Wi x2 10 14) (Or.inr a5929), a5932, ifc_f (q := (4 : Int32) < 0) (by decide), ifc_t (q := UNl (4 : Int32).toNatClampNeg x2) (show UNl 4 x2 from Or.inr (c_84_5960.symm))]; rfl))) rfl gX12_taken_6.2.2
              · refine lv_iload_n hx hb gX12_taken_4.2.2.2.2.2.2.2.2.2 rfl (lv_at0 hl) ?_
                refine pS hC hK hl (m_above0 l G) si_X12_348 rfl rfl (Nat.le_of_ble_eq_true rfl) rm_4_1_1 ⟨by first | exact Nat.le_of_ble_eq_true rfl | exact Nat.zero_le _, by first | exact Nat.le_of_ble_eq_true rfl | exact Nat.zero_le _⟩ gX12_taken_5.1 (Keqr ?_)
                refine lv_istore_n (lv' := [(3, .int (-1)), (0, .ref h0), (1, .int (nI jt)), (2, .int x2)]) hx hb gX12_taken_5.2.1 rfl hl (by decide) rfl (fun ls hl => ?_)
                refine lv_goto (tgt := 78) hx hb gX12_taken_5.2.2.1 (by decide) ?_
                refine lv_iload_n hx hb gX12_taken_4.2.2.2.2.1 rfl (lv_at0 hl) ?_
                refine lv_if_lt (tgt := 95) hx hb gX12_taken_4.2.2.2.2.2.1 (by decide) (fun _ => ?_) (fun c9 => absurd (by decide) c9)
                refine lv_iload_n hx hb gX12_taken_5.2.2.2.1 rfl (lv_at0 hl) ?_
                refine lv_iload_n hx hb gX12_taken_5.2.2.2.2.1 rfl (lv_at3 hl) ?_
                refine lv_icmp_ne (tgt := 109) hx hb gX12_taken_5.2.2.2.2.2.1 (by decide) (fun c_97_5963 => ?_) (fun c_97_5963 => ?_)
                · refine lv_bipush (v := (-13)) hx hb gX12_taken_6.2.1 (by decide) ?_
                  refine toQ hQ0 ?_
                  exact RP (v := (-13)) hC ((by first | rfl | (simp only [nI_clamp (n := jt) (by omega), ifc_t ekq, ifc_t hkq, ifc_t ek8, ifc_t hk8, ifc_t ek9, ifc_t hk9, ifc_t hN, ifc_t a5873, ifc_f a5875, ifc_t a5929, ifc_f c_37_5930, ifc_f c_84_5957, ifc_f c_84_5960, ifc_f c_97_5963, ifc_t (q := Wi x2 0 6 ∨ Wi x2 10 14) (Or.inr a5929), a5932, ifc_f (q := (4 : Int32) < 0) (by decide), ifc_f (q := UNl (4 : Int32).toNatClampNeg x2) (fun h9 => (show False from by have h7 : x2 = 4 ∨ x2 = 0 := h9; rcases h7 with h8 | h8 <;> (first | exact c_84_5957 h8.symm | exact c_84_5960 h8.symm)))]; done) | (simp only [nI_clamp (n := jt) (by omega), ifc_t ekq, ifc_t hkq, ifc_t ek8, ifc_t hk8, ifc_t ek9, ifc_t hk9, ifc_t hN, ifc_t a5873, ifc_f a5875, ifc_t a5929, ifc_f c_37_5930, ifc_f c_84_5957, ifc_f c_84_5960, ifc_f c_97_5963, ifc_t (q := Wi x2 0 6 ∨ Wi x2 10 14) (Or.inr a5929), a5932, ifc_f (q := (4 : Int32) < 0) (by decide), ifc_f (q := UNl (4 : Int32).toNatClampNeg x2) (fun h9 => (show False from by have h7 : x2 = 4 ∨ x2 = 0 := h9; rcases h7 with h8 | h8 <;> (first | exact c_84_5957 h8.symm | exact c_84_5960 h8.symm)))]; rfl))) rfl gX12_taken_6.2.2
                · refine lv_aload_n hx hb gX12_taken_5.2.2.2.2.2.2.1 rfl (lv_at1 hl) ?_
                  refine gf_X12_75 hC rfl hK hP 0 rfl rfl gX12_taken_5.2.2.2.2.2.2.2.1 ?_
                  refine lv_iload_n hx hb gX12_taken_5.2.2.2.2.2.2.2.2.1 rfl (lv_at2 hl) ?_
                  refine aldN hC hK hP 3 rfl (k := jt) (by omega) (Nat.le_of_ble_eq_true rfl) (v := fnsf jt) rfl gX12_taken_5.2.2.2.2.2.2.2.2.2 ?_
                  refine lv_goto (tgt := 111) hx hb gX12_taken_6.1 (by decide) ?_
                  refine toQ hQ0 ?_
                  exact RP (v := fnsf jt) hC ((absurd a5929 (by rw [← c_97_5963]; unfold Wi; decide))) rfl gX12_taken_6.2.2
          · refine lv_istore_n (lv' := [(3, .int 5), (0, .ref h0), (1, .int (nI jt)), (2, .int x2)]) hx hb gX12_taken_3.2.2.2.2.2.2.2.2.2 rfl hl (by decide) rfl (fun ls hl => ?_)
            refine lv_iload_n hx hb gX12_taken_4.1 rfl (lv_at0 hl) ?_
            refine lv_if_ge (tgt := 78) hx hb gX12_taken_4.2.1 (by decide) (fun _ => ?_) (fun c9 => absurd (by decide) c9)
            refine lv_iload_n hx hb gX12_taken_4.2.2.2.2.1 rfl (lv_at0 hl) ?_
            refine lv_if_lt (tgt := 95) hx hb gX12_taken_4.2.2.2.2.2.1 (by decide) (fun c9 => absurd c9 (by decide)) (fun _ => ?_)
            refine lv_iload_n hx hb gX12_taken_4.2.2.2.2.2.2.1 rfl (lv_at0 hl) ?_
            refine lv_iload_n hx hb gX12_taken_4.2.2.2.2.2.2.2.1 rfl (lv_at3 hl) ?_
            refine lv_icmp_eq (tgt := 95) hx hb gX12_taken_4.2.2.2.2.2.2.2.2.1 (by decide) (fun c_84_5964 => ?_) (fun c_84_5964 => ?_)
            · refine lv_iload_n hx hb gX12_taken_5.2.2.2.1 rfl (lv_at0 hl) ?_
              refine lv_iload_n hx hb gX12_taken_5.2.2.2.2.1 rfl (lv_at3 hl) ?_
              refine lv_icmp_ne (tgt := 109) hx hb gX12_taken_5.2.2.2.2.2.1 (by decide) (fun c9 => absurd (c_84_5964) c9) (fun _ => ?_)
              refine lv_aload_n hx hb gX12_taken_5.2.2.2.2.2.2.1 rfl (lv_at1 hl) ?_
              refine gf_X12_75 hC rfl hK hP 0 rfl rfl gX12_taken_5.2.2.2.2.2.2.2.1 ?_
              refine lv_iload_n hx hb gX12_taken_5.2.2.2.2.2.2.2.2.1 rfl (lv_at2 hl) ?_
              refine aldN hC hK hP 3 rfl (k := jt) (by omega) (Nat.le_of_ble_eq_true rfl) (v := fnsf jt) rfl gX12_taken_5.2.2.2.2.2.2.2.2.2 ?_
              refine lv_goto (tgt := 111) hx hb gX12_taken_6.1 (by decide) ?_
              refine toQ hQ0 ?_
              exact RP (v := fnsf jt) hC ((by first | rfl | (simp only [nI_clamp (n := jt) (by omega), ifc_t ekq, ifc_t hkq, ifc_t ek8, ifc_t hk8, ifc_t ek9, ifc_t hk9, ifc_t hN, ifc_t a5873, ifc_f a5875, ifc_t a5929, ifc_f c_37_5930, ifc_t c_84_5964, ifc_t (q := Wi x2 0 6 ∨ Wi x2 10 14) (Or.inr a5929), a5932, ifc_f (q := (5 : Int32) < 0) (by decide), ifc_t (q := UNl (5 : Int32).toNatClampNeg x2) (show UNl 5 x2 from Or.inl (c_84_5964.symm))]; done) | (simp only [nI_clamp (n := jt) (by omega), ifc_t ekq, ifc_t hkq, ifc_t ek8, ifc_t hk8, ifc_t ek9, ifc_t hk9, ifc_t hN, ifc_t a5873, ifc_f a5875, ifc_t a5929, ifc_f c_37_5930, ifc_t c_84_5964, ifc_t (q := Wi x2 0 6 ∨ Wi x2 10 14) (Or.inr a5929), a5932, ifc_f (q := (5 : Int32) < 0) (by decide), ifc_t (q := UNl (5 : Int32).toNatClampNeg x2) (show UNl 5 x2 from Or.inl (c_84_5964.symm))]; rfl))) rfl gX12_taken_6.2.2
            · refine lv_iload_n hx hb gX12_taken_4.2.2.2.2.2.2.2.2.2 rfl (lv_at0 hl) ?_
              refine pS hC hK hl (m_above5 l G) si_X12_348 rfl rfl (Nat.le_of_ble_eq_true rfl) rm_4_1_1 ⟨by first | exact Nat.le_of_ble_eq_true rfl | exact Nat.zero_le _, by first | exact Nat.le_of_ble_eq_true rfl | exact Nat.zero_le _⟩ gX12_taken_5.1 (Keqr ?_)
              refine lv_istore_n (lv' := [(3, .int 4), (0, .ref h0), (1, .int (nI jt)), (2, .int x2)]) hx hb gX12_taken_5.2.1 rfl hl (by decide) rfl (fun ls hl => ?_)
              refine lv_goto (tgt := 78) hx hb gX12_taken_5.2.2.1 (by decide) ?_
              refine lv_iload_n hx hb gX12_taken_4.2.2.2.2.1 rfl (lv_at0 hl) ?_
              refine lv_if_lt (tgt := 95) hx hb gX12_taken_4.2.2.2.2.2.1 (by decide) (fun c9 => absurd c9 (by decide)) (fun _ => ?_)
              refine lv_iload_n hx hb gX12_taken_4.2.2.2.2.2.2.1 rfl (lv_at0 hl) ?_
              refine lv_iload_n hx hb gX12_taken_4.2.2.2.2.2.2.2.1 rfl (lv_at3 hl) ?_
              refine lv_icmp_eq (tgt := 95) hx hb gX12_taken_4.2.2.2.2.2.2.2.2.1 (by decide) (fun c_84_5967 => ?_) (fun c_84_5967 => ?_)
              · refine lv_iload_n hx hb gX12_taken_5.2.2.2.1 rfl (lv_at0 hl) ?_
                refine lv_iload_n hx hb gX12_taken_5.2.2.2.2.1 rfl (lv_at3 hl) ?_
                refine lv_icmp_ne (tgt := 109) hx hb gX12_taken_5.2.2.2.2.2.1 (by decide) (fun c9 => absurd (c_84_5967) c9) (fun _ => ?_)
                refine lv_aload_n hx hb gX12_taken_5.2.2.2.2.2.2.1 rfl (lv_at1 hl) ?_
                refine gf_X12_75 hC rfl hK hP 0 rfl rfl gX12_taken_5.2.2.2.2.2.2.2.1 ?_
                refine lv_iload_n hx hb gX12_taken_5.2.2.2.2.2.2.2.2.1 rfl (lv_at2 hl) ?_
                refine aldN hC hK hP 3 rfl (k := jt) (by omega) (Nat.le_of_ble_eq_true rfl) (v := fnsf jt) rfl gX12_taken_5.2.2.2.2.2.2.2.2.2 ?_
                refine lv_goto (tgt := 111) hx hb gX12_taken_6.1 (by decide) ?_
                refine toQ hQ0 ?_
                exact RP (v := fnsf jt) hC ((by first | rfl | (simp only [nI_clamp (n := jt) (by omega), ifc_t ekq, ifc_t hkq, ifc_t ek8, ifc_t hk8, ifc_t ek9, ifc_t hk9, ifc_t hN, ifc_t a5873, ifc_f a5875, ifc_t a5929, ifc_f c_37_5930, ifc_f c_84_5964, ifc_t c_84_5967, ifc_t (q := Wi x2 0 6 ∨ Wi x2 10 14) (Or.inr a5929), a5932, ifc_f (q := (5 : Int32) < 0) (by decide), ifc_t (q := UNl (5 : Int32).toNatClampNeg x2) (show UNl 5 x2 from Or.inr (Or.inl (c_84_5967.symm)))]; done) | (simp only [nI_clamp (n := jt) (by omega), ifc_t ekq, ifc_t hkq, ifc_t ek8, ifc_t hk8, ifc_t ek9, ifc_t hk9, ifc_t hN, ifc_t a5873, ifc_f a5875, ifc_t a5929, ifc_f c_37_5930, ifc_f c_84_5964, ifc_t c_84_5967, ifc_t (q := Wi x2 0 6 ∨ Wi x2 10 14) (Or.inr a5929), a5932, ifc_f (q := (5 : Int32) < 0) (by decide), ifc_t (q := UNl (5 : Int32).toNatClampNeg x2) (show UNl 5 x2 from Or.inr (Or.inl (c_84_5967.symm)))]; rfl))) rfl gX12_taken_6.2.2
              · refine lv_iload_n hx hb gX12_taken_4.2.2.2.2.2.2.2.2.2 rfl (lv_at0 hl) ?_
                refine pS hC hK hl (m_above4 l G) si_X12_348 rfl rfl (Nat.le_of_ble_eq_true rfl) rm_4_1_1 ⟨by first | exact Nat.le_of_ble_eq_true rfl | exact Nat.zero_le _, by first | exact Nat.le_of_ble_eq_true rfl | exact Nat.zero_le _⟩ gX12_taken_5.1 (Keqr ?_)
                refine lv_istore_n (lv' := [(3, .int 0), (0, .ref h0), (1, .int (nI jt)), (2, .int x2)]) hx hb gX12_taken_5.2.1 rfl hl (by decide) rfl (fun ls hl => ?_)
                refine lv_goto (tgt := 78) hx hb gX12_taken_5.2.2.1 (by decide) ?_
                refine lv_iload_n hx hb gX12_taken_4.2.2.2.2.1 rfl (lv_at0 hl) ?_
                refine lv_if_lt (tgt := 95) hx hb gX12_taken_4.2.2.2.2.2.1 (by decide) (fun c9 => absurd c9 (by decide)) (fun _ => ?_)
                refine lv_iload_n hx hb gX12_taken_4.2.2.2.2.2.2.1 rfl (lv_at0 hl) ?_
                refine lv_iload_n hx hb gX12_taken_4.2.2.2.2.2.2.2.1 rfl (lv_at3 hl) ?_
                refine lv_icmp_eq (tgt := 95) hx hb gX12_taken_4.2.2.2.2.2.2.2.2.1 (by decide) (fun c_84_5970 => ?_) (fun c_84_5970 => ?_)
                · refine lv_iload_n hx hb gX12_taken_5.2.2.2.1 rfl (lv_at0 hl) ?_
                  refine lv_iload_n hx hb gX12_taken_5.2.2.2.2.1 rfl (lv_at3 hl) ?_
                  refine lv_icmp_ne (tgt := 109) hx hb gX12_taken_5.2.2.2.2.2.1 (by decide) (fun c9 => absurd (c_84_5970) c9) (fun _ => ?_)
                  refine lv_aload_n hx hb gX12_taken_5.2.2.2.2.2.2.1 rfl (lv_at1 hl) ?_
                  refine gf_X12_75 hC rfl hK hP 0 rfl rfl gX12_taken_5.2.2.2.2.2.2.2.1 ?_
                  refine lv_iload_n hx hb gX12_taken_5.2.2.2.2.2.2.2.2.1 rfl (lv_at2 hl) ?_
                  refine aldN hC hK hP 3 rfl (k := jt) (by omega) (Nat.le_of_ble_eq_true rfl) (v := fnsf jt) rfl gX12_taken_5.2.2.2.2.2.2.2.2.2 ?_
                  refine lv_goto (tgt := 111) hx hb gX12_taken_6.1 (by decide) ?_
                  refine toQ hQ0 ?_
                  exact RP (v := fnsf jt) hC ((by first | rfl | (simp only [nI_clamp (n := jt) (by omega), ifc_t ekq, ifc_t hkq, ifc_t ek8, ifc_t hk8, ifc_t ek9, ifc_t hk9, ifc_t hN, ifc_t a5873, ifc_f a5875, ifc_t a5929, ifc_f c_37_5930, ifc_f c_84_5964, ifc_f c_84_5967, ifc_t c_84_5970, ifc_t (q := Wi x2 0 6 ∨ Wi x2 10 14) (Or.inr a5929), a5932, ifc_f (q := (5 : Int32) < 0) (by decide), ifc_t (q := UNl (5 : Int32).toNatClampNeg x2) (show UNl 5 x2 from Or.inr (Or.inr (c_84_5970.symm)))]; done) | (simp only [nI_clamp (n := jt) (by omega), ifc_t ekq, ifc_t hkq, ifc_t ek8, ifc_t hk8, ifc_t ek9, ifc_t hk9, ifc_t hN, ifc_t a5873, ifc_f a5875, ifc_t a5929, ifc_f c_37_5930, ifc_f c_84_5964, ifc_f c_84_5967, ifc_t c_84_5970, ifc_t (q := Wi x2 0 6 ∨ Wi x2 10 14) (Or.inr a5929), a5932, ifc_f (q := (5 : Int32) < 0) (by decide), ifc_t (q := UNl (5 : Int32).toNatClampNeg x2) (show UNl 5 x2 from Or.inr (Or.inr (c_84_5970.symm)))]; rfl))) rfl gX12_taken_6.2.2
                · refine lv_iload_n hx hb gX12_taken_4.2.2.2.2.2.2.2.2.2 rfl (lv_at0 hl) ?_
                  refine pS hC hK hl (m_above0 l G) si_X12_348 rfl rfl (Nat.le_of_ble_eq_true rfl) rm_4_1_1 ⟨by first | exact Nat.le_of_ble_eq_true rfl | exact Nat.zero_le _, by first | exact Nat.le_of_ble_eq_true rfl | exact Nat.zero_le _⟩ gX12_taken_5.1 (Keqr ?_)
                  refine lv_istore_n (lv' := [(3, .int (-1)), (0, .ref h0), (1, .int (nI jt)), (2, .int x2)]) hx hb gX12_taken_5.2.1 rfl hl (by decide) rfl (fun ls hl => ?_)
                  refine lv_goto (tgt := 78) hx hb gX12_taken_5.2.2.1 (by decide) ?_
                  refine lv_iload_n hx hb gX12_taken_4.2.2.2.2.1 rfl (lv_at0 hl) ?_
                  refine lv_if_lt (tgt := 95) hx hb gX12_taken_4.2.2.2.2.2.1 (by decide) (fun _ => ?_) (fun c9 => absurd (by decide) c9)
                  refine lv_iload_n hx hb gX12_taken_5.2.2.2.1 rfl (lv_at0 hl) ?_
                  refine lv_iload_n hx hb gX12_taken_5.2.2.2.2.1 rfl (lv_at3 hl) ?_
                  refine lv_icmp_ne (tgt := 109) hx hb gX12_taken_5.2.2.2.2.2.1 (by decide) (fun c_97_5973 => ?_) (fun c_97_5973 => ?_)
                  · refine lv_bipush (v := (-13)) hx hb gX12_taken_6.2.1 (by decide) ?_
                    refine toQ hQ0 ?_
                    exact RP (v := (-13)) hC ((by first | rfl | (simp only [nI_clamp (n := jt) (by omega), ifc_t ekq, ifc_t hkq, ifc_t ek8, ifc_t hk8, ifc_t ek9, ifc_t hk9, ifc_t hN, ifc_t a5873, ifc_f a5875, ifc_t a5929, ifc_f c_37_5930, ifc_f c_84_5964, ifc_f c_84_5967, ifc_f c_84_5970, ifc_f c_97_5973, ifc_t (q := Wi x2 0 6 ∨ Wi x2 10 14) (Or.inr a5929), a5932, ifc_f (q := (5 : Int32) < 0) (by decide), ifc_f (q := UNl (5 : Int32).toNatClampNeg x2) (fun h9 => (show False from by have h7 : x2 = 5 ∨ x2 = 4 ∨ x2 = 0 := h9; rcases h7 with h8 | h8 | h8 <;> (first | exact c_84_5964 h8.symm | exact c_84_5967 h8.symm | exact c_84_5970 h8.symm)))]; done) | (simp only [nI_clamp (n := jt) (by omega), ifc_t ekq, ifc_t hkq, ifc_t ek8, ifc_t hk8, ifc_t ek9, ifc_t hk9, ifc_t hN, ifc_t a5873, ifc_f a5875, ifc_t a5929, ifc_f c_37_5930, ifc_f c_84_5964, ifc_f c_84_5967, ifc_f c_84_5970, ifc_f c_97_5973, ifc_t (q := Wi x2 0 6 ∨ Wi x2 10 14) (Or.inr a5929), a5932, ifc_f (q := (5 : Int32) < 0) (by decide), ifc_f (q := UNl (5 : Int32).toNatClampNeg x2) (fun h9 => (show False from by have h7 : x2 = 5 ∨ x2 = 4 ∨ x2 = 0 := h9; rcases h7 with h8 | h8 | h8 <;> (first | exact c_84_5964 h8.symm | exact c_84_5967 h8.symm | exact c_84_5970 h8.symm)))]; rfl))) rfl gX12_taken_6.2.2
                  · refine lv_aload_n hx hb gX12_taken_5.2.2.2.2.2.2.1 rfl (lv_at1 hl) ?_
                    refine gf_X12_75 hC rfl hK hP 0 rfl rfl gX12_taken_5.2.2.2.2.2.2.2.1 ?_
                    refine lv_iload_n hx hb gX12_taken_5.2.2.2.2.2.2.2.2.1 rfl (lv_at2 hl) ?_
                    refine aldN hC hK hP 3 rfl (k := jt) (by omega) (Nat.le_of_ble_eq_true rfl) (v := fnsf jt) rfl gX12_taken_5.2.2.2.2.2.2.2.2.2 ?_
                    refine lv_goto (tgt := 111) hx hb gX12_taken_6.1 (by decide) ?_
                    refine toQ hQ0 ?_
                    exact RP (v := fnsf jt) hC ((absurd a5929 (by rw [← c_97_5973]; unfold Wi; decide))) rfl gX12_taken_6.2.2
          · refine lv_istore_n (lv' := [(3, .int 6), (0, .ref h0), (1, .int (nI jt)), (2, .int x2)]) hx hb gX12_taken_3.2.2.2.2.2.2.2.2.2 rfl hl (by decide) rfl (fun ls hl => ?_)
            refine lv_iload_n hx hb gX12_taken_4.1 rfl (lv_at0 hl) ?_
            refine lv_if_ge (tgt := 78) hx hb gX12_taken_4.2.1 (by decide) (fun _ => ?_) (fun c9 => absurd (by decide) c9)
            refine lv_iload_n hx hb gX12_taken_4.2.2.2.2.1 rfl (lv_at0 hl) ?_
            refine lv_if_lt (tgt := 95) hx hb gX12_taken_4.2.2.2.2.2.1 (by decide) (fun c9 => absurd c9 (by decide)) (fun _ => ?_)
            refine lv_iload_n hx hb gX12_taken_4.2.2.2.2.2.2.1 rfl (lv_at0 hl) ?_
            refine lv_iload_n hx hb gX12_taken_4.2.2.2.2.2.2.2.1 rfl (lv_at3 hl) ?_
            refine lv_icmp_eq (tgt := 95) hx hb gX12_taken_4.2.2.2.2.2.2.2.2.1 (by decide) (fun c_84_5974 => ?_) (fun c_84_5974 => ?_)
            · refine lv_iload_n hx hb gX12_taken_5.2.2.2.1 rfl (lv_at0 hl) ?_
              refine lv_iload_n hx hb gX12_taken_5.2.2.2.2.1 rfl (lv_at3 hl) ?_
              refine lv_icmp_ne (tgt := 109) hx hb gX12_taken_5.2.2.2.2.2.1 (by decide) (fun c9 => absurd (c_84_5974) c9) (fun _ => ?_)
              refine lv_aload_n hx hb gX12_taken_5.2.2.2.2.2.2.1 rfl (lv_at1 hl) ?_
              refine gf_X12_75 hC rfl hK hP 0 rfl rfl gX12_taken_5.2.2.2.2.2.2.2.1 ?_
              refine lv_iload_n hx hb gX12_taken_5.2.2.2.2.2.2.2.2.1 rfl (lv_at2 hl) ?_
              refine aldN hC hK hP 3 rfl (k := jt) (by omega) (Nat.le_of_ble_eq_true rfl) (v := fnsf jt) rfl gX12_taken_5.2.2.2.2.2.2.2.2.2 ?_
              refine lv_goto (tgt := 111) hx hb gX12_taken_6.1 (by decide) ?_
              refine toQ hQ0 ?_
              exact RP (v := fnsf jt) hC ((by first | rfl | (simp only [nI_clamp (n := jt) (by omega), ifc_t ekq, ifc_t hkq, ifc_t ek8, ifc_t hk8, ifc_t ek9, ifc_t hk9, ifc_t hN, ifc_t a5873, ifc_f a5875, ifc_t a5929, ifc_f c_37_5930, ifc_t c_84_5974, ifc_t (q := Wi x2 0 6 ∨ Wi x2 10 14) (Or.inr a5929), a5932, ifc_f (q := (6 : Int32) < 0) (by decide), ifc_t (q := UNl (6 : Int32).toNatClampNeg x2) (show UNl 6 x2 from Or.inl (c_84_5974.symm))]; done) | (simp only [nI_clamp (n := jt) (by omega), ifc_t ekq, ifc_t hkq, ifc_t ek8, ifc_t hk8, ifc_t ek9, ifc_t hk9, ifc_t hN, ifc_t a5873, ifc_f a5875, ifc_t a5929, ifc_f c_37_5930, ifc_t c_84_5974, ifc_t (q := Wi x2 0 6 ∨ Wi x2 10 14) (Or.inr a5929), a5932, ifc_f (q := (6 : Int32) < 0) (by decide), ifc_t (q := UNl (6 : Int32).toNatClampNeg x2) (show UNl 6 x2 from Or.inl (c_84_5974.symm))]; rfl))) rfl gX12_taken_6.2.2
            · refine lv_iload_n hx hb gX12_taken_4.2.2.2.2.2.2.2.2.2 rfl (lv_at0 hl) ?_
              refine pS hC hK hl (m_above6 l G) si_X12_348 rfl rfl (Nat.le_of_ble_eq_true rfl) rm_4_1_1 ⟨by first | exact Nat.le_of_ble_eq_true rfl | exact Nat.zero_le _, by first | exact Nat.le_of_ble_eq_true rfl | exact Nat.zero_le _⟩ gX12_taken_5.1 (Keqr ?_)
              refine lv_istore_n (lv' := [(3, .int 0), (0, .ref h0), (1, .int (nI jt)), (2, .int x2)]) hx hb gX12_taken_5.2.1 rfl hl (by decide) rfl (fun ls hl => ?_)
              refine lv_goto (tgt := 78) hx hb gX12_taken_5.2.2.1 (by decide) ?_
              refine lv_iload_n hx hb gX12_taken_4.2.2.2.2.1 rfl (lv_at0 hl) ?_
              refine lv_if_lt (tgt := 95) hx hb gX12_taken_4.2.2.2.2.2.1 (by decide) (fun c9 => absurd c9 (by decide)) (fun _ => ?_)
              refine lv_iload_n hx hb gX12_taken_4.2.2.2.2.2.2.1 rfl (lv_at0 hl) ?_
              refine lv_iload_n hx hb gX12_taken_4.2.2.2.2.2.2.2.1 rfl (lv_at3 hl) ?_
              refine lv_icmp_eq (tgt := 95) hx hb gX12_taken_4.2.2.2.2.2.2.2.2.1 (by decide) (fun c_84_5977 => ?_) (fun c_84_5977 => ?_)
              · refine lv_iload_n hx hb gX12_taken_5.2.2.2.1 rfl (lv_at0 hl) ?_
                refine lv_iload_n hx hb gX12_taken_5.2.2.2.2.1 rfl (lv_at3 hl) ?_
                refine lv_icmp_ne (tgt := 109) hx hb gX12_taken_5.2.2.2.2.2.1 (by decide) (fun c9 => absurd (c_84_5977) c9) (fun _ => ?_)
                refine lv_aload_n hx hb gX12_taken_5.2.2.2.2.2.2.1 rfl (lv_at1 hl) ?_
                refine gf_X12_75 hC rfl hK hP 0 rfl rfl gX12_taken_5.2.2.2.2.2.2.2.1 ?_
                refine lv_iload_n hx hb gX12_taken_5.2.2.2.2.2.2.2.2.1 rfl (lv_at2 hl) ?_
                refine aldN hC hK hP 3 rfl (k := jt) (by omega) (Nat.le_of_ble_eq_true rfl) (v := fnsf jt) rfl gX12_taken_5.2.2.2.2.2.2.2.2.2 ?_
                refine lv_goto (tgt := 111) hx hb gX12_taken_6.1 (by decide) ?_
                refine toQ hQ0 ?_
                exact RP (v := fnsf jt) hC ((by first | rfl | (simp only [nI_clamp (n := jt) (by omega), ifc_t ekq, ifc_t hkq, ifc_t ek8, ifc_t hk8, ifc_t ek9, ifc_t hk9, ifc_t hN, ifc_t a5873, ifc_f a5875, ifc_t a5929, ifc_f c_37_5930, ifc_f c_84_5974, ifc_t c_84_5977, ifc_t (q := Wi x2 0 6 ∨ Wi x2 10 14) (Or.inr a5929), a5932, ifc_f (q := (6 : Int32) < 0) (by decide), ifc_t (q := UNl (6 : Int32).toNatClampNeg x2) (show UNl 6 x2 from Or.inr (c_84_5977.symm))]; done) | (simp only [nI_clamp (n := jt) (by omega), ifc_t ekq, ifc_t hkq, ifc_t ek8, ifc_t hk8, ifc_t ek9, ifc_t hk9, ifc_t hN, ifc_t a5873, ifc_f a5875, ifc_t a5929, ifc_f c_37_5930, ifc_f c_84_5974, ifc_t c_84_5977, ifc_t (q := Wi x2 0 6 ∨ Wi x2 10 14) (Or.inr a5929), a5932, ifc_f (q := (6 : Int32) < 0) (by decide), ifc_t (q := UNl (6 : Int32).toNatClampNeg x2) (show UNl 6 x2 from Or.inr (c_84_5977.symm))]; rfl))) rfl gX12_taken_6.2.2
              · refine lv_iload_n hx hb gX12_taken_4.2.2.2.2.2.2.2.2.2 rfl (lv_at0 hl) ?_
                refine pS hC hK hl (m_above0 l G) si_X12_348 rfl rfl (Nat.le_of_ble_eq_true rfl) rm_4_1_1 ⟨by first | exact Nat.le_of_ble_eq_true rfl | exact Nat.zero_le _, by first | exact Nat.le_of_ble_eq_true rfl | exact Nat.zero_le _⟩ gX12_taken_5.1 (Keqr ?_)
                refine lv_istore_n (lv' := [(3, .int (-1)), (0, .ref h0), (1, .int (nI jt)), (2, .int x2)]) hx hb gX12_taken_5.2.1 rfl hl (by decide) rfl (fun ls hl => ?_)
                refine lv_goto (tgt := 78) hx hb gX12_taken_5.2.2.1 (by decide) ?_
                refine lv_iload_n hx hb gX12_taken_4.2.2.2.2.1 rfl (lv_at0 hl) ?_
                refine lv_if_lt (tgt := 95) hx hb gX12_taken_4.2.2.2.2.2.1 (by decide) (fun _ => ?_) (fun c9 => absurd (by decide) c9)
                refine lv_iload_n hx hb gX12_taken_5.2.2.2.1 rfl (lv_at0 hl) ?_
                refine lv_iload_n hx hb gX12_taken_5.2.2.2.2.1 rfl (lv_at3 hl) ?_
                refine lv_icmp_ne (tgt := 109) hx hb gX12_taken_5.2.2.2.2.2.1 (by decide) (fun c_97_5980 => ?_) (fun c_97_5980 => ?_)
                · refine lv_bipush (v := (-13)) hx hb gX12_taken_6.2.1 (by decide) ?_
                  refine toQ hQ0 ?_
                  exact RP (v := (-13)) hC ((by first | rfl | (simp only [nI_clamp (n := jt) (by omega), ifc_t ekq, ifc_t hkq, ifc_t ek8, ifc_t hk8, ifc_t ek9, ifc_t hk9, ifc_t hN, ifc_t a5873, ifc_f a5875, ifc_t a5929, ifc_f c_37_5930, ifc_f c_84_5974, ifc_f c_84_5977, ifc_f c_97_5980, ifc_t (q := Wi x2 0 6 ∨ Wi x2 10 14) (Or.inr a5929), a5932, ifc_f (q := (6 : Int32) < 0) (by decide), ifc_f (q := UNl (6 : Int32).toNatClampNeg x2) (fun h9 => (show False from by have h7 : x2 = 6 ∨ x2 = 0 := h9; rcases h7 with h8 | h8 <;> (first | exact c_84_5974 h8.symm | exact c_84_5977 h8.symm)))]; done) | (simp only [nI_clamp (n := jt) (by omega), ifc_t ekq, ifc_t hkq, ifc_t ek8, ifc_t hk8, ifc_t ek9, ifc_t hk9, ifc_t hN, ifc_t a5873, ifc_f a5875, ifc_t a5929, ifc_f c_37_5930, ifc_f c_84_5974, ifc_f c_84_5977, ifc_f c_97_5980, ifc_t (q := Wi x2 0 6 ∨ Wi x2 10 14) (Or.inr a5929), a5932, ifc_f (q := (6 : Int32) < 0) (by decide), ifc_f (q := UNl (6 : Int32).toNatClampNeg x2) (fun h9 => (show False from by have h7 : x2 = 6 ∨ x2 = 0 := h9; rcases h7 with h8 | h8 <;> (first | exact c_84_5974 h8.symm | exact c_84_5977 h8.symm)))]; rfl))) rfl gX12_taken_6.2.2
                · refine lv_aload_n hx hb gX12_taken_5.2.2.2.2.2.2.1 rfl (lv_at1 hl) ?_
                  refine gf_X12_75 hC rfl hK hP 0 rfl rfl gX12_taken_5.2.2.2.2.2.2.2.1 ?_
                  refine lv_iload_n hx hb gX12_taken_5.2.2.2.2.2.2.2.2.1 rfl (lv_at2 hl) ?_
                  refine aldN hC hK hP 3 rfl (k := jt) (by omega) (Nat.le_of_ble_eq_true rfl) (v := fnsf jt) rfl gX12_taken_5.2.2.2.2.2.2.2.2.2 ?_
                  refine lv_goto (tgt := 111) hx hb gX12_taken_6.1 (by decide) ?_
                  refine toQ hQ0 ?_
                  exact RP (v := fnsf jt) hC ((absurd a5929 (by rw [← c_97_5980]; unfold Wi; decide))) rfl gX12_taken_6.2.2
        · refine lv_iload_n hx hb gX12_taken_2.2.1 rfl (lv_at2 hl) ?_
          refine lv_bipush (v := 10) hx hb gX12_taken_2.2.2.1 (by decide) ?_
          refine lv_isub hx hb gX12_taken_2.2.2.2.1 ?_
          refine lv_aload_n hx hb gX12_taken_2.2.2.2.2.1 rfl (lv_at0 hl) ?_
          refine gf_X12_75 hC rfl hK hP 0 rfl rfl gX12_taken_2.2.2.2.2.2.1 ?_
          refine lv_iload_n hx hb gX12_taken_2.2.2.2.2.2.2.1 rfl (lv_at1 hl) ?_
          refine aldN hC hK hP 3 rfl (k := jt) (by omega) (Nat.le_of_ble_eq_true rfl) (v := fnsf jt) rfl gX12_taken_2.2.2.2.2.2.2.2.1 ?_
          refine lv_icmp_ne (tgt := 62) hx hb gX12_taken_2.2.2.2.2.2.2.2.2.1 (by decide) (fun c_50_5981 => ?_) (fun c_50_5981 => ?_)
          · refine lv_bipush (v := (-13)) hx hb gX12_taken_3.2.2.2.2.1 (by decide) ?_
            refine toQ hQ0 ?_
            exact RP (v := (-13)) hC ((by first | rfl | (simp only [nI_clamp (n := jt) (by omega), ifc_t ekq, ifc_t hkq, ifc_t ek8, ifc_t hk8, ifc_t ek9, ifc_t hk9, ifc_t hN, ifc_t a5873, ifc_f a5875, ifc_t a5929, ifc_t c_37_5930, ifc_f c_50_5981, ifc_t (q := Wi x2 0 6 ∨ Wi x2 10 14) (Or.inr a5929)]; done) | (simp only [nI_clamp (n := jt) (by omega), ifc_t ekq, ifc_t hkq, ifc_t ek8, ifc_t hk8, ifc_t ek9, ifc_t hk9, ifc_t hN, ifc_t a5873, ifc_f a5875, ifc_t a5929, ifc_t c_37_5930, ifc_f c_50_5981, ifc_t (q := Wi x2 0 6 ∨ Wi x2 10 14) (Or.inr a5929)]; rfl))) rfl gX12_taken_3.2.2.2.2.2.1
          · refine lv_aload_n hx hb gX12_taken_2.2.2.2.2.2.2.2.2.2 rfl (lv_at0 hl) ?_
            refine gf_X12_78 hC rfl hK hP 0 rfl rfl gX12_taken_3.1 ?_
            refine lv_iload_n hx hb gX12_taken_3.2.1 rfl (lv_at1 hl) ?_
            refine aldN hC hK hP 4 rfl (k := jt) (by omega) (Nat.le_of_ble_eq_true rfl) (v := fnss jt) rfl gX12_taken_3.2.2.1 ?_
            refine lv_goto (tgt := 64) hx hb gX12_taken_3.2.2.2.1 (by decide) ?_
            refine toQ hQ0 ?_
            exact RP (v := fnss jt) hC ((by first | rfl | (simp only [nI_clamp (n := jt) (by omega), ifc_t ekq, ifc_t hkq, ifc_t ek8, ifc_t hk8, ifc_t ek9, ifc_t hk9, ifc_t hN, ifc_t a5873, ifc_f a5875, ifc_t a5929, ifc_t c_37_5930, ifc_t c_50_5981, ifc_t (q := Wi x2 0 6 ∨ Wi x2 10 14) (Or.inr a5929)]; done) | (simp only [nI_clamp (n := jt) (by omega), ifc_t ekq, ifc_t hkq, ifc_t ek8, ifc_t hk8, ifc_t ek9, ifc_t hk9, ifc_t hN, ifc_t a5873, ifc_f a5875, ifc_t a5929, ifc_t c_37_5930, ifc_t c_50_5981, ifc_t (q := Wi x2 0 6 ∨ Wi x2 10 14) (Or.inr a5929)]; rfl))) rfl gX12_taken_3.2.2.2.2.2.1
      · refine lv_if_ne (tgt := 30) hx hb gX12_taken_1.2.2.1 (by decide) (fun c9 => absurd (by decide) c9) (fun _ => ?_)
        refine lv_iconst (v := (-1)) hx hb gX12_taken_1.2.2.2.1 (by decide) ?_
        refine toQ hQ0 ?_
        exact RP (v := (-1)) hC ((by first | rfl | (simp only [ifc_t ekq, ifc_t hkq, ifc_t ek8, ifc_t hk8, ifc_t ek9, ifc_t hk9, ifc_t hN, ifc_t a5873, ifc_f a5875, ifc_f a5929, ifc_f (q := Wi x2 0 6 ∨ Wi x2 10 14) (not_or.mpr ⟨a5875, a5929⟩)]; done) | (simp only [ifc_t ekq, ifc_t hkq, ifc_t ek8, ifc_t hk8, ifc_t ek9, ifc_t hk9, ifc_t hN, ifc_t a5873, ifc_f a5875, ifc_f a5929, ifc_f (q := Wi x2 0 6 ∨ Wi x2 10 14) (not_or.mpr ⟨a5875, a5929⟩)]; rfl))) rfl gX12_taken_1.2.2.2.2.1
  · refine lv_if_eq (tgt := 28) hx hb gX12_taken_0.2.2.1 (by decide) (fun _ => ?_) (fun c9 => absurd (by decide) c9)
    refine lv_iconst (v := (-1)) hx hb gX12_taken_1.2.2.2.1 (by decide) ?_
    refine toQ hQ0 ?_
    exact RP (v := (-1)) hC ((by first | rfl | (simp only [ifc_t ekq, ifc_t hkq, ifc_t ek8, ifc_t hk8, ifc_t ek9, ifc_t hk9, ifc_t hN, ifc_f a5873]; done) | (simp only [ifc_t ekq, ifc_t hkq, ifc_t ek8, ifc_t hk8, ifc_t ek9, ifc_t hk9, ifc_t hN, ifc_f a5873]; rfl))) rfl gX12_taken_1.2.2.2.2.1
def K_m_began (l : Launch) (G : GG) (h0 : Nat) (bo : Int32) (nw : Nat) (nk : Nat) (mhasKept : Int32) (nt : Nat) (mtaped : Int32) (nr : Nat) (mrowMany : Int32) (mroundOf : Int32) (mroundFrom : Int32) (mouts : Int32) (nm : Nat) (mfromHour : Int32) (mtoHour : Int32) (ns : Nat) (mfrom : Int32) (mto : Int32) (msort : Int32) (misFault : Int32) (mdeep : Int32) (mcoded : Int32) (mlines : Int32) (nl : Nat) (nc : Nat) (nF : Nat) (np : Nat) (ntr : Nat) (nb : Nat) (mbestCost : Int32) (nso : Nat) (nsi : Nat) (nit : Nat) (nsh : Nat) (nsf : Nat) (nss : Nat) (nrc : Nat) (jr : Nat) (mdealer : Int32) (mnumber : Int32) (mwhose : Int32) (msize : Int32) (misParted : Int32) (fnrc : Nat → Int32) : Prop := MV l G yX12_began cX12_began 2 1 0 0 [.ref h0, .int bo] [(h0, oX12 nw nk mhasKept nt mtaped nr mrowMany mroundOf mroundFrom mouts nm mfromHour mtoHour ns mfrom mto msort misFault mdeep mcoded mlines nl nc nF np ntr nb mbestCost nso nsi nit nsh nsf nss nrc (nI jr) mdealer mnumber mwhose msize misParted), (nrc, iA G 30 fnrc)] (fun u : Nat × (Nat → Int32) => u.1 ≤ 30) (fun u : Nat × (Nat → Int32) => [(h0, oX12 nw nk mhasKept nt mtaped nr mrowMany mroundOf mroundFrom mouts nm mfromHour mtoHour ns mfrom mto msort misFault mdeep mcoded mlines nl nc nF np ntr nb mbestCost nso nsi nit nsh nsf nss nrc (nI u.1) mdealer mnumber mwhose msize misParted), (nrc, iA G 30 u.2)])
set_option maxHeartbeats 4000000 in
set_option maxRecDepth 100000 in
theorem m_began (l : Launch) (G : GG) (h0 : Nat) (bo : Int32) (nw : Nat) (nk : Nat) (mhasKept : Int32) (nt : Nat) (mtaped : Int32) (nr : Nat) (mrowMany : Int32) (mroundOf : Int32) (mroundFrom : Int32) (mouts : Int32) (nm : Nat) (mfromHour : Int32) (mtoHour : Int32) (ns : Nat) (mfrom : Int32) (mto : Int32) (msort : Int32) (misFault : Int32) (mdeep : Int32) (mcoded : Int32) (mlines : Int32) (nl : Nat) (nc : Nat) (nF : Nat) (np : Nat) (ntr : Nat) (nb : Nat) (mbestCost : Int32) (nso : Nat) (nsi : Nat) (nit : Nat) (nsh : Nat) (nsf : Nat) (nss : Nat) (nrc : Nat) (jr : Nat) (mdealer : Int32) (mnumber : Int32) (mwhose : Int32) (msize : Int32) (misParted : Int32) (fnrc : Nat → Int32) (hjr : jr ≤ 30) : K_m_began l G h0 bo nw nk mhasKept nt mtaped nr mrowMany mroundOf mroundFrom mouts nm mfromHour mtoHour ns mfrom mto msort misFault mdeep mcoded mlines nl nc nF np ntr nb mbestCost nso nsi nit nsh nsf nss nrc jr mdealer mnumber mwhose msize misParted fnrc := by
  refine MV.start (by decide +kernel) (Nat.le_of_ble_eq_true rfl) ?_
  intro p e s m below meth c A ls hC hK hP hD hS hA hl
  refine absQ (fun Q0 hQ0 => ?_)
  have hl : lv_has ls 2 [(0, .ref h0), (1, .int bo)] := hl
  refine Kan8 hC (fun hx hb hr hml hB hown hlocks hnm => ?_)
  refine lv_aload_n hx hb gX12_began_0.1 rfl (lv_at0 hl) ?_
  refine gf_X12_351 hC rfl hK hP 0 rfl rfl gX12_began_0.2.1 ?_
  refine lv_bipush (v := 30) hx hb gX12_began_0.2.2.1 (by decide) ?_
  refine lv_icmp_ge (tgt := 29) hx hb gX12_began_0.2.2.2.1 (by decide) (fun c_6_5982 => ?_) (fun c_6_5982 => ?_)
  · refine toQ hQ0 ?_
    exact RV hC hP hD hS [0, 1] (jr, fnrc) rfl rfl (by decide) (by omega) gX12_began_1.2.2.2.2.2.2
  · have hjr9 := nge_nat (R := 30) (k := jr) (by decide) (by omega) c_6_5982
    refine lv_aload_n hx hb gX12_began_0.2.2.2.2.1 rfl (lv_at0 hl) ?_
    refine gf_X12_81 hC rfl hK hP 0 rfl rfl gX12_began_0.2.2.2.2.2.1 ?_
    refine lv_aload_n hx hb gX12_began_0.2.2.2.2.2.2.1 rfl (lv_at0 hl) ?_
    refine gf_X12_351 hC rfl hK hP 0 rfl rfl gX12_began_0.2.2.2.2.2.2.2.1 ?_
    refine lv_iload_n hx hb gX12_began_0.2.2.2.2.2.2.2.2.1 rfl (lv_at1 hl) ?_
    refine astN hC hK hP hD hS 1 (ws' := [(h0, oX12 nw nk mhasKept nt mtaped nr mrowMany mroundOf mroundFrom mouts nm mfromHour mtoHour ns mfrom mto msort misFault mdeep mcoded mlines nl nc nF np ntr nb mbestCost nso nsi nit nsh nsf nss nrc (nI jr) mdealer mnumber mwhose msize misParted), (nrc, iA G 30 (upd fnrc jr bo))]) rfl (k := jr) (by omega) (Nat.le_of_ble_eq_true rfl) (rfl) gX12_began_0.2.2.2.2.2.2.2.2.2 (fun H locs hP hD hS => ?_)
    refine lv_aload_n hx hb gX12_began_1.1 rfl (lv_at0 hl) ?_
    refine lv_dup hx hb gX12_began_1.2.1 rfl ?_
    refine gf_X12_351 hC rfl hK hP 0 rfl rfl gX12_began_1.2.2.1 ?_
    refine lv_iconst (v := 1) hx hb gX12_began_1.2.2.2.1 (by decide) ?_
    refine lv_iadd hx hb gX12_began_1.2.2.2.2.1 ?_
    refine eqi (x1 := nI (jr + 1)) (nI_add jr 1) ?_
    refine pf_X12_351 hC rfl hK hP hD hS 0 (ws' := [(h0, oX12 nw nk mhasKept nt mtaped nr mrowMany mroundOf mroundFrom mouts nm mfromHour mtoHour ns mfrom mto msort misFault mdeep mcoded mlines nl nc nF np ntr nb mbestCost nso nsi nit nsh nsf nss nrc (nI (jr + 1)) mdealer mnumber mwhose msize misParted), (nrc, iA G 30 (upd fnrc jr bo))]) rfl (Nat.le_of_ble_eq_true rfl) rfl rfl rfl gX12_began_1.2.2.2.2.2.1 (fun H locs hP hD hS => ?_)
    refine toQ hQ0 ?_
    exact RV hC hP hD hS [0, 1] ((jr + 1), upd fnrc jr bo) rfl rfl (by decide) (by omega) gX12_began_1.2.2.2.2.2.2
def K_m_body00 (l : Launch) (G : GG) (h0 : Nat) (xx : Int32) (nw : Nat) (nk : Nat) (mhasKept : Int32) (nt : Nat) (mtaped : Int32) (nr : Nat) (mrowMany : Int32) (mroundOf : Int32) (mroundFrom : Int32) (mouts : Int32) (nm : Nat) (mfromHour : Int32) (mtoHour : Int32) (ns : Nat) (mfrom : Int32) (mto : Int32) (msort : Int32) (misFault : Int32) (mdeep : Int32) (mcoded : Int32) (mlines : Int32) (nl : Nat) (nc : Nat) (nF : Nat) (np : Nat) (ntr : Nat) (nb : Nat) (mbestCost : Int32) (nso : Nat) (nsi : Nat) (nit : Nat) (nsh : Nat) (nsf : Nat) (nss : Nat) (nrc : Nat) (jr : Nat) (jd : Nat) (mnumber : Int32) (mwhose : Int32) (msize : Int32) (misParted : Int32) (fnrc : Nat → Int32) : Prop := MI l G yX12_body cX12_body 6 (some .int) 3 0 0 [.ref h0, .int 0, .int 0, .int xx] [(h0, oX12 nw nk mhasKept nt mtaped nr mrowMany mroundOf mroundFrom mouts nm mfromHour mtoHour ns mfrom mto msort misFault mdeep mcoded mlines nl nc nF np ntr nb mbestCost nso nsi nit nsh nsf nss nrc (nI jr) (nI jd) mnumber mwhose msize misParted), (nrc, iA G 30 fnrc)] (fun (r : Int32) (u : Nat × Int32 × (Nat → Int32)) => (True) ∧ (u.1 ≤ 30)) (fun u : Nat × Int32 × (Nat → Int32) => [(h0, oX12 nw nk mhasKept nt mtaped nr mrowMany mroundOf mroundFrom mouts nm mfromHour mtoHour ns mfrom mto msort misFault mdeep mcoded mlines nl nc nF np ntr nb mbestCost nso nsi nit nsh nsf nss nrc (nI u.1) (nI jd) mnumber mwhose msize u.2.1), (nrc, iA G 30 u.2.2)])
set_option maxHeartbeats 4000000 in
set_option maxRecDepth 100000 in
theorem m_body00 (l : Launch) (G : GG) (h0 : Nat) (xx : Int32) (nw : Nat) (nk : Nat) (mhasKept : Int32) (nt : Nat) (mtaped : Int32) (nr : Nat) (mrowMany : Int32) (mroundOf : Int32) (mroundFrom : Int32) (mouts : Int32) (nm : Nat) (mfromHour : Int32) (mtoHour : Int32) (ns : Nat) (mfrom : Int32) (mto : Int32) (msort : Int32) (misFault : Int32) (mdeep : Int32) (mcoded : Int32) (mlines : Int32) (nl : Nat) (nc : Nat) (nF : Nat) (np : Nat) (ntr : Nat) (nb : Nat) (mbestCost : Int32) (nso : Nat) (nsi : Nat) (nit : Nat) (nsh : Nat) (nsf : Nat) (nss : Nat) (nrc : Nat) (jr : Nat) (jd : Nat) (mnumber : Int32) (mwhose : Int32) (msize : Int32) (misParted : Int32) (fnrc : Nat → Int32) (hjr : jr ≤ 30) (hjd : jd < 7) : K_m_body00 l G h0 xx nw nk mhasKept nt mtaped nr mrowMany mroundOf mroundFrom mouts nm mfromHour mtoHour ns mfrom mto msort misFault mdeep mcoded mlines nl nc nF np ntr nb mbestCost nso nsi nit nsh nsf nss nrc jr jd mnumber mwhose msize misParted fnrc := by
  refine MI.start (by decide +kernel) (Nat.le_of_ble_eq_true rfl) ?_
  intro p e s m below meth c A ls hC hK hP hD hS hA hl
  refine absQ (fun Q0 hQ0 => ?_)
  have hl : lv_has ls 6 [(0, .ref h0), (1, .int 0), (2, .int 0), (3, .int xx)] := hl
  refine Kan8 hC (fun hx hb hr hml hB hown hlocks hnm => ?_)
  refine lv_iconst (v := 4) hx hb gX12_body_0.1 (by decide) ?_
  refine lv_iload_n hx hb gX12_body_0.2.1 rfl (lv_at1 hl) ?_
  refine lv_imul hx hb gX12_body_0.2.2.1 ?_
  refine eqi (x1 := 0) (by decide) ?_
  refine lv_iload_n hx hb gX12_body_0.2.2.2.1 rfl (lv_at2 hl) ?_
  refine lv_iadd hx hb gX12_body_0.2.2.2.2.1 ?_
  refine eqi (x1 := 0) (by decide) ?_
  refine lv_tableIn (tgt := 112) hx hb gX12_body_0.2.2.2.2.2.1 (by decide) (by decide) rfl (by decide) ?_
  refine lv_aload_n hx hb gX12_body_0.2.2.2.2.2.2.1 rfl (lv_at0 hl) ?_
  refine lv_bipush (v := 10) hx hb gX12_body_0.2.2.2.2.2.2.2.1 (by decide) ?_
  refine vV (wr := []) hC hK hl hP hD hS hA (m_began l G h0 10 nw nk mhasKept nt mtaped nr mrowMany mroundOf mroundFrom mouts nm mfromHour mtoHour ns mfrom mto msort misFault mdeep mcoded mlines nl nc nF np ntr nb mbestCost nso nsi nit nsh nsf nss nrc jr (nI jd) mnumber mwhose msize misParted fnrc (hjr)) si_X12_366 [0, 1] [] sm_0_1 fm_0_1 nd_0_1 rfl rfl (by decide) rfl rfl rfl rfl rfl (Nat.le_of_ble_eq_true rfl) rm_3_1_2 ⟨Nat.le_of_ble_eq_true rfl, Nat.le_of_ble_eq_true rfl⟩ gX12_body_0.2.2.2.2.2.2.2.2.1 (Ktu2 fun jr15985 gtrc5986 => ?_)
  intro H locs hr5983 hP hD hS
  try dsimp only at hr5983
  refine Kpdr (ws := [(h0, oX12 nw nk mhasKept nt mtaped nr mrowMany mroundOf mroundFrom mouts nm mfromHour mtoHour ns mfrom mto msort misFault mdeep mcoded mlines nl nc nF np ntr nb mbestCost nso nsi nit nsh nsf nss nrc (nI jr15985) (nI jd) mnumber mwhose msize misParted), (nrc, iA G 30 gtrc5986)]) hP hD (fun hP hD => ?_)
  have w5987 := hr5983
  refine lv_iload_n hx hb gX12_body_0.2.2.2.2.2.2.2.2.2 rfl (lv_at3 hl) ?_
  refine lv_aload_n hx hb gX12_body_1.1 rfl (lv_at0 hl) ?_
  refine gf_X12_369 hC rfl hK hP 0 rfl rfl gX12_body_1.2.1 ?_
  refine lv_iadd hx hb gX12_body_1.2.2.1 ?_
  refine toQ hQ0 ?_
  exact RI (v := xx + msize) hC hP hD hS [0, 1] (jr15985, misParted, gtrc5986) rfl rfl (by decide) (⟨trivial, by omega⟩) rfl gX12_body_1.2.2.2.1
def K_m_from00 (l : Launch) (G : GG) (h0 : Nat) (xx : Int32) (nw : Nat) (nk : Nat) (mhasKept : Int32) (nt : Nat) (mtaped : Int32) (nr : Nat) (mrowMany : Int32) (mroundOf : Int32) (mroundFrom : Int32) (mouts : Int32) (nm : Nat) (mfromHour : Int32) (mtoHour : Int32) (ns : Nat) (mfrom : Int32) (mto : Int32) (msort : Int32) (misFault : Int32) (mdeep : Int32) (mcoded : Int32) (mlines : Int32) (nl : Nat) (nc : Nat) (nF : Nat) (np : Nat) (ntr : Nat) (nb : Nat) (mbestCost : Int32) (nso : Nat) (nsi : Nat) (nit : Nat) (nsh : Nat) (nsf : Nat) (nss : Nat) (nrc : Nat) (jr : Nat) (jd : Nat) (mnumber : Int32) (mwhose : Int32) (msize : Int32) (misParted : Int32) (fnrc : Nat → Int32) : Prop := MI l G yX12_bodyFrom cX12_bodyFrom 5 (some .int) 4 0 0 [.ref h0, .int 0, .int 0, .int xx] [(h0, oX12 nw nk mhasKept nt mtaped nr mrowMany mroundOf mroundFrom mouts nm mfromHour mtoHour ns mfrom mto msort misFault mdeep mcoded mlines nl nc nF np ntr nb mbestCost nso nsi nit nsh nsf nss nrc (nI jr) (nI jd) mnumber mwhose msize misParted), (nrc, iA G 30 fnrc)] (fun (r : Int32) (u : Nat × Int32 × (Nat → Int32)) => (True) ∧ (u.1 ≤ 30)) (fun u : Nat × Int32 × (Nat → Int32) => [(h0, oX12 nw nk mhasKept nt mtaped nr mrowMany mroundOf mroundFrom mouts nm mfromHour mtoHour ns mfrom mto msort misFault mdeep mcoded mlines nl nc nF np ntr nb mbestCost nso nsi nit nsh nsf nss nrc (nI u.1) (nI jd) mnumber mwhose msize u.2.1), (nrc, iA G 30 u.2.2)])
set_option maxHeartbeats 4000000 in
set_option maxRecDepth 100000 in
theorem m_from00 (l : Launch) (G : GG) (h0 : Nat) (xx : Int32) (nw : Nat) (nk : Nat) (mhasKept : Int32) (nt : Nat) (mtaped : Int32) (nr : Nat) (mrowMany : Int32) (mroundOf : Int32) (mroundFrom : Int32) (mouts : Int32) (nm : Nat) (mfromHour : Int32) (mtoHour : Int32) (ns : Nat) (mfrom : Int32) (mto : Int32) (msort : Int32) (misFault : Int32) (mdeep : Int32) (mcoded : Int32) (mlines : Int32) (nl : Nat) (nc : Nat) (nF : Nat) (np : Nat) (ntr : Nat) (nb : Nat) (mbestCost : Int32) (nso : Nat) (nsi : Nat) (nit : Nat) (nsh : Nat) (nsf : Nat) (nss : Nat) (nrc : Nat) (jr : Nat) (jd : Nat) (mnumber : Int32) (mwhose : Int32) (msize : Int32) (misParted : Int32) (fnrc : Nat → Int32) (hjr : jr ≤ 30) (hjd : jd < 7) : K_m_from00 l G h0 xx nw nk mhasKept nt mtaped nr mrowMany mroundOf mroundFrom mouts nm mfromHour mtoHour ns mfrom mto msort misFault mdeep mcoded mlines nl nc nF np ntr nb mbestCost nso nsi nit nsh nsf nss nrc jr jd mnumber mwhose msize misParted fnrc := by
  refine MI.start (by decide +kernel) (Nat.le_of_ble_eq_true rfl) ?_
  intro p e s m below meth c A ls hC hK hP hD hS hA hl
  refine absQ (fun Q0 hQ0 => ?_)
  have hl : lv_has ls 5 [(0, .ref h0), (1, .int 0), (2, .int 0), (3, .int xx)] := hl
  refine Kan8 hC (fun hx hb hr hml hB hown hlocks hnm => ?_)
  refine lv_iload_n hx hb gX12_bodyFrom_0.1 rfl (lv_at1 hl) ?_
  refine lv_istore (lv' := [(4, .int 0), (0, .ref h0), (1, .int 0), (2, .int 0), (3, .int xx)]) hx hb gX12_bodyFrom_0.2.1 hl (by decide) rfl (fun ls hl => ?_)
  refine lv_iload hx hb gX12_bodyFrom_0.2.2.1 (lv_at0 hl) ?_
  refine lv_iload_n hx hb gX12_bodyFrom_0.2.2.2.1 rfl (lv_at3 hl) ?_
  refine pS hC hK hl (m_hasOwn00 l G) si_X12_360 rfl rfl (Nat.le_of_ble_eq_true rfl) rm_4_1_2 ⟨by first | exact Nat.le_of_ble_eq_true rfl | exact Nat.zero_le _, by first | exact Nat.le_of_ble_eq_true rfl | exact Nat.zero_le _⟩ gX12_bodyFrom_0.2.2.2.2.1 (Keqr ?_)
  refine lv_if_ne (tgt := 22) hx hb gX12_bodyFrom_0.2.2.2.2.2.1 (by decide) (fun _ => ?_) (fun c9 => absurd c9 (by decide))
  refine lv_aload_n hx hb gX12_bodyFrom_1.1 rfl (lv_at1 hl) ?_
  refine lv_iload hx hb gX12_bodyFrom_1.2.1 (lv_at0 hl) ?_
  refine lv_iload_n hx hb gX12_bodyFrom_1.2.2.1 rfl (lv_at3 hl) ?_
  refine lv_iload_n hx hb gX12_bodyFrom_1.2.2.2.1 rfl (lv_at4 hl) ?_
  refine iV (wr := []) hC hK hl hP hD hS hA (m_body00 l G h0 xx nw nk mhasKept nt mtaped nr mrowMany mroundOf mroundFrom mouts nm mfromHour mtoHour ns mfrom mto msort misFault mdeep mcoded mlines nl nc nF np ntr nb mbestCost nso nsi nit nsh nsf nss nrc jr jd mnumber mwhose msize misParted fnrc (hjr) (hjd)) si_X12_363 [0, 1] [] sm_0_1 fm_0_1 nd_0_1 rfl rfl (by decide) rfl rfl rfl rfl rfl (Nat.le_of_ble_eq_true rfl) rm_4_3_6 ⟨Nat.le_of_ble_eq_true rfl, Nat.le_of_ble_eq_true rfl⟩ gX12_bodyFrom_1.2.2.2.2.1 (fun r5990 => Ktu3 fun jr15992 ip15993 gtrc5994 => ?_)
  intro H locs hr5990 hP hD hS
  try dsimp only at hr5990
  refine Kpdr (ws := [(h0, oX12 nw nk mhasKept nt mtaped nr mrowMany mroundOf mroundFrom mouts nm mfromHour mtoHour ns mfrom mto msort misFault mdeep mcoded mlines nl nc nF np ntr nb mbestCost nso nsi nit nsh nsf nss nrc (nI jr15992) (nI jd) mnumber mwhose msize ip15993), (nrc, iA G 30 gtrc5994)]) hP hD (fun hP hD => ?_)
  obtain ⟨hr5990, w5995⟩ := hr5990
  refine toQ hQ0 ?_
  exact RI (v := r5990) hC hP hD hS [0, 1] (jr15992, ip15993, gtrc5994) rfl rfl (by decide) (⟨trivial, by omega⟩) rfl gX12_bodyFrom_1.2.2.2.2.2
def K_m_body40 (l : Launch) (G : GG) (h0 : Nat) (xx : Int32) (nw : Nat) (nk : Nat) (mhasKept : Int32) (nt : Nat) (mtaped : Int32) (nr : Nat) (mrowMany : Int32) (mroundOf : Int32) (mroundFrom : Int32) (mouts : Int32) (nm : Nat) (mfromHour : Int32) (mtoHour : Int32) (ns : Nat) (mfrom : Int32) (mto : Int32) (msort : Int32) (misFault : Int32) (mdeep : Int32) (mcoded : Int32) (mlines : Int32) (nl : Nat) (nc : Nat) (nF : Nat) (np : Nat) (ntr : Nat) (nb : Nat) (mbestCost : Int32) (nso : Nat) (nsi : Nat) (nit : Nat) (nsh : Nat) (nsf : Nat) (nss : Nat) (nrc : Nat) (jr : Nat) (jd : Nat) (mnumber : Int32) (mwhose : Int32) (msize : Int32) (misParted : Int32) (fnrc : Nat → Int32) : Prop := MI l G yX12_body cX12_body 6 (some .int) 5 0 0 [.ref h0, .int 4, .int 0, .int xx] [(h0, oX12 nw nk mhasKept nt mtaped nr mrowMany mroundOf mroundFrom mouts nm mfromHour mtoHour ns mfrom mto msort misFault mdeep mcoded mlines nl nc nF np ntr nb mbestCost nso nsi nit nsh nsf nss nrc (nI jr) (nI jd) mnumber mwhose msize misParted), (nrc, iA G 30 fnrc)] (fun (r : Int32) (u : Nat × Int32 × (Nat → Int32)) => (True) ∧ (u.1 ≤ 30)) (fun u : Nat × Int32 × (Nat → Int32) => [(h0, oX12 nw nk mhasKept nt mtaped nr mrowMany mroundOf mroundFrom mouts nm mfromHour mtoHour ns mfrom mto msort misFault mdeep mcoded mlines nl nc nF np ntr nb mbestCost nso nsi nit nsh nsf nss nrc (nI u.1) (nI jd) mnumber mwhose msize u.2.1), (nrc, iA G 30 u.2.2)])
set_option maxHeartbeats 4000000 in
set_option maxRecDepth 100000 in
theorem m_body40 (l : Launch) (G : GG) (h0 : Nat) (xx : Int32) (nw : Nat) (nk : Nat) (mhasKept : Int32) (nt : Nat) (mtaped : Int32) (nr : Nat) (mrowMany : Int32) (mroundOf : Int32) (mroundFrom : Int32) (mouts : Int32) (nm : Nat) (mfromHour : Int32) (mtoHour : Int32) (ns : Nat) (mfrom : Int32) (mto : Int32) (msort : Int32) (misFault : Int32) (mdeep : Int32) (mcoded : Int32) (mlines : Int32) (nl : Nat) (nc : Nat) (nF : Nat) (np : Nat) (ntr : Nat) (nb : Nat) (mbestCost : Int32) (nso : Nat) (nsi : Nat) (nit : Nat) (nsh : Nat) (nsf : Nat) (nss : Nat) (nrc : Nat) (jr : Nat) (jd : Nat) (mnumber : Int32) (mwhose : Int32) (msize : Int32) (misParted : Int32) (fnrc : Nat → Int32) (hjr : jr ≤ 30) (hjd : jd < 7) : K_m_body40 l G h0 xx nw nk mhasKept nt mtaped nr mrowMany mroundOf mroundFrom mouts nm mfromHour mtoHour ns mfrom mto msort misFault mdeep mcoded mlines nl nc nF np ntr nb mbestCost nso nsi nit nsh nsf nss nrc jr jd mnumber mwhose msize misParted fnrc := by
  refine MI.start (by decide +kernel) (Nat.le_of_ble_eq_true rfl) ?_
  intro p e s m below meth c A ls hC hK hP hD hS hA hl
  refine absQ (fun Q0 hQ0 => ?_)
  have hl : lv_has ls 6 [(0, .ref h0), (1, .int 4), (2, .int 0), (3, .int xx)] := hl
  refine Kan8 hC (fun hx hb hr hml hB hown hlocks hnm => ?_)
  refine lv_iconst (v := 4) hx hb gX12_body_0.1 (by decide) ?_
  refine lv_iload_n hx hb gX12_body_0.2.1 rfl (lv_at1 hl) ?_
  refine lv_imul hx hb gX12_body_0.2.2.1 ?_
  refine eqi (x1 := 16) (by decide) ?_
  refine lv_iload_n hx hb gX12_body_0.2.2.2.1 rfl (lv_at2 hl) ?_
  refine lv_iadd hx hb gX12_body_0.2.2.2.2.1 ?_
  refine eqi (x1 := 16) (by decide) ?_
  refine lv_tableIn (tgt := 274) hx hb gX12_body_0.2.2.2.2.2.1 (by decide) (by decide) rfl (by decide) ?_
  refine lv_aload_n hx hb gX12_body_10.2.2.2.2.2.2.1 rfl (lv_at0 hl) ?_
  refine lv_bipush (v := 50) hx hb gX12_body_10.2.2.2.2.2.2.2.1 (by decide) ?_
  refine vV (wr := []) hC hK hl hP hD hS hA (m_began l G h0 50 nw nk mhasKept nt mtaped nr mrowMany mroundOf mroundFrom mouts nm mfromHour mtoHour ns mfrom mto msort misFault mdeep mcoded mlines nl nc nF np ntr nb mbestCost nso nsi nit nsh nsf nss nrc jr (nI jd) mnumber mwhose msize misParted fnrc (hjr)) si_X12_366 [0, 1] [] sm_0_1 fm_0_1 nd_0_1 rfl rfl (by decide) rfl rfl rfl rfl rfl (Nat.le_of_ble_eq_true rfl) rm_5_1_2 ⟨Nat.le_of_ble_eq_true rfl, Nat.le_of_ble_eq_true rfl⟩ gX12_body_10.2.2.2.2.2.2.2.2.1 (Ktu2 fun jr15998 gtrc5999 => ?_)
  intro H locs hr5996 hP hD hS
  try dsimp only at hr5996
  refine Kpdr (ws := [(h0, oX12 nw nk mhasKept nt mtaped nr mrowMany mroundOf mroundFrom mouts nm mfromHour mtoHour ns mfrom mto msort misFault mdeep mcoded mlines nl nc nF np ntr nb mbestCost nso nsi nit nsh nsf nss nrc (nI jr15998) (nI jd) mnumber mwhose msize misParted), (nrc, iA G 30 gtrc5999)]) hP hD (fun hP hD => ?_)
  have w6000 := hr5996
  refine lv_aload_n hx hb gX12_body_10.2.2.2.2.2.2.2.2.2 rfl (lv_at0 hl) ?_
  refine lv_iconst (v := 0) hx hb gX12_body_11.1 (by decide) ?_
  refine lv_iconst (v := 0) hx hb gX12_body_11.2.1 (by decide) ?_
  refine lv_iload_n hx hb gX12_body_11.2.2.1 rfl (lv_at3 hl) ?_
  refine iV (wr := []) hC hK hl hP hD hS hA (m_from00 l G h0 xx nw nk mhasKept nt mtaped nr mrowMany mroundOf mroundFrom mouts nm mfromHour mtoHour ns mfrom mto msort misFault mdeep mcoded mlines nl nc nF np ntr nb mbestCost nso nsi nit nsh nsf nss nrc jr15998 jd mnumber mwhose msize misParted gtrc5999 (w6000) (hjd)) si_X12_357 [0, 1] [] sm_0_1 fm_0_1 nd_0_1 rfl rfl (by decide) rfl rfl rfl rfl rfl (Nat.le_of_ble_eq_true rfl) rm_5_4_5 ⟨Nat.le_of_ble_eq_true rfl, Nat.le_of_ble_eq_true rfl⟩ gX12_body_11.2.2.2.1 (fun r6001 => Ktu3 fun jr16003 ip16004 gtrc6005 => ?_)
  intro H locs hr6001 hP hD hS
  try dsimp only at hr6001
  refine Kpdr (ws := [(h0, oX12 nw nk mhasKept nt mtaped nr mrowMany mroundOf mroundFrom mouts nm mfromHour mtoHour ns mfrom mto msort misFault mdeep mcoded mlines nl nc nF np ntr nb mbestCost nso nsi nit nsh nsf nss nrc (nI jr16003) (nI jd) mnumber mwhose msize ip16004), (nrc, iA G 30 gtrc6005)]) hP hD (fun hP hD => ?_)
  obtain ⟨hr6001, w6006⟩ := hr6001
  refine lv_aload_n hx hb gX12_body_11.2.2.2.2.1 rfl (lv_at0 hl) ?_
  refine gf_X12_378 hC rfl hK hP 0 rfl rfl gX12_body_11.2.2.2.2.2.1 ?_
  refine lv_isub hx hb gX12_body_11.2.2.2.2.2.2.1 ?_
  refine toQ hQ0 ?_
  exact RI (v := r6001 - mnumber) hC hP hD hS [0, 1] (jr16003, ip16004, gtrc6005) rfl rfl (by decide) (⟨trivial, by omega⟩) rfl gX12_body_11.2.2.2.2.2.2.2.1
def K_m_from40 (l : Launch) (G : GG) (h0 : Nat) (xx : Int32) (nw : Nat) (nk : Nat) (mhasKept : Int32) (nt : Nat) (mtaped : Int32) (nr : Nat) (mrowMany : Int32) (mroundOf : Int32) (mroundFrom : Int32) (mouts : Int32) (nm : Nat) (mfromHour : Int32) (mtoHour : Int32) (ns : Nat) (mfrom : Int32) (mto : Int32) (msort : Int32) (misFault : Int32) (mdeep : Int32) (mcoded : Int32) (mlines : Int32) (nl : Nat) (nc : Nat) (nF : Nat) (np : Nat) (ntr : Nat) (nb : Nat) (mbestCost : Int32) (nso : Nat) (nsi : Nat) (nit : Nat) (nsh : Nat) (nsf : Nat) (nss : Nat) (nrc : Nat) (jr : Nat) (jd : Nat) (mnumber : Int32) (mwhose : Int32) (msize : Int32) (misParted : Int32) (fnrc : Nat → Int32) : Prop := MI l G yX12_bodyFrom cX12_bodyFrom 5 (some .int) 6 0 0 [.ref h0, .int 4, .int 0, .int xx] [(h0, oX12 nw nk mhasKept nt mtaped nr mrowMany mroundOf mroundFrom mouts nm mfromHour mtoHour ns mfrom mto msort misFault mdeep mcoded mlines nl nc nF np ntr nb mbestCost nso nsi nit nsh nsf nss nrc (nI jr) (nI jd) mnumber mwhose msize misParted), (nrc, iA G 30 fnrc)] (fun (r : Int32) (u : Nat × Int32 × (Nat → Int32)) => (True) ∧ (u.1 ≤ 30)) (fun u : Nat × Int32 × (Nat → Int32) => [(h0, oX12 nw nk mhasKept nt mtaped nr mrowMany mroundOf mroundFrom mouts nm mfromHour mtoHour ns mfrom mto msort misFault mdeep mcoded mlines nl nc nF np ntr nb mbestCost nso nsi nit nsh nsf nss nrc (nI u.1) (nI jd) mnumber mwhose msize u.2.1), (nrc, iA G 30 u.2.2)])
set_option maxHeartbeats 4000000 in
set_option maxRecDepth 100000 in
theorem m_from40 (l : Launch) (G : GG) (h0 : Nat) (xx : Int32) (nw : Nat) (nk : Nat) (mhasKept : Int32) (nt : Nat) (mtaped : Int32) (nr : Nat) (mrowMany : Int32) (mroundOf : Int32) (mroundFrom : Int32) (mouts : Int32) (nm : Nat) (mfromHour : Int32) (mtoHour : Int32) (ns : Nat) (mfrom : Int32) (mto : Int32) (msort : Int32) (misFault : Int32) (mdeep : Int32) (mcoded : Int32) (mlines : Int32) (nl : Nat) (nc : Nat) (nF : Nat) (np : Nat) (ntr : Nat) (nb : Nat) (mbestCost : Int32) (nso : Nat) (nsi : Nat) (nit : Nat) (nsh : Nat) (nsf : Nat) (nss : Nat) (nrc : Nat) (jr : Nat) (jd : Nat) (mnumber : Int32) (mwhose : Int32) (msize : Int32) (misParted : Int32) (fnrc : Nat → Int32) (hjr : jr ≤ 30) (hjd : jd < 7) : K_m_from40 l G h0 xx nw nk mhasKept nt mtaped nr mrowMany mroundOf mroundFrom mouts nm mfromHour mtoHour ns mfrom mto msort misFault mdeep mcoded mlines nl nc nF np ntr nb mbestCost nso nsi nit nsh nsf nss nrc jr jd mnumber mwhose msize misParted fnrc := by
  refine MI.start (by decide +kernel) (Nat.le_of_ble_eq_true rfl) ?_
  intro p e s m below meth c A ls hC hK hP hD hS hA hl
  refine absQ (fun Q0 hQ0 => ?_)
  have hl : lv_has ls 5 [(0, .ref h0), (1, .int 4), (2, .int 0), (3, .int xx)] := hl
  refine Kan8 hC (fun hx hb hr hml hB hown hlocks hnm => ?_)
  refine lv_iload_n hx hb gX12_bodyFrom_0.1 rfl (lv_at1 hl) ?_
  refine lv_istore (lv' := [(4, .int 4), (0, .ref h0), (1, .int 4), (2, .int 0), (3, .int xx)]) hx hb gX12_bodyFrom_0.2.1 hl (by decide) rfl (fun ls hl => ?_)
  refine lv_iload hx hb gX12_bodyFrom_0.2.2.1 (lv_at0 hl) ?_
  refine lv_iload_n hx hb gX12_bodyFrom_0.2.2.2.1 rfl (lv_at3 hl) ?_
  refine pS hC hK hl (m_hasOwn40 l G) si_X12_360 rfl rfl (Nat.le_of_ble_eq_true rfl) rm_6_1_2 ⟨by first | exact Nat.le_of_ble_eq_true rfl | exact Nat.zero_le _, by first | exact Nat.le_of_ble_eq_true rfl | exact Nat.zero_le _⟩ gX12_bodyFrom_0.2.2.2.2.1 (Keqr ?_)
  refine lv_if_ne (tgt := 22) hx hb gX12_bodyFrom_0.2.2.2.2.2.1 (by decide) (fun _ => ?_) (fun c9 => absurd c9 (by decide))
  refine lv_aload_n hx hb gX12_bodyFrom_1.1 rfl (lv_at1 hl) ?_
  refine lv_iload hx hb gX12_bodyFrom_1.2.1 (lv_at0 hl) ?_
  refine lv_iload_n hx hb gX12_bodyFrom_1.2.2.1 rfl (lv_at3 hl) ?_
  refine lv_iload_n hx hb gX12_bodyFrom_1.2.2.2.1 rfl (lv_at4 hl) ?_
  refine iV (wr := []) hC hK hl hP hD hS hA (m_body40 l G h0 xx nw nk mhasKept nt mtaped nr mrowMany mroundOf mroundFrom mouts nm mfromHour mtoHour ns mfrom mto msort misFault mdeep mcoded mlines nl nc nF np ntr nb mbestCost nso nsi nit nsh nsf nss nrc jr jd mnumber mwhose msize misParted fnrc (hjr) (hjd)) si_X12_363 [0, 1] [] sm_0_1 fm_0_1 nd_0_1 rfl rfl (by decide) rfl rfl rfl rfl rfl (Nat.le_of_ble_eq_true rfl) rm_6_5_6 ⟨Nat.le_of_ble_eq_true rfl, Nat.le_of_ble_eq_true rfl⟩ gX12_bodyFrom_1.2.2.2.2.1 (fun r6009 => Ktu3 fun jr16011 ip16012 gtrc6013 => ?_)
  intro H locs hr6009 hP hD hS
  try dsimp only at hr6009
  refine Kpdr (ws := [(h0, oX12 nw nk mhasKept nt mtaped nr mrowMany mroundOf mroundFrom mouts nm mfromHour mtoHour ns mfrom mto msort misFault mdeep mcoded mlines nl nc nF np ntr nb mbestCost nso nsi nit nsh nsf nss nrc (nI jr16011) (nI jd) mnumber mwhose msize ip16012), (nrc, iA G 30 gtrc6013)]) hP hD (fun hP hD => ?_)
  obtain ⟨hr6009, w6014⟩ := hr6009
  refine toQ hQ0 ?_
  exact RI (v := r6009) hC hP hD hS [0, 1] (jr16011, ip16012, gtrc6013) rfl rfl (by decide) (⟨trivial, by omega⟩) rfl gX12_bodyFrom_1.2.2.2.2.2
def K_m_body50 (l : Launch) (G : GG) (h0 : Nat) (xx : Int32) (nw : Nat) (nk : Nat) (mhasKept : Int32) (nt : Nat) (mtaped : Int32) (nr : Nat) (mrowMany : Int32) (mroundOf : Int32) (mroundFrom : Int32) (mouts : Int32) (nm : Nat) (mfromHour : Int32) (mtoHour : Int32) (ns : Nat) (mfrom : Int32) (mto : Int32) (msort : Int32) (misFault : Int32) (mdeep : Int32) (mcoded : Int32) (mlines : Int32) (nl : Nat) (nc : Nat) (nF : Nat) (np : Nat) (ntr : Nat) (nb : Nat) (mbestCost : Int32) (nso : Nat) (nsi : Nat) (nit : Nat) (nsh : Nat) (nsf : Nat) (nss : Nat) (nrc : Nat) (jr : Nat) (jd : Nat) (mnumber : Int32) (mwhose : Int32) (msize : Int32) (misParted : Int32) (fnrc : Nat → Int32) : Prop := MI l G yX12_body cX12_body 6 (some .int) 7 0 0 [.ref h0, .int 5, .int 0, .int xx] [(h0, oX12 nw nk mhasKept nt mtaped nr mrowMany mroundOf mroundFrom mouts nm mfromHour mtoHour ns mfrom mto msort misFault mdeep mcoded mlines nl nc nF np ntr nb mbestCost nso nsi nit nsh nsf nss nrc (nI jr) (nI jd) mnumber mwhose msize misParted), (nrc, iA G 30 fnrc)] (fun (r : Int32) (u : Nat × Int32 × (Nat → Int32)) => (True) ∧ (u.1 ≤ 30)) (fun u : Nat × Int32 × (Nat → Int32) => [(h0, oX12 nw nk mhasKept nt mtaped nr mrowMany mroundOf mroundFrom mouts nm mfromHour mtoHour ns mfrom mto msort misFault mdeep mcoded mlines nl nc nF np ntr nb mbestCost nso nsi nit nsh nsf nss nrc (nI u.1) (nI jd) mnumber mwhose msize u.2.1), (nrc, iA G 30 u.2.2)])
set_option maxHeartbeats 4000000 in
set_option maxRecDepth 100000 in
theorem m_body50 (l : Launch) (G : GG) (h0 : Nat) (xx : Int32) (nw : Nat) (nk : Nat) (mhasKept : Int32) (nt : Nat) (mtaped : Int32) (nr : Nat) (mrowMany : Int32) (mroundOf : Int32) (mroundFrom : Int32) (mouts : Int32) (nm : Nat) (mfromHour : Int32) (mtoHour : Int32) (ns : Nat) (mfrom : Int32) (mto : Int32) (msort : Int32) (misFault : Int32) (mdeep : Int32) (mcoded : Int32) (mlines : Int32) (nl : Nat) (nc : Nat) (nF : Nat) (np : Nat) (ntr : Nat) (nb : Nat) (mbestCost : Int32) (nso : Nat) (nsi : Nat) (nit : Nat) (nsh : Nat) (nsf : Nat) (nss : Nat) (nrc : Nat) (jr : Nat) (jd : Nat) (mnumber : Int32) (mwhose : Int32) (msize : Int32) (misParted : Int32) (fnrc : Nat → Int32) (hjr : jr ≤ 30) (hjd : jd < 7) : K_m_body50 l G h0 xx nw nk mhasKept nt mtaped nr mrowMany mroundOf mroundFrom mouts nm mfromHour mtoHour ns mfrom mto msort misFault mdeep mcoded mlines nl nc nF np ntr nb mbestCost nso nsi nit nsh nsf nss nrc jr jd mnumber mwhose msize misParted fnrc := by
  refine MI.start (by decide +kernel) (Nat.le_of_ble_eq_true rfl) ?_
  intro p e s m below meth c A ls hC hK hP hD hS hA hl
  refine absQ (fun Q0 hQ0 => ?_)
  have hl : lv_has ls 6 [(0, .ref h0), (1, .int 5), (2, .int 0), (3, .int xx)] := hl
  refine Kan8 hC (fun hx hb hr hml hB hown hlocks hnm => ?_)
  refine lv_iconst (v := 4) hx hb gX12_body_0.1 (by decide) ?_
  refine lv_iload_n hx hb gX12_body_0.2.1 rfl (lv_at1 hl) ?_
  refine lv_imul hx hb gX12_body_0.2.2.1 ?_
  refine eqi (x1 := 20) (by decide) ?_
  refine lv_iload_n hx hb gX12_body_0.2.2.2.1 rfl (lv_at2 hl) ?_
  refine lv_iadd hx hb gX12_body_0.2.2.2.2.1 ?_
  refine eqi (x1 := 20) (by decide) ?_
  refine lv_tableIn (tgt := 334) hx hb gX12_body_0.2.2.2.2.2.1 (by decide) (by decide) rfl (by decide) ?_
  refine lv_aload_n hx hb gX12_body_14.2.2.2.2.2.1 rfl (lv_at0 hl) ?_
  refine lv_bipush (v := 61) hx hb gX12_body_14.2.2.2.2.2.2.1 (by decide) ?_
  refine vV (wr := []) hC hK hl hP hD hS hA (m_began l G h0 61 nw nk mhasKept nt mtaped nr mrowMany mroundOf mroundFrom mouts nm mfromHour mtoHour ns mfrom mto msort misFault mdeep mcoded mlines nl nc nF np ntr nb mbestCost nso nsi nit nsh nsf nss nrc jr (nI jd) mnumber mwhose msize misParted fnrc (hjr)) si_X12_366 [0, 1] [] sm_0_1 fm_0_1 nd_0_1 rfl rfl (by decide) rfl rfl rfl rfl rfl (Nat.le_of_ble_eq_true rfl) rm_7_1_2 ⟨Nat.le_of_ble_eq_true rfl, Nat.le_of_ble_eq_true rfl⟩ gX12_body_14.2.2.2.2.2.2.2.1 (Ktu2 fun jr16017 gtrc6018 => ?_)
  intro H locs hr6015 hP hD hS
  try dsimp only at hr6015
  refine Kpdr (ws := [(h0, oX12 nw nk mhasKept nt mtaped nr mrowMany mroundOf mroundFrom mouts nm mfromHour mtoHour ns mfrom mto msort misFault mdeep mcoded mlines nl nc nF np ntr nb mbestCost nso nsi nit nsh nsf nss nrc (nI jr16017) (nI jd) mnumber mwhose msize misParted), (nrc, iA G 30 gtrc6018)]) hP hD (fun hP hD => ?_)
  have w6019 := hr6015
  refine lv_aload_n hx hb gX12_body_14.2.2.2.2.2.2.2.2.1 rfl (lv_at0 hl) ?_
  refine lv_iconst (v := 4) hx hb gX12_body_14.2.2.2.2.2.2.2.2.2 (by decide) ?_
  refine lv_iconst (v := 0) hx hb gX12_body_15.1 (by decide) ?_
  refine lv_iload_n hx hb gX12_body_15.2.1 rfl (lv_at3 hl) ?_
  refine lv_aload_n hx hb gX12_body_15.2.2.1 rfl (lv_at0 hl) ?_
  refine gf_X12_375 hC rfl hK hP 0 rfl rfl gX12_body_15.2.2.2.1 ?_
  refine lv_iadd hx hb gX12_body_15.2.2.2.2.1 ?_
  refine iV (wr := []) hC hK hl hP hD hS hA (m_from40 l G h0 (xx + mwhose) nw nk mhasKept nt mtaped nr mrowMany mroundOf mroundFrom mouts nm mfromHour mtoHour ns mfrom mto msort misFault mdeep mcoded mlines nl nc nF np ntr nb mbestCost nso nsi nit nsh nsf nss nrc jr16017 jd mnumber mwhose msize misParted gtrc6018 (w6019) (hjd)) si_X12_357 [0, 1] [] sm_0_1 fm_0_1 nd_0_1 rfl rfl (by decide) rfl rfl rfl rfl rfl (Nat.le_of_ble_eq_true rfl) rm_7_6_5 ⟨Nat.le_of_ble_eq_true rfl, Nat.le_of_ble_eq_true rfl⟩ gX12_body_15.2.2.2.2.2.1 (fun r6020 => Ktu3 fun jr16022 ip16023 gtrc6024 => ?_)
  intro H locs hr6020 hP hD hS
  try dsimp only at hr6020
  refine Kpdr (ws := [(h0, oX12 nw nk mhasKept nt mtaped nr mrowMany mroundOf mroundFrom mouts nm mfromHour mtoHour ns mfrom mto msort misFault mdeep mcoded mlines nl nc nF np ntr nb mbestCost nso nsi nit nsh nsf nss nrc (nI jr16022) (nI jd) mnumber mwhose msize ip16023), (nrc, iA G 30 gtrc6024)]) hP hD (fun hP hD => ?_)
  obtain ⟨hr6020, w6025⟩ := hr6020
  refine toQ hQ0 ?_
  exact RI (v := r6020) hC hP hD hS [0, 1] (jr16022, ip16023, gtrc6024) rfl rfl (by decide) (⟨trivial, by omega⟩) rfl gX12_body_15.2.2.2.2.2.2.1
def K_m_from50 (l : Launch) (G : GG) (h0 : Nat) (xx : Int32) (nw : Nat) (nk : Nat) (mhasKept : Int32) (nt : Nat) (mtaped : Int32) (nr : Nat) (mrowMany : Int32) (mroundOf : Int32) (mroundFrom : Int32) (mouts : Int32) (nm : Nat) (mfromHour : Int32) (mtoHour : Int32) (ns : Nat) (mfrom : Int32) (mto : Int32) (msort : Int32) (misFault : Int32) (mdeep : Int32) (mcoded : Int32) (mlines : Int32) (nl : Nat) (nc : Nat) (nF : Nat) (np : Nat) (ntr : Nat) (nb : Nat) (mbestCost : Int32) (nso : Nat) (nsi : Nat) (nit : Nat) (nsh : Nat) (nsf : Nat) (nss : Nat) (nrc : Nat) (jr : Nat) (jd : Nat) (mnumber : Int32) (mwhose : Int32) (msize : Int32) (misParted : Int32) (fnrc : Nat → Int32) : Prop := MI l G yX12_bodyFrom cX12_bodyFrom 5 (some .int) 8 0 0 [.ref h0, .int 5, .int 0, .int xx] [(h0, oX12 nw nk mhasKept nt mtaped nr mrowMany mroundOf mroundFrom mouts nm mfromHour mtoHour ns mfrom mto msort misFault mdeep mcoded mlines nl nc nF np ntr nb mbestCost nso nsi nit nsh nsf nss nrc (nI jr) (nI jd) mnumber mwhose msize misParted), (nrc, iA G 30 fnrc)] (fun (r : Int32) (u : Nat × Int32 × (Nat → Int32)) => (True) ∧ (u.1 ≤ 30)) (fun u : Nat × Int32 × (Nat → Int32) => [(h0, oX12 nw nk mhasKept nt mtaped nr mrowMany mroundOf mroundFrom mouts nm mfromHour mtoHour ns mfrom mto msort misFault mdeep mcoded mlines nl nc nF np ntr nb mbestCost nso nsi nit nsh nsf nss nrc (nI u.1) (nI jd) mnumber mwhose msize u.2.1), (nrc, iA G 30 u.2.2)])
set_option maxHeartbeats 4000000 in
set_option maxRecDepth 100000 in
theorem m_from50 (l : Launch) (G : GG) (h0 : Nat) (xx : Int32) (nw : Nat) (nk : Nat) (mhasKept : Int32) (nt : Nat) (mtaped : Int32) (nr : Nat) (mrowMany : Int32) (mroundOf : Int32) (mroundFrom : Int32) (mouts : Int32) (nm : Nat) (mfromHour : Int32) (mtoHour : Int32) (ns : Nat) (mfrom : Int32) (mto : Int32) (msort : Int32) (misFault : Int32) (mdeep : Int32) (mcoded : Int32) (mlines : Int32) (nl : Nat) (nc : Nat) (nF : Nat) (np : Nat) (ntr : Nat) (nb : Nat) (mbestCost : Int32) (nso : Nat) (nsi : Nat) (nit : Nat) (nsh : Nat) (nsf : Nat) (nss : Nat) (nrc : Nat) (jr : Nat) (jd : Nat) (mnumber : Int32) (mwhose : Int32) (msize : Int32) (misParted : Int32) (fnrc : Nat → Int32) (hjr : jr ≤ 30) (hjd : jd < 7) : K_m_from50 l G h0 xx nw nk mhasKept nt mtaped nr mrowMany mroundOf mroundFrom mouts nm mfromHour mtoHour ns mfrom mto msort misFault mdeep mcoded mlines nl nc nF np ntr nb mbestCost nso nsi nit nsh nsf nss nrc jr jd mnumber mwhose msize misParted fnrc := by
  refine MI.start (by decide +kernel) (Nat.le_of_ble_eq_true rfl) ?_
  intro p e s m below meth c A ls hC hK hP hD hS hA hl
  refine absQ (fun Q0 hQ0 => ?_)
  have hl : lv_has ls 5 [(0, .ref h0), (1, .int 5), (2, .int 0), (3, .int xx)] := hl
  refine Kan8 hC (fun hx hb hr hml hB hown hlocks hnm => ?_)
  refine lv_iload_n hx hb gX12_bodyFrom_0.1 rfl (lv_at1 hl) ?_
  refine lv_istore (lv' := [(4, .int 5), (0, .ref h0), (1, .int 5), (2, .int 0), (3, .int xx)]) hx hb gX12_bodyFrom_0.2.1 hl (by decide) rfl (fun ls hl => ?_)
  refine lv_iload hx hb gX12_bodyFrom_0.2.2.1 (lv_at0 hl) ?_
  refine lv_iload_n hx hb gX12_bodyFrom_0.2.2.2.1 rfl (lv_at3 hl) ?_
  refine pS hC hK hl (m_hasOwn50 l G) si_X12_360 rfl rfl (Nat.le_of_ble_eq_true rfl) rm_8_1_2 ⟨by first | exact Nat.le_of_ble_eq_true rfl | exact Nat.zero_le _, by first | exact Nat.le_of_ble_eq_true rfl | exact Nat.zero_le _⟩ gX12_bodyFrom_0.2.2.2.2.1 (Keqr ?_)
  refine lv_if_ne (tgt := 22) hx hb gX12_bodyFrom_0.2.2.2.2.2.1 (by decide) (fun _ => ?_) (fun c9 => absurd c9 (by decide))
  refine lv_aload_n hx hb gX12_bodyFrom_1.1 rfl (lv_at1 hl) ?_
  refine lv_iload hx hb gX12_bodyFrom_1.2.1 (lv_at0 hl) ?_
  refine lv_iload_n hx hb gX12_bodyFrom_1.2.2.1 rfl (lv_at3 hl) ?_
  refine lv_iload_n hx hb gX12_bodyFrom_1.2.2.2.1 rfl (lv_at4 hl) ?_
  refine iV (wr := []) hC hK hl hP hD hS hA (m_body50 l G h0 xx nw nk mhasKept nt mtaped nr mrowMany mroundOf mroundFrom mouts nm mfromHour mtoHour ns mfrom mto msort misFault mdeep mcoded mlines nl nc nF np ntr nb mbestCost nso nsi nit nsh nsf nss nrc jr jd mnumber mwhose msize misParted fnrc (hjr) (hjd)) si_X12_363 [0, 1] [] sm_0_1 fm_0_1 nd_0_1 rfl rfl (by decide) rfl rfl rfl rfl rfl (Nat.le_of_ble_eq_true rfl) rm_8_7_6 ⟨Nat.le_of_ble_eq_true rfl, Nat.le_of_ble_eq_true rfl⟩ gX12_bodyFrom_1.2.2.2.2.1 (fun r6028 => Ktu3 fun jr16030 ip16031 gtrc6032 => ?_)
  intro H locs hr6028 hP hD hS
  try dsimp only at hr6028
  refine Kpdr (ws := [(h0, oX12 nw nk mhasKept nt mtaped nr mrowMany mroundOf mroundFrom mouts nm mfromHour mtoHour ns mfrom mto msort misFault mdeep mcoded mlines nl nc nF np ntr nb mbestCost nso nsi nit nsh nsf nss nrc (nI jr16030) (nI jd) mnumber mwhose msize ip16031), (nrc, iA G 30 gtrc6032)]) hP hD (fun hP hD => ?_)
  obtain ⟨hr6028, w6033⟩ := hr6028
  refine toQ hQ0 ?_
  exact RI (v := r6028) hC hP hD hS [0, 1] (jr16030, ip16031, gtrc6032) rfl rfl (by decide) (⟨trivial, by omega⟩) rfl gX12_bodyFrom_1.2.2.2.2.2
def K_m_from10 (l : Launch) (G : GG) (h0 : Nat) (xx : Int32) (nw : Nat) (nk : Nat) (mhasKept : Int32) (nt : Nat) (mtaped : Int32) (nr : Nat) (mrowMany : Int32) (mroundOf : Int32) (mroundFrom : Int32) (mouts : Int32) (nm : Nat) (mfromHour : Int32) (mtoHour : Int32) (ns : Nat) (mfrom : Int32) (mto : Int32) (msort : Int32) (misFault : Int32) (mdeep : Int32) (mcoded : Int32) (mlines : Int32) (nl : Nat) (nc : Nat) (nF : Nat) (np : Nat) (ntr : Nat) (nb : Nat) (mbestCost : Int32) (nso : Nat) (nsi : Nat) (nit : Nat) (nsh : Nat) (nsf : Nat) (nss : Nat) (nrc : Nat) (jr : Nat) (jd : Nat) (mnumber : Int32) (mwhose : Int32) (msize : Int32) (misParted : Int32) (fnrc : Nat → Int32) : Prop := MI l G yX12_bodyFrom cX12_bodyFrom 5 (some .int) 12 0 0 [.ref h0, .int 1, .int 0, .int xx] [(h0, oX12 nw nk mhasKept nt mtaped nr mrowMany mroundOf mroundFrom mouts nm mfromHour mtoHour ns mfrom mto msort misFault mdeep mcoded mlines nl nc nF np ntr nb mbestCost nso nsi nit nsh nsf nss nrc (nI jr) (nI jd) mnumber mwhose msize misParted), (nrc, iA G 30 fnrc)] (fun (r : Int32) (u : Nat × Int32 × (Nat → Int32)) => (True) ∧ (u.1 ≤ 30)) (fun u : Nat × Int32 × (Nat → Int32) => [(h0, oX12 nw nk mhasKept nt mtaped nr mrowMany mroundOf mroundFrom mouts nm mfromHour mtoHour ns mfrom mto msort misFault mdeep mcoded mlines nl nc nF np ntr nb mbestCost nso nsi nit nsh nsf nss nrc (nI u.1) (nI jd) mnumber mwhose msize u.2.1), (nrc, iA G 30 u.2.2)])
set_option maxHeartbeats 4000000 in
set_option maxRecDepth 100000 in
theorem m_from10 (l : Launch) (G : GG) (h0 : Nat) (xx : Int32) (nw : Nat) (nk : Nat) (mhasKept : Int32) (nt : Nat) (mtaped : Int32) (nr : Nat) (mrowMany : Int32) (mroundOf : Int32) (mroundFrom : Int32) (mouts : Int32) (nm : Nat) (mfromHour : Int32) (mtoHour : Int32) (ns : Nat) (mfrom : Int32) (mto : Int32) (msort : Int32) (misFault : Int32) (mdeep : Int32) (mcoded : Int32) (mlines : Int32) (nl : Nat) (nc : Nat) (nF : Nat) (np : Nat) (ntr : Nat) (nb : Nat) (mbestCost : Int32) (nso : Nat) (nsi : Nat) (nit : Nat) (nsh : Nat) (nsf : Nat) (nss : Nat) (nrc : Nat) (jr : Nat) (jd : Nat) (mnumber : Int32) (mwhose : Int32) (msize : Int32) (misParted : Int32) (fnrc : Nat → Int32) (hjr : jr ≤ 30) (hjd : jd < 7) : K_m_from10 l G h0 xx nw nk mhasKept nt mtaped nr mrowMany mroundOf mroundFrom mouts nm mfromHour mtoHour ns mfrom mto msort misFault mdeep mcoded mlines nl nc nF np ntr nb mbestCost nso nsi nit nsh nsf nss nrc jr jd mnumber mwhose msize misParted fnrc := by
  refine MI.start (by decide +kernel) (Nat.le_of_ble_eq_true rfl) ?_
  intro p e s m below meth c A ls hC hK hP hD hS hA hl
  refine absQ (fun Q0 hQ0 => ?_)
  have hl : lv_has ls 5 [(0, .ref h0), (1, .int 1), (2, .int 0), (3, .int xx)] := hl
  refine Kan8 hC (fun hx hb hr hml hB hown hlocks hnm => ?_)
  refine lv_iload_n hx hb gX12_bodyFrom_0.1 rfl (lv_at1 hl) ?_
  refine lv_istore (lv' := [(4, .int 1), (0, .ref h0), (1, .int 1), (2, .int 0), (3, .int xx)]) hx hb gX12_bodyFrom_0.2.1 hl (by decide) rfl (fun ls hl => ?_)
  refine lv_iload hx hb gX12_bodyFrom_0.2.2.1 (lv_at0 hl) ?_
  refine lv_iload_n hx hb gX12_bodyFrom_0.2.2.2.1 rfl (lv_at3 hl) ?_
  refine pS hC hK hl (m_hasOwn10 l G) si_X12_360 rfl rfl (Nat.le_of_ble_eq_true rfl) rm_12_1_2 ⟨by first | exact Nat.le_of_ble_eq_true rfl | exact Nat.zero_le _, by first | exact Nat.le_of_ble_eq_true rfl | exact Nat.zero_le _⟩ gX12_bodyFrom_0.2.2.2.2.1 (Keqr ?_)
  refine lv_if_ne (tgt := 22) hx hb gX12_bodyFrom_0.2.2.2.2.2.1 (by decide) (fun c9 => absurd (by decide) c9) (fun _ => ?_)
  refine lv_iload hx hb gX12_bodyFrom_0.2.2.2.2.2.2.1 (lv_at0 hl) ?_
  refine pS hC hK hl (m_above1 l G) si_X12_348 rfl rfl (Nat.le_of_ble_eq_true rfl) rm_12_1_1 ⟨by first | exact Nat.le_of_ble_eq_true rfl | exact Nat.zero_le _, by first | exact Nat.le_of_ble_eq_true rfl | exact Nat.zero_le _⟩ gX12_bodyFrom_0.2.2.2.2.2.2.2.1 (Keqr ?_)
  refine lv_istore (lv' := [(4, .int 0), (0, .ref h0), (1, .int 1), (2, .int 0), (3, .int xx)]) hx hb gX12_bodyFrom_0.2.2.2.2.2.2.2.2.1 hl (by decide) rfl (fun ls hl => ?_)
  refine lv_goto (tgt := 3) hx hb gX12_bodyFrom_0.2.2.2.2.2.2.2.2.2 (by decide) ?_
  refine lv_iload hx hb gX12_bodyFrom_0.2.2.1 (lv_at0 hl) ?_
  refine lv_iload_n hx hb gX12_bodyFrom_0.2.2.2.1 rfl (lv_at3 hl) ?_
  refine pS hC hK hl (m_hasOwn00 l G) si_X12_360 rfl rfl (Nat.le_of_ble_eq_true rfl) rm_12_1_2 ⟨by first | exact Nat.le_of_ble_eq_true rfl | exact Nat.zero_le _, by first | exact Nat.le_of_ble_eq_true rfl | exact Nat.zero_le _⟩ gX12_bodyFrom_0.2.2.2.2.1 (Keqr ?_)
  refine lv_if_ne (tgt := 22) hx hb gX12_bodyFrom_0.2.2.2.2.2.1 (by decide) (fun _ => ?_) (fun c9 => absurd c9 (by decide))
  refine lv_aload_n hx hb gX12_bodyFrom_1.1 rfl (lv_at1 hl) ?_
  refine lv_iload hx hb gX12_bodyFrom_1.2.1 (lv_at0 hl) ?_
  refine lv_iload_n hx hb gX12_bodyFrom_1.2.2.1 rfl (lv_at3 hl) ?_
  refine lv_iload_n hx hb gX12_bodyFrom_1.2.2.2.1 rfl (lv_at4 hl) ?_
  refine iV (wr := []) hC hK hl hP hD hS hA (m_body00 l G h0 xx nw nk mhasKept nt mtaped nr mrowMany mroundOf mroundFrom mouts nm mfromHour mtoHour ns mfrom mto msort misFault mdeep mcoded mlines nl nc nF np ntr nb mbestCost nso nsi nit nsh nsf nss nrc jr jd mnumber mwhose msize misParted fnrc (hjr) (hjd)) si_X12_363 [0, 1] [] sm_0_1 fm_0_1 nd_0_1 rfl rfl (by decide) rfl rfl rfl rfl rfl (Nat.le_of_ble_eq_true rfl) rm_12_3_6 ⟨Nat.le_of_ble_eq_true rfl, Nat.le_of_ble_eq_true rfl⟩ gX12_bodyFrom_1.2.2.2.2.1 (fun r6040 => Ktu3 fun jr16042 ip16043 gtrc6044 => ?_)
  intro H locs hr6040 hP hD hS
  try dsimp only at hr6040
  refine Kpdr (ws := [(h0, oX12 nw nk mhasKept nt mtaped nr mrowMany mroundOf mroundFrom mouts nm mfromHour mtoHour ns mfrom mto msort misFault mdeep mcoded mlines nl nc nF np ntr nb mbestCost nso nsi nit nsh nsf nss nrc (nI jr16042) (nI jd) mnumber mwhose msize ip16043), (nrc, iA G 30 gtrc6044)]) hP hD (fun hP hD => ?_)
  obtain ⟨hr6040, w6045⟩ := hr6040
  refine toQ hQ0 ?_
  exact RI (v := r6040) hC hP hD hS [0, 1] (jr16042, ip16043, gtrc6044) rfl rfl (by decide) (⟨trivial, by omega⟩) rfl gX12_bodyFrom_1.2.2.2.2.2
def K_m_from20 (l : Launch) (G : GG) (h0 : Nat) (xx : Int32) (nw : Nat) (nk : Nat) (mhasKept : Int32) (nt : Nat) (mtaped : Int32) (nr : Nat) (mrowMany : Int32) (mroundOf : Int32) (mroundFrom : Int32) (mouts : Int32) (nm : Nat) (mfromHour : Int32) (mtoHour : Int32) (ns : Nat) (mfrom : Int32) (mto : Int32) (msort : Int32) (misFault : Int32) (mdeep : Int32) (mcoded : Int32) (mlines : Int32) (nl : Nat) (nc : Nat) (nF : Nat) (np : Nat) (ntr : Nat) (nb : Nat) (mbestCost : Int32) (nso : Nat) (nsi : Nat) (nit : Nat) (nsh : Nat) (nsf : Nat) (nss : Nat) (nrc : Nat) (jr : Nat) (jd : Nat) (mnumber : Int32) (mwhose : Int32) (msize : Int32) (misParted : Int32) (fnrc : Nat → Int32) : Prop := MI l G yX12_bodyFrom cX12_bodyFrom 5 (some .int) 12 0 0 [.ref h0, .int 2, .int 0, .int xx] [(h0, oX12 nw nk mhasKept nt mtaped nr mrowMany mroundOf mroundFrom mouts nm mfromHour mtoHour ns mfrom mto msort misFault mdeep mcoded mlines nl nc nF np ntr nb mbestCost nso nsi nit nsh nsf nss nrc (nI jr) (nI jd) mnumber mwhose msize misParted), (nrc, iA G 30 fnrc)] (fun (r : Int32) (u : Nat × Int32 × (Nat → Int32)) => (True) ∧ (u.1 ≤ 30)) (fun u : Nat × Int32 × (Nat → Int32) => [(h0, oX12 nw nk mhasKept nt mtaped nr mrowMany mroundOf mroundFrom mouts nm mfromHour mtoHour ns mfrom mto msort misFault mdeep mcoded mlines nl nc nF np ntr nb mbestCost nso nsi nit nsh nsf nss nrc (nI u.1) (nI jd) mnumber mwhose msize u.2.1), (nrc, iA G 30 u.2.2)])
set_option maxHeartbeats 4000000 in
set_option maxRecDepth 100000 in
theorem m_from20 (l : Launch) (G : GG) (h0 : Nat) (xx : Int32) (nw : Nat) (nk : Nat) (mhasKept : Int32) (nt : Nat) (mtaped : Int32) (nr : Nat) (mrowMany : Int32) (mroundOf : Int32) (mroundFrom : Int32) (mouts : Int32) (nm : Nat) (mfromHour : Int32) (mtoHour : Int32) (ns : Nat) (mfrom : Int32) (mto : Int32) (msort : Int32) (misFault : Int32) (mdeep : Int32) (mcoded : Int32) (mlines : Int32) (nl : Nat) (nc : Nat) (nF : Nat) (np : Nat) (ntr : Nat) (nb : Nat) (mbestCost : Int32) (nso : Nat) (nsi : Nat) (nit : Nat) (nsh : Nat) (nsf : Nat) (nss : Nat) (nrc : Nat) (jr : Nat) (jd : Nat) (mnumber : Int32) (mwhose : Int32) (msize : Int32) (misParted : Int32) (fnrc : Nat → Int32) (hjr : jr ≤ 30) (hjd : jd < 7) : K_m_from20 l G h0 xx nw nk mhasKept nt mtaped nr mrowMany mroundOf mroundFrom mouts nm mfromHour mtoHour ns mfrom mto msort misFault mdeep mcoded mlines nl nc nF np ntr nb mbestCost nso nsi nit nsh nsf nss nrc jr jd mnumber mwhose msize misParted fnrc := by
  refine MI.start (by decide +kernel) (Nat.le_of_ble_eq_true rfl) ?_
  intro p e s m below meth c A ls hC hK hP hD hS hA hl
  refine absQ (fun Q0 hQ0 => ?_)
  have hl : lv_has ls 5 [(0, .ref h0), (1, .int 2), (2, .int 0), (3, .int xx)] := hl
  refine Kan8 hC (fun hx hb hr hml hB hown hlocks hnm => ?_)
  refine lv_iload_n hx hb gX12_bodyFrom_0.1 rfl (lv_at1 hl) ?_
  refine lv_istore (lv' := [(4, .int 2), (0, .ref h0), (1, .int 2), (2, .int 0), (3, .int xx)]) hx hb gX12_bodyFrom_0.2.1 hl (by decide) rfl (fun ls hl => ?_)
  refine lv_iload hx hb gX12_bodyFrom_0.2.2.1 (lv_at0 hl) ?_
  refine lv_iload_n hx hb gX12_bodyFrom_0.2.2.2.1 rfl (lv_at3 hl) ?_
  refine pS hC hK hl (m_hasOwn20 l G) si_X12_360 rfl rfl (Nat.le_of_ble_eq_true rfl) rm_12_1_2 ⟨by first | exact Nat.le_of_ble_eq_true rfl | exact Nat.zero_le _, by first | exact Nat.le_of_ble_eq_true rfl | exact Nat.zero_le _⟩ gX12_bodyFrom_0.2.2.2.2.1 (Keqr ?_)
  refine lv_if_ne (tgt := 22) hx hb gX12_bodyFrom_0.2.2.2.2.2.1 (by decide) (fun c9 => absurd (by decide) c9) (fun _ => ?_)
  refine lv_iload hx hb gX12_bodyFrom_0.2.2.2.2.2.2.1 (lv_at0 hl) ?_
  refine pS hC hK hl (m_above2 l G) si_X12_348 rfl rfl (Nat.le_of_ble_eq_true rfl) rm_12_1_1 ⟨by first | exact Nat.le_of_ble_eq_true rfl | exact Nat.zero_le _, by first | exact Nat.le_of_ble_eq_true rfl | exact Nat.zero_le _⟩ gX12_bodyFrom_0.2.2.2.2.2.2.2.1 (Keqr ?_)
  refine lv_istore (lv' := [(4, .int 0), (0, .ref h0), (1, .int 2), (2, .int 0), (3, .int xx)]) hx hb gX12_bodyFrom_0.2.2.2.2.2.2.2.2.1 hl (by decide) rfl (fun ls hl => ?_)
  refine lv_goto (tgt := 3) hx hb gX12_bodyFrom_0.2.2.2.2.2.2.2.2.2 (by decide) ?_
  refine lv_iload hx hb gX12_bodyFrom_0.2.2.1 (lv_at0 hl) ?_
  refine lv_iload_n hx hb gX12_bodyFrom_0.2.2.2.1 rfl (lv_at3 hl) ?_
  refine pS hC hK hl (m_hasOwn00 l G) si_X12_360 rfl rfl (Nat.le_of_ble_eq_true rfl) rm_12_1_2 ⟨by first | exact Nat.le_of_ble_eq_true rfl | exact Nat.zero_le _, by first | exact Nat.le_of_ble_eq_true rfl | exact Nat.zero_le _⟩ gX12_bodyFrom_0.2.2.2.2.1 (Keqr ?_)
  refine lv_if_ne (tgt := 22) hx hb gX12_bodyFrom_0.2.2.2.2.2.1 (by decide) (fun _ => ?_) (fun c9 => absurd c9 (by decide))
  refine lv_aload_n hx hb gX12_bodyFrom_1.1 rfl (lv_at1 hl) ?_
  refine lv_iload hx hb gX12_bodyFrom_1.2.1 (lv_at0 hl) ?_
  refine lv_iload_n hx hb gX12_bodyFrom_1.2.2.1 rfl (lv_at3 hl) ?_
  refine lv_iload_n hx hb gX12_bodyFrom_1.2.2.2.1 rfl (lv_at4 hl) ?_
  refine iV (wr := []) hC hK hl hP hD hS hA (m_body00 l G h0 xx nw nk mhasKept nt mtaped nr mrowMany mroundOf mroundFrom mouts nm mfromHour mtoHour ns mfrom mto msort misFault mdeep mcoded mlines nl nc nF np ntr nb mbestCost nso nsi nit nsh nsf nss nrc jr jd mnumber mwhose msize misParted fnrc (hjr) (hjd)) si_X12_363 [0, 1] [] sm_0_1 fm_0_1 nd_0_1 rfl rfl (by decide) rfl rfl rfl rfl rfl (Nat.le_of_ble_eq_true rfl) rm_12_3_6 ⟨Nat.le_of_ble_eq_true rfl, Nat.le_of_ble_eq_true rfl⟩ gX12_bodyFrom_1.2.2.2.2.1 (fun r6052 => Ktu3 fun jr16054 ip16055 gtrc6056 => ?_)
  intro H locs hr6052 hP hD hS
  try dsimp only at hr6052
  refine Kpdr (ws := [(h0, oX12 nw nk mhasKept nt mtaped nr mrowMany mroundOf mroundFrom mouts nm mfromHour mtoHour ns mfrom mto msort misFault mdeep mcoded mlines nl nc nF np ntr nb mbestCost nso nsi nit nsh nsf nss nrc (nI jr16054) (nI jd) mnumber mwhose msize ip16055), (nrc, iA G 30 gtrc6056)]) hP hD (fun hP hD => ?_)
  obtain ⟨hr6052, w6057⟩ := hr6052
  refine toQ hQ0 ?_
  exact RI (v := r6052) hC hP hD hS [0, 1] (jr16054, ip16055, gtrc6056) rfl rfl (by decide) (⟨trivial, by omega⟩) rfl gX12_bodyFrom_1.2.2.2.2.2
def K_m_from30 (l : Launch) (G : GG) (h0 : Nat) (xx : Int32) (nw : Nat) (nk : Nat) (mhasKept : Int32) (nt : Nat) (mtaped : Int32) (nr : Nat) (mrowMany : Int32) (mroundOf : Int32) (mroundFrom : Int32) (mouts : Int32) (nm : Nat) (mfromHour : Int32) (mtoHour : Int32) (ns : Nat) (mfrom : Int32) (mto : Int32) (msort : Int32) (misFault : Int32) (mdeep : Int32) (mcoded : Int32) (mlines : Int32) (nl : Nat) (nc : Nat) (nF : Nat) (np : Nat) (ntr : Nat) (nb : Nat) (mbestCost : Int32) (nso : Nat) (nsi : Nat) (nit : Nat) (nsh : Nat) (nsf : Nat) (nss : Nat) (nrc : Nat) (jr : Nat) (jd : Nat) (mnumber : Int32) (mwhose : Int32) (msize : Int32) (misParted : Int32) (fnrc : Nat → Int32) : Prop := MI l G yX12_bodyFrom cX12_bodyFrom 5 (some .int) 12 0 0 [.ref h0, .int 3, .int 0, .int xx] [(h0, oX12 nw nk mhasKept nt mtaped nr mrowMany mroundOf mroundFrom mouts nm mfromHour mtoHour ns mfrom mto msort misFault mdeep mcoded mlines nl nc nF np ntr nb mbestCost nso nsi nit nsh nsf nss nrc (nI jr) (nI jd) mnumber mwhose msize misParted), (nrc, iA G 30 fnrc)] (fun (r : Int32) (u : Nat × Int32 × (Nat → Int32)) => (True) ∧ (u.1 ≤ 30)) (fun u : Nat × Int32 × (Nat → Int32) => [(h0, oX12 nw nk mhasKept nt mtaped nr mrowMany mroundOf mroundFrom mouts nm mfromHour mtoHour ns mfrom mto msort misFault mdeep mcoded mlines nl nc nF np ntr nb mbestCost nso nsi nit nsh nsf nss nrc (nI u.1) (nI jd) mnumber mwhose msize u.2.1), (nrc, iA G 30 u.2.2)])
set_option maxHeartbeats 4000000 in
set_option maxRecDepth 100000 in
theorem m_from30 (l : Launch) (G : GG) (h0 : Nat) (xx : Int32) (nw : Nat) (nk : Nat) (mhasKept : Int32) (nt : Nat) (mtaped : Int32) (nr : Nat) (mrowMany : Int32) (mroundOf : Int32) (mroundFrom : Int32) (mouts : Int32) (nm : Nat) (mfromHour : Int32) (mtoHour : Int32) (ns : Nat) (mfrom : Int32) (mto : Int32) (msort : Int32) (misFault : Int32) (mdeep : Int32) (mcoded : Int32) (mlines : Int32) (nl : Nat) (nc : Nat) (nF : Nat) (np : Nat) (ntr : Nat) (nb : Nat) (mbestCost : Int32) (nso : Nat) (nsi : Nat) (nit : Nat) (nsh : Nat) (nsf : Nat) (nss : Nat) (nrc : Nat) (jr : Nat) (jd : Nat) (mnumber : Int32) (mwhose : Int32) (msize : Int32) (misParted : Int32) (fnrc : Nat → Int32) (hjr : jr ≤ 30) (hjd : jd < 7) : K_m_from30 l G h0 xx nw nk mhasKept nt mtaped nr mrowMany mroundOf mroundFrom mouts nm mfromHour mtoHour ns mfrom mto msort misFault mdeep mcoded mlines nl nc nF np ntr nb mbestCost nso nsi nit nsh nsf nss nrc jr jd mnumber mwhose msize misParted fnrc := by
  refine MI.start (by decide +kernel) (Nat.le_of_ble_eq_true rfl) ?_
  intro p e s m below meth c A ls hC hK hP hD hS hA hl
  refine absQ (fun Q0 hQ0 => ?_)
  have hl : lv_has ls 5 [(0, .ref h0), (1, .int 3), (2, .int 0), (3, .int xx)] := hl
  refine Kan8 hC (fun hx hb hr hml hB hown hlocks hnm => ?_)
  refine lv_iload_n hx hb gX12_bodyFrom_0.1 rfl (lv_at1 hl) ?_
  refine lv_istore (lv' := [(4, .int 3), (0, .ref h0), (1, .int 3), (2, .int 0), (3, .int xx)]) hx hb gX12_bodyFrom_0.2.1 hl (by decide) rfl (fun ls hl => ?_)
  refine lv_iload hx hb gX12_bodyFrom_0.2.2.1 (lv_at0 hl) ?_
  refine lv_iload_n hx hb gX12_bodyFrom_0.2.2.2.1 rfl (lv_at3 hl) ?_
  refine pS hC hK hl (m_hasOwn30 l G) si_X12_360 rfl rfl (Nat.le_of_ble_eq_true rfl) rm_12_1_2 ⟨by first | exact Nat.le_of_ble_eq_true rfl | exact Nat.zero_le _, by first | exact Nat.le_of_ble_eq_true rfl | exact Nat.zero_le _⟩ gX12_bodyFrom_0.2.2.2.2.1 (Keqr ?_)
  refine lv_if_ne (tgt := 22) hx hb gX12_bodyFrom_0.2.2.2.2.2.1 (by decide) (fun c9 => absurd (by decide) c9) (fun _ => ?_)
  refine lv_iload hx hb gX12_bodyFrom_0.2.2.2.2.2.2.1 (lv_at0 hl) ?_
  refine pS hC hK hl (m_above3 l G) si_X12_348 rfl rfl (Nat.le_of_ble_eq_true rfl) rm_12_1_1 ⟨by first | exact Nat.le_of_ble_eq_true rfl | exact Nat.zero_le _, by first | exact Nat.le_of_ble_eq_true rfl | exact Nat.zero_le _⟩ gX12_bodyFrom_0.2.2.2.2.2.2.2.1 (Keqr ?_)
  refine lv_istore (lv' := [(4, .int 1), (0, .ref h0), (1, .int 3), (2, .int 0), (3, .int xx)]) hx hb gX12_bodyFrom_0.2.2.2.2.2.2.2.2.1 hl (by decide) rfl (fun ls hl => ?_)
  refine lv_goto (tgt := 3) hx hb gX12_bodyFrom_0.2.2.2.2.2.2.2.2.2 (by decide) ?_
  refine lv_iload hx hb gX12_bodyFrom_0.2.2.1 (lv_at0 hl) ?_
  refine lv_iload_n hx hb gX12_bodyFrom_0.2.2.2.1 rfl (lv_at3 hl) ?_
  refine pS hC hK hl (m_hasOwn10 l G) si_X12_360 rfl rfl (Nat.le_of_ble_eq_true rfl) rm_12_1_2 ⟨by first | exact Nat.le_of_ble_eq_true rfl | exact Nat.zero_le _, by first | exact Nat.le_of_ble_eq_true rfl | exact Nat.zero_le _⟩ gX12_bodyFrom_0.2.2.2.2.1 (Keqr ?_)
  refine lv_if_ne (tgt := 22) hx hb gX12_bodyFrom_0.2.2.2.2.2.1 (by decide) (fun c9 => absurd (by decide) c9) (fun _ => ?_)
  refine lv_iload hx hb gX12_bodyFrom_0.2.2.2.2.2.2.1 (lv_at0 hl) ?_
  refine pS hC hK hl (m_above1 l G) si_X12_348 rfl rfl (Nat.le_of_ble_eq_true rfl) rm_12_1_1 ⟨by first | exact Nat.le_of_ble_eq_true rfl | exact Nat.zero_le _, by first | exact Nat.le_of_ble_eq_true rfl | exact Nat.zero_le _⟩ gX12_bodyFrom_0.2.2.2.2.2.2.2.1 (Keqr ?_)
  refine lv_istore (lv' := [(4, .int 0), (0, .ref h0), (1, .int 3), (2, .int 0), (3, .int xx)]) hx hb gX12_bodyFrom_0.2.2.2.2.2.2.2.2.1 hl (by decide) rfl (fun ls hl => ?_)
  refine lv_goto (tgt := 3) hx hb gX12_bodyFrom_0.2.2.2.2.2.2.2.2.2 (by decide) ?_
  refine lv_iload hx hb gX12_bodyFrom_0.2.2.1 (lv_at0 hl) ?_
  refine lv_iload_n hx hb gX12_bodyFrom_0.2.2.2.1 rfl (lv_at3 hl) ?_
  refine pS hC hK hl (m_hasOwn00 l G) si_X12_360 rfl rfl (Nat.le_of_ble_eq_true rfl) rm_12_1_2 ⟨by first | exact Nat.le_of_ble_eq_true rfl | exact Nat.zero_le _, by first | exact Nat.le_of_ble_eq_true rfl | exact Nat.zero_le _⟩ gX12_bodyFrom_0.2.2.2.2.1 (Keqr ?_)
  refine lv_if_ne (tgt := 22) hx hb gX12_bodyFrom_0.2.2.2.2.2.1 (by decide) (fun _ => ?_) (fun c9 => absurd c9 (by decide))
  refine lv_aload_n hx hb gX12_bodyFrom_1.1 rfl (lv_at1 hl) ?_
  refine lv_iload hx hb gX12_bodyFrom_1.2.1 (lv_at0 hl) ?_
  refine lv_iload_n hx hb gX12_bodyFrom_1.2.2.1 rfl (lv_at3 hl) ?_
  refine lv_iload_n hx hb gX12_bodyFrom_1.2.2.2.1 rfl (lv_at4 hl) ?_
  refine iV (wr := []) hC hK hl hP hD hS hA (m_body00 l G h0 xx nw nk mhasKept nt mtaped nr mrowMany mroundOf mroundFrom mouts nm mfromHour mtoHour ns mfrom mto msort misFault mdeep mcoded mlines nl nc nF np ntr nb mbestCost nso nsi nit nsh nsf nss nrc jr jd mnumber mwhose msize misParted fnrc (hjr) (hjd)) si_X12_363 [0, 1] [] sm_0_1 fm_0_1 nd_0_1 rfl rfl (by decide) rfl rfl rfl rfl rfl (Nat.le_of_ble_eq_true rfl) rm_12_3_6 ⟨Nat.le_of_ble_eq_true rfl, Nat.le_of_ble_eq_true rfl⟩ gX12_bodyFrom_1.2.2.2.2.1 (fun r6068 => Ktu3 fun jr16070 ip16071 gtrc6072 => ?_)
  intro H locs hr6068 hP hD hS
  try dsimp only at hr6068
  refine Kpdr (ws := [(h0, oX12 nw nk mhasKept nt mtaped nr mrowMany mroundOf mroundFrom mouts nm mfromHour mtoHour ns mfrom mto msort misFault mdeep mcoded mlines nl nc nF np ntr nb mbestCost nso nsi nit nsh nsf nss nrc (nI jr16070) (nI jd) mnumber mwhose msize ip16071), (nrc, iA G 30 gtrc6072)]) hP hD (fun hP hD => ?_)
  obtain ⟨hr6068, w6073⟩ := hr6068
  refine toQ hQ0 ?_
  exact RI (v := r6068) hC hP hD hS [0, 1] (jr16070, ip16071, gtrc6072) rfl rfl (by decide) (⟨trivial, by omega⟩) rfl gX12_bodyFrom_1.2.2.2.2.2
def K_m_from60 (l : Launch) (G : GG) (h0 : Nat) (xx : Int32) (nw : Nat) (nk : Nat) (mhasKept : Int32) (nt : Nat) (mtaped : Int32) (nr : Nat) (mrowMany : Int32) (mroundOf : Int32) (mroundFrom : Int32) (mouts : Int32) (nm : Nat) (mfromHour : Int32) (mtoHour : Int32) (ns : Nat) (mfrom : Int32) (mto : Int32) (msort : Int32) (misFault : Int32) (mdeep : Int32) (mcoded : Int32) (mlines : Int32) (nl : Nat) (nc : Nat) (nF : Nat) (np : Nat) (ntr : Nat) (nb : Nat) (mbestCost : Int32) (nso : Nat) (nsi : Nat) (nit : Nat) (nsh : Nat) (nsf : Nat) (nss : Nat) (nrc : Nat) (jr : Nat) (jd : Nat) (mnumber : Int32) (mwhose : Int32) (msize : Int32) (misParted : Int32) (fnrc : Nat → Int32) : Prop := MI l G yX12_bodyFrom cX12_bodyFrom 5 (some .int) 12 0 0 [.ref h0, .int 6, .int 0, .int xx] [(h0, oX12 nw nk mhasKept nt mtaped nr mrowMany mroundOf mroundFrom mouts nm mfromHour mtoHour ns mfrom mto msort misFault mdeep mcoded mlines nl nc nF np ntr nb mbestCost nso nsi nit nsh nsf nss nrc (nI jr) (nI jd) mnumber mwhose msize misParted), (nrc, iA G 30 fnrc)] (fun (r : Int32) (u : Nat × Int32 × (Nat → Int32)) => (True) ∧ (u.1 ≤ 30)) (fun u : Nat × Int32 × (Nat → Int32) => [(h0, oX12 nw nk mhasKept nt mtaped nr mrowMany mroundOf mroundFrom mouts nm mfromHour mtoHour ns mfrom mto msort misFault mdeep mcoded mlines nl nc nF np ntr nb mbestCost nso nsi nit nsh nsf nss nrc (nI u.1) (nI jd) mnumber mwhose msize u.2.1), (nrc, iA G 30 u.2.2)])
set_option maxHeartbeats 4000000 in
set_option maxRecDepth 100000 in
theorem m_from60 (l : Launch) (G : GG) (h0 : Nat) (xx : Int32) (nw : Nat) (nk : Nat) (mhasKept : Int32) (nt : Nat) (mtaped : Int32) (nr : Nat) (mrowMany : Int32) (mroundOf : Int32) (mroundFrom : Int32) (mouts : Int32) (nm : Nat) (mfromHour : Int32) (mtoHour : Int32) (ns : Nat) (mfrom : Int32) (mto : Int32) (msort : Int32) (misFault : Int32) (mdeep : Int32) (mcoded : Int32) (mlines : Int32) (nl : Nat) (nc : Nat) (nF : Nat) (np : Nat) (ntr : Nat) (nb : Nat) (mbestCost : Int32) (nso : Nat) (nsi : Nat) (nit : Nat) (nsh : Nat) (nsf : Nat) (nss : Nat) (nrc : Nat) (jr : Nat) (jd : Nat) (mnumber : Int32) (mwhose : Int32) (msize : Int32) (misParted : Int32) (fnrc : Nat → Int32) (hjr : jr ≤ 30) (hjd : jd < 7) : K_m_from60 l G h0 xx nw nk mhasKept nt mtaped nr mrowMany mroundOf mroundFrom mouts nm mfromHour mtoHour ns mfrom mto msort misFault mdeep mcoded mlines nl nc nF np ntr nb mbestCost nso nsi nit nsh nsf nss nrc jr jd mnumber mwhose msize misParted fnrc := by
  refine MI.start (by decide +kernel) (Nat.le_of_ble_eq_true rfl) ?_
  intro p e s m below meth c A ls hC hK hP hD hS hA hl
  refine absQ (fun Q0 hQ0 => ?_)
  have hl : lv_has ls 5 [(0, .ref h0), (1, .int 6), (2, .int 0), (3, .int xx)] := hl
  refine Kan8 hC (fun hx hb hr hml hB hown hlocks hnm => ?_)
  refine lv_iload_n hx hb gX12_bodyFrom_0.1 rfl (lv_at1 hl) ?_
  refine lv_istore (lv' := [(4, .int 6), (0, .ref h0), (1, .int 6), (2, .int 0), (3, .int xx)]) hx hb gX12_bodyFrom_0.2.1 hl (by decide) rfl (fun ls hl => ?_)
  refine lv_iload hx hb gX12_bodyFrom_0.2.2.1 (lv_at0 hl) ?_
  refine lv_iload_n hx hb gX12_bodyFrom_0.2.2.2.1 rfl (lv_at3 hl) ?_
  refine pS hC hK hl (m_hasOwn60 l G) si_X12_360 rfl rfl (Nat.le_of_ble_eq_true rfl) rm_12_1_2 ⟨by first | exact Nat.le_of_ble_eq_true rfl | exact Nat.zero_le _, by first | exact Nat.le_of_ble_eq_true rfl | exact Nat.zero_le _⟩ gX12_bodyFrom_0.2.2.2.2.1 (Keqr ?_)
  refine lv_if_ne (tgt := 22) hx hb gX12_bodyFrom_0.2.2.2.2.2.1 (by decide) (fun c9 => absurd (by decide) c9) (fun _ => ?_)
  refine lv_iload hx hb gX12_bodyFrom_0.2.2.2.2.2.2.1 (lv_at0 hl) ?_
  refine pS hC hK hl (m_above6 l G) si_X12_348 rfl rfl (Nat.le_of_ble_eq_true rfl) rm_12_1_1 ⟨by first | exact Nat.le_of_ble_eq_true rfl | exact Nat.zero_le _, by first | exact Nat.le_of_ble_eq_true rfl | exact Nat.zero_le _⟩ gX12_bodyFrom_0.2.2.2.2.2.2.2.1 (Keqr ?_)
  refine lv_istore (lv' := [(4, .int 0), (0, .ref h0), (1, .int 6), (2, .int 0), (3, .int xx)]) hx hb gX12_bodyFrom_0.2.2.2.2.2.2.2.2.1 hl (by decide) rfl (fun ls hl => ?_)
  refine lv_goto (tgt := 3) hx hb gX12_bodyFrom_0.2.2.2.2.2.2.2.2.2 (by decide) ?_
  refine lv_iload hx hb gX12_bodyFrom_0.2.2.1 (lv_at0 hl) ?_
  refine lv_iload_n hx hb gX12_bodyFrom_0.2.2.2.1 rfl (lv_at3 hl) ?_
  refine pS hC hK hl (m_hasOwn00 l G) si_X12_360 rfl rfl (Nat.le_of_ble_eq_true rfl) rm_12_1_2 ⟨by first | exact Nat.le_of_ble_eq_true rfl | exact Nat.zero_le _, by first | exact Nat.le_of_ble_eq_true rfl | exact Nat.zero_le _⟩ gX12_bodyFrom_0.2.2.2.2.1 (Keqr ?_)
  refine lv_if_ne (tgt := 22) hx hb gX12_bodyFrom_0.2.2.2.2.2.1 (by decide) (fun _ => ?_) (fun c9 => absurd c9 (by decide))
  refine lv_aload_n hx hb gX12_bodyFrom_1.1 rfl (lv_at1 hl) ?_
  refine lv_iload hx hb gX12_bodyFrom_1.2.1 (lv_at0 hl) ?_
  refine lv_iload_n hx hb gX12_bodyFrom_1.2.2.1 rfl (lv_at3 hl) ?_
  refine lv_iload_n hx hb gX12_bodyFrom_1.2.2.2.1 rfl (lv_at4 hl) ?_
  refine iV (wr := []) hC hK hl hP hD hS hA (m_body00 l G h0 xx nw nk mhasKept nt mtaped nr mrowMany mroundOf mroundFrom mouts nm mfromHour mtoHour ns mfrom mto msort misFault mdeep mcoded mlines nl nc nF np ntr nb mbestCost nso nsi nit nsh nsf nss nrc jr jd mnumber mwhose msize misParted fnrc (hjr) (hjd)) si_X12_363 [0, 1] [] sm_0_1 fm_0_1 nd_0_1 rfl rfl (by decide) rfl rfl rfl rfl rfl (Nat.le_of_ble_eq_true rfl) rm_12_3_6 ⟨Nat.le_of_ble_eq_true rfl, Nat.le_of_ble_eq_true rfl⟩ gX12_bodyFrom_1.2.2.2.2.1 (fun r6080 => Ktu3 fun jr16082 ip16083 gtrc6084 => ?_)
  intro H locs hr6080 hP hD hS
  try dsimp only at hr6080
  refine Kpdr (ws := [(h0, oX12 nw nk mhasKept nt mtaped nr mrowMany mroundOf mroundFrom mouts nm mfromHour mtoHour ns mfrom mto msort misFault mdeep mcoded mlines nl nc nF np ntr nb mbestCost nso nsi nit nsh nsf nss nrc (nI jr16082) (nI jd) mnumber mwhose msize ip16083), (nrc, iA G 30 gtrc6084)]) hP hD (fun hP hD => ?_)
  obtain ⟨hr6080, w6085⟩ := hr6080
  refine toQ hQ0 ?_
  exact RI (v := r6080) hC hP hD hS [0, 1] (jr16082, ip16083, gtrc6084) rfl rfl (by decide) (⟨trivial, by omega⟩) rfl gX12_bodyFrom_1.2.2.2.2.2
def K_m_dealt0 (l : Launch) (G : GG) (h0 : Nat) (xx : Int32) (nw : Nat) (nk : Nat) (mhasKept : Int32) (nt : Nat) (mtaped : Int32) (nr : Nat) (mrowMany : Int32) (mroundOf : Int32) (mroundFrom : Int32) (mouts : Int32) (nm : Nat) (mfromHour : Int32) (mtoHour : Int32) (ns : Nat) (mfrom : Int32) (mto : Int32) (msort : Int32) (misFault : Int32) (mdeep : Int32) (mcoded : Int32) (mlines : Int32) (nl : Nat) (nc : Nat) (nF : Nat) (np : Nat) (ntr : Nat) (nb : Nat) (mbestCost : Int32) (nso : Nat) (nsi : Nat) (nit : Nat) (nsh : Nat) (nsf : Nat) (nss : Nat) (nrc : Nat) (jr : Nat) (jd : Nat) (mnumber : Int32) (mwhose : Int32) (msize : Int32) (misParted : Int32) (fnrc : Nat → Int32) : Prop := MI l G yX12_dealt cX12_dealt 3 (some .int) 14 0 0 [.ref h0, .int 0, .int xx] [(h0, oX12 nw nk mhasKept nt mtaped nr mrowMany mroundOf mroundFrom mouts nm mfromHour mtoHour ns mfrom mto msort misFault mdeep mcoded mlines nl nc nF np ntr nb mbestCost nso nsi nit nsh nsf nss nrc (nI jr) (nI jd) mnumber mwhose msize misParted), (nrc, iA G 30 fnrc)] (fun (r : Int32) (u : Nat × Int32 × (Nat → Int32)) => (True) ∧ (u.1 ≤ 30)) (fun u : Nat × Int32 × (Nat → Int32) => [(h0, oX12 nw nk mhasKept nt mtaped nr mrowMany mroundOf mroundFrom mouts nm mfromHour mtoHour ns mfrom mto msort misFault mdeep mcoded mlines nl nc nF np ntr nb mbestCost nso nsi nit nsh nsf nss nrc (nI u.1) (nI jd) mnumber mwhose msize u.2.1), (nrc, iA G 30 u.2.2)])
set_option maxHeartbeats 4000000 in
set_option maxRecDepth 100000 in
theorem m_dealt0 (l : Launch) (G : GG) (h0 : Nat) (xx : Int32) (nw : Nat) (nk : Nat) (mhasKept : Int32) (nt : Nat) (mtaped : Int32) (nr : Nat) (mrowMany : Int32) (mroundOf : Int32) (mroundFrom : Int32) (mouts : Int32) (nm : Nat) (mfromHour : Int32) (mtoHour : Int32) (ns : Nat) (mfrom : Int32) (mto : Int32) (msort : Int32) (misFault : Int32) (mdeep : Int32) (mcoded : Int32) (mlines : Int32) (nl : Nat) (nc : Nat) (nF : Nat) (np : Nat) (ntr : Nat) (nb : Nat) (mbestCost : Int32) (nso : Nat) (nsi : Nat) (nit : Nat) (nsh : Nat) (nsf : Nat) (nss : Nat) (nrc : Nat) (jr : Nat) (jd : Nat) (mnumber : Int32) (mwhose : Int32) (msize : Int32) (misParted : Int32) (fnrc : Nat → Int32) (hjr : jr ≤ 30) (hjd : jd < 7) : K_m_dealt0 l G h0 xx nw nk mhasKept nt mtaped nr mrowMany mroundOf mroundFrom mouts nm mfromHour mtoHour ns mfrom mto msort misFault mdeep mcoded mlines nl nc nF np ntr nb mbestCost nso nsi nit nsh nsf nss nrc jr jd mnumber mwhose msize misParted fnrc := by
  refine MI.start (by decide +kernel) (Nat.le_of_ble_eq_true rfl) ?_
  intro p e s m below meth c A ls hC hK hP hD hS hA hl
  refine absQ (fun Q0 hQ0 => ?_)
  have hl : lv_has ls 3 [(0, .ref h0), (1, .int 0), (2, .int xx)] := hl
  refine Kan8 hC (fun hx hb hr hml hB hown hlocks hnm => ?_)
  refine lv_aload_n hx hb gX12_dealt_0.1 rfl (lv_at0 hl) ?_
  refine lv_aload_n hx hb gX12_dealt_0.2.1 rfl (lv_at0 hl) ?_
  refine gf_X12_354 hC rfl hK hP 0 rfl rfl gX12_dealt_0.2.2.1 ?_
  refine lv_iload_n hx hb gX12_dealt_0.2.2.2.1 rfl (lv_at1 hl) ?_
  refine lv_iload_n hx hb gX12_dealt_0.2.2.2.2.1 rfl (lv_at2 hl) ?_
  rcases (show jd = 0 ∨ jd = 1 ∨ jd = 2 ∨ jd = 3 ∨ jd = 4 ∨ jd = 5 ∨ jd = 6 by omega) with rfl | rfl | rfl | rfl | rfl | rfl | rfl
  · refine iV (wr := []) hC hK hl hP hD hS hA (m_from00 l G h0 xx nw nk mhasKept nt mtaped nr mrowMany mroundOf mroundFrom mouts nm mfromHour mtoHour ns mfrom mto msort misFault mdeep mcoded mlines nl nc nF np ntr nb mbestCost nso nsi nit nsh nsf nss nrc jr 0 mnumber mwhose msize misParted fnrc (hjr) (hjd)) si_X12_357 [0, 1] [] sm_0_1 fm_0_1 nd_0_1 rfl rfl (by decide) rfl rfl rfl rfl rfl (Nat.le_of_ble_eq_true rfl) rm_14_4_5 ⟨Nat.le_of_ble_eq_true rfl, Nat.le_of_ble_eq_true rfl⟩ gX12_dealt_0.2.2.2.2.2.1 (fun r6086 => Ktu3 fun jr16088 ip16089 gtrc6090 => ?_)
    intro H locs hr6086 hP hD hS
    try dsimp only at hr6086
    refine Kpdr (ws := [(h0, oX12 nw nk mhasKept nt mtaped nr mrowMany mroundOf mroundFrom mouts nm mfromHour mtoHour ns mfrom mto msort misFault mdeep mcoded mlines nl nc nF np ntr nb mbestCost nso nsi nit nsh nsf nss nrc (nI jr16088) 0 mnumber mwhose msize ip16089), (nrc, iA G 30 gtrc6090)]) hP hD (fun hP hD => ?_)
    obtain ⟨hr6086, w6091⟩ := hr6086
    refine toQ hQ0 ?_
    exact RI (v := r6086) hC hP hD hS [0, 1] (jr16088, ip16089, gtrc6090) rfl rfl (by decide) (⟨trivial, by omega⟩) rfl gX12_dealt_0.2.2.2.2.2.2
  · refine iV (wr := []) hC hK hl hP hD hS hA (m_from10 l G h0 xx nw nk mhasKept nt mtaped nr mrowMany mroundOf mroundFrom mouts nm mfromHour mtoHour ns mfrom mto msort misFault mdeep mcoded mlines nl nc nF np ntr nb mbestCost nso nsi nit nsh nsf nss nrc jr 1 mnumber mwhose msize misParted fnrc (hjr) (hjd)) si_X12_357 [0, 1] [] sm_0_1 fm_0_1 nd_0_1 rfl rfl (by decide) rfl rfl rfl rfl rfl (Nat.le_of_ble_eq_true rfl) rm_14_12_5 ⟨Nat.le_of_ble_eq_true rfl, Nat.le_of_ble_eq_true rfl⟩ gX12_dealt_0.2.2.2.2.2.1 (fun r6092 => Ktu3 fun jr16094 ip16095 gtrc6096 => ?_)
    intro H locs hr6092 hP hD hS
    try dsimp only at hr6092
    refine Kpdr (ws := [(h0, oX12 nw nk mhasKept nt mtaped nr mrowMany mroundOf mroundFrom mouts nm mfromHour mtoHour ns mfrom mto msort misFault mdeep mcoded mlines nl nc nF np ntr nb mbestCost nso nsi nit nsh nsf nss nrc (nI jr16094) 1 mnumber mwhose msize ip16095), (nrc, iA G 30 gtrc6096)]) hP hD (fun hP hD => ?_)
    obtain ⟨hr6092, w6097⟩ := hr6092
    refine toQ hQ0 ?_
    exact RI (v := r6092) hC hP hD hS [0, 1] (jr16094, ip16095, gtrc6096) rfl rfl (by decide) (⟨trivial, by omega⟩) rfl gX12_dealt_0.2.2.2.2.2.2
  · refine iV (wr := []) hC hK hl hP hD hS hA (m_from20 l G h0 xx nw nk mhasKept nt mtaped nr mrowMany mroundOf mroundFrom mouts nm mfromHour mtoHour ns mfrom mto msort misFault mdeep mcoded mlines nl nc nF np ntr nb mbestCost nso nsi nit nsh nsf nss nrc jr 2 mnumber mwhose msize misParted fnrc (hjr) (hjd)) si_X12_357 [0, 1] [] sm_0_1 fm_0_1 nd_0_1 rfl rfl (by decide) rfl rfl rfl rfl rfl (Nat.le_of_ble_eq_true rfl) rm_14_12_5 ⟨Nat.le_of_ble_eq_true rfl, Nat.le_of_ble_eq_true rfl⟩ gX12_dealt_0.2.2.2.2.2.1 (fun r6098 => Ktu3 fun jr16100 ip16101 gtrc6102 => ?_)
    intro H locs hr6098 hP hD hS
    try dsimp only at hr6098
    refine Kpdr (ws := [(h0, oX12 nw nk mhasKept nt mtaped nr mrowMany mroundOf mroundFrom mouts nm mfromHour mtoHour ns mfrom mto msort misFault mdeep mcoded mlines nl nc nF np ntr nb mbestCost nso nsi nit nsh nsf nss nrc (nI jr16100) 2 mnumber mwhose msize ip16101), (nrc, iA G 30 gtrc6102)]) hP hD (fun hP hD => ?_)
    obtain ⟨hr6098, w6103⟩ := hr6098
    refine toQ hQ0 ?_
    exact RI (v := r6098) hC hP hD hS [0, 1] (jr16100, ip16101, gtrc6102) rfl rfl (by decide) (⟨trivial, by omega⟩) rfl gX12_dealt_0.2.2.2.2.2.2
  · refine iV (wr := []) hC hK hl hP hD hS hA (m_from30 l G h0 xx nw nk mhasKept nt mtaped nr mrowMany mroundOf mroundFrom mouts nm mfromHour mtoHour ns mfrom mto msort misFault mdeep mcoded mlines nl nc nF np ntr nb mbestCost nso nsi nit nsh nsf nss nrc jr 3 mnumber mwhose msize misParted fnrc (hjr) (hjd)) si_X12_357 [0, 1] [] sm_0_1 fm_0_1 nd_0_1 rfl rfl (by decide) rfl rfl rfl rfl rfl (Nat.le_of_ble_eq_true rfl) rm_14_12_5 ⟨Nat.le_of_ble_eq_true rfl, Nat.le_of_ble_eq_true rfl⟩ gX12_dealt_0.2.2.2.2.2.1 (fun r6104 => Ktu3 fun jr16106 ip16107 gtrc6108 => ?_)
    intro H locs hr6104 hP hD hS
    try dsimp only at hr6104
    refine Kpdr (ws := [(h0, oX12 nw nk mhasKept nt mtaped nr mrowMany mroundOf mroundFrom mouts nm mfromHour mtoHour ns mfrom mto msort misFault mdeep mcoded mlines nl nc nF np ntr nb mbestCost nso nsi nit nsh nsf nss nrc (nI jr16106) 3 mnumber mwhose msize ip16107), (nrc, iA G 30 gtrc6108)]) hP hD (fun hP hD => ?_)
    obtain ⟨hr6104, w6109⟩ := hr6104
    refine toQ hQ0 ?_
    exact RI (v := r6104) hC hP hD hS [0, 1] (jr16106, ip16107, gtrc6108) rfl rfl (by decide) (⟨trivial, by omega⟩) rfl gX12_dealt_0.2.2.2.2.2.2
  · refine iV (wr := []) hC hK hl hP hD hS hA (m_from40 l G h0 xx nw nk mhasKept nt mtaped nr mrowMany mroundOf mroundFrom mouts nm mfromHour mtoHour ns mfrom mto msort misFault mdeep mcoded mlines nl nc nF np ntr nb mbestCost nso nsi nit nsh nsf nss nrc jr 4 mnumber mwhose msize misParted fnrc (hjr) (hjd)) si_X12_357 [0, 1] [] sm_0_1 fm_0_1 nd_0_1 rfl rfl (by decide) rfl rfl rfl rfl rfl (Nat.le_of_ble_eq_true rfl) rm_14_6_5 ⟨Nat.le_of_ble_eq_true rfl, Nat.le_of_ble_eq_true rfl⟩ gX12_dealt_0.2.2.2.2.2.1 (fun r6110 => Ktu3 fun jr16112 ip16113 gtrc6114 => ?_)
    intro H locs hr6110 hP hD hS
    try dsimp only at hr6110
    refine Kpdr (ws := [(h0, oX12 nw nk mhasKept nt mtaped nr mrowMany mroundOf mroundFrom mouts nm mfromHour mtoHour ns mfrom mto msort misFault mdeep mcoded mlines nl nc nF np ntr nb mbestCost nso nsi nit nsh nsf nss nrc (nI jr16112) 4 mnumber mwhose msize ip16113), (nrc, iA G 30 gtrc6114)]) hP hD (fun hP hD => ?_)
    obtain ⟨hr6110, w6115⟩ := hr6110
    refine toQ hQ0 ?_
    exact RI (v := r6110) hC hP hD hS [0, 1] (jr16112, ip16113, gtrc6114) rfl rfl (by decide) (⟨trivial, by omega⟩) rfl gX12_dealt_0.2.2.2.2.2.2
  · refine iV (wr := []) hC hK hl hP hD hS hA (m_from50 l G h0 xx nw nk mhasKept nt mtaped nr mrowMany mroundOf mroundFrom mouts nm mfromHour mtoHour ns mfrom mto msort misFault mdeep mcoded mlines nl nc nF np ntr nb mbestCost nso nsi nit nsh nsf nss nrc jr 5 mnumber mwhose msize misParted fnrc (hjr) (hjd)) si_X12_357 [0, 1] [] sm_0_1 fm_0_1 nd_0_1 rfl rfl (by decide) rfl rfl rfl rfl rfl (Nat.le_of_ble_eq_true rfl) rm_14_8_5 ⟨Nat.le_of_ble_eq_true rfl, Nat.le_of_ble_eq_true rfl⟩ gX12_dealt_0.2.2.2.2.2.1 (fun r6116 => Ktu3 fun jr16118 ip16119 gtrc6120 => ?_)
    intro H locs hr6116 hP hD hS
    try dsimp only at hr6116
    refine Kpdr (ws := [(h0, oX12 nw nk mhasKept nt mtaped nr mrowMany mroundOf mroundFrom mouts nm mfromHour mtoHour ns mfrom mto msort misFault mdeep mcoded mlines nl nc nF np ntr nb mbestCost nso nsi nit nsh nsf nss nrc (nI jr16118) 5 mnumber mwhose msize ip16119), (nrc, iA G 30 gtrc6120)]) hP hD (fun hP hD => ?_)
    obtain ⟨hr6116, w6121⟩ := hr6116
    refine toQ hQ0 ?_
    exact RI (v := r6116) hC hP hD hS [0, 1] (jr16118, ip16119, gtrc6120) rfl rfl (by decide) (⟨trivial, by omega⟩) rfl gX12_dealt_0.2.2.2.2.2.2
  · refine iV (wr := []) hC hK hl hP hD hS hA (m_from60 l G h0 xx nw nk mhasKept nt mtaped nr mrowMany mroundOf mroundFrom mouts nm mfromHour mtoHour ns mfrom mto msort misFault mdeep mcoded mlines nl nc nF np ntr nb mbestCost nso nsi nit nsh nsf nss nrc jr 6 mnumber mwhose msize misParted fnrc (hjr) (hjd)) si_X12_357 [0, 1] [] sm_0_1 fm_0_1 nd_0_1 rfl rfl (by decide) rfl rfl rfl rfl rfl (Nat.le_of_ble_eq_true rfl) rm_14_12_5 ⟨Nat.le_of_ble_eq_true rfl, Nat.le_of_ble_eq_true rfl⟩ gX12_dealt_0.2.2.2.2.2.1 (fun r6122 => Ktu3 fun jr16124 ip16125 gtrc6126 => ?_)
    intro H locs hr6122 hP hD hS
    try dsimp only at hr6122
    refine Kpdr (ws := [(h0, oX12 nw nk mhasKept nt mtaped nr mrowMany mroundOf mroundFrom mouts nm mfromHour mtoHour ns mfrom mto msort misFault mdeep mcoded mlines nl nc nF np ntr nb mbestCost nso nsi nit nsh nsf nss nrc (nI jr16124) 6 mnumber mwhose msize ip16125), (nrc, iA G 30 gtrc6126)]) hP hD (fun hP hD => ?_)
    obtain ⟨hr6122, w6127⟩ := hr6122
    refine toQ hQ0 ?_
    exact RI (v := r6122) hC hP hD hS [0, 1] (jr16124, ip16125, gtrc6126) rfl rfl (by decide) (⟨trivial, by omega⟩) rfl gX12_dealt_0.2.2.2.2.2.2
def K_m_body01 (l : Launch) (G : GG) (h0 : Nat) (xx : Int32) (nw : Nat) (nk : Nat) (mhasKept : Int32) (nt : Nat) (mtaped : Int32) (nr : Nat) (mrowMany : Int32) (mroundOf : Int32) (mroundFrom : Int32) (mouts : Int32) (nm : Nat) (mfromHour : Int32) (mtoHour : Int32) (ns : Nat) (mfrom : Int32) (mto : Int32) (msort : Int32) (misFault : Int32) (mdeep : Int32) (mcoded : Int32) (mlines : Int32) (nl : Nat) (nc : Nat) (nF : Nat) (np : Nat) (ntr : Nat) (nb : Nat) (mbestCost : Int32) (nso : Nat) (nsi : Nat) (nit : Nat) (nsh : Nat) (nsf : Nat) (nss : Nat) (nrc : Nat) (jr : Nat) (jd : Nat) (mnumber : Int32) (mwhose : Int32) (msize : Int32) (misParted : Int32) (fnrc : Nat → Int32) : Prop := MI l G yX12_body cX12_body 6 (some .int) 15 0 0 [.ref h0, .int 0, .int 1, .int xx] [(h0, oX12 nw nk mhasKept nt mtaped nr mrowMany mroundOf mroundFrom mouts nm mfromHour mtoHour ns mfrom mto msort misFault mdeep mcoded mlines nl nc nF np ntr nb mbestCost nso nsi nit nsh nsf nss nrc (nI jr) (nI jd) mnumber mwhose msize misParted), (nrc, iA G 30 fnrc)] (fun (r : Int32) (u : Nat × Int32 × (Nat → Int32)) => (True) ∧ (u.1 ≤ 30)) (fun u : Nat × Int32 × (Nat → Int32) => [(h0, oX12 nw nk mhasKept nt mtaped nr mrowMany mroundOf mroundFrom mouts nm mfromHour mtoHour ns mfrom mto msort misFault mdeep mcoded mlines nl nc nF np ntr nb mbestCost nso nsi nit nsh nsf nss nrc (nI u.1) (nI jd) mnumber mwhose msize u.2.1), (nrc, iA G 30 u.2.2)])
set_option maxHeartbeats 4000000 in
set_option maxRecDepth 100000 in
theorem m_body01 (l : Launch) (G : GG) (h0 : Nat) (xx : Int32) (nw : Nat) (nk : Nat) (mhasKept : Int32) (nt : Nat) (mtaped : Int32) (nr : Nat) (mrowMany : Int32) (mroundOf : Int32) (mroundFrom : Int32) (mouts : Int32) (nm : Nat) (mfromHour : Int32) (mtoHour : Int32) (ns : Nat) (mfrom : Int32) (mto : Int32) (msort : Int32) (misFault : Int32) (mdeep : Int32) (mcoded : Int32) (mlines : Int32) (nl : Nat) (nc : Nat) (nF : Nat) (np : Nat) (ntr : Nat) (nb : Nat) (mbestCost : Int32) (nso : Nat) (nsi : Nat) (nit : Nat) (nsh : Nat) (nsf : Nat) (nss : Nat) (nrc : Nat) (jr : Nat) (jd : Nat) (mnumber : Int32) (mwhose : Int32) (msize : Int32) (misParted : Int32) (fnrc : Nat → Int32) (hjr : jr ≤ 30) (hjd : jd < 7) : K_m_body01 l G h0 xx nw nk mhasKept nt mtaped nr mrowMany mroundOf mroundFrom mouts nm mfromHour mtoHour ns mfrom mto msort misFault mdeep mcoded mlines nl nc nF np ntr nb mbestCost nso nsi nit nsh nsf nss nrc jr jd mnumber mwhose msize misParted fnrc := by
  refine MI.start (by decide +kernel) (Nat.le_of_ble_eq_true rfl) ?_
  intro p e s m below meth c A ls hC hK hP hD hS hA hl
  refine absQ (fun Q0 hQ0 => ?_)
  have hl : lv_has ls 6 [(0, .ref h0), (1, .int 0), (2, .int 1), (3, .int xx)] := hl
  refine Kan8 hC (fun hx hb hr hml hB hown hlocks hnm => ?_)
  refine lv_iconst (v := 4) hx hb gX12_body_0.1 (by decide) ?_
  refine lv_iload_n hx hb gX12_body_0.2.1 rfl (lv_at1 hl) ?_
  refine lv_imul hx hb gX12_body_0.2.2.1 ?_
  refine eqi (x1 := 0) (by decide) ?_
  refine lv_iload_n hx hb gX12_body_0.2.2.2.1 rfl (lv_at2 hl) ?_
  refine lv_iadd hx hb gX12_body_0.2.2.2.2.1 ?_
  refine eqi (x1 := 1) (by decide) ?_
  refine lv_tableIn (tgt := 125) hx hb gX12_body_0.2.2.2.2.2.1 (by decide) (by decide) rfl (by decide) ?_
  refine lv_aload_n hx hb gX12_body_1.2.2.2.2.1 rfl (lv_at0 hl) ?_
  refine lv_bipush (v := 11) hx hb gX12_body_1.2.2.2.2.2.1 (by decide) ?_
  refine vV (wr := []) hC hK hl hP hD hS hA (m_began l G h0 11 nw nk mhasKept nt mtaped nr mrowMany mroundOf mroundFrom mouts nm mfromHour mtoHour ns mfrom mto msort misFault mdeep mcoded mlines nl nc nF np ntr nb mbestCost nso nsi nit nsh nsf nss nrc jr (nI jd) mnumber mwhose msize misParted fnrc (hjr)) si_X12_366 [0, 1] [] sm_0_1 fm_0_1 nd_0_1 rfl rfl (by decide) rfl rfl rfl rfl rfl (Nat.le_of_ble_eq_true rfl) rm_15_1_2 ⟨Nat.le_of_ble_eq_true rfl, Nat.le_of_ble_eq_true rfl⟩ gX12_body_1.2.2.2.2.2.2.1 (Ktu2 fun jr16130 gtrc6131 => ?_)
  intro H locs hr6128 hP hD hS
  try dsimp only at hr6128
  refine Kpdr (ws := [(h0, oX12 nw nk mhasKept nt mtaped nr mrowMany mroundOf mroundFrom mouts nm mfromHour mtoHour ns mfrom mto msort misFault mdeep mcoded mlines nl nc nF np ntr nb mbestCost nso nsi nit nsh nsf nss nrc (nI jr16130) (nI jd) mnumber mwhose msize misParted), (nrc, iA G 30 gtrc6131)]) hP hD (fun hP hD => ?_)
  have w6132 := hr6128
  refine lv_aload_n hx hb gX12_body_1.2.2.2.2.2.2.2.1 rfl (lv_at0 hl) ?_
  refine lv_iconst (v := 0) hx hb gX12_body_1.2.2.2.2.2.2.2.2.1 (by decide) ?_
  refine lv_iload_n hx hb gX12_body_1.2.2.2.2.2.2.2.2.2 rfl (lv_at3 hl) ?_
  refine iV (wr := []) hC hK hl hP hD hS hA (m_dealt0 l G h0 xx nw nk mhasKept nt mtaped nr mrowMany mroundOf mroundFrom mouts nm mfromHour mtoHour ns mfrom mto msort misFault mdeep mcoded mlines nl nc nF np ntr nb mbestCost nso nsi nit nsh nsf nss nrc jr16130 jd mnumber mwhose msize misParted gtrc6131 (w6132) (hjd)) si_X12_372 [0, 1] [] sm_0_1 fm_0_1 nd_0_1 rfl rfl (by decide) rfl rfl rfl rfl rfl (Nat.le_of_ble_eq_true rfl) rm_15_14_3 ⟨Nat.le_of_ble_eq_true rfl, Nat.le_of_ble_eq_true rfl⟩ gX12_body_2.1 (fun r6133 => Ktu3 fun jr16135 ip16136 gtrc6137 => ?_)
  intro H locs hr6133 hP hD hS
  try dsimp only at hr6133
  refine Kpdr (ws := [(h0, oX12 nw nk mhasKept nt mtaped nr mrowMany mroundOf mroundFrom mouts nm mfromHour mtoHour ns mfrom mto msort misFault mdeep mcoded mlines nl nc nF np ntr nb mbestCost nso nsi nit nsh nsf nss nrc (nI jr16135) (nI jd) mnumber mwhose msize ip16136), (nrc, iA G 30 gtrc6137)]) hP hD (fun hP hD => ?_)
  obtain ⟨hr6133, w6138⟩ := hr6133
  refine lv_iconst (v := 2) hx hb gX12_body_2.2.1 (by decide) ?_
  refine lv_imul hx hb gX12_body_2.2.2.1 ?_
  refine toQ hQ0 ?_
  exact RI (v := r6133 * 2) hC hP hD hS [0, 1] (jr16135, ip16136, gtrc6137) rfl rfl (by decide) (⟨trivial, by omega⟩) rfl gX12_body_2.2.2.2.1
def K_m_from01 (l : Launch) (G : GG) (h0 : Nat) (xx : Int32) (nw : Nat) (nk : Nat) (mhasKept : Int32) (nt : Nat) (mtaped : Int32) (nr : Nat) (mrowMany : Int32) (mroundOf : Int32) (mroundFrom : Int32) (mouts : Int32) (nm : Nat) (mfromHour : Int32) (mtoHour : Int32) (ns : Nat) (mfrom : Int32) (mto : Int32) (msort : Int32) (misFault : Int32) (mdeep : Int32) (mcoded : Int32) (mlines : Int32) (nl : Nat) (nc : Nat) (nF : Nat) (np : Nat) (ntr : Nat) (nb : Nat) (mbestCost : Int32) (nso : Nat) (nsi : Nat) (nit : Nat) (nsh : Nat) (nsf : Nat) (nss : Nat) (nrc : Nat) (jr : Nat) (jd : Nat) (mnumber : Int32) (mwhose : Int32) (msize : Int32) (misParted : Int32) (fnrc : Nat → Int32) : Prop := MI l G yX12_bodyFrom cX12_bodyFrom 5 (some .int) 16 0 0 [.ref h0, .int 0, .int 1, .int xx] [(h0, oX12 nw nk mhasKept nt mtaped nr mrowMany mroundOf mroundFrom mouts nm mfromHour mtoHour ns mfrom mto msort misFault mdeep mcoded mlines nl nc nF np ntr nb mbestCost nso nsi nit nsh nsf nss nrc (nI jr) (nI jd) mnumber mwhose msize misParted), (nrc, iA G 30 fnrc)] (fun (r : Int32) (u : Nat × Int32 × (Nat → Int32)) => (True) ∧ (u.1 ≤ 30)) (fun u : Nat × Int32 × (Nat → Int32) => [(h0, oX12 nw nk mhasKept nt mtaped nr mrowMany mroundOf mroundFrom mouts nm mfromHour mtoHour ns mfrom mto msort misFault mdeep mcoded mlines nl nc nF np ntr nb mbestCost nso nsi nit nsh nsf nss nrc (nI u.1) (nI jd) mnumber mwhose msize u.2.1), (nrc, iA G 30 u.2.2)])
set_option maxHeartbeats 4000000 in
set_option maxRecDepth 100000 in
theorem m_from01 (l : Launch) (G : GG) (h0 : Nat) (xx : Int32) (nw : Nat) (nk : Nat) (mhasKept : Int32) (nt : Nat) (mtaped : Int32) (nr : Nat) (mrowMany : Int32) (mroundOf : Int32) (mroundFrom : Int32) (mouts : Int32) (nm : Nat) (mfromHour : Int32) (mtoHour : Int32) (ns : Nat) (mfrom : Int32) (mto : Int32) (msort : Int32) (misFault : Int32) (mdeep : Int32) (mcoded : Int32) (mlines : Int32) (nl : Nat) (nc : Nat) (nF : Nat) (np : Nat) (ntr : Nat) (nb : Nat) (mbestCost : Int32) (nso : Nat) (nsi : Nat) (nit : Nat) (nsh : Nat) (nsf : Nat) (nss : Nat) (nrc : Nat) (jr : Nat) (jd : Nat) (mnumber : Int32) (mwhose : Int32) (msize : Int32) (misParted : Int32) (fnrc : Nat → Int32) (hjr : jr ≤ 30) (hjd : jd < 7) : K_m_from01 l G h0 xx nw nk mhasKept nt mtaped nr mrowMany mroundOf mroundFrom mouts nm mfromHour mtoHour ns mfrom mto msort misFault mdeep mcoded mlines nl nc nF np ntr nb mbestCost nso nsi nit nsh nsf nss nrc jr jd mnumber mwhose msize misParted fnrc := by
  refine MI.start (by decide +kernel) (Nat.le_of_ble_eq_true rfl) ?_
  intro p e s m below meth c A ls hC hK hP hD hS hA hl
  refine absQ (fun Q0 hQ0 => ?_)
  have hl : lv_has ls 5 [(0, .ref h0), (1, .int 0), (2, .int 1), (3, .int xx)] := hl
  refine Kan8 hC (fun hx hb hr hml hB hown hlocks hnm => ?_)
  refine lv_iload_n hx hb gX12_bodyFrom_0.1 rfl (lv_at1 hl) ?_
  refine lv_istore (lv' := [(4, .int 0), (0, .ref h0), (1, .int 0), (2, .int 1), (3, .int xx)]) hx hb gX12_bodyFrom_0.2.1 hl (by decide) rfl (fun ls hl => ?_)
  refine lv_iload hx hb gX12_bodyFrom_0.2.2.1 (lv_at0 hl) ?_
  refine lv_iload_n hx hb gX12_bodyFrom_0.2.2.2.1 rfl (lv_at3 hl) ?_
  refine pS hC hK hl (m_hasOwn01 l G) si_X12_360 rfl rfl (Nat.le_of_ble_eq_true rfl) rm_16_1_2 ⟨by first | exact Nat.le_of_ble_eq_true rfl | exact Nat.zero_le _, by first | exact Nat.le_of_ble_eq_true rfl | exact Nat.zero_le _⟩ gX12_bodyFrom_0.2.2.2.2.1 (Keqr ?_)
  refine lv_if_ne (tgt := 22) hx hb gX12_bodyFrom_0.2.2.2.2.2.1 (by decide) (fun _ => ?_) (fun c9 => absurd c9 (by decide))
  refine lv_aload_n hx hb gX12_bodyFrom_1.1 rfl (lv_at1 hl) ?_
  refine lv_iload hx hb gX12_bodyFrom_1.2.1 (lv_at0 hl) ?_
  refine lv_iload_n hx hb gX12_bodyFrom_1.2.2.1 rfl (lv_at3 hl) ?_
  refine lv_iload_n hx hb gX12_bodyFrom_1.2.2.2.1 rfl (lv_at4 hl) ?_
  refine iV (wr := []) hC hK hl hP hD hS hA (m_body01 l G h0 xx nw nk mhasKept nt mtaped nr mrowMany mroundOf mroundFrom mouts nm mfromHour mtoHour ns mfrom mto msort misFault mdeep mcoded mlines nl nc nF np ntr nb mbestCost nso nsi nit nsh nsf nss nrc jr jd mnumber mwhose msize misParted fnrc (hjr) (hjd)) si_X12_363 [0, 1] [] sm_0_1 fm_0_1 nd_0_1 rfl rfl (by decide) rfl rfl rfl rfl rfl (Nat.le_of_ble_eq_true rfl) rm_16_15_6 ⟨Nat.le_of_ble_eq_true rfl, Nat.le_of_ble_eq_true rfl⟩ gX12_bodyFrom_1.2.2.2.2.1 (fun r6141 => Ktu3 fun jr16143 ip16144 gtrc6145 => ?_)
  intro H locs hr6141 hP hD hS
  try dsimp only at hr6141
  refine Kpdr (ws := [(h0, oX12 nw nk mhasKept nt mtaped nr mrowMany mroundOf mroundFrom mouts nm mfromHour mtoHour ns mfrom mto msort misFault mdeep mcoded mlines nl nc nF np ntr nb mbestCost nso nsi nit nsh nsf nss nrc (nI jr16143) (nI jd) mnumber mwhose msize ip16144), (nrc, iA G 30 gtrc6145)]) hP hD (fun hP hD => ?_)
  obtain ⟨hr6141, w6146⟩ := hr6141
  refine toQ hQ0 ?_
  exact RI (v := r6141) hC hP hD hS [0, 1] (jr16143, ip16144, gtrc6145) rfl rfl (by decide) (⟨trivial, by omega⟩) rfl gX12_bodyFrom_1.2.2.2.2.2
def K_m_body11 (l : Launch) (G : GG) (h0 : Nat) (xx : Int32) (nw : Nat) (nk : Nat) (mhasKept : Int32) (nt : Nat) (mtaped : Int32) (nr : Nat) (mrowMany : Int32) (mroundOf : Int32) (mroundFrom : Int32) (mouts : Int32) (nm : Nat) (mfromHour : Int32) (mtoHour : Int32) (ns : Nat) (mfrom : Int32) (mto : Int32) (msort : Int32) (misFault : Int32) (mdeep : Int32) (mcoded : Int32) (mlines : Int32) (nl : Nat) (nc : Nat) (nF : Nat) (np : Nat) (ntr : Nat) (nb : Nat) (mbestCost : Int32) (nso : Nat) (nsi : Nat) (nit : Nat) (nsh : Nat) (nsf : Nat) (nss : Nat) (nrc : Nat) (jr : Nat) (jd : Nat) (mnumber : Int32) (mwhose : Int32) (msize : Int32) (misParted : Int32) (fnrc : Nat → Int32) : Prop := MI l G yX12_body cX12_body 6 (some .int) 17 0 0 [.ref h0, .int 1, .int 1, .int xx] [(h0, oX12 nw nk mhasKept nt mtaped nr mrowMany mroundOf mroundFrom mouts nm mfromHour mtoHour ns mfrom mto msort misFault mdeep mcoded mlines nl nc nF np ntr nb mbestCost nso nsi nit nsh nsf nss nrc (nI jr) (nI jd) mnumber mwhose msize misParted), (nrc, iA G 30 fnrc)] (fun (r : Int32) (u : Nat × Int32 × (Nat → Int32)) => (True) ∧ (u.1 ≤ 30)) (fun u : Nat × Int32 × (Nat → Int32) => [(h0, oX12 nw nk mhasKept nt mtaped nr mrowMany mroundOf mroundFrom mouts nm mfromHour mtoHour ns mfrom mto msort misFault mdeep mcoded mlines nl nc nF np ntr nb mbestCost nso nsi nit nsh nsf nss nrc (nI u.1) (nI jd) mnumber mwhose msize u.2.1), (nrc, iA G 30 u.2.2)])
set_option maxHeartbeats 4000000 in
set_option maxRecDepth 100000 in
theorem m_body11 (l : Launch) (G : GG) (h0 : Nat) (xx : Int32) (nw : Nat) (nk : Nat) (mhasKept : Int32) (nt : Nat) (mtaped : Int32) (nr : Nat) (mrowMany : Int32) (mroundOf : Int32) (mroundFrom : Int32) (mouts : Int32) (nm : Nat) (mfromHour : Int32) (mtoHour : Int32) (ns : Nat) (mfrom : Int32) (mto : Int32) (msort : Int32) (misFault : Int32) (mdeep : Int32) (mcoded : Int32) (mlines : Int32) (nl : Nat) (nc : Nat) (nF : Nat) (np : Nat) (ntr : Nat) (nb : Nat) (mbestCost : Int32) (nso : Nat) (nsi : Nat) (nit : Nat) (nsh : Nat) (nsf : Nat) (nss : Nat) (nrc : Nat) (jr : Nat) (jd : Nat) (mnumber : Int32) (mwhose : Int32) (msize : Int32) (misParted : Int32) (fnrc : Nat → Int32) (hjr : jr ≤ 30) (hjd : jd < 7) : K_m_body11 l G h0 xx nw nk mhasKept nt mtaped nr mrowMany mroundOf mroundFrom mouts nm mfromHour mtoHour ns mfrom mto msort misFault mdeep mcoded mlines nl nc nF np ntr nb mbestCost nso nsi nit nsh nsf nss nrc jr jd mnumber mwhose msize misParted fnrc := by
  refine MI.start (by decide +kernel) (Nat.le_of_ble_eq_true rfl) ?_
  intro p e s m below meth c A ls hC hK hP hD hS hA hl
  refine absQ (fun Q0 hQ0 => ?_)
  have hl : lv_has ls 6 [(0, .ref h0), (1, .int 1), (2, .int 1), (3, .int xx)] := hl
  refine Kan8 hC (fun hx hb hr hml hB hown hlocks hnm => ?_)
  refine lv_iconst (v := 4) hx hb gX12_body_0.1 (by decide) ?_
  refine lv_iload_n hx hb gX12_body_0.2.1 rfl (lv_at1 hl) ?_
  refine lv_imul hx hb gX12_body_0.2.2.1 ?_
  refine eqi (x1 := 4) (by decide) ?_
  refine lv_iload_n hx hb gX12_body_0.2.2.2.1 rfl (lv_at2 hl) ?_
  refine lv_iadd hx hb gX12_body_0.2.2.2.2.1 ?_
  refine eqi (x1 := 5) (by decide) ?_
  refine lv_tableIn (tgt := 207) hx hb gX12_body_0.2.2.2.2.2.1 (by decide) (by decide) rfl (by decide) ?_
  refine lv_aload_n hx hb gX12_body_6.2.1 rfl (lv_at0 hl) ?_
  refine lv_bipush (v := 20) hx hb gX12_body_6.2.2.1 (by decide) ?_
  refine vV (wr := []) hC hK hl hP hD hS hA (m_began l G h0 20 nw nk mhasKept nt mtaped nr mrowMany mroundOf mroundFrom mouts nm mfromHour mtoHour ns mfrom mto msort misFault mdeep mcoded mlines nl nc nF np ntr nb mbestCost nso nsi nit nsh nsf nss nrc jr (nI jd) mnumber mwhose msize misParted fnrc (hjr)) si_X12_366 [0, 1] [] sm_0_1 fm_0_1 nd_0_1 rfl rfl (by decide) rfl rfl rfl rfl rfl (Nat.le_of_ble_eq_true rfl) rm_17_1_2 ⟨Nat.le_of_ble_eq_true rfl, Nat.le_of_ble_eq_true rfl⟩ gX12_body_6.2.2.2.1 (Ktu2 fun jr16149 gtrc6150 => ?_)
  intro H locs hr6147 hP hD hS
  try dsimp only at hr6147
  refine Kpdr (ws := [(h0, oX12 nw nk mhasKept nt mtaped nr mrowMany mroundOf mroundFrom mouts nm mfromHour mtoHour ns mfrom mto msort misFault mdeep mcoded mlines nl nc nF np ntr nb mbestCost nso nsi nit nsh nsf nss nrc (nI jr16149) (nI jd) mnumber mwhose msize misParted), (nrc, iA G 30 gtrc6150)]) hP hD (fun hP hD => ?_)
  have w6151 := hr6147
  refine lv_aload_n hx hb gX12_body_6.2.2.2.2.1 rfl (lv_at0 hl) ?_
  refine lv_iconst (v := 0) hx hb gX12_body_6.2.2.2.2.2.1 (by decide) ?_
  refine lv_iconst (v := 1) hx hb gX12_body_6.2.2.2.2.2.2.1 (by decide) ?_
  refine lv_iload_n hx hb gX12_body_6.2.2.2.2.2.2.2.1 rfl (lv_at3 hl) ?_
  refine iV (wr := []) hC hK hl hP hD hS hA (m_from01 l G h0 xx nw nk mhasKept nt mtaped nr mrowMany mroundOf mroundFrom mouts nm mfromHour mtoHour ns mfrom mto msort misFault mdeep mcoded mlines nl nc nF np ntr nb mbestCost nso nsi nit nsh nsf nss nrc jr16149 jd mnumber mwhose msize misParted gtrc6150 (w6151) (hjd)) si_X12_357 [0, 1] [] sm_0_1 fm_0_1 nd_0_1 rfl rfl (by decide) rfl rfl rfl rfl rfl (Nat.le_of_ble_eq_true rfl) rm_17_16_5 ⟨Nat.le_of_ble_eq_true rfl, Nat.le_of_ble_eq_true rfl⟩ gX12_body_6.2.2.2.2.2.2.2.2.1 (fun r6152 => Ktu3 fun jr16154 ip16155 gtrc6156 => ?_)
  intro H locs hr6152 hP hD hS
  try dsimp only at hr6152
  refine Kpdr (ws := [(h0, oX12 nw nk mhasKept nt mtaped nr mrowMany mroundOf mroundFrom mouts nm mfromHour mtoHour ns mfrom mto msort misFault mdeep mcoded mlines nl nc nF np ntr nb mbestCost nso nsi nit nsh nsf nss nrc (nI jr16154) (nI jd) mnumber mwhose msize ip16155), (nrc, iA G 30 gtrc6156)]) hP hD (fun hP hD => ?_)
  obtain ⟨hr6152, w6157⟩ := hr6152
  refine lv_aload_n hx hb gX12_body_6.2.2.2.2.2.2.2.2.2 rfl (lv_at0 hl) ?_
  refine gf_X12_378 hC rfl hK hP 0 rfl rfl gX12_body_7.1 ?_
  refine lv_ixor hx hb gX12_body_7.2.1 ?_
  refine toQ hQ0 ?_
  exact RI (v := r6152 ^^^ mnumber) hC hP hD hS [0, 1] (jr16154, ip16155, gtrc6156) rfl rfl (by decide) (⟨trivial, by omega⟩) rfl gX12_body_7.2.2.1
def K_m_from11 (l : Launch) (G : GG) (h0 : Nat) (xx : Int32) (nw : Nat) (nk : Nat) (mhasKept : Int32) (nt : Nat) (mtaped : Int32) (nr : Nat) (mrowMany : Int32) (mroundOf : Int32) (mroundFrom : Int32) (mouts : Int32) (nm : Nat) (mfromHour : Int32) (mtoHour : Int32) (ns : Nat) (mfrom : Int32) (mto : Int32) (msort : Int32) (misFault : Int32) (mdeep : Int32) (mcoded : Int32) (mlines : Int32) (nl : Nat) (nc : Nat) (nF : Nat) (np : Nat) (ntr : Nat) (nb : Nat) (mbestCost : Int32) (nso : Nat) (nsi : Nat) (nit : Nat) (nsh : Nat) (nsf : Nat) (nss : Nat) (nrc : Nat) (jr : Nat) (jd : Nat) (mnumber : Int32) (mwhose : Int32) (msize : Int32) (misParted : Int32) (fnrc : Nat → Int32) : Prop := MI l G yX12_bodyFrom cX12_bodyFrom 5 (some .int) 18 0 0 [.ref h0, .int 1, .int 1, .int xx] [(h0, oX12 nw nk mhasKept nt mtaped nr mrowMany mroundOf mroundFrom mouts nm mfromHour mtoHour ns mfrom mto msort misFault mdeep mcoded mlines nl nc nF np ntr nb mbestCost nso nsi nit nsh nsf nss nrc (nI jr) (nI jd) mnumber mwhose msize misParted), (nrc, iA G 30 fnrc)] (fun (r : Int32) (u : Nat × Int32 × (Nat → Int32)) => (True) ∧ (u.1 ≤ 30)) (fun u : Nat × Int32 × (Nat → Int32) => [(h0, oX12 nw nk mhasKept nt mtaped nr mrowMany mroundOf mroundFrom mouts nm mfromHour mtoHour ns mfrom mto msort misFault mdeep mcoded mlines nl nc nF np ntr nb mbestCost nso nsi nit nsh nsf nss nrc (nI u.1) (nI jd) mnumber mwhose msize u.2.1), (nrc, iA G 30 u.2.2)])
set_option maxHeartbeats 4000000 in
set_option maxRecDepth 100000 in
theorem m_from11 (l : Launch) (G : GG) (h0 : Nat) (xx : Int32) (nw : Nat) (nk : Nat) (mhasKept : Int32) (nt : Nat) (mtaped : Int32) (nr : Nat) (mrowMany : Int32) (mroundOf : Int32) (mroundFrom : Int32) (mouts : Int32) (nm : Nat) (mfromHour : Int32) (mtoHour : Int32) (ns : Nat) (mfrom : Int32) (mto : Int32) (msort : Int32) (misFault : Int32) (mdeep : Int32) (mcoded : Int32) (mlines : Int32) (nl : Nat) (nc : Nat) (nF : Nat) (np : Nat) (ntr : Nat) (nb : Nat) (mbestCost : Int32) (nso : Nat) (nsi : Nat) (nit : Nat) (nsh : Nat) (nsf : Nat) (nss : Nat) (nrc : Nat) (jr : Nat) (jd : Nat) (mnumber : Int32) (mwhose : Int32) (msize : Int32) (misParted : Int32) (fnrc : Nat → Int32) (hjr : jr ≤ 30) (hjd : jd < 7) : K_m_from11 l G h0 xx nw nk mhasKept nt mtaped nr mrowMany mroundOf mroundFrom mouts nm mfromHour mtoHour ns mfrom mto msort misFault mdeep mcoded mlines nl nc nF np ntr nb mbestCost nso nsi nit nsh nsf nss nrc jr jd mnumber mwhose msize misParted fnrc := by
  refine MI.start (by decide +kernel) (Nat.le_of_ble_eq_true rfl) ?_
  intro p e s m below meth c A ls hC hK hP hD hS hA hl
  refine absQ (fun Q0 hQ0 => ?_)
  have hl : lv_has ls 5 [(0, .ref h0), (1, .int 1), (2, .int 1), (3, .int xx)] := hl
  refine Kan8 hC (fun hx hb hr hml hB hown hlocks hnm => ?_)
  refine lv_iload_n hx hb gX12_bodyFrom_0.1 rfl (lv_at1 hl) ?_
  refine lv_istore (lv' := [(4, .int 1), (0, .ref h0), (1, .int 1), (2, .int 1), (3, .int xx)]) hx hb gX12_bodyFrom_0.2.1 hl (by decide) rfl (fun ls hl => ?_)
  refine lv_iload hx hb gX12_bodyFrom_0.2.2.1 (lv_at0 hl) ?_
  refine lv_iload_n hx hb gX12_bodyFrom_0.2.2.2.1 rfl (lv_at3 hl) ?_
  refine pS hC hK hl (m_hasOwn11 l G) si_X12_360 rfl rfl (Nat.le_of_ble_eq_true rfl) rm_18_1_2 ⟨by first | exact Nat.le_of_ble_eq_true rfl | exact Nat.zero_le _, by first | exact Nat.le_of_ble_eq_true rfl | exact Nat.zero_le _⟩ gX12_bodyFrom_0.2.2.2.2.1 (Keqr ?_)
  refine lv_if_ne (tgt := 22) hx hb gX12_bodyFrom_0.2.2.2.2.2.1 (by decide) (fun _ => ?_) (fun c9 => absurd c9 (by decide))
  refine lv_aload_n hx hb gX12_bodyFrom_1.1 rfl (lv_at1 hl) ?_
  refine lv_iload hx hb gX12_bodyFrom_1.2.1 (lv_at0 hl) ?_
  refine lv_iload_n hx hb gX12_bodyFrom_1.2.2.1 rfl (lv_at3 hl) ?_
  refine lv_iload_n hx hb gX12_bodyFrom_1.2.2.2.1 rfl (lv_at4 hl) ?_
  refine iV (wr := []) hC hK hl hP hD hS hA (m_body11 l G h0 xx nw nk mhasKept nt mtaped nr mrowMany mroundOf mroundFrom mouts nm mfromHour mtoHour ns mfrom mto msort misFault mdeep mcoded mlines nl nc nF np ntr nb mbestCost nso nsi nit nsh nsf nss nrc jr jd mnumber mwhose msize misParted fnrc (hjr) (hjd)) si_X12_363 [0, 1] [] sm_0_1 fm_0_1 nd_0_1 rfl rfl (by decide) rfl rfl rfl rfl rfl (Nat.le_of_ble_eq_true rfl) rm_18_17_6 ⟨Nat.le_of_ble_eq_true rfl, Nat.le_of_ble_eq_true rfl⟩ gX12_bodyFrom_1.2.2.2.2.1 (fun r6160 => Ktu3 fun jr16162 ip16163 gtrc6164 => ?_)
  intro H locs hr6160 hP hD hS
  try dsimp only at hr6160
  refine Kpdr (ws := [(h0, oX12 nw nk mhasKept nt mtaped nr mrowMany mroundOf mroundFrom mouts nm mfromHour mtoHour ns mfrom mto msort misFault mdeep mcoded mlines nl nc nF np ntr nb mbestCost nso nsi nit nsh nsf nss nrc (nI jr16162) (nI jd) mnumber mwhose msize ip16163), (nrc, iA G 30 gtrc6164)]) hP hD (fun hP hD => ?_)
  obtain ⟨hr6160, w6165⟩ := hr6160
  refine toQ hQ0 ?_
  exact RI (v := r6160) hC hP hD hS [0, 1] (jr16162, ip16163, gtrc6164) rfl rfl (by decide) (⟨trivial, by omega⟩) rfl gX12_bodyFrom_1.2.2.2.2.2
def K_m_body31 (l : Launch) (G : GG) (h0 : Nat) (xx : Int32) (nw : Nat) (nk : Nat) (mhasKept : Int32) (nt : Nat) (mtaped : Int32) (nr : Nat) (mrowMany : Int32) (mroundOf : Int32) (mroundFrom : Int32) (mouts : Int32) (nm : Nat) (mfromHour : Int32) (mtoHour : Int32) (ns : Nat) (mfrom : Int32) (mto : Int32) (msort : Int32) (misFault : Int32) (mdeep : Int32) (mcoded : Int32) (mlines : Int32) (nl : Nat) (nc : Nat) (nF : Nat) (np : Nat) (ntr : Nat) (nb : Nat) (mbestCost : Int32) (nso : Nat) (nsi : Nat) (nit : Nat) (nsh : Nat) (nsf : Nat) (nss : Nat) (nrc : Nat) (jr : Nat) (jd : Nat) (mnumber : Int32) (mwhose : Int32) (msize : Int32) (misParted : Int32) (fnrc : Nat → Int32) : Prop := MI l G yX12_body cX12_body 6 (some .int) 19 0 0 [.ref h0, .int 3, .int 1, .int xx] [(h0, oX12 nw nk mhasKept nt mtaped nr mrowMany mroundOf mroundFrom mouts nm mfromHour mtoHour ns mfrom mto msort misFault mdeep mcoded mlines nl nc nF np ntr nb mbestCost nso nsi nit nsh nsf nss nrc (nI jr) (nI jd) mnumber mwhose msize misParted), (nrc, iA G 30 fnrc)] (fun (r : Int32) (u : Nat × Int32 × (Nat → Int32)) => (True) ∧ (u.1 ≤ 30)) (fun u : Nat × Int32 × (Nat → Int32) => [(h0, oX12 nw nk mhasKept nt mtaped nr mrowMany mroundOf mroundFrom mouts nm mfromHour mtoHour ns mfrom mto msort misFault mdeep mcoded mlines nl nc nF np ntr nb mbestCost nso nsi nit nsh nsf nss nrc (nI u.1) (nI jd) mnumber mwhose msize u.2.1), (nrc, iA G 30 u.2.2)])
set_option maxHeartbeats 4000000 in
set_option maxRecDepth 100000 in
theorem m_body31 (l : Launch) (G : GG) (h0 : Nat) (xx : Int32) (nw : Nat) (nk : Nat) (mhasKept : Int32) (nt : Nat) (mtaped : Int32) (nr : Nat) (mrowMany : Int32) (mroundOf : Int32) (mroundFrom : Int32) (mouts : Int32) (nm : Nat) (mfromHour : Int32) (mtoHour : Int32) (ns : Nat) (mfrom : Int32) (mto : Int32) (msort : Int32) (misFault : Int32) (mdeep : Int32) (mcoded : Int32) (mlines : Int32) (nl : Nat) (nc : Nat) (nF : Nat) (np : Nat) (ntr : Nat) (nb : Nat) (mbestCost : Int32) (nso : Nat) (nsi : Nat) (nit : Nat) (nsh : Nat) (nsf : Nat) (nss : Nat) (nrc : Nat) (jr : Nat) (jd : Nat) (mnumber : Int32) (mwhose : Int32) (msize : Int32) (misParted : Int32) (fnrc : Nat → Int32) (hjr : jr ≤ 30) (hjd : jd < 7) : K_m_body31 l G h0 xx nw nk mhasKept nt mtaped nr mrowMany mroundOf mroundFrom mouts nm mfromHour mtoHour ns mfrom mto msort misFault mdeep mcoded mlines nl nc nF np ntr nb mbestCost nso nsi nit nsh nsf nss nrc jr jd mnumber mwhose msize misParted fnrc := by
  refine MI.start (by decide +kernel) (Nat.le_of_ble_eq_true rfl) ?_
  intro p e s m below meth c A ls hC hK hP hD hS hA hl
  refine absQ (fun Q0 hQ0 => ?_)
  have hl : lv_has ls 6 [(0, .ref h0), (1, .int 3), (2, .int 1), (3, .int xx)] := hl
  refine Kan8 hC (fun hx hb hr hml hB hown hlocks hnm => ?_)
  refine lv_iconst (v := 4) hx hb gX12_body_0.1 (by decide) ?_
  refine lv_iload_n hx hb gX12_body_0.2.1 rfl (lv_at1 hl) ?_
  refine lv_imul hx hb gX12_body_0.2.2.1 ?_
  refine eqi (x1 := 12) (by decide) ?_
  refine lv_iload_n hx hb gX12_body_0.2.2.2.1 rfl (lv_at2 hl) ?_
  refine lv_iadd hx hb gX12_body_0.2.2.2.2.1 ?_
  refine eqi (x1 := 13) (by decide) ?_
  refine lv_tableIn (tgt := 242) hx hb gX12_body_0.2.2.2.2.2.1 (by decide) (by decide) rfl (by decide) ?_
  refine lv_aload_n hx hb gX12_body_8.2.2.2.2.1 rfl (lv_at0 hl) ?_
  refine lv_bipush (v := 40) hx hb gX12_body_8.2.2.2.2.2.1 (by decide) ?_
  refine vV (wr := []) hC hK hl hP hD hS hA (m_began l G h0 40 nw nk mhasKept nt mtaped nr mrowMany mroundOf mroundFrom mouts nm mfromHour mtoHour ns mfrom mto msort misFault mdeep mcoded mlines nl nc nF np ntr nb mbestCost nso nsi nit nsh nsf nss nrc jr (nI jd) mnumber mwhose msize misParted fnrc (hjr)) si_X12_366 [0, 1] [] sm_0_1 fm_0_1 nd_0_1 rfl rfl (by decide) rfl rfl rfl rfl rfl (Nat.le_of_ble_eq_true rfl) rm_19_1_2 ⟨Nat.le_of_ble_eq_true rfl, Nat.le_of_ble_eq_true rfl⟩ gX12_body_8.2.2.2.2.2.2.1 (Ktu2 fun jr16168 gtrc6169 => ?_)
  intro H locs hr6166 hP hD hS
  try dsimp only at hr6166
  refine Kpdr (ws := [(h0, oX12 nw nk mhasKept nt mtaped nr mrowMany mroundOf mroundFrom mouts nm mfromHour mtoHour ns mfrom mto msort misFault mdeep mcoded mlines nl nc nF np ntr nb mbestCost nso nsi nit nsh nsf nss nrc (nI jr16168) (nI jd) mnumber mwhose msize misParted), (nrc, iA G 30 gtrc6169)]) hP hD (fun hP hD => ?_)
  have w6170 := hr6166
  refine lv_iconst (v := 0) hx hb gX12_body_8.2.2.2.2.2.2.2.1 (by decide) ?_
  refine lv_aload_n hx hb gX12_body_8.2.2.2.2.2.2.2.2.1 rfl (lv_at0 hl) ?_
  refine lv_iconst (v := 1) hx hb gX12_body_8.2.2.2.2.2.2.2.2.2 (by decide) ?_
  refine lv_iconst (v := 1) hx hb gX12_body_9.1 (by decide) ?_
  refine lv_iload_n hx hb gX12_body_9.2.1 rfl (lv_at3 hl) ?_
  refine iV (wr := []) hC hK hl hP hD hS hA (m_from11 l G h0 xx nw nk mhasKept nt mtaped nr mrowMany mroundOf mroundFrom mouts nm mfromHour mtoHour ns mfrom mto msort misFault mdeep mcoded mlines nl nc nF np ntr nb mbestCost nso nsi nit nsh nsf nss nrc jr16168 jd mnumber mwhose msize misParted gtrc6169 (w6170) (hjd)) si_X12_357 [0, 1] [] sm_0_1 fm_0_1 nd_0_1 rfl rfl (by decide) rfl rfl rfl rfl rfl (Nat.le_of_ble_eq_true rfl) rm_19_18_5 ⟨Nat.le_of_ble_eq_true rfl, Nat.le_of_ble_eq_true rfl⟩ gX12_body_9.2.2.1 (fun r6171 => Ktu3 fun jr16173 ip16174 gtrc6175 => ?_)
  intro H locs hr6171 hP hD hS
  try dsimp only at hr6171
  refine Kpdr (ws := [(h0, oX12 nw nk mhasKept nt mtaped nr mrowMany mroundOf mroundFrom mouts nm mfromHour mtoHour ns mfrom mto msort misFault mdeep mcoded mlines nl nc nF np ntr nb mbestCost nso nsi nit nsh nsf nss nrc (nI jr16173) (nI jd) mnumber mwhose msize ip16174), (nrc, iA G 30 gtrc6175)]) hP hD (fun hP hD => ?_)
  obtain ⟨hr6171, w6176⟩ := hr6171
  refine lv_isub hx hb gX12_body_9.2.2.2.1 ?_
  refine toQ hQ0 ?_
  exact RI (v := 0 - r6171) hC hP hD hS [0, 1] (jr16173, ip16174, gtrc6175) rfl rfl (by decide) (⟨trivial, by omega⟩) rfl gX12_body_9.2.2.2.2.1
def K_m_from31 (l : Launch) (G : GG) (h0 : Nat) (xx : Int32) (nw : Nat) (nk : Nat) (mhasKept : Int32) (nt : Nat) (mtaped : Int32) (nr : Nat) (mrowMany : Int32) (mroundOf : Int32) (mroundFrom : Int32) (mouts : Int32) (nm : Nat) (mfromHour : Int32) (mtoHour : Int32) (ns : Nat) (mfrom : Int32) (mto : Int32) (msort : Int32) (misFault : Int32) (mdeep : Int32) (mcoded : Int32) (mlines : Int32) (nl : Nat) (nc : Nat) (nF : Nat) (np : Nat) (ntr : Nat) (nb : Nat) (mbestCost : Int32) (nso : Nat) (nsi : Nat) (nit : Nat) (nsh : Nat) (nsf : Nat) (nss : Nat) (nrc : Nat) (jr : Nat) (jd : Nat) (mnumber : Int32) (mwhose : Int32) (msize : Int32) (misParted : Int32) (fnrc : Nat → Int32) : Prop := MI l G yX12_bodyFrom cX12_bodyFrom 5 (some .int) 20 0 0 [.ref h0, .int 3, .int 1, .int xx] [(h0, oX12 nw nk mhasKept nt mtaped nr mrowMany mroundOf mroundFrom mouts nm mfromHour mtoHour ns mfrom mto msort misFault mdeep mcoded mlines nl nc nF np ntr nb mbestCost nso nsi nit nsh nsf nss nrc (nI jr) (nI jd) mnumber mwhose msize misParted), (nrc, iA G 30 fnrc)] (fun (r : Int32) (u : Nat × Int32 × (Nat → Int32)) => (True) ∧ (u.1 ≤ 30)) (fun u : Nat × Int32 × (Nat → Int32) => [(h0, oX12 nw nk mhasKept nt mtaped nr mrowMany mroundOf mroundFrom mouts nm mfromHour mtoHour ns mfrom mto msort misFault mdeep mcoded mlines nl nc nF np ntr nb mbestCost nso nsi nit nsh nsf nss nrc (nI u.1) (nI jd) mnumber mwhose msize u.2.1), (nrc, iA G 30 u.2.2)])
set_option maxHeartbeats 4000000 in
set_option maxRecDepth 100000 in
theorem m_from31 (l : Launch) (G : GG) (h0 : Nat) (xx : Int32) (nw : Nat) (nk : Nat) (mhasKept : Int32) (nt : Nat) (mtaped : Int32) (nr : Nat) (mrowMany : Int32) (mroundOf : Int32) (mroundFrom : Int32) (mouts : Int32) (nm : Nat) (mfromHour : Int32) (mtoHour : Int32) (ns : Nat) (mfrom : Int32) (mto : Int32) (msort : Int32) (misFault : Int32) (mdeep : Int32) (mcoded : Int32) (mlines : Int32) (nl : Nat) (nc : Nat) (nF : Nat) (np : Nat) (ntr : Nat) (nb : Nat) (mbestCost : Int32) (nso : Nat) (nsi : Nat) (nit : Nat) (nsh : Nat) (nsf : Nat) (nss : Nat) (nrc : Nat) (jr : Nat) (jd : Nat) (mnumber : Int32) (mwhose : Int32) (msize : Int32) (misParted : Int32) (fnrc : Nat → Int32) (hjr : jr ≤ 30) (hjd : jd < 7) : K_m_from31 l G h0 xx nw nk mhasKept nt mtaped nr mrowMany mroundOf mroundFrom mouts nm mfromHour mtoHour ns mfrom mto msort misFault mdeep mcoded mlines nl nc nF np ntr nb mbestCost nso nsi nit nsh nsf nss nrc jr jd mnumber mwhose msize misParted fnrc := by
  refine MI.start (by decide +kernel) (Nat.le_of_ble_eq_true rfl) ?_
  intro p e s m below meth c A ls hC hK hP hD hS hA hl
  refine absQ (fun Q0 hQ0 => ?_)
  have hl : lv_has ls 5 [(0, .ref h0), (1, .int 3), (2, .int 1), (3, .int xx)] := hl
  refine Kan8 hC (fun hx hb hr hml hB hown hlocks hnm => ?_)
  refine lv_iload_n hx hb gX12_bodyFrom_0.1 rfl (lv_at1 hl) ?_
  refine lv_istore (lv' := [(4, .int 3), (0, .ref h0), (1, .int 3), (2, .int 1), (3, .int xx)]) hx hb gX12_bodyFrom_0.2.1 hl (by decide) rfl (fun ls hl => ?_)
  refine lv_iload hx hb gX12_bodyFrom_0.2.2.1 (lv_at0 hl) ?_
  refine lv_iload_n hx hb gX12_bodyFrom_0.2.2.2.1 rfl (lv_at3 hl) ?_
  refine pS hC hK hl (m_hasOwn31 l G) si_X12_360 rfl rfl (Nat.le_of_ble_eq_true rfl) rm_20_1_2 ⟨by first | exact Nat.le_of_ble_eq_true rfl | exact Nat.zero_le _, by first | exact Nat.le_of_ble_eq_true rfl | exact Nat.zero_le _⟩ gX12_bodyFrom_0.2.2.2.2.1 (Keqr ?_)
  refine lv_if_ne (tgt := 22) hx hb gX12_bodyFrom_0.2.2.2.2.2.1 (by decide) (fun _ => ?_) (fun c9 => absurd c9 (by decide))
  refine lv_aload_n hx hb gX12_bodyFrom_1.1 rfl (lv_at1 hl) ?_
  refine lv_iload hx hb gX12_bodyFrom_1.2.1 (lv_at0 hl) ?_
  refine lv_iload_n hx hb gX12_bodyFrom_1.2.2.1 rfl (lv_at3 hl) ?_
  refine lv_iload_n hx hb gX12_bodyFrom_1.2.2.2.1 rfl (lv_at4 hl) ?_
  refine iV (wr := []) hC hK hl hP hD hS hA (m_body31 l G h0 xx nw nk mhasKept nt mtaped nr mrowMany mroundOf mroundFrom mouts nm mfromHour mtoHour ns mfrom mto msort misFault mdeep mcoded mlines nl nc nF np ntr nb mbestCost nso nsi nit nsh nsf nss nrc jr jd mnumber mwhose msize misParted fnrc (hjr) (hjd)) si_X12_363 [0, 1] [] sm_0_1 fm_0_1 nd_0_1 rfl rfl (by decide) rfl rfl rfl rfl rfl (Nat.le_of_ble_eq_true rfl) rm_20_19_6 ⟨Nat.le_of_ble_eq_true rfl, Nat.le_of_ble_eq_true rfl⟩ gX12_bodyFrom_1.2.2.2.2.1 (fun r6179 => Ktu3 fun jr16181 ip16182 gtrc6183 => ?_)
  intro H locs hr6179 hP hD hS
  try dsimp only at hr6179
  refine Kpdr (ws := [(h0, oX12 nw nk mhasKept nt mtaped nr mrowMany mroundOf mroundFrom mouts nm mfromHour mtoHour ns mfrom mto msort misFault mdeep mcoded mlines nl nc nF np ntr nb mbestCost nso nsi nit nsh nsf nss nrc (nI jr16181) (nI jd) mnumber mwhose msize ip16182), (nrc, iA G 30 gtrc6183)]) hP hD (fun hP hD => ?_)
  obtain ⟨hr6179, w6184⟩ := hr6179
  refine toQ hQ0 ?_
  exact RI (v := r6179) hC hP hD hS [0, 1] (jr16181, ip16182, gtrc6183) rfl rfl (by decide) (⟨trivial, by omega⟩) rfl gX12_bodyFrom_1.2.2.2.2.2
def K_m_from21 (l : Launch) (G : GG) (h0 : Nat) (xx : Int32) (nw : Nat) (nk : Nat) (mhasKept : Int32) (nt : Nat) (mtaped : Int32) (nr : Nat) (mrowMany : Int32) (mroundOf : Int32) (mroundFrom : Int32) (mouts : Int32) (nm : Nat) (mfromHour : Int32) (mtoHour : Int32) (ns : Nat) (mfrom : Int32) (mto : Int32) (msort : Int32) (misFault : Int32) (mdeep : Int32) (mcoded : Int32) (mlines : Int32) (nl : Nat) (nc : Nat) (nF : Nat) (np : Nat) (ntr : Nat) (nb : Nat) (mbestCost : Int32) (nso : Nat) (nsi : Nat) (nit : Nat) (nsh : Nat) (nsf : Nat) (nss : Nat) (nrc : Nat) (jr : Nat) (jd : Nat) (mnumber : Int32) (mwhose : Int32) (msize : Int32) (misParted : Int32) (fnrc : Nat → Int32) : Prop := MI l G yX12_bodyFrom cX12_bodyFrom 5 (some .int) 24 0 0 [.ref h0, .int 2, .int 1, .int xx] [(h0, oX12 nw nk mhasKept nt mtaped nr mrowMany mroundOf mroundFrom mouts nm mfromHour mtoHour ns mfrom mto msort misFault mdeep mcoded mlines nl nc nF np ntr nb mbestCost nso nsi nit nsh nsf nss nrc (nI jr) (nI jd) mnumber mwhose msize misParted), (nrc, iA G 30 fnrc)] (fun (r : Int32) (u : Nat × Int32 × (Nat → Int32)) => (True) ∧ (u.1 ≤ 30)) (fun u : Nat × Int32 × (Nat → Int32) => [(h0, oX12 nw nk mhasKept nt mtaped nr mrowMany mroundOf mroundFrom mouts nm mfromHour mtoHour ns mfrom mto msort misFault mdeep mcoded mlines nl nc nF np ntr nb mbestCost nso nsi nit nsh nsf nss nrc (nI u.1) (nI jd) mnumber mwhose msize u.2.1), (nrc, iA G 30 u.2.2)])
set_option maxHeartbeats 4000000 in
set_option maxRecDepth 100000 in
theorem m_from21 (l : Launch) (G : GG) (h0 : Nat) (xx : Int32) (nw : Nat) (nk : Nat) (mhasKept : Int32) (nt : Nat) (mtaped : Int32) (nr : Nat) (mrowMany : Int32) (mroundOf : Int32) (mroundFrom : Int32) (mouts : Int32) (nm : Nat) (mfromHour : Int32) (mtoHour : Int32) (ns : Nat) (mfrom : Int32) (mto : Int32) (msort : Int32) (misFault : Int32) (mdeep : Int32) (mcoded : Int32) (mlines : Int32) (nl : Nat) (nc : Nat) (nF : Nat) (np : Nat) (ntr : Nat) (nb : Nat) (mbestCost : Int32) (nso : Nat) (nsi : Nat) (nit : Nat) (nsh : Nat) (nsf : Nat) (nss : Nat) (nrc : Nat) (jr : Nat) (jd : Nat) (mnumber : Int32) (mwhose : Int32) (msize : Int32) (misParted : Int32) (fnrc : Nat → Int32) (hjr : jr ≤ 30) (hjd : jd < 7) : K_m_from21 l G h0 xx nw nk mhasKept nt mtaped nr mrowMany mroundOf mroundFrom mouts nm mfromHour mtoHour ns mfrom mto msort misFault mdeep mcoded mlines nl nc nF np ntr nb mbestCost nso nsi nit nsh nsf nss nrc jr jd mnumber mwhose msize misParted fnrc := by
  refine MI.start (by decide +kernel) (Nat.le_of_ble_eq_true rfl) ?_
  intro p e s m below meth c A ls hC hK hP hD hS hA hl
  refine absQ (fun Q0 hQ0 => ?_)
  have hl : lv_has ls 5 [(0, .ref h0), (1, .int 2), (2, .int 1), (3, .int xx)] := hl
  refine Kan8 hC (fun hx hb hr hml hB hown hlocks hnm => ?_)
  refine lv_iload_n hx hb gX12_bodyFrom_0.1 rfl (lv_at1 hl) ?_
  refine lv_istore (lv' := [(4, .int 2), (0, .ref h0), (1, .int 2), (2, .int 1), (3, .int xx)]) hx hb gX12_bodyFrom_0.2.1 hl (by decide) rfl (fun ls hl => ?_)
  refine lv_iload hx hb gX12_bodyFrom_0.2.2.1 (lv_at0 hl) ?_
  refine lv_iload_n hx hb gX12_bodyFrom_0.2.2.2.1 rfl (lv_at3 hl) ?_
  refine pS hC hK hl (m_hasOwn21 l G) si_X12_360 rfl rfl (Nat.le_of_ble_eq_true rfl) rm_24_1_2 ⟨by first | exact Nat.le_of_ble_eq_true rfl | exact Nat.zero_le _, by first | exact Nat.le_of_ble_eq_true rfl | exact Nat.zero_le _⟩ gX12_bodyFrom_0.2.2.2.2.1 (Keqr ?_)
  refine lv_if_ne (tgt := 22) hx hb gX12_bodyFrom_0.2.2.2.2.2.1 (by decide) (fun c9 => absurd (by decide) c9) (fun _ => ?_)
  refine lv_iload hx hb gX12_bodyFrom_0.2.2.2.2.2.2.1 (lv_at0 hl) ?_
  refine pS hC hK hl (m_above2 l G) si_X12_348 rfl rfl (Nat.le_of_ble_eq_true rfl) rm_24_1_1 ⟨by first | exact Nat.le_of_ble_eq_true rfl | exact Nat.zero_le _, by first | exact Nat.le_of_ble_eq_true rfl | exact Nat.zero_le _⟩ gX12_bodyFrom_0.2.2.2.2.2.2.2.1 (Keqr ?_)
  refine lv_istore (lv' := [(4, .int 0), (0, .ref h0), (1, .int 2), (2, .int 1), (3, .int xx)]) hx hb gX12_bodyFrom_0.2.2.2.2.2.2.2.2.1 hl (by decide) rfl (fun ls hl => ?_)
  refine lv_goto (tgt := 3) hx hb gX12_bodyFrom_0.2.2.2.2.2.2.2.2.2 (by decide) ?_
  refine lv_iload hx hb gX12_bodyFrom_0.2.2.1 (lv_at0 hl) ?_
  refine lv_iload_n hx hb gX12_bodyFrom_0.2.2.2.1 rfl (lv_at3 hl) ?_
  refine pS hC hK hl (m_hasOwn01 l G) si_X12_360 rfl rfl (Nat.le_of_ble_eq_true rfl) rm_24_1_2 ⟨by first | exact Nat.le_of_ble_eq_true rfl | exact Nat.zero_le _, by first | exact Nat.le_of_ble_eq_true rfl | exact Nat.zero_le _⟩ gX12_bodyFrom_0.2.2.2.2.1 (Keqr ?_)
  refine lv_if_ne (tgt := 22) hx hb gX12_bodyFrom_0.2.2.2.2.2.1 (by decide) (fun _ => ?_) (fun c9 => absurd c9 (by decide))
  refine lv_aload_n hx hb gX12_bodyFrom_1.1 rfl (lv_at1 hl) ?_
  refine lv_iload hx hb gX12_bodyFrom_1.2.1 (lv_at0 hl) ?_
  refine lv_iload_n hx hb gX12_bodyFrom_1.2.2.1 rfl (lv_at3 hl) ?_
  refine lv_iload_n hx hb gX12_bodyFrom_1.2.2.2.1 rfl (lv_at4 hl) ?_
  refine iV (wr := []) hC hK hl hP hD hS hA (m_body01 l G h0 xx nw nk mhasKept nt mtaped nr mrowMany mroundOf mroundFrom mouts nm mfromHour mtoHour ns mfrom mto msort misFault mdeep mcoded mlines nl nc nF np ntr nb mbestCost nso nsi nit nsh nsf nss nrc jr jd mnumber mwhose msize misParted fnrc (hjr) (hjd)) si_X12_363 [0, 1] [] sm_0_1 fm_0_1 nd_0_1 rfl rfl (by decide) rfl rfl rfl rfl rfl (Nat.le_of_ble_eq_true rfl) rm_24_15_6 ⟨Nat.le_of_ble_eq_true rfl, Nat.le_of_ble_eq_true rfl⟩ gX12_bodyFrom_1.2.2.2.2.1 (fun r6191 => Ktu3 fun jr16193 ip16194 gtrc6195 => ?_)
  intro H locs hr6191 hP hD hS
  try dsimp only at hr6191
  refine Kpdr (ws := [(h0, oX12 nw nk mhasKept nt mtaped nr mrowMany mroundOf mroundFrom mouts nm mfromHour mtoHour ns mfrom mto msort misFault mdeep mcoded mlines nl nc nF np ntr nb mbestCost nso nsi nit nsh nsf nss nrc (nI jr16193) (nI jd) mnumber mwhose msize ip16194), (nrc, iA G 30 gtrc6195)]) hP hD (fun hP hD => ?_)
  obtain ⟨hr6191, w6196⟩ := hr6191
  refine toQ hQ0 ?_
  exact RI (v := r6191) hC hP hD hS [0, 1] (jr16193, ip16194, gtrc6195) rfl rfl (by decide) (⟨trivial, by omega⟩) rfl gX12_bodyFrom_1.2.2.2.2.2
def K_m_from41 (l : Launch) (G : GG) (h0 : Nat) (xx : Int32) (nw : Nat) (nk : Nat) (mhasKept : Int32) (nt : Nat) (mtaped : Int32) (nr : Nat) (mrowMany : Int32) (mroundOf : Int32) (mroundFrom : Int32) (mouts : Int32) (nm : Nat) (mfromHour : Int32) (mtoHour : Int32) (ns : Nat) (mfrom : Int32) (mto : Int32) (msort : Int32) (misFault : Int32) (mdeep : Int32) (mcoded : Int32) (mlines : Int32) (nl : Nat) (nc : Nat) (nF : Nat) (np : Nat) (ntr : Nat) (nb : Nat) (mbestCost : Int32) (nso : Nat) (nsi : Nat) (nit : Nat) (nsh : Nat) (nsf : Nat) (nss : Nat) (nrc : Nat) (jr : Nat) (jd : Nat) (mnumber : Int32) (mwhose : Int32) (msize : Int32) (misParted : Int32) (fnrc : Nat → Int32) : Prop := MI l G yX12_bodyFrom cX12_bodyFrom 5 (some .int) 24 0 0 [.ref h0, .int 4, .int 1, .int xx] [(h0, oX12 nw nk mhasKept nt mtaped nr mrowMany mroundOf mroundFrom mouts nm mfromHour mtoHour ns mfrom mto msort misFault mdeep mcoded mlines nl nc nF np ntr nb mbestCost nso nsi nit nsh nsf nss nrc (nI jr) (nI jd) mnumber mwhose msize misParted), (nrc, iA G 30 fnrc)] (fun (r : Int32) (u : Nat × Int32 × (Nat → Int32)) => (True) ∧ (u.1 ≤ 30)) (fun u : Nat × Int32 × (Nat → Int32) => [(h0, oX12 nw nk mhasKept nt mtaped nr mrowMany mroundOf mroundFrom mouts nm mfromHour mtoHour ns mfrom mto msort misFault mdeep mcoded mlines nl nc nF np ntr nb mbestCost nso nsi nit nsh nsf nss nrc (nI u.1) (nI jd) mnumber mwhose msize u.2.1), (nrc, iA G 30 u.2.2)])
set_option maxHeartbeats 4000000 in
set_option maxRecDepth 100000 in
theorem m_from41 (l : Launch) (G : GG) (h0 : Nat) (xx : Int32) (nw : Nat) (nk : Nat) (mhasKept : Int32) (nt : Nat) (mtaped : Int32) (nr : Nat) (mrowMany : Int32) (mroundOf : Int32) (mroundFrom : Int32) (mouts : Int32) (nm : Nat) (mfromHour : Int32) (mtoHour : Int32) (ns : Nat) (mfrom : Int32) (mto : Int32) (msort : Int32) (misFault : Int32) (mdeep : Int32) (mcoded : Int32) (mlines : Int32) (nl : Nat) (nc : Nat) (nF : Nat) (np : Nat) (ntr : Nat) (nb : Nat) (mbestCost : Int32) (nso : Nat) (nsi : Nat) (nit : Nat) (nsh : Nat) (nsf : Nat) (nss : Nat) (nrc : Nat) (jr : Nat) (jd : Nat) (mnumber : Int32) (mwhose : Int32) (msize : Int32) (misParted : Int32) (fnrc : Nat → Int32) (hjr : jr ≤ 30) (hjd : jd < 7) : K_m_from41 l G h0 xx nw nk mhasKept nt mtaped nr mrowMany mroundOf mroundFrom mouts nm mfromHour mtoHour ns mfrom mto msort misFault mdeep mcoded mlines nl nc nF np ntr nb mbestCost nso nsi nit nsh nsf nss nrc jr jd mnumber mwhose msize misParted fnrc := by
  refine MI.start (by decide +kernel) (Nat.le_of_ble_eq_true rfl) ?_
  intro p e s m below meth c A ls hC hK hP hD hS hA hl
  refine absQ (fun Q0 hQ0 => ?_)
  have hl : lv_has ls 5 [(0, .ref h0), (1, .int 4), (2, .int 1), (3, .int xx)] := hl
  refine Kan8 hC (fun hx hb hr hml hB hown hlocks hnm => ?_)
  refine lv_iload_n hx hb gX12_bodyFrom_0.1 rfl (lv_at1 hl) ?_
  refine lv_istore (lv' := [(4, .int 4), (0, .ref h0), (1, .int 4), (2, .int 1), (3, .int xx)]) hx hb gX12_bodyFrom_0.2.1 hl (by decide) rfl (fun ls hl => ?_)
  refine lv_iload hx hb gX12_bodyFrom_0.2.2.1 (lv_at0 hl) ?_
  refine lv_iload_n hx hb gX12_bodyFrom_0.2.2.2.1 rfl (lv_at3 hl) ?_
  refine pS hC hK hl (m_hasOwn41 l G) si_X12_360 rfl rfl (Nat.le_of_ble_eq_true rfl) rm_24_1_2 ⟨by first | exact Nat.le_of_ble_eq_true rfl | exact Nat.zero_le _, by first | exact Nat.le_of_ble_eq_true rfl | exact Nat.zero_le _⟩ gX12_bodyFrom_0.2.2.2.2.1 (Keqr ?_)
  refine lv_if_ne (tgt := 22) hx hb gX12_bodyFrom_0.2.2.2.2.2.1 (by decide) (fun c9 => absurd (by decide) c9) (fun _ => ?_)
  refine lv_iload hx hb gX12_bodyFrom_0.2.2.2.2.2.2.1 (lv_at0 hl) ?_
  refine pS hC hK hl (m_above4 l G) si_X12_348 rfl rfl (Nat.le_of_ble_eq_true rfl) rm_24_1_1 ⟨by first | exact Nat.le_of_ble_eq_true rfl | exact Nat.zero_le _, by first | exact Nat.le_of_ble_eq_true rfl | exact Nat.zero_le _⟩ gX12_bodyFrom_0.2.2.2.2.2.2.2.1 (Keqr ?_)
  refine lv_istore (lv' := [(4, .int 0), (0, .ref h0), (1, .int 4), (2, .int 1), (3, .int xx)]) hx hb gX12_bodyFrom_0.2.2.2.2.2.2.2.2.1 hl (by decide) rfl (fun ls hl => ?_)
  refine lv_goto (tgt := 3) hx hb gX12_bodyFrom_0.2.2.2.2.2.2.2.2.2 (by decide) ?_
  refine lv_iload hx hb gX12_bodyFrom_0.2.2.1 (lv_at0 hl) ?_
  refine lv_iload_n hx hb gX12_bodyFrom_0.2.2.2.1 rfl (lv_at3 hl) ?_
  refine pS hC hK hl (m_hasOwn01 l G) si_X12_360 rfl rfl (Nat.le_of_ble_eq_true rfl) rm_24_1_2 ⟨by first | exact Nat.le_of_ble_eq_true rfl | exact Nat.zero_le _, by first | exact Nat.le_of_ble_eq_true rfl | exact Nat.zero_le _⟩ gX12_bodyFrom_0.2.2.2.2.1 (Keqr ?_)
  refine lv_if_ne (tgt := 22) hx hb gX12_bodyFrom_0.2.2.2.2.2.1 (by decide) (fun _ => ?_) (fun c9 => absurd c9 (by decide))
  refine lv_aload_n hx hb gX12_bodyFrom_1.1 rfl (lv_at1 hl) ?_
  refine lv_iload hx hb gX12_bodyFrom_1.2.1 (lv_at0 hl) ?_
  refine lv_iload_n hx hb gX12_bodyFrom_1.2.2.1 rfl (lv_at3 hl) ?_
  refine lv_iload_n hx hb gX12_bodyFrom_1.2.2.2.1 rfl (lv_at4 hl) ?_
  refine iV (wr := []) hC hK hl hP hD hS hA (m_body01 l G h0 xx nw nk mhasKept nt mtaped nr mrowMany mroundOf mroundFrom mouts nm mfromHour mtoHour ns mfrom mto msort misFault mdeep mcoded mlines nl nc nF np ntr nb mbestCost nso nsi nit nsh nsf nss nrc jr jd mnumber mwhose msize misParted fnrc (hjr) (hjd)) si_X12_363 [0, 1] [] sm_0_1 fm_0_1 nd_0_1 rfl rfl (by decide) rfl rfl rfl rfl rfl (Nat.le_of_ble_eq_true rfl) rm_24_15_6 ⟨Nat.le_of_ble_eq_true rfl, Nat.le_of_ble_eq_true rfl⟩ gX12_bodyFrom_1.2.2.2.2.1 (fun r6203 => Ktu3 fun jr16205 ip16206 gtrc6207 => ?_)
  intro H locs hr6203 hP hD hS
  try dsimp only at hr6203
  refine Kpdr (ws := [(h0, oX12 nw nk mhasKept nt mtaped nr mrowMany mroundOf mroundFrom mouts nm mfromHour mtoHour ns mfrom mto msort misFault mdeep mcoded mlines nl nc nF np ntr nb mbestCost nso nsi nit nsh nsf nss nrc (nI jr16205) (nI jd) mnumber mwhose msize ip16206), (nrc, iA G 30 gtrc6207)]) hP hD (fun hP hD => ?_)
  obtain ⟨hr6203, w6208⟩ := hr6203
  refine toQ hQ0 ?_
  exact RI (v := r6203) hC hP hD hS [0, 1] (jr16205, ip16206, gtrc6207) rfl rfl (by decide) (⟨trivial, by omega⟩) rfl gX12_bodyFrom_1.2.2.2.2.2
def K_m_from51 (l : Launch) (G : GG) (h0 : Nat) (xx : Int32) (nw : Nat) (nk : Nat) (mhasKept : Int32) (nt : Nat) (mtaped : Int32) (nr : Nat) (mrowMany : Int32) (mroundOf : Int32) (mroundFrom : Int32) (mouts : Int32) (nm : Nat) (mfromHour : Int32) (mtoHour : Int32) (ns : Nat) (mfrom : Int32) (mto : Int32) (msort : Int32) (misFault : Int32) (mdeep : Int32) (mcoded : Int32) (mlines : Int32) (nl : Nat) (nc : Nat) (nF : Nat) (np : Nat) (ntr : Nat) (nb : Nat) (mbestCost : Int32) (nso : Nat) (nsi : Nat) (nit : Nat) (nsh : Nat) (nsf : Nat) (nss : Nat) (nrc : Nat) (jr : Nat) (jd : Nat) (mnumber : Int32) (mwhose : Int32) (msize : Int32) (misParted : Int32) (fnrc : Nat → Int32) : Prop := MI l G yX12_bodyFrom cX12_bodyFrom 5 (some .int) 24 0 0 [.ref h0, .int 5, .int 1, .int xx] [(h0, oX12 nw nk mhasKept nt mtaped nr mrowMany mroundOf mroundFrom mouts nm mfromHour mtoHour ns mfrom mto msort misFault mdeep mcoded mlines nl nc nF np ntr nb mbestCost nso nsi nit nsh nsf nss nrc (nI jr) (nI jd) mnumber mwhose msize misParted), (nrc, iA G 30 fnrc)] (fun (r : Int32) (u : Nat × Int32 × (Nat → Int32)) => (True) ∧ (u.1 ≤ 30)) (fun u : Nat × Int32 × (Nat → Int32) => [(h0, oX12 nw nk mhasKept nt mtaped nr mrowMany mroundOf mroundFrom mouts nm mfromHour mtoHour ns mfrom mto msort misFault mdeep mcoded mlines nl nc nF np ntr nb mbestCost nso nsi nit nsh nsf nss nrc (nI u.1) (nI jd) mnumber mwhose msize u.2.1), (nrc, iA G 30 u.2.2)])
set_option maxHeartbeats 4000000 in
set_option maxRecDepth 100000 in
theorem m_from51 (l : Launch) (G : GG) (h0 : Nat) (xx : Int32) (nw : Nat) (nk : Nat) (mhasKept : Int32) (nt : Nat) (mtaped : Int32) (nr : Nat) (mrowMany : Int32) (mroundOf : Int32) (mroundFrom : Int32) (mouts : Int32) (nm : Nat) (mfromHour : Int32) (mtoHour : Int32) (ns : Nat) (mfrom : Int32) (mto : Int32) (msort : Int32) (misFault : Int32) (mdeep : Int32) (mcoded : Int32) (mlines : Int32) (nl : Nat) (nc : Nat) (nF : Nat) (np : Nat) (ntr : Nat) (nb : Nat) (mbestCost : Int32) (nso : Nat) (nsi : Nat) (nit : Nat) (nsh : Nat) (nsf : Nat) (nss : Nat) (nrc : Nat) (jr : Nat) (jd : Nat) (mnumber : Int32) (mwhose : Int32) (msize : Int32) (misParted : Int32) (fnrc : Nat → Int32) (hjr : jr ≤ 30) (hjd : jd < 7) : K_m_from51 l G h0 xx nw nk mhasKept nt mtaped nr mrowMany mroundOf mroundFrom mouts nm mfromHour mtoHour ns mfrom mto msort misFault mdeep mcoded mlines nl nc nF np ntr nb mbestCost nso nsi nit nsh nsf nss nrc jr jd mnumber mwhose msize misParted fnrc := by
  refine MI.start (by decide +kernel) (Nat.le_of_ble_eq_true rfl) ?_
  intro p e s m below meth c A ls hC hK hP hD hS hA hl
  refine absQ (fun Q0 hQ0 => ?_)
  have hl : lv_has ls 5 [(0, .ref h0), (1, .int 5), (2, .int 1), (3, .int xx)] := hl
  refine Kan8 hC (fun hx hb hr hml hB hown hlocks hnm => ?_)
  refine lv_iload_n hx hb gX12_bodyFrom_0.1 rfl (lv_at1 hl) ?_
  refine lv_istore (lv' := [(4, .int 5), (0, .ref h0), (1, .int 5), (2, .int 1), (3, .int xx)]) hx hb gX12_bodyFrom_0.2.1 hl (by decide) rfl (fun ls hl => ?_)
  refine lv_iload hx hb gX12_bodyFrom_0.2.2.1 (lv_at0 hl) ?_
  refine lv_iload_n hx hb gX12_bodyFrom_0.2.2.2.1 rfl (lv_at3 hl) ?_
  refine pS hC hK hl (m_hasOwn51 l G) si_X12_360 rfl rfl (Nat.le_of_ble_eq_true rfl) rm_24_1_2 ⟨by first | exact Nat.le_of_ble_eq_true rfl | exact Nat.zero_le _, by first | exact Nat.le_of_ble_eq_true rfl | exact Nat.zero_le _⟩ gX12_bodyFrom_0.2.2.2.2.1 (Keqr ?_)
  refine lv_if_ne (tgt := 22) hx hb gX12_bodyFrom_0.2.2.2.2.2.1 (by decide) (fun c9 => absurd (by decide) c9) (fun _ => ?_)
  refine lv_iload hx hb gX12_bodyFrom_0.2.2.2.2.2.2.1 (lv_at0 hl) ?_
  refine pS hC hK hl (m_above5 l G) si_X12_348 rfl rfl (Nat.le_of_ble_eq_true rfl) rm_24_1_1 ⟨by first | exact Nat.le_of_ble_eq_true rfl | exact Nat.zero_le _, by first | exact Nat.le_of_ble_eq_true rfl | exact Nat.zero_le _⟩ gX12_bodyFrom_0.2.2.2.2.2.2.2.1 (Keqr ?_)
  refine lv_istore (lv' := [(4, .int 4), (0, .ref h0), (1, .int 5), (2, .int 1), (3, .int xx)]) hx hb gX12_bodyFrom_0.2.2.2.2.2.2.2.2.1 hl (by decide) rfl (fun ls hl => ?_)
  refine lv_goto (tgt := 3) hx hb gX12_bodyFrom_0.2.2.2.2.2.2.2.2.2 (by decide) ?_
  refine lv_iload hx hb gX12_bodyFrom_0.2.2.1 (lv_at0 hl) ?_
  refine lv_iload_n hx hb gX12_bodyFrom_0.2.2.2.1 rfl (lv_at3 hl) ?_
  refine pS hC hK hl (m_hasOwn41 l G) si_X12_360 rfl rfl (Nat.le_of_ble_eq_true rfl) rm_24_1_2 ⟨by first | exact Nat.le_of_ble_eq_true rfl | exact Nat.zero_le _, by first | exact Nat.le_of_ble_eq_true rfl | exact Nat.zero_le _⟩ gX12_bodyFrom_0.2.2.2.2.1 (Keqr ?_)
  refine lv_if_ne (tgt := 22) hx hb gX12_bodyFrom_0.2.2.2.2.2.1 (by decide) (fun c9 => absurd (by decide) c9) (fun _ => ?_)
  refine lv_iload hx hb gX12_bodyFrom_0.2.2.2.2.2.2.1 (lv_at0 hl) ?_
  refine pS hC hK hl (m_above4 l G) si_X12_348 rfl rfl (Nat.le_of_ble_eq_true rfl) rm_24_1_1 ⟨by first | exact Nat.le_of_ble_eq_true rfl | exact Nat.zero_le _, by first | exact Nat.le_of_ble_eq_true rfl | exact Nat.zero_le _⟩ gX12_bodyFrom_0.2.2.2.2.2.2.2.1 (Keqr ?_)
  refine lv_istore (lv' := [(4, .int 0), (0, .ref h0), (1, .int 5), (2, .int 1), (3, .int xx)]) hx hb gX12_bodyFrom_0.2.2.2.2.2.2.2.2.1 hl (by decide) rfl (fun ls hl => ?_)
  refine lv_goto (tgt := 3) hx hb gX12_bodyFrom_0.2.2.2.2.2.2.2.2.2 (by decide) ?_
  refine lv_iload hx hb gX12_bodyFrom_0.2.2.1 (lv_at0 hl) ?_
  refine lv_iload_n hx hb gX12_bodyFrom_0.2.2.2.1 rfl (lv_at3 hl) ?_
  refine pS hC hK hl (m_hasOwn01 l G) si_X12_360 rfl rfl (Nat.le_of_ble_eq_true rfl) rm_24_1_2 ⟨by first | exact Nat.le_of_ble_eq_true rfl | exact Nat.zero_le _, by first | exact Nat.le_of_ble_eq_true rfl | exact Nat.zero_le _⟩ gX12_bodyFrom_0.2.2.2.2.1 (Keqr ?_)
  refine lv_if_ne (tgt := 22) hx hb gX12_bodyFrom_0.2.2.2.2.2.1 (by decide) (fun _ => ?_) (fun c9 => absurd c9 (by decide))
  refine lv_aload_n hx hb gX12_bodyFrom_1.1 rfl (lv_at1 hl) ?_
  refine lv_iload hx hb gX12_bodyFrom_1.2.1 (lv_at0 hl) ?_
  refine lv_iload_n hx hb gX12_bodyFrom_1.2.2.1 rfl (lv_at3 hl) ?_
  refine lv_iload_n hx hb gX12_bodyFrom_1.2.2.2.1 rfl (lv_at4 hl) ?_
  refine iV (wr := []) hC hK hl hP hD hS hA (m_body01 l G h0 xx nw nk mhasKept nt mtaped nr mrowMany mroundOf mroundFrom mouts nm mfromHour mtoHour ns mfrom mto msort misFault mdeep mcoded mlines nl nc nF np ntr nb mbestCost nso nsi nit nsh nsf nss nrc jr jd mnumber mwhose msize misParted fnrc (hjr) (hjd)) si_X12_363 [0, 1] [] sm_0_1 fm_0_1 nd_0_1 rfl rfl (by decide) rfl rfl rfl rfl rfl (Nat.le_of_ble_eq_true rfl) rm_24_15_6 ⟨Nat.le_of_ble_eq_true rfl, Nat.le_of_ble_eq_true rfl⟩ gX12_bodyFrom_1.2.2.2.2.1 (fun r6219 => Ktu3 fun jr16221 ip16222 gtrc6223 => ?_)
  intro H locs hr6219 hP hD hS
  try dsimp only at hr6219
  refine Kpdr (ws := [(h0, oX12 nw nk mhasKept nt mtaped nr mrowMany mroundOf mroundFrom mouts nm mfromHour mtoHour ns mfrom mto msort misFault mdeep mcoded mlines nl nc nF np ntr nb mbestCost nso nsi nit nsh nsf nss nrc (nI jr16221) (nI jd) mnumber mwhose msize ip16222), (nrc, iA G 30 gtrc6223)]) hP hD (fun hP hD => ?_)
  obtain ⟨hr6219, w6224⟩ := hr6219
  refine toQ hQ0 ?_
  exact RI (v := r6219) hC hP hD hS [0, 1] (jr16221, ip16222, gtrc6223) rfl rfl (by decide) (⟨trivial, by omega⟩) rfl gX12_bodyFrom_1.2.2.2.2.2
def K_m_from61 (l : Launch) (G : GG) (h0 : Nat) (xx : Int32) (nw : Nat) (nk : Nat) (mhasKept : Int32) (nt : Nat) (mtaped : Int32) (nr : Nat) (mrowMany : Int32) (mroundOf : Int32) (mroundFrom : Int32) (mouts : Int32) (nm : Nat) (mfromHour : Int32) (mtoHour : Int32) (ns : Nat) (mfrom : Int32) (mto : Int32) (msort : Int32) (misFault : Int32) (mdeep : Int32) (mcoded : Int32) (mlines : Int32) (nl : Nat) (nc : Nat) (nF : Nat) (np : Nat) (ntr : Nat) (nb : Nat) (mbestCost : Int32) (nso : Nat) (nsi : Nat) (nit : Nat) (nsh : Nat) (nsf : Nat) (nss : Nat) (nrc : Nat) (jr : Nat) (jd : Nat) (mnumber : Int32) (mwhose : Int32) (msize : Int32) (misParted : Int32) (fnrc : Nat → Int32) : Prop := MI l G yX12_bodyFrom cX12_bodyFrom 5 (some .int) 24 0 0 [.ref h0, .int 6, .int 1, .int xx] [(h0, oX12 nw nk mhasKept nt mtaped nr mrowMany mroundOf mroundFrom mouts nm mfromHour mtoHour ns mfrom mto msort misFault mdeep mcoded mlines nl nc nF np ntr nb mbestCost nso nsi nit nsh nsf nss nrc (nI jr) (nI jd) mnumber mwhose msize misParted), (nrc, iA G 30 fnrc)] (fun (r : Int32) (u : Nat × Int32 × (Nat → Int32)) => (True) ∧ (u.1 ≤ 30)) (fun u : Nat × Int32 × (Nat → Int32) => [(h0, oX12 nw nk mhasKept nt mtaped nr mrowMany mroundOf mroundFrom mouts nm mfromHour mtoHour ns mfrom mto msort misFault mdeep mcoded mlines nl nc nF np ntr nb mbestCost nso nsi nit nsh nsf nss nrc (nI u.1) (nI jd) mnumber mwhose msize u.2.1), (nrc, iA G 30 u.2.2)])
set_option maxHeartbeats 4000000 in
set_option maxRecDepth 100000 in
theorem m_from61 (l : Launch) (G : GG) (h0 : Nat) (xx : Int32) (nw : Nat) (nk : Nat) (mhasKept : Int32) (nt : Nat) (mtaped : Int32) (nr : Nat) (mrowMany : Int32) (mroundOf : Int32) (mroundFrom : Int32) (mouts : Int32) (nm : Nat) (mfromHour : Int32) (mtoHour : Int32) (ns : Nat) (mfrom : Int32) (mto : Int32) (msort : Int32) (misFault : Int32) (mdeep : Int32) (mcoded : Int32) (mlines : Int32) (nl : Nat) (nc : Nat) (nF : Nat) (np : Nat) (ntr : Nat) (nb : Nat) (mbestCost : Int32) (nso : Nat) (nsi : Nat) (nit : Nat) (nsh : Nat) (nsf : Nat) (nss : Nat) (nrc : Nat) (jr : Nat) (jd : Nat) (mnumber : Int32) (mwhose : Int32) (msize : Int32) (misParted : Int32) (fnrc : Nat → Int32) (hjr : jr ≤ 30) (hjd : jd < 7) : K_m_from61 l G h0 xx nw nk mhasKept nt mtaped nr mrowMany mroundOf mroundFrom mouts nm mfromHour mtoHour ns mfrom mto msort misFault mdeep mcoded mlines nl nc nF np ntr nb mbestCost nso nsi nit nsh nsf nss nrc jr jd mnumber mwhose msize misParted fnrc := by
  refine MI.start (by decide +kernel) (Nat.le_of_ble_eq_true rfl) ?_
  intro p e s m below meth c A ls hC hK hP hD hS hA hl
  refine absQ (fun Q0 hQ0 => ?_)
  have hl : lv_has ls 5 [(0, .ref h0), (1, .int 6), (2, .int 1), (3, .int xx)] := hl
  refine Kan8 hC (fun hx hb hr hml hB hown hlocks hnm => ?_)
  refine lv_iload_n hx hb gX12_bodyFrom_0.1 rfl (lv_at1 hl) ?_
  refine lv_istore (lv' := [(4, .int 6), (0, .ref h0), (1, .int 6), (2, .int 1), (3, .int xx)]) hx hb gX12_bodyFrom_0.2.1 hl (by decide) rfl (fun ls hl => ?_)
  refine lv_iload hx hb gX12_bodyFrom_0.2.2.1 (lv_at0 hl) ?_
  refine lv_iload_n hx hb gX12_bodyFrom_0.2.2.2.1 rfl (lv_at3 hl) ?_
  refine pS hC hK hl (m_hasOwn61 l G) si_X12_360 rfl rfl (Nat.le_of_ble_eq_true rfl) rm_24_1_2 ⟨by first | exact Nat.le_of_ble_eq_true rfl | exact Nat.zero_le _, by first | exact Nat.le_of_ble_eq_true rfl | exact Nat.zero_le _⟩ gX12_bodyFrom_0.2.2.2.2.1 (Keqr ?_)
  refine lv_if_ne (tgt := 22) hx hb gX12_bodyFrom_0.2.2.2.2.2.1 (by decide) (fun c9 => absurd (by decide) c9) (fun _ => ?_)
  refine lv_iload hx hb gX12_bodyFrom_0.2.2.2.2.2.2.1 (lv_at0 hl) ?_
  refine pS hC hK hl (m_above6 l G) si_X12_348 rfl rfl (Nat.le_of_ble_eq_true rfl) rm_24_1_1 ⟨by first | exact Nat.le_of_ble_eq_true rfl | exact Nat.zero_le _, by first | exact Nat.le_of_ble_eq_true rfl | exact Nat.zero_le _⟩ gX12_bodyFrom_0.2.2.2.2.2.2.2.1 (Keqr ?_)
  refine lv_istore (lv' := [(4, .int 0), (0, .ref h0), (1, .int 6), (2, .int 1), (3, .int xx)]) hx hb gX12_bodyFrom_0.2.2.2.2.2.2.2.2.1 hl (by decide) rfl (fun ls hl => ?_)
  refine lv_goto (tgt := 3) hx hb gX12_bodyFrom_0.2.2.2.2.2.2.2.2.2 (by decide) ?_
  refine lv_iload hx hb gX12_bodyFrom_0.2.2.1 (lv_at0 hl) ?_
  refine lv_iload_n hx hb gX12_bodyFrom_0.2.2.2.1 rfl (lv_at3 hl) ?_
  refine pS hC hK hl (m_hasOwn01 l G) si_X12_360 rfl rfl (Nat.le_of_ble_eq_true rfl) rm_24_1_2 ⟨by first | exact Nat.le_of_ble_eq_true rfl | exact Nat.zero_le _, by first | exact Nat.le_of_ble_eq_true rfl | exact Nat.zero_le _⟩ gX12_bodyFrom_0.2.2.2.2.1 (Keqr ?_)
  refine lv_if_ne (tgt := 22) hx hb gX12_bodyFrom_0.2.2.2.2.2.1 (by decide) (fun _ => ?_) (fun c9 => absurd c9 (by decide))
  refine lv_aload_n hx hb gX12_bodyFrom_1.1 rfl (lv_at1 hl) ?_
  refine lv_iload hx hb gX12_bodyFrom_1.2.1 (lv_at0 hl) ?_
  refine lv_iload_n hx hb gX12_bodyFrom_1.2.2.1 rfl (lv_at3 hl) ?_
  refine lv_iload_n hx hb gX12_bodyFrom_1.2.2.2.1 rfl (lv_at4 hl) ?_
  refine iV (wr := []) hC hK hl hP hD hS hA (m_body01 l G h0 xx nw nk mhasKept nt mtaped nr mrowMany mroundOf mroundFrom mouts nm mfromHour mtoHour ns mfrom mto msort misFault mdeep mcoded mlines nl nc nF np ntr nb mbestCost nso nsi nit nsh nsf nss nrc jr jd mnumber mwhose msize misParted fnrc (hjr) (hjd)) si_X12_363 [0, 1] [] sm_0_1 fm_0_1 nd_0_1 rfl rfl (by decide) rfl rfl rfl rfl rfl (Nat.le_of_ble_eq_true rfl) rm_24_15_6 ⟨Nat.le_of_ble_eq_true rfl, Nat.le_of_ble_eq_true rfl⟩ gX12_bodyFrom_1.2.2.2.2.1 (fun r6231 => Ktu3 fun jr16233 ip16234 gtrc6235 => ?_)
  intro H locs hr6231 hP hD hS
  try dsimp only at hr6231
  refine Kpdr (ws := [(h0, oX12 nw nk mhasKept nt mtaped nr mrowMany mroundOf mroundFrom mouts nm mfromHour mtoHour ns mfrom mto msort misFault mdeep mcoded mlines nl nc nF np ntr nb mbestCost nso nsi nit nsh nsf nss nrc (nI jr16233) (nI jd) mnumber mwhose msize ip16234), (nrc, iA G 30 gtrc6235)]) hP hD (fun hP hD => ?_)
  obtain ⟨hr6231, w6236⟩ := hr6231
  refine toQ hQ0 ?_
  exact RI (v := r6231) hC hP hD hS [0, 1] (jr16233, ip16234, gtrc6235) rfl rfl (by decide) (⟨trivial, by omega⟩) rfl gX12_bodyFrom_1.2.2.2.2.2
def K_m_dealt1 (l : Launch) (G : GG) (h0 : Nat) (xx : Int32) (nw : Nat) (nk : Nat) (mhasKept : Int32) (nt : Nat) (mtaped : Int32) (nr : Nat) (mrowMany : Int32) (mroundOf : Int32) (mroundFrom : Int32) (mouts : Int32) (nm : Nat) (mfromHour : Int32) (mtoHour : Int32) (ns : Nat) (mfrom : Int32) (mto : Int32) (msort : Int32) (misFault : Int32) (mdeep : Int32) (mcoded : Int32) (mlines : Int32) (nl : Nat) (nc : Nat) (nF : Nat) (np : Nat) (ntr : Nat) (nb : Nat) (mbestCost : Int32) (nso : Nat) (nsi : Nat) (nit : Nat) (nsh : Nat) (nsf : Nat) (nss : Nat) (nrc : Nat) (jr : Nat) (jd : Nat) (mnumber : Int32) (mwhose : Int32) (msize : Int32) (misParted : Int32) (fnrc : Nat → Int32) : Prop := MI l G yX12_dealt cX12_dealt 3 (some .int) 26 0 0 [.ref h0, .int 1, .int xx] [(h0, oX12 nw nk mhasKept nt mtaped nr mrowMany mroundOf mroundFrom mouts nm mfromHour mtoHour ns mfrom mto msort misFault mdeep mcoded mlines nl nc nF np ntr nb mbestCost nso nsi nit nsh nsf nss nrc (nI jr) (nI jd) mnumber mwhose msize misParted), (nrc, iA G 30 fnrc)] (fun (r : Int32) (u : Nat × Int32 × (Nat → Int32)) => (True) ∧ (u.1 ≤ 30)) (fun u : Nat × Int32 × (Nat → Int32) => [(h0, oX12 nw nk mhasKept nt mtaped nr mrowMany mroundOf mroundFrom mouts nm mfromHour mtoHour ns mfrom mto msort misFault mdeep mcoded mlines nl nc nF np ntr nb mbestCost nso nsi nit nsh nsf nss nrc (nI u.1) (nI jd) mnumber mwhose msize u.2.1), (nrc, iA G 30 u.2.2)])
set_option maxHeartbeats 4000000 in
set_option maxRecDepth 100000 in
theorem m_dealt1 (l : Launch) (G : GG) (h0 : Nat) (xx : Int32) (nw : Nat) (nk : Nat) (mhasKept : Int32) (nt : Nat) (mtaped : Int32) (nr : Nat) (mrowMany : Int32) (mroundOf : Int32) (mroundFrom : Int32) (mouts : Int32) (nm : Nat) (mfromHour : Int32) (mtoHour : Int32) (ns : Nat) (mfrom : Int32) (mto : Int32) (msort : Int32) (misFault : Int32) (mdeep : Int32) (mcoded : Int32) (mlines : Int32) (nl : Nat) (nc : Nat) (nF : Nat) (np : Nat) (ntr : Nat) (nb : Nat) (mbestCost : Int32) (nso : Nat) (nsi : Nat) (nit : Nat) (nsh : Nat) (nsf : Nat) (nss : Nat) (nrc : Nat) (jr : Nat) (jd : Nat) (mnumber : Int32) (mwhose : Int32) (msize : Int32) (misParted : Int32) (fnrc : Nat → Int32) (hjr : jr ≤ 30) (hjd : jd < 7) : K_m_dealt1 l G h0 xx nw nk mhasKept nt mtaped nr mrowMany mroundOf mroundFrom mouts nm mfromHour mtoHour ns mfrom mto msort misFault mdeep mcoded mlines nl nc nF np ntr nb mbestCost nso nsi nit nsh nsf nss nrc jr jd mnumber mwhose msize misParted fnrc := by
  refine MI.start (by decide +kernel) (Nat.le_of_ble_eq_true rfl) ?_
  intro p e s m below meth c A ls hC hK hP hD hS hA hl
  refine absQ (fun Q0 hQ0 => ?_)
  have hl : lv_has ls 3 [(0, .ref h0), (1, .int 1), (2, .int xx)] := hl
  refine Kan8 hC (fun hx hb hr hml hB hown hlocks hnm => ?_)
  refine lv_aload_n hx hb gX12_dealt_0.1 rfl (lv_at0 hl) ?_
  refine lv_aload_n hx hb gX12_dealt_0.2.1 rfl (lv_at0 hl) ?_
  refine gf_X12_354 hC rfl hK hP 0 rfl rfl gX12_dealt_0.2.2.1 ?_
  refine lv_iload_n hx hb gX12_dealt_0.2.2.2.1 rfl (lv_at1 hl) ?_
  refine lv_iload_n hx hb gX12_dealt_0.2.2.2.2.1 rfl (lv_at2 hl) ?_
  rcases (show jd = 0 ∨ jd = 1 ∨ jd = 2 ∨ jd = 3 ∨ jd = 4 ∨ jd = 5 ∨ jd = 6 by omega) with rfl | rfl | rfl | rfl | rfl | rfl | rfl
  · refine iV (wr := []) hC hK hl hP hD hS hA (m_from01 l G h0 xx nw nk mhasKept nt mtaped nr mrowMany mroundOf mroundFrom mouts nm mfromHour mtoHour ns mfrom mto msort misFault mdeep mcoded mlines nl nc nF np ntr nb mbestCost nso nsi nit nsh nsf nss nrc jr 0 mnumber mwhose msize misParted fnrc (hjr) (hjd)) si_X12_357 [0, 1] [] sm_0_1 fm_0_1 nd_0_1 rfl rfl (by decide) rfl rfl rfl rfl rfl (Nat.le_of_ble_eq_true rfl) rm_26_16_5 ⟨Nat.le_of_ble_eq_true rfl, Nat.le_of_ble_eq_true rfl⟩ gX12_dealt_0.2.2.2.2.2.1 (fun r6237 => Ktu3 fun jr16239 ip16240 gtrc6241 => ?_)
    intro H locs hr6237 hP hD hS
    try dsimp only at hr6237
    refine Kpdr (ws := [(h0, oX12 nw nk mhasKept nt mtaped nr mrowMany mroundOf mroundFrom mouts nm mfromHour mtoHour ns mfrom mto msort misFault mdeep mcoded mlines nl nc nF np ntr nb mbestCost nso nsi nit nsh nsf nss nrc (nI jr16239) 0 mnumber mwhose msize ip16240), (nrc, iA G 30 gtrc6241)]) hP hD (fun hP hD => ?_)
    obtain ⟨hr6237, w6242⟩ := hr6237
    refine toQ hQ0 ?_
    exact RI (v := r6237) hC hP hD hS [0, 1] (jr16239, ip16240, gtrc6241) rfl rfl (by decide) (⟨trivial, by omega⟩) rfl gX12_dealt_0.2.2.2.2.2.2
  · refine iV (wr := []) hC hK hl hP hD hS hA (m_from11 l G h0 xx nw nk mhasKept nt mtaped nr mrowMany mroundOf mroundFrom mouts nm mfromHour mtoHour ns mfrom mto msort misFault mdeep mcoded mlines nl nc nF np ntr nb mbestCost nso nsi nit nsh nsf nss nrc jr 1 mnumber mwhose msize misParted fnrc (hjr) (hjd)) si_X12_357 [0, 1] [] sm_0_1 fm_0_1 nd_0_1 rfl rfl (by decide) rfl rfl rfl rfl rfl (Nat.le_of_ble_eq_true rfl) rm_26_18_5 ⟨Nat.le_of_ble_eq_true rfl, Nat.le_of_ble_eq_true rfl⟩ gX12_dealt_0.2.2.2.2.2.1 (fun r6243 => Ktu3 fun jr16245 ip16246 gtrc6247 => ?_)
    intro H locs hr6243 hP hD hS
    try dsimp only at hr6243
    refine Kpdr (ws := [(h0, oX12 nw nk mhasKept nt mtaped nr mrowMany mroundOf mroundFrom mouts nm mfromHour mtoHour ns mfrom mto msort misFault mdeep mcoded mlines nl nc nF np ntr nb mbestCost nso nsi nit nsh nsf nss nrc (nI jr16245) 1 mnumber mwhose msize ip16246), (nrc, iA G 30 gtrc6247)]) hP hD (fun hP hD => ?_)
    obtain ⟨hr6243, w6248⟩ := hr6243
    refine toQ hQ0 ?_
    exact RI (v := r6243) hC hP hD hS [0, 1] (jr16245, ip16246, gtrc6247) rfl rfl (by decide) (⟨trivial, by omega⟩) rfl gX12_dealt_0.2.2.2.2.2.2
  · refine iV (wr := []) hC hK hl hP hD hS hA (m_from21 l G h0 xx nw nk mhasKept nt mtaped nr mrowMany mroundOf mroundFrom mouts nm mfromHour mtoHour ns mfrom mto msort misFault mdeep mcoded mlines nl nc nF np ntr nb mbestCost nso nsi nit nsh nsf nss nrc jr 2 mnumber mwhose msize misParted fnrc (hjr) (hjd)) si_X12_357 [0, 1] [] sm_0_1 fm_0_1 nd_0_1 rfl rfl (by decide) rfl rfl rfl rfl rfl (Nat.le_of_ble_eq_true rfl) rm_26_24_5 ⟨Nat.le_of_ble_eq_true rfl, Nat.le_of_ble_eq_true rfl⟩ gX12_dealt_0.2.2.2.2.2.1 (fun r6249 => Ktu3 fun jr16251 ip16252 gtrc6253 => ?_)
    intro H locs hr6249 hP hD hS
    try dsimp only at hr6249
    refine Kpdr (ws := [(h0, oX12 nw nk mhasKept nt mtaped nr mrowMany mroundOf mroundFrom mouts nm mfromHour mtoHour ns mfrom mto msort misFault mdeep mcoded mlines nl nc nF np ntr nb mbestCost nso nsi nit nsh nsf nss nrc (nI jr16251) 2 mnumber mwhose msize ip16252), (nrc, iA G 30 gtrc6253)]) hP hD (fun hP hD => ?_)
    obtain ⟨hr6249, w6254⟩ := hr6249
    refine toQ hQ0 ?_
    exact RI (v := r6249) hC hP hD hS [0, 1] (jr16251, ip16252, gtrc6253) rfl rfl (by decide) (⟨trivial, by omega⟩) rfl gX12_dealt_0.2.2.2.2.2.2
  · refine iV (wr := []) hC hK hl hP hD hS hA (m_from31 l G h0 xx nw nk mhasKept nt mtaped nr mrowMany mroundOf mroundFrom mouts nm mfromHour mtoHour ns mfrom mto msort misFault mdeep mcoded mlines nl nc nF np ntr nb mbestCost nso nsi nit nsh nsf nss nrc jr 3 mnumber mwhose msize misParted fnrc (hjr) (hjd)) si_X12_357 [0, 1] [] sm_0_1 fm_0_1 nd_0_1 rfl rfl (by decide) rfl rfl rfl rfl rfl (Nat.le_of_ble_eq_true rfl) rm_26_20_5 ⟨Nat.le_of_ble_eq_true rfl, Nat.le_of_ble_eq_true rfl⟩ gX12_dealt_0.2.2.2.2.2.1 (fun r6255 => Ktu3 fun jr16257 ip16258 gtrc6259 => ?_)
    intro H locs hr6255 hP hD hS
    try dsimp only at hr6255
    refine Kpdr (ws := [(h0, oX12 nw nk mhasKept nt mtaped nr mrowMany mroundOf mroundFrom mouts nm mfromHour mtoHour ns mfrom mto msort misFault mdeep mcoded mlines nl nc nF np ntr nb mbestCost nso nsi nit nsh nsf nss nrc (nI jr16257) 3 mnumber mwhose msize ip16258), (nrc, iA G 30 gtrc6259)]) hP hD (fun hP hD => ?_)
    obtain ⟨hr6255, w6260⟩ := hr6255
    refine toQ hQ0 ?_
    exact RI (v := r6255) hC hP hD hS [0, 1] (jr16257, ip16258, gtrc6259) rfl rfl (by decide) (⟨trivial, by omega⟩) rfl gX12_dealt_0.2.2.2.2.2.2
  · refine iV (wr := []) hC hK hl hP hD hS hA (m_from41 l G h0 xx nw nk mhasKept nt mtaped nr mrowMany mroundOf mroundFrom mouts nm mfromHour mtoHour ns mfrom mto msort misFault mdeep mcoded mlines nl nc nF np ntr nb mbestCost nso nsi nit nsh nsf nss nrc jr 4 mnumber mwhose msize misParted fnrc (hjr) (hjd)) si_X12_357 [0, 1] [] sm_0_1 fm_0_1 nd_0_1 rfl rfl (by decide) rfl rfl rfl rfl rfl (Nat.le_of_ble_eq_true rfl) rm_26_24_5 ⟨Nat.le_of_ble_eq_true rfl, Nat.le_of_ble_eq_true rfl⟩ gX12_dealt_0.2.2.2.2.2.1 (fun r6261 => Ktu3 fun jr16263 ip16264 gtrc6265 => ?_)
    intro H locs hr6261 hP hD hS
    try dsimp only at hr6261
    refine Kpdr (ws := [(h0, oX12 nw nk mhasKept nt mtaped nr mrowMany mroundOf mroundFrom mouts nm mfromHour mtoHour ns mfrom mto msort misFault mdeep mcoded mlines nl nc nF np ntr nb mbestCost nso nsi nit nsh nsf nss nrc (nI jr16263) 4 mnumber mwhose msize ip16264), (nrc, iA G 30 gtrc6265)]) hP hD (fun hP hD => ?_)
    obtain ⟨hr6261, w6266⟩ := hr6261
    refine toQ hQ0 ?_
    exact RI (v := r6261) hC hP hD hS [0, 1] (jr16263, ip16264, gtrc6265) rfl rfl (by decide) (⟨trivial, by omega⟩) rfl gX12_dealt_0.2.2.2.2.2.2
  · refine iV (wr := []) hC hK hl hP hD hS hA (m_from51 l G h0 xx nw nk mhasKept nt mtaped nr mrowMany mroundOf mroundFrom mouts nm mfromHour mtoHour ns mfrom mto msort misFault mdeep mcoded mlines nl nc nF np ntr nb mbestCost nso nsi nit nsh nsf nss nrc jr 5 mnumber mwhose msize misParted fnrc (hjr) (hjd)) si_X12_357 [0, 1] [] sm_0_1 fm_0_1 nd_0_1 rfl rfl (by decide) rfl rfl rfl rfl rfl (Nat.le_of_ble_eq_true rfl) rm_26_24_5 ⟨Nat.le_of_ble_eq_true rfl, Nat.le_of_ble_eq_true rfl⟩ gX12_dealt_0.2.2.2.2.2.1 (fun r6267 => Ktu3 fun jr16269 ip16270 gtrc6271 => ?_)
    intro H locs hr6267 hP hD hS
    try dsimp only at hr6267
    refine Kpdr (ws := [(h0, oX12 nw nk mhasKept nt mtaped nr mrowMany mroundOf mroundFrom mouts nm mfromHour mtoHour ns mfrom mto msort misFault mdeep mcoded mlines nl nc nF np ntr nb mbestCost nso nsi nit nsh nsf nss nrc (nI jr16269) 5 mnumber mwhose msize ip16270), (nrc, iA G 30 gtrc6271)]) hP hD (fun hP hD => ?_)
    obtain ⟨hr6267, w6272⟩ := hr6267
    refine toQ hQ0 ?_
    exact RI (v := r6267) hC hP hD hS [0, 1] (jr16269, ip16270, gtrc6271) rfl rfl (by decide) (⟨trivial, by omega⟩) rfl gX12_dealt_0.2.2.2.2.2.2
  · refine iV (wr := []) hC hK hl hP hD hS hA (m_from61 l G h0 xx nw nk mhasKept nt mtaped nr mrowMany mroundOf mroundFrom mouts nm mfromHour mtoHour ns mfrom mto msort misFault mdeep mcoded mlines nl nc nF np ntr nb mbestCost nso nsi nit nsh nsf nss nrc jr 6 mnumber mwhose msize misParted fnrc (hjr) (hjd)) si_X12_357 [0, 1] [] sm_0_1 fm_0_1 nd_0_1 rfl rfl (by decide) rfl rfl rfl rfl rfl (Nat.le_of_ble_eq_true rfl) rm_26_24_5 ⟨Nat.le_of_ble_eq_true rfl, Nat.le_of_ble_eq_true rfl⟩ gX12_dealt_0.2.2.2.2.2.1 (fun r6273 => Ktu3 fun jr16275 ip16276 gtrc6277 => ?_)
    intro H locs hr6273 hP hD hS
    try dsimp only at hr6273
    refine Kpdr (ws := [(h0, oX12 nw nk mhasKept nt mtaped nr mrowMany mroundOf mroundFrom mouts nm mfromHour mtoHour ns mfrom mto msort misFault mdeep mcoded mlines nl nc nF np ntr nb mbestCost nso nsi nit nsh nsf nss nrc (nI jr16275) 6 mnumber mwhose msize ip16276), (nrc, iA G 30 gtrc6277)]) hP hD (fun hP hD => ?_)
    obtain ⟨hr6273, w6278⟩ := hr6273
    refine toQ hQ0 ?_
    exact RI (v := r6273) hC hP hD hS [0, 1] (jr16275, ip16276, gtrc6277) rfl rfl (by decide) (⟨trivial, by omega⟩) rfl gX12_dealt_0.2.2.2.2.2.2
def K_m_body02 (l : Launch) (G : GG) (h0 : Nat) (xx : Int32) (nw : Nat) (nk : Nat) (mhasKept : Int32) (nt : Nat) (mtaped : Int32) (nr : Nat) (mrowMany : Int32) (mroundOf : Int32) (mroundFrom : Int32) (mouts : Int32) (nm : Nat) (mfromHour : Int32) (mtoHour : Int32) (ns : Nat) (mfrom : Int32) (mto : Int32) (msort : Int32) (misFault : Int32) (mdeep : Int32) (mcoded : Int32) (mlines : Int32) (nl : Nat) (nc : Nat) (nF : Nat) (np : Nat) (ntr : Nat) (nb : Nat) (mbestCost : Int32) (nso : Nat) (nsi : Nat) (nit : Nat) (nsh : Nat) (nsf : Nat) (nss : Nat) (nrc : Nat) (jr : Nat) (jd : Nat) (mnumber : Int32) (mwhose : Int32) (msize : Int32) (misParted : Int32) (fnrc : Nat → Int32) : Prop := MI l G yX12_body cX12_body 6 (some .int) 27 0 0 [.ref h0, .int 0, .int 2, .int xx] [(h0, oX12 nw nk mhasKept nt mtaped nr mrowMany mroundOf mroundFrom mouts nm mfromHour mtoHour ns mfrom mto msort misFault mdeep mcoded mlines nl nc nF np ntr nb mbestCost nso nsi nit nsh nsf nss nrc (nI jr) (nI jd) mnumber mwhose msize misParted), (nrc, iA G 30 fnrc)] (fun (r : Int32) (u : Nat × Int32 × (Nat → Int32)) => (True) ∧ (u.1 ≤ 30)) (fun u : Nat × Int32 × (Nat → Int32) => [(h0, oX12 nw nk mhasKept nt mtaped nr mrowMany mroundOf mroundFrom mouts nm mfromHour mtoHour ns mfrom mto msort misFault mdeep mcoded mlines nl nc nF np ntr nb mbestCost nso nsi nit nsh nsf nss nrc (nI u.1) (nI jd) mnumber mwhose msize u.2.1), (nrc, iA G 30 u.2.2)])
set_option maxHeartbeats 4000000 in
set_option maxRecDepth 100000 in
theorem m_body02 (l : Launch) (G : GG) (h0 : Nat) (xx : Int32) (nw : Nat) (nk : Nat) (mhasKept : Int32) (nt : Nat) (mtaped : Int32) (nr : Nat) (mrowMany : Int32) (mroundOf : Int32) (mroundFrom : Int32) (mouts : Int32) (nm : Nat) (mfromHour : Int32) (mtoHour : Int32) (ns : Nat) (mfrom : Int32) (mto : Int32) (msort : Int32) (misFault : Int32) (mdeep : Int32) (mcoded : Int32) (mlines : Int32) (nl : Nat) (nc : Nat) (nF : Nat) (np : Nat) (ntr : Nat) (nb : Nat) (mbestCost : Int32) (nso : Nat) (nsi : Nat) (nit : Nat) (nsh : Nat) (nsf : Nat) (nss : Nat) (nrc : Nat) (jr : Nat) (jd : Nat) (mnumber : Int32) (mwhose : Int32) (msize : Int32) (misParted : Int32) (fnrc : Nat → Int32) (hjr : jr ≤ 30) (hjd : jd < 7) : K_m_body02 l G h0 xx nw nk mhasKept nt mtaped nr mrowMany mroundOf mroundFrom mouts nm mfromHour mtoHour ns mfrom mto msort misFault mdeep mcoded mlines nl nc nF np ntr nb mbestCost nso nsi nit nsh nsf nss nrc jr jd mnumber mwhose msize misParted fnrc := by
  refine MI.start (by decide +kernel) (Nat.le_of_ble_eq_true rfl) ?_
  intro p e s m below meth c A ls hC hK hP hD hS hA hl
  refine absQ (fun Q0 hQ0 => ?_)
  have hl : lv_has ls 6 [(0, .ref h0), (1, .int 0), (2, .int 2), (3, .int xx)] := hl
  refine Kan8 hC (fun hx hb hr hml hB hown hlocks hnm => ?_)
  refine lv_iconst (v := 4) hx hb gX12_body_0.1 (by decide) ?_
  refine lv_iload_n hx hb gX12_body_0.2.1 rfl (lv_at1 hl) ?_
  refine lv_imul hx hb gX12_body_0.2.2.1 ?_
  refine eqi (x1 := 0) (by decide) ?_
  refine lv_iload_n hx hb gX12_body_0.2.2.2.1 rfl (lv_at2 hl) ?_
  refine lv_iadd hx hb gX12_body_0.2.2.2.2.1 ?_
  refine eqi (x1 := 2) (by decide) ?_
  refine lv_tableIn (tgt := 140) hx hb gX12_body_0.2.2.2.2.2.1 (by decide) (by decide) rfl (by decide) ?_
  refine lv_aload_n hx hb gX12_body_2.2.2.2.2.1 rfl (lv_at0 hl) ?_
  refine lv_bipush (v := 12) hx hb gX12_body_2.2.2.2.2.2.1 (by decide) ?_
  refine vV (wr := []) hC hK hl hP hD hS hA (m_began l G h0 12 nw nk mhasKept nt mtaped nr mrowMany mroundOf mroundFrom mouts nm mfromHour mtoHour ns mfrom mto msort misFault mdeep mcoded mlines nl nc nF np ntr nb mbestCost nso nsi nit nsh nsf nss nrc jr (nI jd) mnumber mwhose msize misParted fnrc (hjr)) si_X12_366 [0, 1] [] sm_0_1 fm_0_1 nd_0_1 rfl rfl (by decide) rfl rfl rfl rfl rfl (Nat.le_of_ble_eq_true rfl) rm_27_1_2 ⟨Nat.le_of_ble_eq_true rfl, Nat.le_of_ble_eq_true rfl⟩ gX12_body_2.2.2.2.2.2.2.1 (Ktu2 fun jr16281 gtrc6282 => ?_)
  intro H locs hr6279 hP hD hS
  try dsimp only at hr6279
  refine Kpdr (ws := [(h0, oX12 nw nk mhasKept nt mtaped nr mrowMany mroundOf mroundFrom mouts nm mfromHour mtoHour ns mfrom mto msort misFault mdeep mcoded mlines nl nc nF np ntr nb mbestCost nso nsi nit nsh nsf nss nrc (nI jr16281) (nI jd) mnumber mwhose msize misParted), (nrc, iA G 30 gtrc6282)]) hP hD (fun hP hD => ?_)
  have w6283 := hr6279
  refine lv_aload_n hx hb gX12_body_2.2.2.2.2.2.2.2.1 rfl (lv_at0 hl) ?_
  refine lv_iconst (v := 1) hx hb gX12_body_2.2.2.2.2.2.2.2.2.1 (by decide) ?_
  refine lv_iload_n hx hb gX12_body_2.2.2.2.2.2.2.2.2.2 rfl (lv_at3 hl) ?_
  refine iV (wr := []) hC hK hl hP hD hS hA (m_dealt1 l G h0 xx nw nk mhasKept nt mtaped nr mrowMany mroundOf mroundFrom mouts nm mfromHour mtoHour ns mfrom mto msort misFault mdeep mcoded mlines nl nc nF np ntr nb mbestCost nso nsi nit nsh nsf nss nrc jr16281 jd mnumber mwhose msize misParted gtrc6282 (w6283) (hjd)) si_X12_372 [0, 1] [] sm_0_1 fm_0_1 nd_0_1 rfl rfl (by decide) rfl rfl rfl rfl rfl (Nat.le_of_ble_eq_true rfl) rm_27_26_3 ⟨Nat.le_of_ble_eq_true rfl, Nat.le_of_ble_eq_true rfl⟩ gX12_body_3.1 (fun r6284 => Ktu3 fun jr16286 ip16287 gtrc6288 => ?_)
  intro H locs hr6284 hP hD hS
  try dsimp only at hr6284
  refine Kpdr (ws := [(h0, oX12 nw nk mhasKept nt mtaped nr mrowMany mroundOf mroundFrom mouts nm mfromHour mtoHour ns mfrom mto msort misFault mdeep mcoded mlines nl nc nF np ntr nb mbestCost nso nsi nit nsh nsf nss nrc (nI jr16286) (nI jd) mnumber mwhose msize ip16287), (nrc, iA G 30 gtrc6288)]) hP hD (fun hP hD => ?_)
  obtain ⟨hr6284, w6289⟩ := hr6284
  refine lv_aload_n hx hb gX12_body_3.2.1 rfl (lv_at0 hl) ?_
  refine gf_X12_375 hC rfl hK hP 0 rfl rfl gX12_body_3.2.2.1 ?_
  refine lv_isub hx hb gX12_body_3.2.2.2.1 ?_
  refine toQ hQ0 ?_
  exact RI (v := r6284 - mwhose) hC hP hD hS [0, 1] (jr16286, ip16287, gtrc6288) rfl rfl (by decide) (⟨trivial, by omega⟩) rfl gX12_body_3.2.2.2.2.1
def K_m_from02 (l : Launch) (G : GG) (h0 : Nat) (xx : Int32) (nw : Nat) (nk : Nat) (mhasKept : Int32) (nt : Nat) (mtaped : Int32) (nr : Nat) (mrowMany : Int32) (mroundOf : Int32) (mroundFrom : Int32) (mouts : Int32) (nm : Nat) (mfromHour : Int32) (mtoHour : Int32) (ns : Nat) (mfrom : Int32) (mto : Int32) (msort : Int32) (misFault : Int32) (mdeep : Int32) (mcoded : Int32) (mlines : Int32) (nl : Nat) (nc : Nat) (nF : Nat) (np : Nat) (ntr : Nat) (nb : Nat) (mbestCost : Int32) (nso : Nat) (nsi : Nat) (nit : Nat) (nsh : Nat) (nsf : Nat) (nss : Nat) (nrc : Nat) (jr : Nat) (jd : Nat) (mnumber : Int32) (mwhose : Int32) (msize : Int32) (misParted : Int32) (fnrc : Nat → Int32) : Prop := MI l G yX12_bodyFrom cX12_bodyFrom 5 (some .int) 28 0 0 [.ref h0, .int 0, .int 2, .int xx] [(h0, oX12 nw nk mhasKept nt mtaped nr mrowMany mroundOf mroundFrom mouts nm mfromHour mtoHour ns mfrom mto msort misFault mdeep mcoded mlines nl nc nF np ntr nb mbestCost nso nsi nit nsh nsf nss nrc (nI jr) (nI jd) mnumber mwhose msize misParted), (nrc, iA G 30 fnrc)] (fun (r : Int32) (u : Nat × Int32 × (Nat → Int32)) => (True) ∧ (u.1 ≤ 30)) (fun u : Nat × Int32 × (Nat → Int32) => [(h0, oX12 nw nk mhasKept nt mtaped nr mrowMany mroundOf mroundFrom mouts nm mfromHour mtoHour ns mfrom mto msort misFault mdeep mcoded mlines nl nc nF np ntr nb mbestCost nso nsi nit nsh nsf nss nrc (nI u.1) (nI jd) mnumber mwhose msize u.2.1), (nrc, iA G 30 u.2.2)])
set_option maxHeartbeats 4000000 in
set_option maxRecDepth 100000 in
theorem m_from02 (l : Launch) (G : GG) (h0 : Nat) (xx : Int32) (nw : Nat) (nk : Nat) (mhasKept : Int32) (nt : Nat) (mtaped : Int32) (nr : Nat) (mrowMany : Int32) (mroundOf : Int32) (mroundFrom : Int32) (mouts : Int32) (nm : Nat) (mfromHour : Int32) (mtoHour : Int32) (ns : Nat) (mfrom : Int32) (mto : Int32) (msort : Int32) (misFault : Int32) (mdeep : Int32) (mcoded : Int32) (mlines : Int32) (nl : Nat) (nc : Nat) (nF : Nat) (np : Nat) (ntr : Nat) (nb : Nat) (mbestCost : Int32) (nso : Nat) (nsi : Nat) (nit : Nat) (nsh : Nat) (nsf : Nat) (nss : Nat) (nrc : Nat) (jr : Nat) (jd : Nat) (mnumber : Int32) (mwhose : Int32) (msize : Int32) (misParted : Int32) (fnrc : Nat → Int32) (hjr : jr ≤ 30) (hjd : jd < 7) : K_m_from02 l G h0 xx nw nk mhasKept nt mtaped nr mrowMany mroundOf mroundFrom mouts nm mfromHour mtoHour ns mfrom mto msort misFault mdeep mcoded mlines nl nc nF np ntr nb mbestCost nso nsi nit nsh nsf nss nrc jr jd mnumber mwhose msize misParted fnrc := by
  refine MI.start (by decide +kernel) (Nat.le_of_ble_eq_true rfl) ?_
  intro p e s m below meth c A ls hC hK hP hD hS hA hl
  refine absQ (fun Q0 hQ0 => ?_)
  have hl : lv_has ls 5 [(0, .ref h0), (1, .int 0), (2, .int 2), (3, .int xx)] := hl
  refine Kan8 hC (fun hx hb hr hml hB hown hlocks hnm => ?_)
  refine lv_iload_n hx hb gX12_bodyFrom_0.1 rfl (lv_at1 hl) ?_
  refine lv_istore (lv' := [(4, .int 0), (0, .ref h0), (1, .int 0), (2, .int 2), (3, .int xx)]) hx hb gX12_bodyFrom_0.2.1 hl (by decide) rfl (fun ls hl => ?_)
  refine lv_iload hx hb gX12_bodyFrom_0.2.2.1 (lv_at0 hl) ?_
  refine lv_iload_n hx hb gX12_bodyFrom_0.2.2.2.1 rfl (lv_at3 hl) ?_
  refine pS hC hK hl (m_hasOwn02 l G) si_X12_360 rfl rfl (Nat.le_of_ble_eq_true rfl) rm_28_1_2 ⟨by first | exact Nat.le_of_ble_eq_true rfl | exact Nat.zero_le _, by first | exact Nat.le_of_ble_eq_true rfl | exact Nat.zero_le _⟩ gX12_bodyFrom_0.2.2.2.2.1 (Keqr ?_)
  refine lv_if_ne (tgt := 22) hx hb gX12_bodyFrom_0.2.2.2.2.2.1 (by decide) (fun _ => ?_) (fun c9 => absurd c9 (by decide))
  refine lv_aload_n hx hb gX12_bodyFrom_1.1 rfl (lv_at1 hl) ?_
  refine lv_iload hx hb gX12_bodyFrom_1.2.1 (lv_at0 hl) ?_
  refine lv_iload_n hx hb gX12_bodyFrom_1.2.2.1 rfl (lv_at3 hl) ?_
  refine lv_iload_n hx hb gX12_bodyFrom_1.2.2.2.1 rfl (lv_at4 hl) ?_
  refine iV (wr := []) hC hK hl hP hD hS hA (m_body02 l G h0 xx nw nk mhasKept nt mtaped nr mrowMany mroundOf mroundFrom mouts nm mfromHour mtoHour ns mfrom mto msort misFault mdeep mcoded mlines nl nc nF np ntr nb mbestCost nso nsi nit nsh nsf nss nrc jr jd mnumber mwhose msize misParted fnrc (hjr) (hjd)) si_X12_363 [0, 1] [] sm_0_1 fm_0_1 nd_0_1 rfl rfl (by decide) rfl rfl rfl rfl rfl (Nat.le_of_ble_eq_true rfl) rm_28_27_6 ⟨Nat.le_of_ble_eq_true rfl, Nat.le_of_ble_eq_true rfl⟩ gX12_bodyFrom_1.2.2.2.2.1 (fun r6292 => Ktu3 fun jr16294 ip16295 gtrc6296 => ?_)
  intro H locs hr6292 hP hD hS
  try dsimp only at hr6292
  refine Kpdr (ws := [(h0, oX12 nw nk mhasKept nt mtaped nr mrowMany mroundOf mroundFrom mouts nm mfromHour mtoHour ns mfrom mto msort misFault mdeep mcoded mlines nl nc nF np ntr nb mbestCost nso nsi nit nsh nsf nss nrc (nI jr16294) (nI jd) mnumber mwhose msize ip16295), (nrc, iA G 30 gtrc6296)]) hP hD (fun hP hD => ?_)
  obtain ⟨hr6292, w6297⟩ := hr6292
  refine toQ hQ0 ?_
  exact RI (v := r6292) hC hP hD hS [0, 1] (jr16294, ip16295, gtrc6296) rfl rfl (by decide) (⟨trivial, by omega⟩) rfl gX12_bodyFrom_1.2.2.2.2.2
def K_m_body22 (l : Launch) (G : GG) (h0 : Nat) (xx : Int32) (nw : Nat) (nk : Nat) (mhasKept : Int32) (nt : Nat) (mtaped : Int32) (nr : Nat) (mrowMany : Int32) (mroundOf : Int32) (mroundFrom : Int32) (mouts : Int32) (nm : Nat) (mfromHour : Int32) (mtoHour : Int32) (ns : Nat) (mfrom : Int32) (mto : Int32) (msort : Int32) (misFault : Int32) (mdeep : Int32) (mcoded : Int32) (mlines : Int32) (nl : Nat) (nc : Nat) (nF : Nat) (np : Nat) (ntr : Nat) (nb : Nat) (mbestCost : Int32) (nso : Nat) (nsi : Nat) (nit : Nat) (nsh : Nat) (nsf : Nat) (nss : Nat) (nrc : Nat) (jr : Nat) (jd : Nat) (mnumber : Int32) (mwhose : Int32) (msize : Int32) (misParted : Int32) (fnrc : Nat → Int32) : Prop := MI l G yX12_body cX12_body 6 (some .int) 29 0 0 [.ref h0, .int 2, .int 2, .int xx] [(h0, oX12 nw nk mhasKept nt mtaped nr mrowMany mroundOf mroundFrom mouts nm mfromHour mtoHour ns mfrom mto msort misFault mdeep mcoded mlines nl nc nF np ntr nb mbestCost nso nsi nit nsh nsf nss nrc (nI jr) (nI jd) mnumber mwhose msize misParted), (nrc, iA G 30 fnrc)] (fun (r : Int32) (u : Nat × Int32 × (Nat → Int32)) => (True) ∧ (u.1 ≤ 30)) (fun u : Nat × Int32 × (Nat → Int32) => [(h0, oX12 nw nk mhasKept nt mtaped nr mrowMany mroundOf mroundFrom mouts nm mfromHour mtoHour ns mfrom mto msort misFault mdeep mcoded mlines nl nc nF np ntr nb mbestCost nso nsi nit nsh nsf nss nrc (nI u.1) (nI jd) mnumber mwhose msize u.2.1), (nrc, iA G 30 u.2.2)])
set_option maxHeartbeats 4000000 in
set_option maxRecDepth 100000 in
theorem m_body22 (l : Launch) (G : GG) (h0 : Nat) (xx : Int32) (nw : Nat) (nk : Nat) (mhasKept : Int32) (nt : Nat) (mtaped : Int32) (nr : Nat) (mrowMany : Int32) (mroundOf : Int32) (mroundFrom : Int32) (mouts : Int32) (nm : Nat) (mfromHour : Int32) (mtoHour : Int32) (ns : Nat) (mfrom : Int32) (mto : Int32) (msort : Int32) (misFault : Int32) (mdeep : Int32) (mcoded : Int32) (mlines : Int32) (nl : Nat) (nc : Nat) (nF : Nat) (np : Nat) (ntr : Nat) (nb : Nat) (mbestCost : Int32) (nso : Nat) (nsi : Nat) (nit : Nat) (nsh : Nat) (nsf : Nat) (nss : Nat) (nrc : Nat) (jr : Nat) (jd : Nat) (mnumber : Int32) (mwhose : Int32) (msize : Int32) (misParted : Int32) (fnrc : Nat → Int32) (hjr : jr ≤ 30) (hjd : jd < 7) : K_m_body22 l G h0 xx nw nk mhasKept nt mtaped nr mrowMany mroundOf mroundFrom mouts nm mfromHour mtoHour ns mfrom mto msort misFault mdeep mcoded mlines nl nc nF np ntr nb mbestCost nso nsi nit nsh nsf nss nrc jr jd mnumber mwhose msize misParted fnrc := by
  refine MI.start (by decide +kernel) (Nat.le_of_ble_eq_true rfl) ?_
  intro p e s m below meth c A ls hC hK hP hD hS hA hl
  refine absQ (fun Q0 hQ0 => ?_)
  have hl : lv_has ls 6 [(0, .ref h0), (1, .int 2), (2, .int 2), (3, .int xx)] := hl
  refine Kan8 hC (fun hx hb hr hml hB hown hlocks hnm => ?_)
  refine lv_iconst (v := 4) hx hb gX12_body_0.1 (by decide) ?_
  refine lv_iload_n hx hb gX12_body_0.2.1 rfl (lv_at1 hl) ?_
  refine lv_imul hx hb gX12_body_0.2.2.1 ?_
  refine eqi (x1 := 8) (by decide) ?_
  refine lv_iload_n hx hb gX12_body_0.2.2.2.1 rfl (lv_at2 hl) ?_
  refine lv_iadd hx hb gX12_body_0.2.2.2.2.1 ?_
  refine eqi (x1 := 10) (by decide) ?_
  refine lv_tableIn (tgt := 226) hx hb gX12_body_0.2.2.2.2.2.1 (by decide) (by decide) rfl (by decide) ?_
  refine lv_aload_n hx hb gX12_body_7.2.2.2.1 rfl (lv_at0 hl) ?_
  refine lv_bipush (v := 30) hx hb gX12_body_7.2.2.2.2.1 (by decide) ?_
  refine vV (wr := []) hC hK hl hP hD hS hA (m_began l G h0 30 nw nk mhasKept nt mtaped nr mrowMany mroundOf mroundFrom mouts nm mfromHour mtoHour ns mfrom mto msort misFault mdeep mcoded mlines nl nc nF np ntr nb mbestCost nso nsi nit nsh nsf nss nrc jr (nI jd) mnumber mwhose msize misParted fnrc (hjr)) si_X12_366 [0, 1] [] sm_0_1 fm_0_1 nd_0_1 rfl rfl (by decide) rfl rfl rfl rfl rfl (Nat.le_of_ble_eq_true rfl) rm_29_1_2 ⟨Nat.le_of_ble_eq_true rfl, Nat.le_of_ble_eq_true rfl⟩ gX12_body_7.2.2.2.2.2.1 (Ktu2 fun jr16300 gtrc6301 => ?_)
  intro H locs hr6298 hP hD hS
  try dsimp only at hr6298
  refine Kpdr (ws := [(h0, oX12 nw nk mhasKept nt mtaped nr mrowMany mroundOf mroundFrom mouts nm mfromHour mtoHour ns mfrom mto msort misFault mdeep mcoded mlines nl nc nF np ntr nb mbestCost nso nsi nit nsh nsf nss nrc (nI jr16300) (nI jd) mnumber mwhose msize misParted), (nrc, iA G 30 gtrc6301)]) hP hD (fun hP hD => ?_)
  have w6302 := hr6298
  refine lv_aload_n hx hb gX12_body_7.2.2.2.2.2.2.1 rfl (lv_at0 hl) ?_
  refine lv_iconst (v := 0) hx hb gX12_body_7.2.2.2.2.2.2.2.1 (by decide) ?_
  refine lv_iconst (v := 2) hx hb gX12_body_7.2.2.2.2.2.2.2.2.1 (by decide) ?_
  refine lv_iload_n hx hb gX12_body_7.2.2.2.2.2.2.2.2.2 rfl (lv_at3 hl) ?_
  refine iV (wr := []) hC hK hl hP hD hS hA (m_from02 l G h0 xx nw nk mhasKept nt mtaped nr mrowMany mroundOf mroundFrom mouts nm mfromHour mtoHour ns mfrom mto msort misFault mdeep mcoded mlines nl nc nF np ntr nb mbestCost nso nsi nit nsh nsf nss nrc jr16300 jd mnumber mwhose msize misParted gtrc6301 (w6302) (hjd)) si_X12_357 [0, 1] [] sm_0_1 fm_0_1 nd_0_1 rfl rfl (by decide) rfl rfl rfl rfl rfl (Nat.le_of_ble_eq_true rfl) rm_29_28_5 ⟨Nat.le_of_ble_eq_true rfl, Nat.le_of_ble_eq_true rfl⟩ gX12_body_8.1 (fun r6303 => Ktu3 fun jr16305 ip16306 gtrc6307 => ?_)
  intro H locs hr6303 hP hD hS
  try dsimp only at hr6303
  refine Kpdr (ws := [(h0, oX12 nw nk mhasKept nt mtaped nr mrowMany mroundOf mroundFrom mouts nm mfromHour mtoHour ns mfrom mto msort misFault mdeep mcoded mlines nl nc nF np ntr nb mbestCost nso nsi nit nsh nsf nss nrc (nI jr16305) (nI jd) mnumber mwhose msize ip16306), (nrc, iA G 30 gtrc6307)]) hP hD (fun hP hD => ?_)
  obtain ⟨hr6303, w6308⟩ := hr6303
  refine lv_iconst (v := 3) hx hb gX12_body_8.2.1 (by decide) ?_
  refine lv_imul hx hb gX12_body_8.2.2.1 ?_
  refine toQ hQ0 ?_
  exact RI (v := r6303 * 3) hC hP hD hS [0, 1] (jr16305, ip16306, gtrc6307) rfl rfl (by decide) (⟨trivial, by omega⟩) rfl gX12_body_8.2.2.2.1
def K_m_from22 (l : Launch) (G : GG) (h0 : Nat) (xx : Int32) (nw : Nat) (nk : Nat) (mhasKept : Int32) (nt : Nat) (mtaped : Int32) (nr : Nat) (mrowMany : Int32) (mroundOf : Int32) (mroundFrom : Int32) (mouts : Int32) (nm : Nat) (mfromHour : Int32) (mtoHour : Int32) (ns : Nat) (mfrom : Int32) (mto : Int32) (msort : Int32) (misFault : Int32) (mdeep : Int32) (mcoded : Int32) (mlines : Int32) (nl : Nat) (nc : Nat) (nF : Nat) (np : Nat) (ntr : Nat) (nb : Nat) (mbestCost : Int32) (nso : Nat) (nsi : Nat) (nit : Nat) (nsh : Nat) (nsf : Nat) (nss : Nat) (nrc : Nat) (jr : Nat) (jd : Nat) (mnumber : Int32) (mwhose : Int32) (msize : Int32) (misParted : Int32) (fnrc : Nat → Int32) : Prop := MI l G yX12_bodyFrom cX12_bodyFrom 5 (some .int) 30 0 0 [.ref h0, .int 2, .int 2, .int xx] [(h0, oX12 nw nk mhasKept nt mtaped nr mrowMany mroundOf mroundFrom mouts nm mfromHour mtoHour ns mfrom mto msort misFault mdeep mcoded mlines nl nc nF np ntr nb mbestCost nso nsi nit nsh nsf nss nrc (nI jr) (nI jd) mnumber mwhose msize misParted), (nrc, iA G 30 fnrc)] (fun (r : Int32) (u : Nat × Int32 × (Nat → Int32)) => (True) ∧ (u.1 ≤ 30)) (fun u : Nat × Int32 × (Nat → Int32) => [(h0, oX12 nw nk mhasKept nt mtaped nr mrowMany mroundOf mroundFrom mouts nm mfromHour mtoHour ns mfrom mto msort misFault mdeep mcoded mlines nl nc nF np ntr nb mbestCost nso nsi nit nsh nsf nss nrc (nI u.1) (nI jd) mnumber mwhose msize u.2.1), (nrc, iA G 30 u.2.2)])
set_option maxHeartbeats 4000000 in
set_option maxRecDepth 100000 in
theorem m_from22 (l : Launch) (G : GG) (h0 : Nat) (xx : Int32) (nw : Nat) (nk : Nat) (mhasKept : Int32) (nt : Nat) (mtaped : Int32) (nr : Nat) (mrowMany : Int32) (mroundOf : Int32) (mroundFrom : Int32) (mouts : Int32) (nm : Nat) (mfromHour : Int32) (mtoHour : Int32) (ns : Nat) (mfrom : Int32) (mto : Int32) (msort : Int32) (misFault : Int32) (mdeep : Int32) (mcoded : Int32) (mlines : Int32) (nl : Nat) (nc : Nat) (nF : Nat) (np : Nat) (ntr : Nat) (nb : Nat) (mbestCost : Int32) (nso : Nat) (nsi : Nat) (nit : Nat) (nsh : Nat) (nsf : Nat) (nss : Nat) (nrc : Nat) (jr : Nat) (jd : Nat) (mnumber : Int32) (mwhose : Int32) (msize : Int32) (misParted : Int32) (fnrc : Nat → Int32) (hjr : jr ≤ 30) (hjd : jd < 7) : K_m_from22 l G h0 xx nw nk mhasKept nt mtaped nr mrowMany mroundOf mroundFrom mouts nm mfromHour mtoHour ns mfrom mto msort misFault mdeep mcoded mlines nl nc nF np ntr nb mbestCost nso nsi nit nsh nsf nss nrc jr jd mnumber mwhose msize misParted fnrc := by
  refine MI.start (by decide +kernel) (Nat.le_of_ble_eq_true rfl) ?_
  intro p e s m below meth c A ls hC hK hP hD hS hA hl
  refine absQ (fun Q0 hQ0 => ?_)
  have hl : lv_has ls 5 [(0, .ref h0), (1, .int 2), (2, .int 2), (3, .int xx)] := hl
  refine Kan8 hC (fun hx hb hr hml hB hown hlocks hnm => ?_)
  refine lv_iload_n hx hb gX12_bodyFrom_0.1 rfl (lv_at1 hl) ?_
  refine lv_istore (lv' := [(4, .int 2), (0, .ref h0), (1, .int 2), (2, .int 2), (3, .int xx)]) hx hb gX12_bodyFrom_0.2.1 hl (by decide) rfl (fun ls hl => ?_)
  refine lv_iload hx hb gX12_bodyFrom_0.2.2.1 (lv_at0 hl) ?_
  refine lv_iload_n hx hb gX12_bodyFrom_0.2.2.2.1 rfl (lv_at3 hl) ?_
  refine pS hC hK hl (m_hasOwn22 l G) si_X12_360 rfl rfl (Nat.le_of_ble_eq_true rfl) rm_30_1_2 ⟨by first | exact Nat.le_of_ble_eq_true rfl | exact Nat.zero_le _, by first | exact Nat.le_of_ble_eq_true rfl | exact Nat.zero_le _⟩ gX12_bodyFrom_0.2.2.2.2.1 (Keqr ?_)
  refine lv_if_ne (tgt := 22) hx hb gX12_bodyFrom_0.2.2.2.2.2.1 (by decide) (fun _ => ?_) (fun c9 => absurd c9 (by decide))
  refine lv_aload_n hx hb gX12_bodyFrom_1.1 rfl (lv_at1 hl) ?_
  refine lv_iload hx hb gX12_bodyFrom_1.2.1 (lv_at0 hl) ?_
  refine lv_iload_n hx hb gX12_bodyFrom_1.2.2.1 rfl (lv_at3 hl) ?_
  refine lv_iload_n hx hb gX12_bodyFrom_1.2.2.2.1 rfl (lv_at4 hl) ?_
  refine iV (wr := []) hC hK hl hP hD hS hA (m_body22 l G h0 xx nw nk mhasKept nt mtaped nr mrowMany mroundOf mroundFrom mouts nm mfromHour mtoHour ns mfrom mto msort misFault mdeep mcoded mlines nl nc nF np ntr nb mbestCost nso nsi nit nsh nsf nss nrc jr jd mnumber mwhose msize misParted fnrc (hjr) (hjd)) si_X12_363 [0, 1] [] sm_0_1 fm_0_1 nd_0_1 rfl rfl (by decide) rfl rfl rfl rfl rfl (Nat.le_of_ble_eq_true rfl) rm_30_29_6 ⟨Nat.le_of_ble_eq_true rfl, Nat.le_of_ble_eq_true rfl⟩ gX12_bodyFrom_1.2.2.2.2.1 (fun r6311 => Ktu3 fun jr16313 ip16314 gtrc6315 => ?_)
  intro H locs hr6311 hP hD hS
  try dsimp only at hr6311
  refine Kpdr (ws := [(h0, oX12 nw nk mhasKept nt mtaped nr mrowMany mroundOf mroundFrom mouts nm mfromHour mtoHour ns mfrom mto msort misFault mdeep mcoded mlines nl nc nF np ntr nb mbestCost nso nsi nit nsh nsf nss nrc (nI jr16313) (nI jd) mnumber mwhose msize ip16314), (nrc, iA G 30 gtrc6315)]) hP hD (fun hP hD => ?_)
  obtain ⟨hr6311, w6316⟩ := hr6311
  refine toQ hQ0 ?_
  exact RI (v := r6311) hC hP hD hS [0, 1] (jr16313, ip16314, gtrc6315) rfl rfl (by decide) (⟨trivial, by omega⟩) rfl gX12_bodyFrom_1.2.2.2.2.2
def K_m_body42 (l : Launch) (G : GG) (h0 : Nat) (xx : Int32) (nw : Nat) (nk : Nat) (mhasKept : Int32) (nt : Nat) (mtaped : Int32) (nr : Nat) (mrowMany : Int32) (mroundOf : Int32) (mroundFrom : Int32) (mouts : Int32) (nm : Nat) (mfromHour : Int32) (mtoHour : Int32) (ns : Nat) (mfrom : Int32) (mto : Int32) (msort : Int32) (misFault : Int32) (mdeep : Int32) (mcoded : Int32) (mlines : Int32) (nl : Nat) (nc : Nat) (nF : Nat) (np : Nat) (ntr : Nat) (nb : Nat) (mbestCost : Int32) (nso : Nat) (nsi : Nat) (nit : Nat) (nsh : Nat) (nsf : Nat) (nss : Nat) (nrc : Nat) (jr : Nat) (jd : Nat) (mnumber : Int32) (mwhose : Int32) (msize : Int32) (misParted : Int32) (fnrc : Nat → Int32) : Prop := MI l G yX12_body cX12_body 6 (some .int) 31 0 0 [.ref h0, .int 4, .int 2, .int xx] [(h0, oX12 nw nk mhasKept nt mtaped nr mrowMany mroundOf mroundFrom mouts nm mfromHour mtoHour ns mfrom mto msort misFault mdeep mcoded mlines nl nc nF np ntr nb mbestCost nso nsi nit nsh nsf nss nrc (nI jr) (nI jd) mnumber mwhose msize misParted), (nrc, iA G 30 fnrc)] (fun (r : Int32) (u : Nat × Int32 × (Nat → Int32)) => (True) ∧ (u.1 ≤ 30)) (fun u : Nat × Int32 × (Nat → Int32) => [(h0, oX12 nw nk mhasKept nt mtaped nr mrowMany mroundOf mroundFrom mouts nm mfromHour mtoHour ns mfrom mto msort misFault mdeep mcoded mlines nl nc nF np ntr nb mbestCost nso nsi nit nsh nsf nss nrc (nI u.1) (nI jd) mnumber mwhose msize u.2.1), (nrc, iA G 30 u.2.2)])
set_option maxHeartbeats 4000000 in
set_option maxRecDepth 100000 in
theorem m_body42 (l : Launch) (G : GG) (h0 : Nat) (xx : Int32) (nw : Nat) (nk : Nat) (mhasKept : Int32) (nt : Nat) (mtaped : Int32) (nr : Nat) (mrowMany : Int32) (mroundOf : Int32) (mroundFrom : Int32) (mouts : Int32) (nm : Nat) (mfromHour : Int32) (mtoHour : Int32) (ns : Nat) (mfrom : Int32) (mto : Int32) (msort : Int32) (misFault : Int32) (mdeep : Int32) (mcoded : Int32) (mlines : Int32) (nl : Nat) (nc : Nat) (nF : Nat) (np : Nat) (ntr : Nat) (nb : Nat) (mbestCost : Int32) (nso : Nat) (nsi : Nat) (nit : Nat) (nsh : Nat) (nsf : Nat) (nss : Nat) (nrc : Nat) (jr : Nat) (jd : Nat) (mnumber : Int32) (mwhose : Int32) (msize : Int32) (misParted : Int32) (fnrc : Nat → Int32) (hjr : jr ≤ 30) (hjd : jd < 7) : K_m_body42 l G h0 xx nw nk mhasKept nt mtaped nr mrowMany mroundOf mroundFrom mouts nm mfromHour mtoHour ns mfrom mto msort misFault mdeep mcoded mlines nl nc nF np ntr nb mbestCost nso nsi nit nsh nsf nss nrc jr jd mnumber mwhose msize misParted fnrc := by
  refine MI.start (by decide +kernel) (Nat.le_of_ble_eq_true rfl) ?_
  intro p e s m below meth c A ls hC hK hP hD hS hA hl
  refine absQ (fun Q0 hQ0 => ?_)
  have hl : lv_has ls 6 [(0, .ref h0), (1, .int 4), (2, .int 2), (3, .int xx)] := hl
  refine Kan8 hC (fun hx hb hr hml hB hown hlocks hnm => ?_)
  refine lv_iconst (v := 4) hx hb gX12_body_0.1 (by decide) ?_
  refine lv_iload_n hx hb gX12_body_0.2.1 rfl (lv_at1 hl) ?_
  refine lv_imul hx hb gX12_body_0.2.2.1 ?_
  refine eqi (x1 := 16) (by decide) ?_
  refine lv_iload_n hx hb gX12_body_0.2.2.2.1 rfl (lv_at2 hl) ?_
  refine lv_iadd hx hb gX12_body_0.2.2.2.2.1 ?_
  refine eqi (x1 := 18) (by decide) ?_
  refine lv_tableIn (tgt := 293) hx hb gX12_body_0.2.2.2.2.2.1 (by decide) (by decide) rfl (by decide) ?_
  refine lv_aload_n hx hb gX12_body_11.2.2.2.2.2.2.2.2.1 rfl (lv_at0 hl) ?_
  refine lv_bipush (v := 51) hx hb gX12_body_11.2.2.2.2.2.2.2.2.2 (by decide) ?_
  refine vV (wr := []) hC hK hl hP hD hS hA (m_began l G h0 51 nw nk mhasKept nt mtaped nr mrowMany mroundOf mroundFrom mouts nm mfromHour mtoHour ns mfrom mto msort misFault mdeep mcoded mlines nl nc nF np ntr nb mbestCost nso nsi nit nsh nsf nss nrc jr (nI jd) mnumber mwhose msize misParted fnrc (hjr)) si_X12_366 [0, 1] [] sm_0_1 fm_0_1 nd_0_1 rfl rfl (by decide) rfl rfl rfl rfl rfl (Nat.le_of_ble_eq_true rfl) rm_31_1_2 ⟨Nat.le_of_ble_eq_true rfl, Nat.le_of_ble_eq_true rfl⟩ gX12_body_12.1 (Ktu2 fun jr16319 gtrc6320 => ?_)
  intro H locs hr6317 hP hD hS
  try dsimp only at hr6317
  refine Kpdr (ws := [(h0, oX12 nw nk mhasKept nt mtaped nr mrowMany mroundOf mroundFrom mouts nm mfromHour mtoHour ns mfrom mto msort misFault mdeep mcoded mlines nl nc nF np ntr nb mbestCost nso nsi nit nsh nsf nss nrc (nI jr16319) (nI jd) mnumber mwhose msize misParted), (nrc, iA G 30 gtrc6320)]) hP hD (fun hP hD => ?_)
  have w6321 := hr6317
  refine lv_aload_n hx hb gX12_body_12.2.1 rfl (lv_at0 hl) ?_
  refine lv_iconst (v := 0) hx hb gX12_body_12.2.2.1 (by decide) ?_
  refine lv_iconst (v := 2) hx hb gX12_body_12.2.2.2.1 (by decide) ?_
  refine lv_iload_n hx hb gX12_body_12.2.2.2.2.1 rfl (lv_at3 hl) ?_
  refine iV (wr := []) hC hK hl hP hD hS hA (m_from02 l G h0 xx nw nk mhasKept nt mtaped nr mrowMany mroundOf mroundFrom mouts nm mfromHour mtoHour ns mfrom mto msort misFault mdeep mcoded mlines nl nc nF np ntr nb mbestCost nso nsi nit nsh nsf nss nrc jr16319 jd mnumber mwhose msize misParted gtrc6320 (w6321) (hjd)) si_X12_357 [0, 1] [] sm_0_1 fm_0_1 nd_0_1 rfl rfl (by decide) rfl rfl rfl rfl rfl (Nat.le_of_ble_eq_true rfl) rm_31_28_5 ⟨Nat.le_of_ble_eq_true rfl, Nat.le_of_ble_eq_true rfl⟩ gX12_body_12.2.2.2.2.2.1 (fun r6322 => Ktu3 fun jr16324 ip16325 gtrc6326 => ?_)
  intro H locs hr6322 hP hD hS
  try dsimp only at hr6322
  refine Kpdr (ws := [(h0, oX12 nw nk mhasKept nt mtaped nr mrowMany mroundOf mroundFrom mouts nm mfromHour mtoHour ns mfrom mto msort misFault mdeep mcoded mlines nl nc nF np ntr nb mbestCost nso nsi nit nsh nsf nss nrc (nI jr16324) (nI jd) mnumber mwhose msize ip16325), (nrc, iA G 30 gtrc6326)]) hP hD (fun hP hD => ?_)
  obtain ⟨hr6322, w6327⟩ := hr6322
  refine lv_istore (lv' := [(4, .int r6322), (0, .ref h0), (1, .int 4), (2, .int 2), (3, .int xx)]) hx hb gX12_body_12.2.2.2.2.2.2.1 hl (by decide) rfl (fun ls hl => ?_)
  refine lv_iload hx hb gX12_body_12.2.2.2.2.2.2.2.1 (lv_at0 hl) ?_
  refine lv_aload_n hx hb gX12_body_12.2.2.2.2.2.2.2.2.1 rfl (lv_at1 hl) ?_
  refine lv_iconst (v := 1) hx hb gX12_body_12.2.2.2.2.2.2.2.2.2 (by decide) ?_
  refine lv_iconst (v := 1) hx hb gX12_body_13.1 (by decide) ?_
  refine iV (wr := []) hC hK hl hP hD hS hA (m_dealt1 l G h0 1 nw nk mhasKept nt mtaped nr mrowMany mroundOf mroundFrom mouts nm mfromHour mtoHour ns mfrom mto msort misFault mdeep mcoded mlines nl nc nF np ntr nb mbestCost nso nsi nit nsh nsf nss nrc jr16324 jd mnumber mwhose msize ip16325 gtrc6326 (w6327) (hjd)) si_X12_372 [0, 1] [] sm_0_1 fm_0_1 nd_0_1 rfl rfl (by decide) rfl rfl rfl rfl rfl (Nat.le_of_ble_eq_true rfl) rm_31_26_3 ⟨Nat.le_of_ble_eq_true rfl, Nat.le_of_ble_eq_true rfl⟩ gX12_body_13.2.1 (fun r6328 => Ktu3 fun jr16330 ip16331 gtrc6332 => ?_)
  intro H locs hr6328 hP hD hS
  try dsimp only at hr6328
  refine Kpdr (ws := [(h0, oX12 nw nk mhasKept nt mtaped nr mrowMany mroundOf mroundFrom mouts nm mfromHour mtoHour ns mfrom mto msort misFault mdeep mcoded mlines nl nc nF np ntr nb mbestCost nso nsi nit nsh nsf nss nrc (nI jr16330) (nI jd) mnumber mwhose msize ip16331), (nrc, iA G 30 gtrc6332)]) hP hD (fun hP hD => ?_)
  obtain ⟨hr6328, w6333⟩ := hr6328
  refine lv_iadd hx hb gX12_body_13.2.2.1 ?_
  refine toQ hQ0 ?_
  exact RI (v := r6322 + r6328) hC hP hD hS [0, 1] (jr16330, ip16331, gtrc6332) rfl rfl (by decide) (⟨trivial, by omega⟩) rfl gX12_body_13.2.2.2.1
def K_m_from42 (l : Launch) (G : GG) (h0 : Nat) (xx : Int32) (nw : Nat) (nk : Nat) (mhasKept : Int32) (nt : Nat) (mtaped : Int32) (nr : Nat) (mrowMany : Int32) (mroundOf : Int32) (mroundFrom : Int32) (mouts : Int32) (nm : Nat) (mfromHour : Int32) (mtoHour : Int32) (ns : Nat) (mfrom : Int32) (mto : Int32) (msort : Int32) (misFault : Int32) (mdeep : Int32) (mcoded : Int32) (mlines : Int32) (nl : Nat) (nc : Nat) (nF : Nat) (np : Nat) (ntr : Nat) (nb : Nat) (mbestCost : Int32) (nso : Nat) (nsi : Nat) (nit : Nat) (nsh : Nat) (nsf : Nat) (nss : Nat) (nrc : Nat) (jr : Nat) (jd : Nat) (mnumber : Int32) (mwhose : Int32) (msize : Int32) (misParted : Int32) (fnrc : Nat → Int32) : Prop := MI l G yX12_bodyFrom cX12_bodyFrom 5 (some .int) 32 0 0 [.ref h0, .int 4, .int 2, .int xx] [(h0, oX12 nw nk mhasKept nt mtaped nr mrowMany mroundOf mroundFrom mouts nm mfromHour mtoHour ns mfrom mto msort misFault mdeep mcoded mlines nl nc nF np ntr nb mbestCost nso nsi nit nsh nsf nss nrc (nI jr) (nI jd) mnumber mwhose msize misParted), (nrc, iA G 30 fnrc)] (fun (r : Int32) (u : Nat × Int32 × (Nat → Int32)) => (True) ∧ (u.1 ≤ 30)) (fun u : Nat × Int32 × (Nat → Int32) => [(h0, oX12 nw nk mhasKept nt mtaped nr mrowMany mroundOf mroundFrom mouts nm mfromHour mtoHour ns mfrom mto msort misFault mdeep mcoded mlines nl nc nF np ntr nb mbestCost nso nsi nit nsh nsf nss nrc (nI u.1) (nI jd) mnumber mwhose msize u.2.1), (nrc, iA G 30 u.2.2)])
set_option maxHeartbeats 4000000 in
set_option maxRecDepth 100000 in
theorem m_from42 (l : Launch) (G : GG) (h0 : Nat) (xx : Int32) (nw : Nat) (nk : Nat) (mhasKept : Int32) (nt : Nat) (mtaped : Int32) (nr : Nat) (mrowMany : Int32) (mroundOf : Int32) (mroundFrom : Int32) (mouts : Int32) (nm : Nat) (mfromHour : Int32) (mtoHour : Int32) (ns : Nat) (mfrom : Int32) (mto : Int32) (msort : Int32) (misFault : Int32) (mdeep : Int32) (mcoded : Int32) (mlines : Int32) (nl : Nat) (nc : Nat) (nF : Nat) (np : Nat) (ntr : Nat) (nb : Nat) (mbestCost : Int32) (nso : Nat) (nsi : Nat) (nit : Nat) (nsh : Nat) (nsf : Nat) (nss : Nat) (nrc : Nat) (jr : Nat) (jd : Nat) (mnumber : Int32) (mwhose : Int32) (msize : Int32) (misParted : Int32) (fnrc : Nat → Int32) (hjr : jr ≤ 30) (hjd : jd < 7) : K_m_from42 l G h0 xx nw nk mhasKept nt mtaped nr mrowMany mroundOf mroundFrom mouts nm mfromHour mtoHour ns mfrom mto msort misFault mdeep mcoded mlines nl nc nF np ntr nb mbestCost nso nsi nit nsh nsf nss nrc jr jd mnumber mwhose msize misParted fnrc := by
  refine MI.start (by decide +kernel) (Nat.le_of_ble_eq_true rfl) ?_
  intro p e s m below meth c A ls hC hK hP hD hS hA hl
  refine absQ (fun Q0 hQ0 => ?_)
  have hl : lv_has ls 5 [(0, .ref h0), (1, .int 4), (2, .int 2), (3, .int xx)] := hl
  refine Kan8 hC (fun hx hb hr hml hB hown hlocks hnm => ?_)
  refine lv_iload_n hx hb gX12_bodyFrom_0.1 rfl (lv_at1 hl) ?_
  refine lv_istore (lv' := [(4, .int 4), (0, .ref h0), (1, .int 4), (2, .int 2), (3, .int xx)]) hx hb gX12_bodyFrom_0.2.1 hl (by decide) rfl (fun ls hl => ?_)
  refine lv_iload hx hb gX12_bodyFrom_0.2.2.1 (lv_at0 hl) ?_
  refine lv_iload_n hx hb gX12_bodyFrom_0.2.2.2.1 rfl (lv_at3 hl) ?_
  refine pS hC hK hl (m_hasOwn42 l G) si_X12_360 rfl rfl (Nat.le_of_ble_eq_true rfl) rm_32_1_2 ⟨by first | exact Nat.le_of_ble_eq_true rfl | exact Nat.zero_le _, by first | exact Nat.le_of_ble_eq_true rfl | exact Nat.zero_le _⟩ gX12_bodyFrom_0.2.2.2.2.1 (Keqr ?_)
  refine lv_if_ne (tgt := 22) hx hb gX12_bodyFrom_0.2.2.2.2.2.1 (by decide) (fun _ => ?_) (fun c9 => absurd c9 (by decide))
  refine lv_aload_n hx hb gX12_bodyFrom_1.1 rfl (lv_at1 hl) ?_
  refine lv_iload hx hb gX12_bodyFrom_1.2.1 (lv_at0 hl) ?_
  refine lv_iload_n hx hb gX12_bodyFrom_1.2.2.1 rfl (lv_at3 hl) ?_
  refine lv_iload_n hx hb gX12_bodyFrom_1.2.2.2.1 rfl (lv_at4 hl) ?_
  refine iV (wr := []) hC hK hl hP hD hS hA (m_body42 l G h0 xx nw nk mhasKept nt mtaped nr mrowMany mroundOf mroundFrom mouts nm mfromHour mtoHour ns mfrom mto msort misFault mdeep mcoded mlines nl nc nF np ntr nb mbestCost nso nsi nit nsh nsf nss nrc jr jd mnumber mwhose msize misParted fnrc (hjr) (hjd)) si_X12_363 [0, 1] [] sm_0_1 fm_0_1 nd_0_1 rfl rfl (by decide) rfl rfl rfl rfl rfl (Nat.le_of_ble_eq_true rfl) rm_32_31_6 ⟨Nat.le_of_ble_eq_true rfl, Nat.le_of_ble_eq_true rfl⟩ gX12_bodyFrom_1.2.2.2.2.1 (fun r6336 => Ktu3 fun jr16338 ip16339 gtrc6340 => ?_)
  intro H locs hr6336 hP hD hS
  try dsimp only at hr6336
  refine Kpdr (ws := [(h0, oX12 nw nk mhasKept nt mtaped nr mrowMany mroundOf mroundFrom mouts nm mfromHour mtoHour ns mfrom mto msort misFault mdeep mcoded mlines nl nc nF np ntr nb mbestCost nso nsi nit nsh nsf nss nrc (nI jr16338) (nI jd) mnumber mwhose msize ip16339), (nrc, iA G 30 gtrc6340)]) hP hD (fun hP hD => ?_)
  obtain ⟨hr6336, w6341⟩ := hr6336
  refine toQ hQ0 ?_
  exact RI (v := r6336) hC hP hD hS [0, 1] (jr16338, ip16339, gtrc6340) rfl rfl (by decide) (⟨trivial, by omega⟩) rfl gX12_bodyFrom_1.2.2.2.2.2
def K_m_body52 (l : Launch) (G : GG) (h0 : Nat) (xx : Int32) (nw : Nat) (nk : Nat) (mhasKept : Int32) (nt : Nat) (mtaped : Int32) (nr : Nat) (mrowMany : Int32) (mroundOf : Int32) (mroundFrom : Int32) (mouts : Int32) (nm : Nat) (mfromHour : Int32) (mtoHour : Int32) (ns : Nat) (mfrom : Int32) (mto : Int32) (msort : Int32) (misFault : Int32) (mdeep : Int32) (mcoded : Int32) (mlines : Int32) (nl : Nat) (nc : Nat) (nF : Nat) (np : Nat) (ntr : Nat) (nb : Nat) (mbestCost : Int32) (nso : Nat) (nsi : Nat) (nit : Nat) (nsh : Nat) (nsf : Nat) (nss : Nat) (nrc : Nat) (jr : Nat) (jd : Nat) (mnumber : Int32) (mwhose : Int32) (msize : Int32) (misParted : Int32) (fnrc : Nat → Int32) : Prop := MI l G yX12_body cX12_body 6 (some .int) 33 0 0 [.ref h0, .int 5, .int 2, .int xx] [(h0, oX12 nw nk mhasKept nt mtaped nr mrowMany mroundOf mroundFrom mouts nm mfromHour mtoHour ns mfrom mto msort misFault mdeep mcoded mlines nl nc nF np ntr nb mbestCost nso nsi nit nsh nsf nss nrc (nI jr) (nI jd) mnumber mwhose msize misParted), (nrc, iA G 30 fnrc)] (fun (r : Int32) (u : Nat × Int32 × (Nat → Int32)) => (True) ∧ (u.1 ≤ 30)) (fun u : Nat × Int32 × (Nat → Int32) => [(h0, oX12 nw nk mhasKept nt mtaped nr mrowMany mroundOf mroundFrom mouts nm mfromHour mtoHour ns mfrom mto msort misFault mdeep mcoded mlines nl nc nF np ntr nb mbestCost nso nsi nit nsh nsf nss nrc (nI u.1) (nI jd) mnumber mwhose msize u.2.1), (nrc, iA G 30 u.2.2)])
set_option maxHeartbeats 4000000 in
set_option maxRecDepth 100000 in
theorem m_body52 (l : Launch) (G : GG) (h0 : Nat) (xx : Int32) (nw : Nat) (nk : Nat) (mhasKept : Int32) (nt : Nat) (mtaped : Int32) (nr : Nat) (mrowMany : Int32) (mroundOf : Int32) (mroundFrom : Int32) (mouts : Int32) (nm : Nat) (mfromHour : Int32) (mtoHour : Int32) (ns : Nat) (mfrom : Int32) (mto : Int32) (msort : Int32) (misFault : Int32) (mdeep : Int32) (mcoded : Int32) (mlines : Int32) (nl : Nat) (nc : Nat) (nF : Nat) (np : Nat) (ntr : Nat) (nb : Nat) (mbestCost : Int32) (nso : Nat) (nsi : Nat) (nit : Nat) (nsh : Nat) (nsf : Nat) (nss : Nat) (nrc : Nat) (jr : Nat) (jd : Nat) (mnumber : Int32) (mwhose : Int32) (msize : Int32) (misParted : Int32) (fnrc : Nat → Int32) (hjr : jr ≤ 30) (hjd : jd < 7) : K_m_body52 l G h0 xx nw nk mhasKept nt mtaped nr mrowMany mroundOf mroundFrom mouts nm mfromHour mtoHour ns mfrom mto msort misFault mdeep mcoded mlines nl nc nF np ntr nb mbestCost nso nsi nit nsh nsf nss nrc jr jd mnumber mwhose msize misParted fnrc := by
  refine MI.start (by decide +kernel) (Nat.le_of_ble_eq_true rfl) ?_
  intro p e s m below meth c A ls hC hK hP hD hS hA hl
  refine absQ (fun Q0 hQ0 => ?_)
  have hl : lv_has ls 6 [(0, .ref h0), (1, .int 5), (2, .int 2), (3, .int xx)] := hl
  refine Kan8 hC (fun hx hb hr hml hB hown hlocks hnm => ?_)
  refine lv_iconst (v := 4) hx hb gX12_body_0.1 (by decide) ?_
  refine lv_iload_n hx hb gX12_body_0.2.1 rfl (lv_at1 hl) ?_
  refine lv_imul hx hb gX12_body_0.2.2.1 ?_
  refine eqi (x1 := 20) (by decide) ?_
  refine lv_iload_n hx hb gX12_body_0.2.2.2.1 rfl (lv_at2 hl) ?_
  refine lv_iadd hx hb gX12_body_0.2.2.2.2.1 ?_
  refine eqi (x1 := 22) (by decide) ?_
  refine lv_tableIn (tgt := 318) hx hb gX12_body_0.2.2.2.2.2.1 (by decide) (by decide) rfl (by decide) ?_
  refine lv_aload_n hx hb gX12_body_13.2.2.2.2.1 rfl (lv_at0 hl) ?_
  refine lv_bipush (v := 60) hx hb gX12_body_13.2.2.2.2.2.1 (by decide) ?_
  refine vV (wr := []) hC hK hl hP hD hS hA (m_began l G h0 60 nw nk mhasKept nt mtaped nr mrowMany mroundOf mroundFrom mouts nm mfromHour mtoHour ns mfrom mto msort misFault mdeep mcoded mlines nl nc nF np ntr nb mbestCost nso nsi nit nsh nsf nss nrc jr (nI jd) mnumber mwhose msize misParted fnrc (hjr)) si_X12_366 [0, 1] [] sm_0_1 fm_0_1 nd_0_1 rfl rfl (by decide) rfl rfl rfl rfl rfl (Nat.le_of_ble_eq_true rfl) rm_33_1_2 ⟨Nat.le_of_ble_eq_true rfl, Nat.le_of_ble_eq_true rfl⟩ gX12_body_13.2.2.2.2.2.2.1 (Ktu2 fun jr16344 gtrc6345 => ?_)
  intro H locs hr6342 hP hD hS
  try dsimp only at hr6342
  refine Kpdr (ws := [(h0, oX12 nw nk mhasKept nt mtaped nr mrowMany mroundOf mroundFrom mouts nm mfromHour mtoHour ns mfrom mto msort misFault mdeep mcoded mlines nl nc nF np ntr nb mbestCost nso nsi nit nsh nsf nss nrc (nI jr16344) (nI jd) mnumber mwhose msize misParted), (nrc, iA G 30 gtrc6345)]) hP hD (fun hP hD => ?_)
  have w6346 := hr6342
  refine lv_aload_n hx hb gX12_body_13.2.2.2.2.2.2.2.1 rfl (lv_at0 hl) ?_
  refine lv_iconst (v := 4) hx hb gX12_body_13.2.2.2.2.2.2.2.2.1 (by decide) ?_
  refine lv_iconst (v := 2) hx hb gX12_body_13.2.2.2.2.2.2.2.2.2 (by decide) ?_
  refine lv_iload_n hx hb gX12_body_14.1 rfl (lv_at3 hl) ?_
  refine iV (wr := []) hC hK hl hP hD hS hA (m_from42 l G h0 xx nw nk mhasKept nt mtaped nr mrowMany mroundOf mroundFrom mouts nm mfromHour mtoHour ns mfrom mto msort misFault mdeep mcoded mlines nl nc nF np ntr nb mbestCost nso nsi nit nsh nsf nss nrc jr16344 jd mnumber mwhose msize misParted gtrc6345 (w6346) (hjd)) si_X12_357 [0, 1] [] sm_0_1 fm_0_1 nd_0_1 rfl rfl (by decide) rfl rfl rfl rfl rfl (Nat.le_of_ble_eq_true rfl) rm_33_32_5 ⟨Nat.le_of_ble_eq_true rfl, Nat.le_of_ble_eq_true rfl⟩ gX12_body_14.2.1 (fun r6347 => Ktu3 fun jr16349 ip16350 gtrc6351 => ?_)
  intro H locs hr6347 hP hD hS
  try dsimp only at hr6347
  refine Kpdr (ws := [(h0, oX12 nw nk mhasKept nt mtaped nr mrowMany mroundOf mroundFrom mouts nm mfromHour mtoHour ns mfrom mto msort misFault mdeep mcoded mlines nl nc nF np ntr nb mbestCost nso nsi nit nsh nsf nss nrc (nI jr16349) (nI jd) mnumber mwhose msize ip16350), (nrc, iA G 30 gtrc6351)]) hP hD (fun hP hD => ?_)
  obtain ⟨hr6347, w6352⟩ := hr6347
  refine lv_iconst (v := 2) hx hb gX12_body_14.2.2.1 (by decide) ?_
  refine lv_imul hx hb gX12_body_14.2.2.2.1 ?_
  refine toQ hQ0 ?_
  exact RI (v := r6347 * 2) hC hP hD hS [0, 1] (jr16349, ip16350, gtrc6351) rfl rfl (by decide) (⟨trivial, by omega⟩) rfl gX12_body_14.2.2.2.2.1
def K_m_from52 (l : Launch) (G : GG) (h0 : Nat) (xx : Int32) (nw : Nat) (nk : Nat) (mhasKept : Int32) (nt : Nat) (mtaped : Int32) (nr : Nat) (mrowMany : Int32) (mroundOf : Int32) (mroundFrom : Int32) (mouts : Int32) (nm : Nat) (mfromHour : Int32) (mtoHour : Int32) (ns : Nat) (mfrom : Int32) (mto : Int32) (msort : Int32) (misFault : Int32) (mdeep : Int32) (mcoded : Int32) (mlines : Int32) (nl : Nat) (nc : Nat) (nF : Nat) (np : Nat) (ntr : Nat) (nb : Nat) (mbestCost : Int32) (nso : Nat) (nsi : Nat) (nit : Nat) (nsh : Nat) (nsf : Nat) (nss : Nat) (nrc : Nat) (jr : Nat) (jd : Nat) (mnumber : Int32) (mwhose : Int32) (msize : Int32) (misParted : Int32) (fnrc : Nat → Int32) : Prop := MI l G yX12_bodyFrom cX12_bodyFrom 5 (some .int) 34 0 0 [.ref h0, .int 5, .int 2, .int xx] [(h0, oX12 nw nk mhasKept nt mtaped nr mrowMany mroundOf mroundFrom mouts nm mfromHour mtoHour ns mfrom mto msort misFault mdeep mcoded mlines nl nc nF np ntr nb mbestCost nso nsi nit nsh nsf nss nrc (nI jr) (nI jd) mnumber mwhose msize misParted), (nrc, iA G 30 fnrc)] (fun (r : Int32) (u : Nat × Int32 × (Nat → Int32)) => (True) ∧ (u.1 ≤ 30)) (fun u : Nat × Int32 × (Nat → Int32) => [(h0, oX12 nw nk mhasKept nt mtaped nr mrowMany mroundOf mroundFrom mouts nm mfromHour mtoHour ns mfrom mto msort misFault mdeep mcoded mlines nl nc nF np ntr nb mbestCost nso nsi nit nsh nsf nss nrc (nI u.1) (nI jd) mnumber mwhose msize u.2.1), (nrc, iA G 30 u.2.2)])
set_option maxHeartbeats 4000000 in
set_option maxRecDepth 100000 in
theorem m_from52 (l : Launch) (G : GG) (h0 : Nat) (xx : Int32) (nw : Nat) (nk : Nat) (mhasKept : Int32) (nt : Nat) (mtaped : Int32) (nr : Nat) (mrowMany : Int32) (mroundOf : Int32) (mroundFrom : Int32) (mouts : Int32) (nm : Nat) (mfromHour : Int32) (mtoHour : Int32) (ns : Nat) (mfrom : Int32) (mto : Int32) (msort : Int32) (misFault : Int32) (mdeep : Int32) (mcoded : Int32) (mlines : Int32) (nl : Nat) (nc : Nat) (nF : Nat) (np : Nat) (ntr : Nat) (nb : Nat) (mbestCost : Int32) (nso : Nat) (nsi : Nat) (nit : Nat) (nsh : Nat) (nsf : Nat) (nss : Nat) (nrc : Nat) (jr : Nat) (jd : Nat) (mnumber : Int32) (mwhose : Int32) (msize : Int32) (misParted : Int32) (fnrc : Nat → Int32) (hjr : jr ≤ 30) (hjd : jd < 7) : K_m_from52 l G h0 xx nw nk mhasKept nt mtaped nr mrowMany mroundOf mroundFrom mouts nm mfromHour mtoHour ns mfrom mto msort misFault mdeep mcoded mlines nl nc nF np ntr nb mbestCost nso nsi nit nsh nsf nss nrc jr jd mnumber mwhose msize misParted fnrc := by
  refine MI.start (by decide +kernel) (Nat.le_of_ble_eq_true rfl) ?_
  intro p e s m below meth c A ls hC hK hP hD hS hA hl
  refine absQ (fun Q0 hQ0 => ?_)
  have hl : lv_has ls 5 [(0, .ref h0), (1, .int 5), (2, .int 2), (3, .int xx)] := hl
  refine Kan8 hC (fun hx hb hr hml hB hown hlocks hnm => ?_)
  refine lv_iload_n hx hb gX12_bodyFrom_0.1 rfl (lv_at1 hl) ?_
  refine lv_istore (lv' := [(4, .int 5), (0, .ref h0), (1, .int 5), (2, .int 2), (3, .int xx)]) hx hb gX12_bodyFrom_0.2.1 hl (by decide) rfl (fun ls hl => ?_)
  refine lv_iload hx hb gX12_bodyFrom_0.2.2.1 (lv_at0 hl) ?_
  refine lv_iload_n hx hb gX12_bodyFrom_0.2.2.2.1 rfl (lv_at3 hl) ?_
  refine pS hC hK hl (m_hasOwn52 l G) si_X12_360 rfl rfl (Nat.le_of_ble_eq_true rfl) rm_34_1_2 ⟨by first | exact Nat.le_of_ble_eq_true rfl | exact Nat.zero_le _, by first | exact Nat.le_of_ble_eq_true rfl | exact Nat.zero_le _⟩ gX12_bodyFrom_0.2.2.2.2.1 (Keqr ?_)
  refine lv_if_ne (tgt := 22) hx hb gX12_bodyFrom_0.2.2.2.2.2.1 (by decide) (fun _ => ?_) (fun c9 => absurd c9 (by decide))
  refine lv_aload_n hx hb gX12_bodyFrom_1.1 rfl (lv_at1 hl) ?_
  refine lv_iload hx hb gX12_bodyFrom_1.2.1 (lv_at0 hl) ?_
  refine lv_iload_n hx hb gX12_bodyFrom_1.2.2.1 rfl (lv_at3 hl) ?_
  refine lv_iload_n hx hb gX12_bodyFrom_1.2.2.2.1 rfl (lv_at4 hl) ?_
  refine iV (wr := []) hC hK hl hP hD hS hA (m_body52 l G h0 xx nw nk mhasKept nt mtaped nr mrowMany mroundOf mroundFrom mouts nm mfromHour mtoHour ns mfrom mto msort misFault mdeep mcoded mlines nl nc nF np ntr nb mbestCost nso nsi nit nsh nsf nss nrc jr jd mnumber mwhose msize misParted fnrc (hjr) (hjd)) si_X12_363 [0, 1] [] sm_0_1 fm_0_1 nd_0_1 rfl rfl (by decide) rfl rfl rfl rfl rfl (Nat.le_of_ble_eq_true rfl) rm_34_33_6 ⟨Nat.le_of_ble_eq_true rfl, Nat.le_of_ble_eq_true rfl⟩ gX12_bodyFrom_1.2.2.2.2.1 (fun r6355 => Ktu3 fun jr16357 ip16358 gtrc6359 => ?_)
  intro H locs hr6355 hP hD hS
  try dsimp only at hr6355
  refine Kpdr (ws := [(h0, oX12 nw nk mhasKept nt mtaped nr mrowMany mroundOf mroundFrom mouts nm mfromHour mtoHour ns mfrom mto msort misFault mdeep mcoded mlines nl nc nF np ntr nb mbestCost nso nsi nit nsh nsf nss nrc (nI jr16357) (nI jd) mnumber mwhose msize ip16358), (nrc, iA G 30 gtrc6359)]) hP hD (fun hP hD => ?_)
  obtain ⟨hr6355, w6360⟩ := hr6355
  refine toQ hQ0 ?_
  exact RI (v := r6355) hC hP hD hS [0, 1] (jr16357, ip16358, gtrc6359) rfl rfl (by decide) (⟨trivial, by omega⟩) rfl gX12_bodyFrom_1.2.2.2.2.2
def K_m_from12 (l : Launch) (G : GG) (h0 : Nat) (xx : Int32) (nw : Nat) (nk : Nat) (mhasKept : Int32) (nt : Nat) (mtaped : Int32) (nr : Nat) (mrowMany : Int32) (mroundOf : Int32) (mroundFrom : Int32) (mouts : Int32) (nm : Nat) (mfromHour : Int32) (mtoHour : Int32) (ns : Nat) (mfrom : Int32) (mto : Int32) (msort : Int32) (misFault : Int32) (mdeep : Int32) (mcoded : Int32) (mlines : Int32) (nl : Nat) (nc : Nat) (nF : Nat) (np : Nat) (ntr : Nat) (nb : Nat) (mbestCost : Int32) (nso : Nat) (nsi : Nat) (nit : Nat) (nsh : Nat) (nsf : Nat) (nss : Nat) (nrc : Nat) (jr : Nat) (jd : Nat) (mnumber : Int32) (mwhose : Int32) (msize : Int32) (misParted : Int32) (fnrc : Nat → Int32) : Prop := MI l G yX12_bodyFrom cX12_bodyFrom 5 (some .int) 36 0 0 [.ref h0, .int 1, .int 2, .int xx] [(h0, oX12 nw nk mhasKept nt mtaped nr mrowMany mroundOf mroundFrom mouts nm mfromHour mtoHour ns mfrom mto msort misFault mdeep mcoded mlines nl nc nF np ntr nb mbestCost nso nsi nit nsh nsf nss nrc (nI jr) (nI jd) mnumber mwhose msize misParted), (nrc, iA G 30 fnrc)] (fun (r : Int32) (u : Nat × Int32 × (Nat → Int32)) => (True) ∧ (u.1 ≤ 30)) (fun u : Nat × Int32 × (Nat → Int32) => [(h0, oX12 nw nk mhasKept nt mtaped nr mrowMany mroundOf mroundFrom mouts nm mfromHour mtoHour ns mfrom mto msort misFault mdeep mcoded mlines nl nc nF np ntr nb mbestCost nso nsi nit nsh nsf nss nrc (nI u.1) (nI jd) mnumber mwhose msize u.2.1), (nrc, iA G 30 u.2.2)])
set_option maxHeartbeats 4000000 in
set_option maxRecDepth 100000 in
theorem m_from12 (l : Launch) (G : GG) (h0 : Nat) (xx : Int32) (nw : Nat) (nk : Nat) (mhasKept : Int32) (nt : Nat) (mtaped : Int32) (nr : Nat) (mrowMany : Int32) (mroundOf : Int32) (mroundFrom : Int32) (mouts : Int32) (nm : Nat) (mfromHour : Int32) (mtoHour : Int32) (ns : Nat) (mfrom : Int32) (mto : Int32) (msort : Int32) (misFault : Int32) (mdeep : Int32) (mcoded : Int32) (mlines : Int32) (nl : Nat) (nc : Nat) (nF : Nat) (np : Nat) (ntr : Nat) (nb : Nat) (mbestCost : Int32) (nso : Nat) (nsi : Nat) (nit : Nat) (nsh : Nat) (nsf : Nat) (nss : Nat) (nrc : Nat) (jr : Nat) (jd : Nat) (mnumber : Int32) (mwhose : Int32) (msize : Int32) (misParted : Int32) (fnrc : Nat → Int32) (hjr : jr ≤ 30) (hjd : jd < 7) : K_m_from12 l G h0 xx nw nk mhasKept nt mtaped nr mrowMany mroundOf mroundFrom mouts nm mfromHour mtoHour ns mfrom mto msort misFault mdeep mcoded mlines nl nc nF np ntr nb mbestCost nso nsi nit nsh nsf nss nrc jr jd mnumber mwhose msize misParted fnrc := by
  refine MI.start (by decide +kernel) (Nat.le_of_ble_eq_true rfl) ?_
  intro p e s m below meth c A ls hC hK hP hD hS hA hl
  refine absQ (fun Q0 hQ0 => ?_)
  have hl : lv_has ls 5 [(0, .ref h0), (1, .int 1), (2, .int 2), (3, .int xx)] := hl
  refine Kan8 hC (fun hx hb hr hml hB hown hlocks hnm => ?_)
  refine lv_iload_n hx hb gX12_bodyFrom_0.1 rfl (lv_at1 hl) ?_
  refine lv_istore (lv' := [(4, .int 1), (0, .ref h0), (1, .int 1), (2, .int 2), (3, .int xx)]) hx hb gX12_bodyFrom_0.2.1 hl (by decide) rfl (fun ls hl => ?_)
  refine lv_iload hx hb gX12_bodyFrom_0.2.2.1 (lv_at0 hl) ?_
  refine lv_iload_n hx hb gX12_bodyFrom_0.2.2.2.1 rfl (lv_at3 hl) ?_
  refine pS hC hK hl (m_hasOwn12 l G) si_X12_360 rfl rfl (Nat.le_of_ble_eq_true rfl) rm_36_1_2 ⟨by first | exact Nat.le_of_ble_eq_true rfl | exact Nat.zero_le _, by first | exact Nat.le_of_ble_eq_true rfl | exact Nat.zero_le _⟩ gX12_bodyFrom_0.2.2.2.2.1 (Keqr ?_)
  refine lv_if_ne (tgt := 22) hx hb gX12_bodyFrom_0.2.2.2.2.2.1 (by decide) (fun c9 => absurd (by decide) c9) (fun _ => ?_)
  refine lv_iload hx hb gX12_bodyFrom_0.2.2.2.2.2.2.1 (lv_at0 hl) ?_
  refine pS hC hK hl (m_above1 l G) si_X12_348 rfl rfl (Nat.le_of_ble_eq_true rfl) rm_36_1_1 ⟨by first | exact Nat.le_of_ble_eq_true rfl | exact Nat.zero_le _, by first | exact Nat.le_of_ble_eq_true rfl | exact Nat.zero_le _⟩ gX12_bodyFrom_0.2.2.2.2.2.2.2.1 (Keqr ?_)
  refine lv_istore (lv' := [(4, .int 0), (0, .ref h0), (1, .int 1), (2, .int 2), (3, .int xx)]) hx hb gX12_bodyFrom_0.2.2.2.2.2.2.2.2.1 hl (by decide) rfl (fun ls hl => ?_)
  refine lv_goto (tgt := 3) hx hb gX12_bodyFrom_0.2.2.2.2.2.2.2.2.2 (by decide) ?_
  refine lv_iload hx hb gX12_bodyFrom_0.2.2.1 (lv_at0 hl) ?_
  refine lv_iload_n hx hb gX12_bodyFrom_0.2.2.2.1 rfl (lv_at3 hl) ?_
  refine pS hC hK hl (m_hasOwn02 l G) si_X12_360 rfl rfl (Nat.le_of_ble_eq_true rfl) rm_36_1_2 ⟨by first | exact Nat.le_of_ble_eq_true rfl | exact Nat.zero_le _, by first | exact Nat.le_of_ble_eq_true rfl | exact Nat.zero_le _⟩ gX12_bodyFrom_0.2.2.2.2.1 (Keqr ?_)
  refine lv_if_ne (tgt := 22) hx hb gX12_bodyFrom_0.2.2.2.2.2.1 (by decide) (fun _ => ?_) (fun c9 => absurd c9 (by decide))
  refine lv_aload_n hx hb gX12_bodyFrom_1.1 rfl (lv_at1 hl) ?_
  refine lv_iload hx hb gX12_bodyFrom_1.2.1 (lv_at0 hl) ?_
  refine lv_iload_n hx hb gX12_bodyFrom_1.2.2.1 rfl (lv_at3 hl) ?_
  refine lv_iload_n hx hb gX12_bodyFrom_1.2.2.2.1 rfl (lv_at4 hl) ?_
  refine iV (wr := []) hC hK hl hP hD hS hA (m_body02 l G h0 xx nw nk mhasKept nt mtaped nr mrowMany mroundOf mroundFrom mouts nm mfromHour mtoHour ns mfrom mto msort misFault mdeep mcoded mlines nl nc nF np ntr nb mbestCost nso nsi nit nsh nsf nss nrc jr jd mnumber mwhose msize misParted fnrc (hjr) (hjd)) si_X12_363 [0, 1] [] sm_0_1 fm_0_1 nd_0_1 rfl rfl (by decide) rfl rfl rfl rfl rfl (Nat.le_of_ble_eq_true rfl) rm_36_27_6 ⟨Nat.le_of_ble_eq_true rfl, Nat.le_of_ble_eq_true rfl⟩ gX12_bodyFrom_1.2.2.2.2.1 (fun r6367 => Ktu3 fun jr16369 ip16370 gtrc6371 => ?_)
  intro H locs hr6367 hP hD hS
  try dsimp only at hr6367
  refine Kpdr (ws := [(h0, oX12 nw nk mhasKept nt mtaped nr mrowMany mroundOf mroundFrom mouts nm mfromHour mtoHour ns mfrom mto msort misFault mdeep mcoded mlines nl nc nF np ntr nb mbestCost nso nsi nit nsh nsf nss nrc (nI jr16369) (nI jd) mnumber mwhose msize ip16370), (nrc, iA G 30 gtrc6371)]) hP hD (fun hP hD => ?_)
  obtain ⟨hr6367, w6372⟩ := hr6367
  refine toQ hQ0 ?_
  exact RI (v := r6367) hC hP hD hS [0, 1] (jr16369, ip16370, gtrc6371) rfl rfl (by decide) (⟨trivial, by omega⟩) rfl gX12_bodyFrom_1.2.2.2.2.2
def K_m_from32 (l : Launch) (G : GG) (h0 : Nat) (xx : Int32) (nw : Nat) (nk : Nat) (mhasKept : Int32) (nt : Nat) (mtaped : Int32) (nr : Nat) (mrowMany : Int32) (mroundOf : Int32) (mroundFrom : Int32) (mouts : Int32) (nm : Nat) (mfromHour : Int32) (mtoHour : Int32) (ns : Nat) (mfrom : Int32) (mto : Int32) (msort : Int32) (misFault : Int32) (mdeep : Int32) (mcoded : Int32) (mlines : Int32) (nl : Nat) (nc : Nat) (nF : Nat) (np : Nat) (ntr : Nat) (nb : Nat) (mbestCost : Int32) (nso : Nat) (nsi : Nat) (nit : Nat) (nsh : Nat) (nsf : Nat) (nss : Nat) (nrc : Nat) (jr : Nat) (jd : Nat) (mnumber : Int32) (mwhose : Int32) (msize : Int32) (misParted : Int32) (fnrc : Nat → Int32) : Prop := MI l G yX12_bodyFrom cX12_bodyFrom 5 (some .int) 36 0 0 [.ref h0, .int 3, .int 2, .int xx] [(h0, oX12 nw nk mhasKept nt mtaped nr mrowMany mroundOf mroundFrom mouts nm mfromHour mtoHour ns mfrom mto msort misFault mdeep mcoded mlines nl nc nF np ntr nb mbestCost nso nsi nit nsh nsf nss nrc (nI jr) (nI jd) mnumber mwhose msize misParted), (nrc, iA G 30 fnrc)] (fun (r : Int32) (u : Nat × Int32 × (Nat → Int32)) => (True) ∧ (u.1 ≤ 30)) (fun u : Nat × Int32 × (Nat → Int32) => [(h0, oX12 nw nk mhasKept nt mtaped nr mrowMany mroundOf mroundFrom mouts nm mfromHour mtoHour ns mfrom mto msort misFault mdeep mcoded mlines nl nc nF np ntr nb mbestCost nso nsi nit nsh nsf nss nrc (nI u.1) (nI jd) mnumber mwhose msize u.2.1), (nrc, iA G 30 u.2.2)])
set_option maxHeartbeats 4000000 in
set_option maxRecDepth 100000 in
theorem m_from32 (l : Launch) (G : GG) (h0 : Nat) (xx : Int32) (nw : Nat) (nk : Nat) (mhasKept : Int32) (nt : Nat) (mtaped : Int32) (nr : Nat) (mrowMany : Int32) (mroundOf : Int32) (mroundFrom : Int32) (mouts : Int32) (nm : Nat) (mfromHour : Int32) (mtoHour : Int32) (ns : Nat) (mfrom : Int32) (mto : Int32) (msort : Int32) (misFault : Int32) (mdeep : Int32) (mcoded : Int32) (mlines : Int32) (nl : Nat) (nc : Nat) (nF : Nat) (np : Nat) (ntr : Nat) (nb : Nat) (mbestCost : Int32) (nso : Nat) (nsi : Nat) (nit : Nat) (nsh : Nat) (nsf : Nat) (nss : Nat) (nrc : Nat) (jr : Nat) (jd : Nat) (mnumber : Int32) (mwhose : Int32) (msize : Int32) (misParted : Int32) (fnrc : Nat → Int32) (hjr : jr ≤ 30) (hjd : jd < 7) : K_m_from32 l G h0 xx nw nk mhasKept nt mtaped nr mrowMany mroundOf mroundFrom mouts nm mfromHour mtoHour ns mfrom mto msort misFault mdeep mcoded mlines nl nc nF np ntr nb mbestCost nso nsi nit nsh nsf nss nrc jr jd mnumber mwhose msize misParted fnrc := by
  refine MI.start (by decide +kernel) (Nat.le_of_ble_eq_true rfl) ?_
  intro p e s m below meth c A ls hC hK hP hD hS hA hl
  refine absQ (fun Q0 hQ0 => ?_)
  have hl : lv_has ls 5 [(0, .ref h0), (1, .int 3), (2, .int 2), (3, .int xx)] := hl
  refine Kan8 hC (fun hx hb hr hml hB hown hlocks hnm => ?_)
  refine lv_iload_n hx hb gX12_bodyFrom_0.1 rfl (lv_at1 hl) ?_
  refine lv_istore (lv' := [(4, .int 3), (0, .ref h0), (1, .int 3), (2, .int 2), (3, .int xx)]) hx hb gX12_bodyFrom_0.2.1 hl (by decide) rfl (fun ls hl => ?_)
  refine lv_iload hx hb gX12_bodyFrom_0.2.2.1 (lv_at0 hl) ?_
  refine lv_iload_n hx hb gX12_bodyFrom_0.2.2.2.1 rfl (lv_at3 hl) ?_
  refine pS hC hK hl (m_hasOwn32 l G) si_X12_360 rfl rfl (Nat.le_of_ble_eq_true rfl) rm_36_1_2 ⟨by first | exact Nat.le_of_ble_eq_true rfl | exact Nat.zero_le _, by first | exact Nat.le_of_ble_eq_true rfl | exact Nat.zero_le _⟩ gX12_bodyFrom_0.2.2.2.2.1 (Keqr ?_)
  refine lv_if_ne (tgt := 22) hx hb gX12_bodyFrom_0.2.2.2.2.2.1 (by decide) (fun c9 => absurd (by decide) c9) (fun _ => ?_)
  refine lv_iload hx hb gX12_bodyFrom_0.2.2.2.2.2.2.1 (lv_at0 hl) ?_
  refine pS hC hK hl (m_above3 l G) si_X12_348 rfl rfl (Nat.le_of_ble_eq_true rfl) rm_36_1_1 ⟨by first | exact Nat.le_of_ble_eq_true rfl | exact Nat.zero_le _, by first | exact Nat.le_of_ble_eq_true rfl | exact Nat.zero_le _⟩ gX12_bodyFrom_0.2.2.2.2.2.2.2.1 (Keqr ?_)
  refine lv_istore (lv' := [(4, .int 1), (0, .ref h0), (1, .int 3), (2, .int 2), (3, .int xx)]) hx hb gX12_bodyFrom_0.2.2.2.2.2.2.2.2.1 hl (by decide) rfl (fun ls hl => ?_)
  refine lv_goto (tgt := 3) hx hb gX12_bodyFrom_0.2.2.2.2.2.2.2.2.2 (by decide) ?_
  refine lv_iload hx hb gX12_bodyFrom_0.2.2.1 (lv_at0 hl) ?_
  refine lv_iload_n hx hb gX12_bodyFrom_0.2.2.2.1 rfl (lv_at3 hl) ?_
  refine pS hC hK hl (m_hasOwn12 l G) si_X12_360 rfl rfl (Nat.le_of_ble_eq_true rfl) rm_36_1_2 ⟨by first | exact Nat.le_of_ble_eq_true rfl | exact Nat.zero_le _, by first | exact Nat.le_of_ble_eq_true rfl | exact Nat.zero_le _⟩ gX12_bodyFrom_0.2.2.2.2.1 (Keqr ?_)
  refine lv_if_ne (tgt := 22) hx hb gX12_bodyFrom_0.2.2.2.2.2.1 (by decide) (fun c9 => absurd (by decide) c9) (fun _ => ?_)
  refine lv_iload hx hb gX12_bodyFrom_0.2.2.2.2.2.2.1 (lv_at0 hl) ?_
  refine pS hC hK hl (m_above1 l G) si_X12_348 rfl rfl (Nat.le_of_ble_eq_true rfl) rm_36_1_1 ⟨by first | exact Nat.le_of_ble_eq_true rfl | exact Nat.zero_le _, by first | exact Nat.le_of_ble_eq_true rfl | exact Nat.zero_le _⟩ gX12_bodyFrom_0.2.2.2.2.2.2.2.1 (Keqr ?_)
  refine lv_istore (lv' := [(4, .int 0), (0, .ref h0), (1, .int 3), (2, .int 2), (3, .int xx)]) hx hb gX12_bodyFrom_0.2.2.2.2.2.2.2.2.1 hl (by decide) rfl (fun ls hl => ?_)
  refine lv_goto (tgt := 3) hx hb gX12_bodyFrom_0.2.2.2.2.2.2.2.2.2 (by decide) ?_
  refine lv_iload hx hb gX12_bodyFrom_0.2.2.1 (lv_at0 hl) ?_
  refine lv_iload_n hx hb gX12_bodyFrom_0.2.2.2.1 rfl (lv_at3 hl) ?_
  refine pS hC hK hl (m_hasOwn02 l G) si_X12_360 rfl rfl (Nat.le_of_ble_eq_true rfl) rm_36_1_2 ⟨by first | exact Nat.le_of_ble_eq_true rfl | exact Nat.zero_le _, by first | exact Nat.le_of_ble_eq_true rfl | exact Nat.zero_le _⟩ gX12_bodyFrom_0.2.2.2.2.1 (Keqr ?_)
  refine lv_if_ne (tgt := 22) hx hb gX12_bodyFrom_0.2.2.2.2.2.1 (by decide) (fun _ => ?_) (fun c9 => absurd c9 (by decide))
  refine lv_aload_n hx hb gX12_bodyFrom_1.1 rfl (lv_at1 hl) ?_
  refine lv_iload hx hb gX12_bodyFrom_1.2.1 (lv_at0 hl) ?_
  refine lv_iload_n hx hb gX12_bodyFrom_1.2.2.1 rfl (lv_at3 hl) ?_
  refine lv_iload_n hx hb gX12_bodyFrom_1.2.2.2.1 rfl (lv_at4 hl) ?_
  refine iV (wr := []) hC hK hl hP hD hS hA (m_body02 l G h0 xx nw nk mhasKept nt mtaped nr mrowMany mroundOf mroundFrom mouts nm mfromHour mtoHour ns mfrom mto msort misFault mdeep mcoded mlines nl nc nF np ntr nb mbestCost nso nsi nit nsh nsf nss nrc jr jd mnumber mwhose msize misParted fnrc (hjr) (hjd)) si_X12_363 [0, 1] [] sm_0_1 fm_0_1 nd_0_1 rfl rfl (by decide) rfl rfl rfl rfl rfl (Nat.le_of_ble_eq_true rfl) rm_36_27_6 ⟨Nat.le_of_ble_eq_true rfl, Nat.le_of_ble_eq_true rfl⟩ gX12_bodyFrom_1.2.2.2.2.1 (fun r6383 => Ktu3 fun jr16385 ip16386 gtrc6387 => ?_)
  intro H locs hr6383 hP hD hS
  try dsimp only at hr6383
  refine Kpdr (ws := [(h0, oX12 nw nk mhasKept nt mtaped nr mrowMany mroundOf mroundFrom mouts nm mfromHour mtoHour ns mfrom mto msort misFault mdeep mcoded mlines nl nc nF np ntr nb mbestCost nso nsi nit nsh nsf nss nrc (nI jr16385) (nI jd) mnumber mwhose msize ip16386), (nrc, iA G 30 gtrc6387)]) hP hD (fun hP hD => ?_)
  obtain ⟨hr6383, w6388⟩ := hr6383
  refine toQ hQ0 ?_
  exact RI (v := r6383) hC hP hD hS [0, 1] (jr16385, ip16386, gtrc6387) rfl rfl (by decide) (⟨trivial, by omega⟩) rfl gX12_bodyFrom_1.2.2.2.2.2
def K_m_from62 (l : Launch) (G : GG) (h0 : Nat) (xx : Int32) (nw : Nat) (nk : Nat) (mhasKept : Int32) (nt : Nat) (mtaped : Int32) (nr : Nat) (mrowMany : Int32) (mroundOf : Int32) (mroundFrom : Int32) (mouts : Int32) (nm : Nat) (mfromHour : Int32) (mtoHour : Int32) (ns : Nat) (mfrom : Int32) (mto : Int32) (msort : Int32) (misFault : Int32) (mdeep : Int32) (mcoded : Int32) (mlines : Int32) (nl : Nat) (nc : Nat) (nF : Nat) (np : Nat) (ntr : Nat) (nb : Nat) (mbestCost : Int32) (nso : Nat) (nsi : Nat) (nit : Nat) (nsh : Nat) (nsf : Nat) (nss : Nat) (nrc : Nat) (jr : Nat) (jd : Nat) (mnumber : Int32) (mwhose : Int32) (msize : Int32) (misParted : Int32) (fnrc : Nat → Int32) : Prop := MI l G yX12_bodyFrom cX12_bodyFrom 5 (some .int) 36 0 0 [.ref h0, .int 6, .int 2, .int xx] [(h0, oX12 nw nk mhasKept nt mtaped nr mrowMany mroundOf mroundFrom mouts nm mfromHour mtoHour ns mfrom mto msort misFault mdeep mcoded mlines nl nc nF np ntr nb mbestCost nso nsi nit nsh nsf nss nrc (nI jr) (nI jd) mnumber mwhose msize misParted), (nrc, iA G 30 fnrc)] (fun (r : Int32) (u : Nat × Int32 × (Nat → Int32)) => (True) ∧ (u.1 ≤ 30)) (fun u : Nat × Int32 × (Nat → Int32) => [(h0, oX12 nw nk mhasKept nt mtaped nr mrowMany mroundOf mroundFrom mouts nm mfromHour mtoHour ns mfrom mto msort misFault mdeep mcoded mlines nl nc nF np ntr nb mbestCost nso nsi nit nsh nsf nss nrc (nI u.1) (nI jd) mnumber mwhose msize u.2.1), (nrc, iA G 30 u.2.2)])
set_option maxHeartbeats 4000000 in
set_option maxRecDepth 100000 in
theorem m_from62 (l : Launch) (G : GG) (h0 : Nat) (xx : Int32) (nw : Nat) (nk : Nat) (mhasKept : Int32) (nt : Nat) (mtaped : Int32) (nr : Nat) (mrowMany : Int32) (mroundOf : Int32) (mroundFrom : Int32) (mouts : Int32) (nm : Nat) (mfromHour : Int32) (mtoHour : Int32) (ns : Nat) (mfrom : Int32) (mto : Int32) (msort : Int32) (misFault : Int32) (mdeep : Int32) (mcoded : Int32) (mlines : Int32) (nl : Nat) (nc : Nat) (nF : Nat) (np : Nat) (ntr : Nat) (nb : Nat) (mbestCost : Int32) (nso : Nat) (nsi : Nat) (nit : Nat) (nsh : Nat) (nsf : Nat) (nss : Nat) (nrc : Nat) (jr : Nat) (jd : Nat) (mnumber : Int32) (mwhose : Int32) (msize : Int32) (misParted : Int32) (fnrc : Nat → Int32) (hjr : jr ≤ 30) (hjd : jd < 7) : K_m_from62 l G h0 xx nw nk mhasKept nt mtaped nr mrowMany mroundOf mroundFrom mouts nm mfromHour mtoHour ns mfrom mto msort misFault mdeep mcoded mlines nl nc nF np ntr nb mbestCost nso nsi nit nsh nsf nss nrc jr jd mnumber mwhose msize misParted fnrc := by
  refine MI.start (by decide +kernel) (Nat.le_of_ble_eq_true rfl) ?_
  intro p e s m below meth c A ls hC hK hP hD hS hA hl
  refine absQ (fun Q0 hQ0 => ?_)
  have hl : lv_has ls 5 [(0, .ref h0), (1, .int 6), (2, .int 2), (3, .int xx)] := hl
  refine Kan8 hC (fun hx hb hr hml hB hown hlocks hnm => ?_)
  refine lv_iload_n hx hb gX12_bodyFrom_0.1 rfl (lv_at1 hl) ?_
  refine lv_istore (lv' := [(4, .int 6), (0, .ref h0), (1, .int 6), (2, .int 2), (3, .int xx)]) hx hb gX12_bodyFrom_0.2.1 hl (by decide) rfl (fun ls hl => ?_)
  refine lv_iload hx hb gX12_bodyFrom_0.2.2.1 (lv_at0 hl) ?_
  refine lv_iload_n hx hb gX12_bodyFrom_0.2.2.2.1 rfl (lv_at3 hl) ?_
  refine pS hC hK hl (m_hasOwn62 l G) si_X12_360 rfl rfl (Nat.le_of_ble_eq_true rfl) rm_36_1_2 ⟨by first | exact Nat.le_of_ble_eq_true rfl | exact Nat.zero_le _, by first | exact Nat.le_of_ble_eq_true rfl | exact Nat.zero_le _⟩ gX12_bodyFrom_0.2.2.2.2.1 (Keqr ?_)
  refine lv_if_ne (tgt := 22) hx hb gX12_bodyFrom_0.2.2.2.2.2.1 (by decide) (fun c9 => absurd (by decide) c9) (fun _ => ?_)
  refine lv_iload hx hb gX12_bodyFrom_0.2.2.2.2.2.2.1 (lv_at0 hl) ?_
  refine pS hC hK hl (m_above6 l G) si_X12_348 rfl rfl (Nat.le_of_ble_eq_true rfl) rm_36_1_1 ⟨by first | exact Nat.le_of_ble_eq_true rfl | exact Nat.zero_le _, by first | exact Nat.le_of_ble_eq_true rfl | exact Nat.zero_le _⟩ gX12_bodyFrom_0.2.2.2.2.2.2.2.1 (Keqr ?_)
  refine lv_istore (lv' := [(4, .int 0), (0, .ref h0), (1, .int 6), (2, .int 2), (3, .int xx)]) hx hb gX12_bodyFrom_0.2.2.2.2.2.2.2.2.1 hl (by decide) rfl (fun ls hl => ?_)
  refine lv_goto (tgt := 3) hx hb gX12_bodyFrom_0.2.2.2.2.2.2.2.2.2 (by decide) ?_
  refine lv_iload hx hb gX12_bodyFrom_0.2.2.1 (lv_at0 hl) ?_
  refine lv_iload_n hx hb gX12_bodyFrom_0.2.2.2.1 rfl (lv_at3 hl) ?_
  refine pS hC hK hl (m_hasOwn02 l G) si_X12_360 rfl rfl (Nat.le_of_ble_eq_true rfl) rm_36_1_2 ⟨by first | exact Nat.le_of_ble_eq_true rfl | exact Nat.zero_le _, by first | exact Nat.le_of_ble_eq_true rfl | exact Nat.zero_le _⟩ gX12_bodyFrom_0.2.2.2.2.1 (Keqr ?_)
  refine lv_if_ne (tgt := 22) hx hb gX12_bodyFrom_0.2.2.2.2.2.1 (by decide) (fun _ => ?_) (fun c9 => absurd c9 (by decide))
  refine lv_aload_n hx hb gX12_bodyFrom_1.1 rfl (lv_at1 hl) ?_
  refine lv_iload hx hb gX12_bodyFrom_1.2.1 (lv_at0 hl) ?_
  refine lv_iload_n hx hb gX12_bodyFrom_1.2.2.1 rfl (lv_at3 hl) ?_
  refine lv_iload_n hx hb gX12_bodyFrom_1.2.2.2.1 rfl (lv_at4 hl) ?_
  refine iV (wr := []) hC hK hl hP hD hS hA (m_body02 l G h0 xx nw nk mhasKept nt mtaped nr mrowMany mroundOf mroundFrom mouts nm mfromHour mtoHour ns mfrom mto msort misFault mdeep mcoded mlines nl nc nF np ntr nb mbestCost nso nsi nit nsh nsf nss nrc jr jd mnumber mwhose msize misParted fnrc (hjr) (hjd)) si_X12_363 [0, 1] [] sm_0_1 fm_0_1 nd_0_1 rfl rfl (by decide) rfl rfl rfl rfl rfl (Nat.le_of_ble_eq_true rfl) rm_36_27_6 ⟨Nat.le_of_ble_eq_true rfl, Nat.le_of_ble_eq_true rfl⟩ gX12_bodyFrom_1.2.2.2.2.1 (fun r6395 => Ktu3 fun jr16397 ip16398 gtrc6399 => ?_)
  intro H locs hr6395 hP hD hS
  try dsimp only at hr6395
  refine Kpdr (ws := [(h0, oX12 nw nk mhasKept nt mtaped nr mrowMany mroundOf mroundFrom mouts nm mfromHour mtoHour ns mfrom mto msort misFault mdeep mcoded mlines nl nc nF np ntr nb mbestCost nso nsi nit nsh nsf nss nrc (nI jr16397) (nI jd) mnumber mwhose msize ip16398), (nrc, iA G 30 gtrc6399)]) hP hD (fun hP hD => ?_)
  obtain ⟨hr6395, w6400⟩ := hr6395
  refine toQ hQ0 ?_
  exact RI (v := r6395) hC hP hD hS [0, 1] (jr16397, ip16398, gtrc6399) rfl rfl (by decide) (⟨trivial, by omega⟩) rfl gX12_bodyFrom_1.2.2.2.2.2
def K_m_dealt2 (l : Launch) (G : GG) (h0 : Nat) (xx : Int32) (nw : Nat) (nk : Nat) (mhasKept : Int32) (nt : Nat) (mtaped : Int32) (nr : Nat) (mrowMany : Int32) (mroundOf : Int32) (mroundFrom : Int32) (mouts : Int32) (nm : Nat) (mfromHour : Int32) (mtoHour : Int32) (ns : Nat) (mfrom : Int32) (mto : Int32) (msort : Int32) (misFault : Int32) (mdeep : Int32) (mcoded : Int32) (mlines : Int32) (nl : Nat) (nc : Nat) (nF : Nat) (np : Nat) (ntr : Nat) (nb : Nat) (mbestCost : Int32) (nso : Nat) (nsi : Nat) (nit : Nat) (nsh : Nat) (nsf : Nat) (nss : Nat) (nrc : Nat) (jr : Nat) (jd : Nat) (mnumber : Int32) (mwhose : Int32) (msize : Int32) (misParted : Int32) (fnrc : Nat → Int32) : Prop := MI l G yX12_dealt cX12_dealt 3 (some .int) 38 0 0 [.ref h0, .int 2, .int xx] [(h0, oX12 nw nk mhasKept nt mtaped nr mrowMany mroundOf mroundFrom mouts nm mfromHour mtoHour ns mfrom mto msort misFault mdeep mcoded mlines nl nc nF np ntr nb mbestCost nso nsi nit nsh nsf nss nrc (nI jr) (nI jd) mnumber mwhose msize misParted), (nrc, iA G 30 fnrc)] (fun (r : Int32) (u : Nat × Int32 × (Nat → Int32)) => (True) ∧ (u.1 ≤ 30)) (fun u : Nat × Int32 × (Nat → Int32) => [(h0, oX12 nw nk mhasKept nt mtaped nr mrowMany mroundOf mroundFrom mouts nm mfromHour mtoHour ns mfrom mto msort misFault mdeep mcoded mlines nl nc nF np ntr nb mbestCost nso nsi nit nsh nsf nss nrc (nI u.1) (nI jd) mnumber mwhose msize u.2.1), (nrc, iA G 30 u.2.2)])
set_option maxHeartbeats 4000000 in
set_option maxRecDepth 100000 in
theorem m_dealt2 (l : Launch) (G : GG) (h0 : Nat) (xx : Int32) (nw : Nat) (nk : Nat) (mhasKept : Int32) (nt : Nat) (mtaped : Int32) (nr : Nat) (mrowMany : Int32) (mroundOf : Int32) (mroundFrom : Int32) (mouts : Int32) (nm : Nat) (mfromHour : Int32) (mtoHour : Int32) (ns : Nat) (mfrom : Int32) (mto : Int32) (msort : Int32) (misFault : Int32) (mdeep : Int32) (mcoded : Int32) (mlines : Int32) (nl : Nat) (nc : Nat) (nF : Nat) (np : Nat) (ntr : Nat) (nb : Nat) (mbestCost : Int32) (nso : Nat) (nsi : Nat) (nit : Nat) (nsh : Nat) (nsf : Nat) (nss : Nat) (nrc : Nat) (jr : Nat) (jd : Nat) (mnumber : Int32) (mwhose : Int32) (msize : Int32) (misParted : Int32) (fnrc : Nat → Int32) (hjr : jr ≤ 30) (hjd : jd < 7) : K_m_dealt2 l G h0 xx nw nk mhasKept nt mtaped nr mrowMany mroundOf mroundFrom mouts nm mfromHour mtoHour ns mfrom mto msort misFault mdeep mcoded mlines nl nc nF np ntr nb mbestCost nso nsi nit nsh nsf nss nrc jr jd mnumber mwhose msize misParted fnrc := by
  refine MI.start (by decide +kernel) (Nat.le_of_ble_eq_true rfl) ?_
  intro p e s m below meth c A ls hC hK hP hD hS hA hl
  refine absQ (fun Q0 hQ0 => ?_)
  have hl : lv_has ls 3 [(0, .ref h0), (1, .int 2), (2, .int xx)] := hl
  refine Kan8 hC (fun hx hb hr hml hB hown hlocks hnm => ?_)
  refine lv_aload_n hx hb gX12_dealt_0.1 rfl (lv_at0 hl) ?_
  refine lv_aload_n hx hb gX12_dealt_0.2.1 rfl (lv_at0 hl) ?_
  refine gf_X12_354 hC rfl hK hP 0 rfl rfl gX12_dealt_0.2.2.1 ?_
  refine lv_iload_n hx hb gX12_dealt_0.2.2.2.1 rfl (lv_at1 hl) ?_
  refine lv_iload_n hx hb gX12_dealt_0.2.2.2.2.1 rfl (lv_at2 hl) ?_
  rcases (show jd = 0 ∨ jd = 1 ∨ jd = 2 ∨ jd = 3 ∨ jd = 4 ∨ jd = 5 ∨ jd = 6 by omega) with rfl | rfl | rfl | rfl | rfl | rfl | rfl
  · refine iV (wr := []) hC hK hl hP hD hS hA (m_from02 l G h0 xx nw nk mhasKept nt mtaped nr mrowMany mroundOf mroundFrom mouts nm mfromHour mtoHour ns mfrom mto msort misFault mdeep mcoded mlines nl nc nF np ntr nb mbestCost nso nsi nit nsh nsf nss nrc jr 0 mnumber mwhose msize misParted fnrc (hjr) (hjd)) si_X12_357 [0, 1] [] sm_0_1 fm_0_1 nd_0_1 rfl rfl (by decide) rfl rfl rfl rfl rfl (Nat.le_of_ble_eq_true rfl) rm_38_28_5 ⟨Nat.le_of_ble_eq_true rfl, Nat.le_of_ble_eq_true rfl⟩ gX12_dealt_0.2.2.2.2.2.1 (fun r6401 => Ktu3 fun jr16403 ip16404 gtrc6405 => ?_)
    intro H locs hr6401 hP hD hS
    try dsimp only at hr6401
    refine Kpdr (ws := [(h0, oX12 nw nk mhasKept nt mtaped nr mrowMany mroundOf mroundFrom mouts nm mfromHour mtoHour ns mfrom mto msort misFault mdeep mcoded mlines nl nc nF np ntr nb mbestCost nso nsi nit nsh nsf nss nrc (nI jr16403) 0 mnumber mwhose msize ip16404), (nrc, iA G 30 gtrc6405)]) hP hD (fun hP hD => ?_)
    obtain ⟨hr6401, w6406⟩ := hr6401
    refine toQ hQ0 ?_
    exact RI (v := r6401) hC hP hD hS [0, 1] (jr16403, ip16404, gtrc6405) rfl rfl (by decide) (⟨trivial, by omega⟩) rfl gX12_dealt_0.2.2.2.2.2.2
  · refine iV (wr := []) hC hK hl hP hD hS hA (m_from12 l G h0 xx nw nk mhasKept nt mtaped nr mrowMany mroundOf mroundFrom mouts nm mfromHour mtoHour ns mfrom mto msort misFault mdeep mcoded mlines nl nc nF np ntr nb mbestCost nso nsi nit nsh nsf nss nrc jr 1 mnumber mwhose msize misParted fnrc (hjr) (hjd)) si_X12_357 [0, 1] [] sm_0_1 fm_0_1 nd_0_1 rfl rfl (by decide) rfl rfl rfl rfl rfl (Nat.le_of_ble_eq_true rfl) rm_38_36_5 ⟨Nat.le_of_ble_eq_true rfl, Nat.le_of_ble_eq_true rfl⟩ gX12_dealt_0.2.2.2.2.2.1 (fun r6407 => Ktu3 fun jr16409 ip16410 gtrc6411 => ?_)
    intro H locs hr6407 hP hD hS
    try dsimp only at hr6407
    refine Kpdr (ws := [(h0, oX12 nw nk mhasKept nt mtaped nr mrowMany mroundOf mroundFrom mouts nm mfromHour mtoHour ns mfrom mto msort misFault mdeep mcoded mlines nl nc nF np ntr nb mbestCost nso nsi nit nsh nsf nss nrc (nI jr16409) 1 mnumber mwhose msize ip16410), (nrc, iA G 30 gtrc6411)]) hP hD (fun hP hD => ?_)
    obtain ⟨hr6407, w6412⟩ := hr6407
    refine toQ hQ0 ?_
    exact RI (v := r6407) hC hP hD hS [0, 1] (jr16409, ip16410, gtrc6411) rfl rfl (by decide) (⟨trivial, by omega⟩) rfl gX12_dealt_0.2.2.2.2.2.2
  · refine iV (wr := []) hC hK hl hP hD hS hA (m_from22 l G h0 xx nw nk mhasKept nt mtaped nr mrowMany mroundOf mroundFrom mouts nm mfromHour mtoHour ns mfrom mto msort misFault mdeep mcoded mlines nl nc nF np ntr nb mbestCost nso nsi nit nsh nsf nss nrc jr 2 mnumber mwhose msize misParted fnrc (hjr) (hjd)) si_X12_357 [0, 1] [] sm_0_1 fm_0_1 nd_0_1 rfl rfl (by decide) rfl rfl rfl rfl rfl (Nat.le_of_ble_eq_true rfl) rm_38_30_5 ⟨Nat.le_of_ble_eq_true rfl, Nat.le_of_ble_eq_true rfl⟩ gX12_dealt_0.2.2.2.2.2.1 (fun r6413 => Ktu3 fun jr16415 ip16416 gtrc6417 => ?_)
    intro H locs hr6413 hP hD hS
    try dsimp only at hr6413
    refine Kpdr (ws := [(h0, oX12 nw nk mhasKept nt mtaped nr mrowMany mroundOf mroundFrom mouts nm mfromHour mtoHour ns mfrom mto msort misFault mdeep mcoded mlines nl nc nF np ntr nb mbestCost nso nsi nit nsh nsf nss nrc (nI jr16415) 2 mnumber mwhose msize ip16416), (nrc, iA G 30 gtrc6417)]) hP hD (fun hP hD => ?_)
    obtain ⟨hr6413, w6418⟩ := hr6413
    refine toQ hQ0 ?_
    exact RI (v := r6413) hC hP hD hS [0, 1] (jr16415, ip16416, gtrc6417) rfl rfl (by decide) (⟨trivial, by omega⟩) rfl gX12_dealt_0.2.2.2.2.2.2
  · refine iV (wr := []) hC hK hl hP hD hS hA (m_from32 l G h0 xx nw nk mhasKept nt mtaped nr mrowMany mroundOf mroundFrom mouts nm mfromHour mtoHour ns mfrom mto msort misFault mdeep mcoded mlines nl nc nF np ntr nb mbestCost nso nsi nit nsh nsf nss nrc jr 3 mnumber mwhose msize misParted fnrc (hjr) (hjd)) si_X12_357 [0, 1] [] sm_0_1 fm_0_1 nd_0_1 rfl rfl (by decide) rfl rfl rfl rfl rfl (Nat.le_of_ble_eq_true rfl) rm_38_36_5 ⟨Nat.le_of_ble_eq_true rfl, Nat.le_of_ble_eq_true rfl⟩ gX12_dealt_0.2.2.2.2.2.1 (fun r6419 => Ktu3 fun jr16421 ip16422 gtrc6423 => ?_)
    intro H locs hr6419 hP hD hS
    try dsimp only at hr6419
    refine Kpdr (ws := [(h0, oX12 nw nk mhasKept nt mtaped nr mrowMany mroundOf mroundFrom mouts nm mfromHour mtoHour ns mfrom mto msort misFault mdeep mcoded mlines nl nc nF np ntr nb mbestCost nso nsi nit nsh nsf nss nrc (nI jr16421) 3 mnumber mwhose msize ip16422), (nrc, iA G 30 gtrc6423)]) hP hD (fun hP hD => ?_)
    obtain ⟨hr6419, w6424⟩ := hr6419
    refine toQ hQ0 ?_
    exact RI (v := r6419) hC hP hD hS [0, 1] (jr16421, ip16422, gtrc6423) rfl rfl (by decide) (⟨trivial, by omega⟩) rfl gX12_dealt_0.2.2.2.2.2.2
  · refine iV (wr := []) hC hK hl hP hD hS hA (m_from42 l G h0 xx nw nk mhasKept nt mtaped nr mrowMany mroundOf mroundFrom mouts nm mfromHour mtoHour ns mfrom mto msort misFault mdeep mcoded mlines nl nc nF np ntr nb mbestCost nso nsi nit nsh nsf nss nrc jr 4 mnumber mwhose msize misParted fnrc (hjr) (hjd)) si_X12_357 [0, 1] [] sm_0_1 fm_0_1 nd_0_1 rfl rfl (by decide) rfl rfl rfl rfl rfl (Nat.le_of_ble_eq_true rfl) rm_38_32_5 ⟨Nat.le_of_ble_eq_true rfl, Nat.le_of_ble_eq_true rfl⟩ gX12_dealt_0.2.2.2.2.2.1 (fun r6425 => Ktu3 fun jr16427 ip16428 gtrc6429 => ?_)
    intro H locs hr6425 hP hD hS
    try dsimp only at hr6425
    refine Kpdr (ws := [(h0, oX12 nw nk mhasKept nt mtaped nr mrowMany mroundOf mroundFrom mouts nm mfromHour mtoHour ns mfrom mto msort misFault mdeep mcoded mlines nl nc nF np ntr nb mbestCost nso nsi nit nsh nsf nss nrc (nI jr16427) 4 mnumber mwhose msize ip16428), (nrc, iA G 30 gtrc6429)]) hP hD (fun hP hD => ?_)
    obtain ⟨hr6425, w6430⟩ := hr6425
    refine toQ hQ0 ?_
    exact RI (v := r6425) hC hP hD hS [0, 1] (jr16427, ip16428, gtrc6429) rfl rfl (by decide) (⟨trivial, by omega⟩) rfl gX12_dealt_0.2.2.2.2.2.2
  · refine iV (wr := []) hC hK hl hP hD hS hA (m_from52 l G h0 xx nw nk mhasKept nt mtaped nr mrowMany mroundOf mroundFrom mouts nm mfromHour mtoHour ns mfrom mto msort misFault mdeep mcoded mlines nl nc nF np ntr nb mbestCost nso nsi nit nsh nsf nss nrc jr 5 mnumber mwhose msize misParted fnrc (hjr) (hjd)) si_X12_357 [0, 1] [] sm_0_1 fm_0_1 nd_0_1 rfl rfl (by decide) rfl rfl rfl rfl rfl (Nat.le_of_ble_eq_true rfl) rm_38_34_5 ⟨Nat.le_of_ble_eq_true rfl, Nat.le_of_ble_eq_true rfl⟩ gX12_dealt_0.2.2.2.2.2.1 (fun r6431 => Ktu3 fun jr16433 ip16434 gtrc6435 => ?_)
    intro H locs hr6431 hP hD hS
    try dsimp only at hr6431
    refine Kpdr (ws := [(h0, oX12 nw nk mhasKept nt mtaped nr mrowMany mroundOf mroundFrom mouts nm mfromHour mtoHour ns mfrom mto msort misFault mdeep mcoded mlines nl nc nF np ntr nb mbestCost nso nsi nit nsh nsf nss nrc (nI jr16433) 5 mnumber mwhose msize ip16434), (nrc, iA G 30 gtrc6435)]) hP hD (fun hP hD => ?_)
    obtain ⟨hr6431, w6436⟩ := hr6431
    refine toQ hQ0 ?_
    exact RI (v := r6431) hC hP hD hS [0, 1] (jr16433, ip16434, gtrc6435) rfl rfl (by decide) (⟨trivial, by omega⟩) rfl gX12_dealt_0.2.2.2.2.2.2
  · refine iV (wr := []) hC hK hl hP hD hS hA (m_from62 l G h0 xx nw nk mhasKept nt mtaped nr mrowMany mroundOf mroundFrom mouts nm mfromHour mtoHour ns mfrom mto msort misFault mdeep mcoded mlines nl nc nF np ntr nb mbestCost nso nsi nit nsh nsf nss nrc jr 6 mnumber mwhose msize misParted fnrc (hjr) (hjd)) si_X12_357 [0, 1] [] sm_0_1 fm_0_1 nd_0_1 rfl rfl (by decide) rfl rfl rfl rfl rfl (Nat.le_of_ble_eq_true rfl) rm_38_36_5 ⟨Nat.le_of_ble_eq_true rfl, Nat.le_of_ble_eq_true rfl⟩ gX12_dealt_0.2.2.2.2.2.1 (fun r6437 => Ktu3 fun jr16439 ip16440 gtrc6441 => ?_)
    intro H locs hr6437 hP hD hS
    try dsimp only at hr6437
    refine Kpdr (ws := [(h0, oX12 nw nk mhasKept nt mtaped nr mrowMany mroundOf mroundFrom mouts nm mfromHour mtoHour ns mfrom mto msort misFault mdeep mcoded mlines nl nc nF np ntr nb mbestCost nso nsi nit nsh nsf nss nrc (nI jr16439) 6 mnumber mwhose msize ip16440), (nrc, iA G 30 gtrc6441)]) hP hD (fun hP hD => ?_)
    obtain ⟨hr6437, w6442⟩ := hr6437
    refine toQ hQ0 ?_
    exact RI (v := r6437) hC hP hD hS [0, 1] (jr16439, ip16440, gtrc6441) rfl rfl (by decide) (⟨trivial, by omega⟩) rfl gX12_dealt_0.2.2.2.2.2.2
def K_m_body03 (l : Launch) (G : GG) (h0 : Nat) (xx : Int32) (nw : Nat) (nk : Nat) (mhasKept : Int32) (nt : Nat) (mtaped : Int32) (nr : Nat) (mrowMany : Int32) (mroundOf : Int32) (mroundFrom : Int32) (mouts : Int32) (nm : Nat) (mfromHour : Int32) (mtoHour : Int32) (ns : Nat) (mfrom : Int32) (mto : Int32) (msort : Int32) (misFault : Int32) (mdeep : Int32) (mcoded : Int32) (mlines : Int32) (nl : Nat) (nc : Nat) (nF : Nat) (np : Nat) (ntr : Nat) (nb : Nat) (mbestCost : Int32) (nso : Nat) (nsi : Nat) (nit : Nat) (nsh : Nat) (nsf : Nat) (nss : Nat) (nrc : Nat) (jr : Nat) (jd : Nat) (mnumber : Int32) (mwhose : Int32) (msize : Int32) (misParted : Int32) (fnrc : Nat → Int32) : Prop := MI l G yX12_body cX12_body 6 (some .int) 39 0 0 [.ref h0, .int 0, .int 3, .int xx] [(h0, oX12 nw nk mhasKept nt mtaped nr mrowMany mroundOf mroundFrom mouts nm mfromHour mtoHour ns mfrom mto msort misFault mdeep mcoded mlines nl nc nF np ntr nb mbestCost nso nsi nit nsh nsf nss nrc (nI jr) (nI jd) mnumber mwhose msize misParted), (nrc, iA G 30 fnrc)] (fun (r : Int32) (u : Nat × Int32 × (Nat → Int32)) => (True) ∧ (u.1 ≤ 30)) (fun u : Nat × Int32 × (Nat → Int32) => [(h0, oX12 nw nk mhasKept nt mtaped nr mrowMany mroundOf mroundFrom mouts nm mfromHour mtoHour ns mfrom mto msort misFault mdeep mcoded mlines nl nc nF np ntr nb mbestCost nso nsi nit nsh nsf nss nrc (nI u.1) (nI jd) mnumber mwhose msize u.2.1), (nrc, iA G 30 u.2.2)])
set_option maxHeartbeats 4000000 in
set_option maxRecDepth 100000 in
theorem m_body03 (l : Launch) (G : GG) (h0 : Nat) (xx : Int32) (nw : Nat) (nk : Nat) (mhasKept : Int32) (nt : Nat) (mtaped : Int32) (nr : Nat) (mrowMany : Int32) (mroundOf : Int32) (mroundFrom : Int32) (mouts : Int32) (nm : Nat) (mfromHour : Int32) (mtoHour : Int32) (ns : Nat) (mfrom : Int32) (mto : Int32) (msort : Int32) (misFault : Int32) (mdeep : Int32) (mcoded : Int32) (mlines : Int32) (nl : Nat) (nc : Nat) (nF : Nat) (np : Nat) (ntr : Nat) (nb : Nat) (mbestCost : Int32) (nso : Nat) (nsi : Nat) (nit : Nat) (nsh : Nat) (nsf : Nat) (nss : Nat) (nrc : Nat) (jr : Nat) (jd : Nat) (mnumber : Int32) (mwhose : Int32) (msize : Int32) (misParted : Int32) (fnrc : Nat → Int32) (hjr : jr ≤ 30) (hjd : jd < 7) : K_m_body03 l G h0 xx nw nk mhasKept nt mtaped nr mrowMany mroundOf mroundFrom mouts nm mfromHour mtoHour ns mfrom mto msort misFault mdeep mcoded mlines nl nc nF np ntr nb mbestCost nso nsi nit nsh nsf nss nrc jr jd mnumber mwhose msize misParted fnrc := by
  refine MI.start (by decide +kernel) (Nat.le_of_ble_eq_true rfl) ?_
  intro p e s m below meth c A ls hC hK hP hD hS hA hl
  refine absQ (fun Q0 hQ0 => ?_)
  have hl : lv_has ls 6 [(0, .ref h0), (1, .int 0), (2, .int 3), (3, .int xx)] := hl
  refine Kan8 hC (fun hx hb hr hml hB hown hlocks hnm => ?_)
  refine lv_iconst (v := 4) hx hb gX12_body_0.1 (by decide) ?_
  refine lv_iload_n hx hb gX12_body_0.2.1 rfl (lv_at1 hl) ?_
  refine lv_imul hx hb gX12_body_0.2.2.1 ?_
  refine eqi (x1 := 0) (by decide) ?_
  refine lv_iload_n hx hb gX12_body_0.2.2.2.1 rfl (lv_at2 hl) ?_
  refine lv_iadd hx hb gX12_body_0.2.2.2.2.1 ?_
  refine eqi (x1 := 3) (by decide) ?_
  refine lv_tableIn (tgt := 158) hx hb gX12_body_0.2.2.2.2.2.1 (by decide) (by decide) rfl (by decide) ?_
  refine lv_aload_n hx hb gX12_body_3.2.2.2.2.2.1 rfl (lv_at0 hl) ?_
  refine lv_bipush (v := 13) hx hb gX12_body_3.2.2.2.2.2.2.1 (by decide) ?_
  refine vV (wr := []) hC hK hl hP hD hS hA (m_began l G h0 13 nw nk mhasKept nt mtaped nr mrowMany mroundOf mroundFrom mouts nm mfromHour mtoHour ns mfrom mto msort misFault mdeep mcoded mlines nl nc nF np ntr nb mbestCost nso nsi nit nsh nsf nss nrc jr (nI jd) mnumber mwhose msize misParted fnrc (hjr)) si_X12_366 [0, 1] [] sm_0_1 fm_0_1 nd_0_1 rfl rfl (by decide) rfl rfl rfl rfl rfl (Nat.le_of_ble_eq_true rfl) rm_39_1_2 ⟨Nat.le_of_ble_eq_true rfl, Nat.le_of_ble_eq_true rfl⟩ gX12_body_3.2.2.2.2.2.2.2.1 (Ktu2 fun jr16445 gtrc6446 => ?_)
  intro H locs hr6443 hP hD hS
  try dsimp only at hr6443
  refine Kpdr (ws := [(h0, oX12 nw nk mhasKept nt mtaped nr mrowMany mroundOf mroundFrom mouts nm mfromHour mtoHour ns mfrom mto msort misFault mdeep mcoded mlines nl nc nF np ntr nb mbestCost nso nsi nit nsh nsf nss nrc (nI jr16445) (nI jd) mnumber mwhose msize misParted), (nrc, iA G 30 gtrc6446)]) hP hD (fun hP hD => ?_)
  have w6447 := hr6443
  refine lv_aload_n hx hb gX12_body_3.2.2.2.2.2.2.2.2.1 rfl (lv_at0 hl) ?_
  refine lv_aload_n hx hb gX12_body_3.2.2.2.2.2.2.2.2.2 rfl (lv_at0 hl) ?_
  refine gf_X12_375 hC rfl hK hP 0 rfl rfl gX12_body_4.1 ?_
  refine lv_aload_n hx hb gX12_body_4.2.1 rfl (lv_at0 hl) ?_
  refine gf_X12_378 hC rfl hK hP 0 rfl rfl gX12_body_4.2.2.1 ?_
  refine lv_icmp_ne (tgt := 180) hx hb gX12_body_4.2.2.2.1 (by decide) (fun c_173_6448 => ?_) (fun c_173_6448 => ?_)
  · refine lv_iconst (v := 0) hx hb gX12_body_4.2.2.2.2.2.2.1 (by decide) ?_
    refine pf_X12_380 hC rfl hK hP hD hS 0 (ws' := [(h0, oX12 nw nk mhasKept nt mtaped nr mrowMany mroundOf mroundFrom mouts nm mfromHour mtoHour ns mfrom mto msort misFault mdeep mcoded mlines nl nc nF np ntr nb mbestCost nso nsi nit nsh nsf nss nrc (nI jr16445) (nI jd) mnumber mwhose msize 0), (nrc, iA G 30 gtrc6446)]) rfl (Nat.le_of_ble_eq_true rfl) rfl (by decide +kernel) (by decide +kernel) gX12_body_4.2.2.2.2.2.2.2.1 (fun H locs hP hD hS => ?_)
    refine lv_aload_n hx hb gX12_body_4.2.2.2.2.2.2.2.2.1 rfl (lv_at0 hl) ?_
    refine gf_X12_380 hC rfl hK hP 0 rfl rfl gX12_body_4.2.2.2.2.2.2.2.2.2 ?_
    refine lv_if_eq (tgt := 195) hx hb gX12_body_5.1 (by decide) (fun _ => ?_) (fun c9 => absurd (by decide) c9)
    refine lv_iload_n hx hb gX12_body_5.2.2.2.1 rfl (lv_at3 hl) ?_
    refine lv_aload_n hx hb gX12_body_5.2.2.2.2.1 rfl (lv_at0 hl) ?_
    refine gf_X12_375 hC rfl hK hP 0 rfl rfl gX12_body_5.2.2.2.2.2.1 ?_
    refine lv_aload_n hx hb gX12_body_5.2.2.2.2.2.2.1 rfl (lv_at0 hl) ?_
    refine gf_X12_378 hC rfl hK hP 0 rfl rfl gX12_body_5.2.2.2.2.2.2.2.1 ?_
    refine lv_isub hx hb gX12_body_5.2.2.2.2.2.2.2.2.1 ?_
    refine lv_idiv hx hb gX12_body_5.2.2.2.2.2.2.2.2.2 (nz_sub c_173_6448) ?_
    refine lv_topi (fun x6449 ex6449 => ?_)
    refine toQ hQ0 ?_
    exact RI (v := x6449) hC hP hD hS [0, 1] (jr16445, 0, gtrc6446) rfl rfl (by decide) (⟨trivial, by omega⟩) rfl gX12_body_6.1
  · refine lv_iconst (v := 1) hx hb gX12_body_4.2.2.2.2.1 (by decide) ?_
    refine lv_goto (tgt := 181) hx hb gX12_body_4.2.2.2.2.2.1 (by decide) ?_
    refine pf_X12_380 hC rfl hK hP hD hS 0 (ws' := [(h0, oX12 nw nk mhasKept nt mtaped nr mrowMany mroundOf mroundFrom mouts nm mfromHour mtoHour ns mfrom mto msort misFault mdeep mcoded mlines nl nc nF np ntr nb mbestCost nso nsi nit nsh nsf nss nrc (nI jr16445) (nI jd) mnumber mwhose msize 1), (nrc, iA G 30 gtrc6446)]) rfl (Nat.le_of_ble_eq_true rfl) rfl (by decide +kernel) (by decide +kernel) gX12_body_4.2.2.2.2.2.2.2.1 (fun H locs hP hD hS => ?_)
    refine lv_aload_n hx hb gX12_body_4.2.2.2.2.2.2.2.2.1 rfl (lv_at0 hl) ?_
    refine gf_X12_380 hC rfl hK hP 0 rfl rfl gX12_body_4.2.2.2.2.2.2.2.2.2 ?_
    refine lv_if_eq (tgt := 195) hx hb gX12_body_5.1 (by decide) (fun c9 => absurd c9 (by decide)) (fun _ => ?_)
    refine lv_iconst (v := 0) hx hb gX12_body_5.2.1 (by decide) ?_
    refine lv_goto (tgt := 206) hx hb gX12_body_5.2.2.1 (by decide) ?_
    refine toQ hQ0 ?_
    exact RI (v := 0) hC hP hD hS [0, 1] (jr16445, 1, gtrc6446) rfl rfl (by decide) (⟨trivial, by omega⟩) rfl gX12_body_6.1
def K_m_from03 (l : Launch) (G : GG) (h0 : Nat) (xx : Int32) (nw : Nat) (nk : Nat) (mhasKept : Int32) (nt : Nat) (mtaped : Int32) (nr : Nat) (mrowMany : Int32) (mroundOf : Int32) (mroundFrom : Int32) (mouts : Int32) (nm : Nat) (mfromHour : Int32) (mtoHour : Int32) (ns : Nat) (mfrom : Int32) (mto : Int32) (msort : Int32) (misFault : Int32) (mdeep : Int32) (mcoded : Int32) (mlines : Int32) (nl : Nat) (nc : Nat) (nF : Nat) (np : Nat) (ntr : Nat) (nb : Nat) (mbestCost : Int32) (nso : Nat) (nsi : Nat) (nit : Nat) (nsh : Nat) (nsf : Nat) (nss : Nat) (nrc : Nat) (jr : Nat) (jd : Nat) (mnumber : Int32) (mwhose : Int32) (msize : Int32) (misParted : Int32) (fnrc : Nat → Int32) : Prop := MI l G yX12_bodyFrom cX12_bodyFrom 5 (some .int) 40 0 0 [.ref h0, .int 0, .int 3, .int xx] [(h0, oX12 nw nk mhasKept nt mtaped nr mrowMany mroundOf mroundFrom mouts nm mfromHour mtoHour ns mfrom mto msort misFault mdeep mcoded mlines nl nc nF np ntr nb mbestCost nso nsi nit nsh nsf nss nrc (nI jr) (nI jd) mnumber mwhose msize misParted), (nrc, iA G 30 fnrc)] (fun (r : Int32) (u : Nat × Int32 × (Nat → Int32)) => (True) ∧ (u.1 ≤ 30)) (fun u : Nat × Int32 × (Nat → Int32) => [(h0, oX12 nw nk mhasKept nt mtaped nr mrowMany mroundOf mroundFrom mouts nm mfromHour mtoHour ns mfrom mto msort misFault mdeep mcoded mlines nl nc nF np ntr nb mbestCost nso nsi nit nsh nsf nss nrc (nI u.1) (nI jd) mnumber mwhose msize u.2.1), (nrc, iA G 30 u.2.2)])
set_option maxHeartbeats 4000000 in
set_option maxRecDepth 100000 in
theorem m_from03 (l : Launch) (G : GG) (h0 : Nat) (xx : Int32) (nw : Nat) (nk : Nat) (mhasKept : Int32) (nt : Nat) (mtaped : Int32) (nr : Nat) (mrowMany : Int32) (mroundOf : Int32) (mroundFrom : Int32) (mouts : Int32) (nm : Nat) (mfromHour : Int32) (mtoHour : Int32) (ns : Nat) (mfrom : Int32) (mto : Int32) (msort : Int32) (misFault : Int32) (mdeep : Int32) (mcoded : Int32) (mlines : Int32) (nl : Nat) (nc : Nat) (nF : Nat) (np : Nat) (ntr : Nat) (nb : Nat) (mbestCost : Int32) (nso : Nat) (nsi : Nat) (nit : Nat) (nsh : Nat) (nsf : Nat) (nss : Nat) (nrc : Nat) (jr : Nat) (jd : Nat) (mnumber : Int32) (mwhose : Int32) (msize : Int32) (misParted : Int32) (fnrc : Nat → Int32) (hjr : jr ≤ 30) (hjd : jd < 7) : K_m_from03 l G h0 xx nw nk mhasKept nt mtaped nr mrowMany mroundOf mroundFrom mouts nm mfromHour mtoHour ns mfrom mto msort misFault mdeep mcoded mlines nl nc nF np ntr nb mbestCost nso nsi nit nsh nsf nss nrc jr jd mnumber mwhose msize misParted fnrc := by
  refine MI.start (by decide +kernel) (Nat.le_of_ble_eq_true rfl) ?_
  intro p e s m below meth c A ls hC hK hP hD hS hA hl
  refine absQ (fun Q0 hQ0 => ?_)
  have hl : lv_has ls 5 [(0, .ref h0), (1, .int 0), (2, .int 3), (3, .int xx)] := hl
  refine Kan8 hC (fun hx hb hr hml hB hown hlocks hnm => ?_)
  refine lv_iload_n hx hb gX12_bodyFrom_0.1 rfl (lv_at1 hl) ?_
  refine lv_istore (lv' := [(4, .int 0), (0, .ref h0), (1, .int 0), (2, .int 3), (3, .int xx)]) hx hb gX12_bodyFrom_0.2.1 hl (by decide) rfl (fun ls hl => ?_)
  refine lv_iload hx hb gX12_bodyFrom_0.2.2.1 (lv_at0 hl) ?_
  refine lv_iload_n hx hb gX12_bodyFrom_0.2.2.2.1 rfl (lv_at3 hl) ?_
  refine pS hC hK hl (m_hasOwn03 l G) si_X12_360 rfl rfl (Nat.le_of_ble_eq_true rfl) rm_40_1_2 ⟨by first | exact Nat.le_of_ble_eq_true rfl | exact Nat.zero_le _, by first | exact Nat.le_of_ble_eq_true rfl | exact Nat.zero_le _⟩ gX12_bodyFrom_0.2.2.2.2.1 (Keqr ?_)
  refine lv_if_ne (tgt := 22) hx hb gX12_bodyFrom_0.2.2.2.2.2.1 (by decide) (fun _ => ?_) (fun c9 => absurd c9 (by decide))
  refine lv_aload_n hx hb gX12_bodyFrom_1.1 rfl (lv_at1 hl) ?_
  refine lv_iload hx hb gX12_bodyFrom_1.2.1 (lv_at0 hl) ?_
  refine lv_iload_n hx hb gX12_bodyFrom_1.2.2.1 rfl (lv_at3 hl) ?_
  refine lv_iload_n hx hb gX12_bodyFrom_1.2.2.2.1 rfl (lv_at4 hl) ?_
  refine iV (wr := []) hC hK hl hP hD hS hA (m_body03 l G h0 xx nw nk mhasKept nt mtaped nr mrowMany mroundOf mroundFrom mouts nm mfromHour mtoHour ns mfrom mto msort misFault mdeep mcoded mlines nl nc nF np ntr nb mbestCost nso nsi nit nsh nsf nss nrc jr jd mnumber mwhose msize misParted fnrc (hjr) (hjd)) si_X12_363 [0, 1] [] sm_0_1 fm_0_1 nd_0_1 rfl rfl (by decide) rfl rfl rfl rfl rfl (Nat.le_of_ble_eq_true rfl) rm_40_39_6 ⟨Nat.le_of_ble_eq_true rfl, Nat.le_of_ble_eq_true rfl⟩ gX12_bodyFrom_1.2.2.2.2.1 (fun r6452 => Ktu3 fun jr16454 ip16455 gtrc6456 => ?_)
  intro H locs hr6452 hP hD hS
  try dsimp only at hr6452
  refine Kpdr (ws := [(h0, oX12 nw nk mhasKept nt mtaped nr mrowMany mroundOf mroundFrom mouts nm mfromHour mtoHour ns mfrom mto msort misFault mdeep mcoded mlines nl nc nF np ntr nb mbestCost nso nsi nit nsh nsf nss nrc (nI jr16454) (nI jd) mnumber mwhose msize ip16455), (nrc, iA G 30 gtrc6456)]) hP hD (fun hP hD => ?_)
  obtain ⟨hr6452, w6457⟩ := hr6452
  refine toQ hQ0 ?_
  exact RI (v := r6452) hC hP hD hS [0, 1] (jr16454, ip16455, gtrc6456) rfl rfl (by decide) (⟨trivial, by omega⟩) rfl gX12_bodyFrom_1.2.2.2.2.2
def K_m_from13 (l : Launch) (G : GG) (h0 : Nat) (xx : Int32) (nw : Nat) (nk : Nat) (mhasKept : Int32) (nt : Nat) (mtaped : Int32) (nr : Nat) (mrowMany : Int32) (mroundOf : Int32) (mroundFrom : Int32) (mouts : Int32) (nm : Nat) (mfromHour : Int32) (mtoHour : Int32) (ns : Nat) (mfrom : Int32) (mto : Int32) (msort : Int32) (misFault : Int32) (mdeep : Int32) (mcoded : Int32) (mlines : Int32) (nl : Nat) (nc : Nat) (nF : Nat) (np : Nat) (ntr : Nat) (nb : Nat) (mbestCost : Int32) (nso : Nat) (nsi : Nat) (nit : Nat) (nsh : Nat) (nsf : Nat) (nss : Nat) (nrc : Nat) (jr : Nat) (jd : Nat) (mnumber : Int32) (mwhose : Int32) (msize : Int32) (misParted : Int32) (fnrc : Nat → Int32) : Prop := MI l G yX12_bodyFrom cX12_bodyFrom 5 (some .int) 42 0 0 [.ref h0, .int 1, .int 3, .int xx] [(h0, oX12 nw nk mhasKept nt mtaped nr mrowMany mroundOf mroundFrom mouts nm mfromHour mtoHour ns mfrom mto msort misFault mdeep mcoded mlines nl nc nF np ntr nb mbestCost nso nsi nit nsh nsf nss nrc (nI jr) (nI jd) mnumber mwhose msize misParted), (nrc, iA G 30 fnrc)] (fun (r : Int32) (u : Nat × Int32 × (Nat → Int32)) => (True) ∧ (u.1 ≤ 30)) (fun u : Nat × Int32 × (Nat → Int32) => [(h0, oX12 nw nk mhasKept nt mtaped nr mrowMany mroundOf mroundFrom mouts nm mfromHour mtoHour ns mfrom mto msort misFault mdeep mcoded mlines nl nc nF np ntr nb mbestCost nso nsi nit nsh nsf nss nrc (nI u.1) (nI jd) mnumber mwhose msize u.2.1), (nrc, iA G 30 u.2.2)])
set_option maxHeartbeats 4000000 in
set_option maxRecDepth 100000 in
theorem m_from13 (l : Launch) (G : GG) (h0 : Nat) (xx : Int32) (nw : Nat) (nk : Nat) (mhasKept : Int32) (nt : Nat) (mtaped : Int32) (nr : Nat) (mrowMany : Int32) (mroundOf : Int32) (mroundFrom : Int32) (mouts : Int32) (nm : Nat) (mfromHour : Int32) (mtoHour : Int32) (ns : Nat) (mfrom : Int32) (mto : Int32) (msort : Int32) (misFault : Int32) (mdeep : Int32) (mcoded : Int32) (mlines : Int32) (nl : Nat) (nc : Nat) (nF : Nat) (np : Nat) (ntr : Nat) (nb : Nat) (mbestCost : Int32) (nso : Nat) (nsi : Nat) (nit : Nat) (nsh : Nat) (nsf : Nat) (nss : Nat) (nrc : Nat) (jr : Nat) (jd : Nat) (mnumber : Int32) (mwhose : Int32) (msize : Int32) (misParted : Int32) (fnrc : Nat → Int32) (hjr : jr ≤ 30) (hjd : jd < 7) : K_m_from13 l G h0 xx nw nk mhasKept nt mtaped nr mrowMany mroundOf mroundFrom mouts nm mfromHour mtoHour ns mfrom mto msort misFault mdeep mcoded mlines nl nc nF np ntr nb mbestCost nso nsi nit nsh nsf nss nrc jr jd mnumber mwhose msize misParted fnrc := by
  refine MI.start (by decide +kernel) (Nat.le_of_ble_eq_true rfl) ?_
  intro p e s m below meth c A ls hC hK hP hD hS hA hl
  refine absQ (fun Q0 hQ0 => ?_)
  have hl : lv_has ls 5 [(0, .ref h0), (1, .int 1), (2, .int 3), (3, .int xx)] := hl
  refine Kan8 hC (fun hx hb hr hml hB hown hlocks hnm => ?_)
  refine lv_iload_n hx hb gX12_bodyFrom_0.1 rfl (lv_at1 hl) ?_
  refine lv_istore (lv' := [(4, .int 1), (0, .ref h0), (1, .int 1), (2, .int 3), (3, .int xx)]) hx hb gX12_bodyFrom_0.2.1 hl (by decide) rfl (fun ls hl => ?_)
  refine lv_iload hx hb gX12_bodyFrom_0.2.2.1 (lv_at0 hl) ?_
  refine lv_iload_n hx hb gX12_bodyFrom_0.2.2.2.1 rfl (lv_at3 hl) ?_
  refine pS hC hK hl (m_hasOwn13 l G) si_X12_360 rfl rfl (Nat.le_of_ble_eq_true rfl) rm_42_1_2 ⟨by first | exact Nat.le_of_ble_eq_true rfl | exact Nat.zero_le _, by first | exact Nat.le_of_ble_eq_true rfl | exact Nat.zero_le _⟩ gX12_bodyFrom_0.2.2.2.2.1 (Keqr ?_)
  refine lv_if_ne (tgt := 22) hx hb gX12_bodyFrom_0.2.2.2.2.2.1 (by decide) (fun c9 => absurd (by decide) c9) (fun _ => ?_)
  refine lv_iload hx hb gX12_bodyFrom_0.2.2.2.2.2.2.1 (lv_at0 hl) ?_
  refine pS hC hK hl (m_above1 l G) si_X12_348 rfl rfl (Nat.le_of_ble_eq_true rfl) rm_42_1_1 ⟨by first | exact Nat.le_of_ble_eq_true rfl | exact Nat.zero_le _, by first | exact Nat.le_of_ble_eq_true rfl | exact Nat.zero_le _⟩ gX12_bodyFrom_0.2.2.2.2.2.2.2.1 (Keqr ?_)
  refine lv_istore (lv' := [(4, .int 0), (0, .ref h0), (1, .int 1), (2, .int 3), (3, .int xx)]) hx hb gX12_bodyFrom_0.2.2.2.2.2.2.2.2.1 hl (by decide) rfl (fun ls hl => ?_)
  refine lv_goto (tgt := 3) hx hb gX12_bodyFrom_0.2.2.2.2.2.2.2.2.2 (by decide) ?_
  refine lv_iload hx hb gX12_bodyFrom_0.2.2.1 (lv_at0 hl) ?_
  refine lv_iload_n hx hb gX12_bodyFrom_0.2.2.2.1 rfl (lv_at3 hl) ?_
  refine pS hC hK hl (m_hasOwn03 l G) si_X12_360 rfl rfl (Nat.le_of_ble_eq_true rfl) rm_42_1_2 ⟨by first | exact Nat.le_of_ble_eq_true rfl | exact Nat.zero_le _, by first | exact Nat.le_of_ble_eq_true rfl | exact Nat.zero_le _⟩ gX12_bodyFrom_0.2.2.2.2.1 (Keqr ?_)
  refine lv_if_ne (tgt := 22) hx hb gX12_bodyFrom_0.2.2.2.2.2.1 (by decide) (fun _ => ?_) (fun c9 => absurd c9 (by decide))
  refine lv_aload_n hx hb gX12_bodyFrom_1.1 rfl (lv_at1 hl) ?_
  refine lv_iload hx hb gX12_bodyFrom_1.2.1 (lv_at0 hl) ?_
  refine lv_iload_n hx hb gX12_bodyFrom_1.2.2.1 rfl (lv_at3 hl) ?_
  refine lv_iload_n hx hb gX12_bodyFrom_1.2.2.2.1 rfl (lv_at4 hl) ?_
  refine iV (wr := []) hC hK hl hP hD hS hA (m_body03 l G h0 xx nw nk mhasKept nt mtaped nr mrowMany mroundOf mroundFrom mouts nm mfromHour mtoHour ns mfrom mto msort misFault mdeep mcoded mlines nl nc nF np ntr nb mbestCost nso nsi nit nsh nsf nss nrc jr jd mnumber mwhose msize misParted fnrc (hjr) (hjd)) si_X12_363 [0, 1] [] sm_0_1 fm_0_1 nd_0_1 rfl rfl (by decide) rfl rfl rfl rfl rfl (Nat.le_of_ble_eq_true rfl) rm_42_39_6 ⟨Nat.le_of_ble_eq_true rfl, Nat.le_of_ble_eq_true rfl⟩ gX12_bodyFrom_1.2.2.2.2.1 (fun r6464 => Ktu3 fun jr16466 ip16467 gtrc6468 => ?_)
  intro H locs hr6464 hP hD hS
  try dsimp only at hr6464
  refine Kpdr (ws := [(h0, oX12 nw nk mhasKept nt mtaped nr mrowMany mroundOf mroundFrom mouts nm mfromHour mtoHour ns mfrom mto msort misFault mdeep mcoded mlines nl nc nF np ntr nb mbestCost nso nsi nit nsh nsf nss nrc (nI jr16466) (nI jd) mnumber mwhose msize ip16467), (nrc, iA G 30 gtrc6468)]) hP hD (fun hP hD => ?_)
  obtain ⟨hr6464, w6469⟩ := hr6464
  refine toQ hQ0 ?_
  exact RI (v := r6464) hC hP hD hS [0, 1] (jr16466, ip16467, gtrc6468) rfl rfl (by decide) (⟨trivial, by omega⟩) rfl gX12_bodyFrom_1.2.2.2.2.2
def K_m_body33 (l : Launch) (G : GG) (h0 : Nat) (xx : Int32) (nw : Nat) (nk : Nat) (mhasKept : Int32) (nt : Nat) (mtaped : Int32) (nr : Nat) (mrowMany : Int32) (mroundOf : Int32) (mroundFrom : Int32) (mouts : Int32) (nm : Nat) (mfromHour : Int32) (mtoHour : Int32) (ns : Nat) (mfrom : Int32) (mto : Int32) (msort : Int32) (misFault : Int32) (mdeep : Int32) (mcoded : Int32) (mlines : Int32) (nl : Nat) (nc : Nat) (nF : Nat) (np : Nat) (ntr : Nat) (nb : Nat) (mbestCost : Int32) (nso : Nat) (nsi : Nat) (nit : Nat) (nsh : Nat) (nsf : Nat) (nss : Nat) (nrc : Nat) (jr : Nat) (jd : Nat) (mnumber : Int32) (mwhose : Int32) (msize : Int32) (misParted : Int32) (fnrc : Nat → Int32) : Prop := MI l G yX12_body cX12_body 6 (some .int) 43 0 0 [.ref h0, .int 3, .int 3, .int xx] [(h0, oX12 nw nk mhasKept nt mtaped nr mrowMany mroundOf mroundFrom mouts nm mfromHour mtoHour ns mfrom mto msort misFault mdeep mcoded mlines nl nc nF np ntr nb mbestCost nso nsi nit nsh nsf nss nrc (nI jr) (nI jd) mnumber mwhose msize misParted), (nrc, iA G 30 fnrc)] (fun (r : Int32) (u : Nat × Int32 × (Nat → Int32)) => (True) ∧ (u.1 ≤ 30)) (fun u : Nat × Int32 × (Nat → Int32) => [(h0, oX12 nw nk mhasKept nt mtaped nr mrowMany mroundOf mroundFrom mouts nm mfromHour mtoHour ns mfrom mto msort misFault mdeep mcoded mlines nl nc nF np ntr nb mbestCost nso nsi nit nsh nsf nss nrc (nI u.1) (nI jd) mnumber mwhose msize u.2.1), (nrc, iA G 30 u.2.2)])
set_option maxHeartbeats 4000000 in
set_option maxRecDepth 100000 in
theorem m_body33 (l : Launch) (G : GG) (h0 : Nat) (xx : Int32) (nw : Nat) (nk : Nat) (mhasKept : Int32) (nt : Nat) (mtaped : Int32) (nr : Nat) (mrowMany : Int32) (mroundOf : Int32) (mroundFrom : Int32) (mouts : Int32) (nm : Nat) (mfromHour : Int32) (mtoHour : Int32) (ns : Nat) (mfrom : Int32) (mto : Int32) (msort : Int32) (misFault : Int32) (mdeep : Int32) (mcoded : Int32) (mlines : Int32) (nl : Nat) (nc : Nat) (nF : Nat) (np : Nat) (ntr : Nat) (nb : Nat) (mbestCost : Int32) (nso : Nat) (nsi : Nat) (nit : Nat) (nsh : Nat) (nsf : Nat) (nss : Nat) (nrc : Nat) (jr : Nat) (jd : Nat) (mnumber : Int32) (mwhose : Int32) (msize : Int32) (misParted : Int32) (fnrc : Nat → Int32) (hjr : jr ≤ 30) (hjd : jd < 7) : K_m_body33 l G h0 xx nw nk mhasKept nt mtaped nr mrowMany mroundOf mroundFrom mouts nm mfromHour mtoHour ns mfrom mto msort misFault mdeep mcoded mlines nl nc nF np ntr nb mbestCost nso nsi nit nsh nsf nss nrc jr jd mnumber mwhose msize misParted fnrc := by
  refine MI.start (by decide +kernel) (Nat.le_of_ble_eq_true rfl) ?_
  intro p e s m below meth c A ls hC hK hP hD hS hA hl
  refine absQ (fun Q0 hQ0 => ?_)
  have hl : lv_has ls 6 [(0, .ref h0), (1, .int 3), (2, .int 3), (3, .int xx)] := hl
  refine Kan8 hC (fun hx hb hr hml hB hown hlocks hnm => ?_)
  refine lv_iconst (v := 4) hx hb gX12_body_0.1 (by decide) ?_
  refine lv_iload_n hx hb gX12_body_0.2.1 rfl (lv_at1 hl) ?_
  refine lv_imul hx hb gX12_body_0.2.2.1 ?_
  refine eqi (x1 := 12) (by decide) ?_
  refine lv_iload_n hx hb gX12_body_0.2.2.2.1 rfl (lv_at2 hl) ?_
  refine lv_iadd hx hb gX12_body_0.2.2.2.2.1 ?_
  refine eqi (x1 := 15) (by decide) ?_
  refine lv_tableIn (tgt := 258) hx hb gX12_body_0.2.2.2.2.2.1 (by decide) (by decide) rfl (by decide) ?_
  refine lv_aload_n hx hb gX12_body_9.2.2.2.2.2.1 rfl (lv_at0 hl) ?_
  refine lv_bipush (v := 41) hx hb gX12_body_9.2.2.2.2.2.2.1 (by decide) ?_
  refine vV (wr := []) hC hK hl hP hD hS hA (m_began l G h0 41 nw nk mhasKept nt mtaped nr mrowMany mroundOf mroundFrom mouts nm mfromHour mtoHour ns mfrom mto msort misFault mdeep mcoded mlines nl nc nF np ntr nb mbestCost nso nsi nit nsh nsf nss nrc jr (nI jd) mnumber mwhose msize misParted fnrc (hjr)) si_X12_366 [0, 1] [] sm_0_1 fm_0_1 nd_0_1 rfl rfl (by decide) rfl rfl rfl rfl rfl (Nat.le_of_ble_eq_true rfl) rm_43_1_2 ⟨Nat.le_of_ble_eq_true rfl, Nat.le_of_ble_eq_true rfl⟩ gX12_body_9.2.2.2.2.2.2.2.1 (Ktu2 fun jr16472 gtrc6473 => ?_)
  intro H locs hr6470 hP hD hS
  try dsimp only at hr6470
  refine Kpdr (ws := [(h0, oX12 nw nk mhasKept nt mtaped nr mrowMany mroundOf mroundFrom mouts nm mfromHour mtoHour ns mfrom mto msort misFault mdeep mcoded mlines nl nc nF np ntr nb mbestCost nso nsi nit nsh nsf nss nrc (nI jr16472) (nI jd) mnumber mwhose msize misParted), (nrc, iA G 30 gtrc6473)]) hP hD (fun hP hD => ?_)
  have w6474 := hr6470
  refine lv_aload_n hx hb gX12_body_9.2.2.2.2.2.2.2.2.1 rfl (lv_at0 hl) ?_
  refine lv_iconst (v := 1) hx hb gX12_body_9.2.2.2.2.2.2.2.2.2 (by decide) ?_
  refine lv_iconst (v := 3) hx hb gX12_body_10.1 (by decide) ?_
  refine lv_iload_n hx hb gX12_body_10.2.1 rfl (lv_at3 hl) ?_
  refine lv_iconst (v := 2) hx hb gX12_body_10.2.2.1 (by decide) ?_
  refine lv_iadd hx hb gX12_body_10.2.2.2.1 ?_
  refine iV (wr := []) hC hK hl hP hD hS hA (m_from13 l G h0 (xx + 2) nw nk mhasKept nt mtaped nr mrowMany mroundOf mroundFrom mouts nm mfromHour mtoHour ns mfrom mto msort misFault mdeep mcoded mlines nl nc nF np ntr nb mbestCost nso nsi nit nsh nsf nss nrc jr16472 jd mnumber mwhose msize misParted gtrc6473 (w6474) (hjd)) si_X12_357 [0, 1] [] sm_0_1 fm_0_1 nd_0_1 rfl rfl (by decide) rfl rfl rfl rfl rfl (Nat.le_of_ble_eq_true rfl) rm_43_42_5 ⟨Nat.le_of_ble_eq_true rfl, Nat.le_of_ble_eq_true rfl⟩ gX12_body_10.2.2.2.2.1 (fun r6475 => Ktu3 fun jr16477 ip16478 gtrc6479 => ?_)
  intro H locs hr6475 hP hD hS
  try dsimp only at hr6475
  refine Kpdr (ws := [(h0, oX12 nw nk mhasKept nt mtaped nr mrowMany mroundOf mroundFrom mouts nm mfromHour mtoHour ns mfrom mto msort misFault mdeep mcoded mlines nl nc nF np ntr nb mbestCost nso nsi nit nsh nsf nss nrc (nI jr16477) (nI jd) mnumber mwhose msize ip16478), (nrc, iA G 30 gtrc6479)]) hP hD (fun hP hD => ?_)
  obtain ⟨hr6475, w6480⟩ := hr6475
  refine toQ hQ0 ?_
  exact RI (v := r6475) hC hP hD hS [0, 1] (jr16477, ip16478, gtrc6479) rfl rfl (by decide) (⟨trivial, by omega⟩) rfl gX12_body_10.2.2.2.2.2.1
def K_m_from33 (l : Launch) (G : GG) (h0 : Nat) (xx : Int32) (nw : Nat) (nk : Nat) (mhasKept : Int32) (nt : Nat) (mtaped : Int32) (nr : Nat) (mrowMany : Int32) (mroundOf : Int32) (mroundFrom : Int32) (mouts : Int32) (nm : Nat) (mfromHour : Int32) (mtoHour : Int32) (ns : Nat) (mfrom : Int32) (mto : Int32) (msort : Int32) (misFault : Int32) (mdeep : Int32) (mcoded : Int32) (mlines : Int32) (nl : Nat) (nc : Nat) (nF : Nat) (np : Nat) (ntr : Nat) (nb : Nat) (mbestCost : Int32) (nso : Nat) (nsi : Nat) (nit : Nat) (nsh : Nat) (nsf : Nat) (nss : Nat) (nrc : Nat) (jr : Nat) (jd : Nat) (mnumber : Int32) (mwhose : Int32) (msize : Int32) (misParted : Int32) (fnrc : Nat → Int32) : Prop := MI l G yX12_bodyFrom cX12_bodyFrom 5 (some .int) 44 0 0 [.ref h0, .int 3, .int 3, .int xx] [(h0, oX12 nw nk mhasKept nt mtaped nr mrowMany mroundOf mroundFrom mouts nm mfromHour mtoHour ns mfrom mto msort misFault mdeep mcoded mlines nl nc nF np ntr nb mbestCost nso nsi nit nsh nsf nss nrc (nI jr) (nI jd) mnumber mwhose msize misParted), (nrc, iA G 30 fnrc)] (fun (r : Int32) (u : Nat × Int32 × (Nat → Int32)) => (True) ∧ (u.1 ≤ 30)) (fun u : Nat × Int32 × (Nat → Int32) => [(h0, oX12 nw nk mhasKept nt mtaped nr mrowMany mroundOf mroundFrom mouts nm mfromHour mtoHour ns mfrom mto msort misFault mdeep mcoded mlines nl nc nF np ntr nb mbestCost nso nsi nit nsh nsf nss nrc (nI u.1) (nI jd) mnumber mwhose msize u.2.1), (nrc, iA G 30 u.2.2)])
set_option maxHeartbeats 4000000 in
set_option maxRecDepth 100000 in
theorem m_from33 (l : Launch) (G : GG) (h0 : Nat) (xx : Int32) (nw : Nat) (nk : Nat) (mhasKept : Int32) (nt : Nat) (mtaped : Int32) (nr : Nat) (mrowMany : Int32) (mroundOf : Int32) (mroundFrom : Int32) (mouts : Int32) (nm : Nat) (mfromHour : Int32) (mtoHour : Int32) (ns : Nat) (mfrom : Int32) (mto : Int32) (msort : Int32) (misFault : Int32) (mdeep : Int32) (mcoded : Int32) (mlines : Int32) (nl : Nat) (nc : Nat) (nF : Nat) (np : Nat) (ntr : Nat) (nb : Nat) (mbestCost : Int32) (nso : Nat) (nsi : Nat) (nit : Nat) (nsh : Nat) (nsf : Nat) (nss : Nat) (nrc : Nat) (jr : Nat) (jd : Nat) (mnumber : Int32) (mwhose : Int32) (msize : Int32) (misParted : Int32) (fnrc : Nat → Int32) (hjr : jr ≤ 30) (hjd : jd < 7) : K_m_from33 l G h0 xx nw nk mhasKept nt mtaped nr mrowMany mroundOf mroundFrom mouts nm mfromHour mtoHour ns mfrom mto msort misFault mdeep mcoded mlines nl nc nF np ntr nb mbestCost nso nsi nit nsh nsf nss nrc jr jd mnumber mwhose msize misParted fnrc := by
  refine MI.start (by decide +kernel) (Nat.le_of_ble_eq_true rfl) ?_
  intro p e s m below meth c A ls hC hK hP hD hS hA hl
  refine absQ (fun Q0 hQ0 => ?_)
  have hl : lv_has ls 5 [(0, .ref h0), (1, .int 3), (2, .int 3), (3, .int xx)] := hl
  refine Kan8 hC (fun hx hb hr hml hB hown hlocks hnm => ?_)
  refine lv_iload_n hx hb gX12_bodyFrom_0.1 rfl (lv_at1 hl) ?_
  refine lv_istore (lv' := [(4, .int 3), (0, .ref h0), (1, .int 3), (2, .int 3), (3, .int xx)]) hx hb gX12_bodyFrom_0.2.1 hl (by decide) rfl (fun ls hl => ?_)
  refine lv_iload hx hb gX12_bodyFrom_0.2.2.1 (lv_at0 hl) ?_
  refine lv_iload_n hx hb gX12_bodyFrom_0.2.2.2.1 rfl (lv_at3 hl) ?_
  refine pS hC hK hl (m_hasOwn33 l G) si_X12_360 rfl rfl (Nat.le_of_ble_eq_true rfl) rm_44_1_2 ⟨by first | exact Nat.le_of_ble_eq_true rfl | exact Nat.zero_le _, by first | exact Nat.le_of_ble_eq_true rfl | exact Nat.zero_le _⟩ gX12_bodyFrom_0.2.2.2.2.1 (Keqr ?_)
  refine lv_if_ne (tgt := 22) hx hb gX12_bodyFrom_0.2.2.2.2.2.1 (by decide) (fun _ => ?_) (fun c9 => absurd c9 (by decide))
  refine lv_aload_n hx hb gX12_bodyFrom_1.1 rfl (lv_at1 hl) ?_
  refine lv_iload hx hb gX12_bodyFrom_1.2.1 (lv_at0 hl) ?_
  refine lv_iload_n hx hb gX12_bodyFrom_1.2.2.1 rfl (lv_at3 hl) ?_
  refine lv_iload_n hx hb gX12_bodyFrom_1.2.2.2.1 rfl (lv_at4 hl) ?_
  refine iV (wr := []) hC hK hl hP hD hS hA (m_body33 l G h0 xx nw nk mhasKept nt mtaped nr mrowMany mroundOf mroundFrom mouts nm mfromHour mtoHour ns mfrom mto msort misFault mdeep mcoded mlines nl nc nF np ntr nb mbestCost nso nsi nit nsh nsf nss nrc jr jd mnumber mwhose msize misParted fnrc (hjr) (hjd)) si_X12_363 [0, 1] [] sm_0_1 fm_0_1 nd_0_1 rfl rfl (by decide) rfl rfl rfl rfl rfl (Nat.le_of_ble_eq_true rfl) rm_44_43_6 ⟨Nat.le_of_ble_eq_true rfl, Nat.le_of_ble_eq_true rfl⟩ gX12_bodyFrom_1.2.2.2.2.1 (fun r6483 => Ktu3 fun jr16485 ip16486 gtrc6487 => ?_)
  intro H locs hr6483 hP hD hS
  try dsimp only at hr6483
  refine Kpdr (ws := [(h0, oX12 nw nk mhasKept nt mtaped nr mrowMany mroundOf mroundFrom mouts nm mfromHour mtoHour ns mfrom mto msort misFault mdeep mcoded mlines nl nc nF np ntr nb mbestCost nso nsi nit nsh nsf nss nrc (nI jr16485) (nI jd) mnumber mwhose msize ip16486), (nrc, iA G 30 gtrc6487)]) hP hD (fun hP hD => ?_)
  obtain ⟨hr6483, w6488⟩ := hr6483
  refine toQ hQ0 ?_
  exact RI (v := r6483) hC hP hD hS [0, 1] (jr16485, ip16486, gtrc6487) rfl rfl (by decide) (⟨trivial, by omega⟩) rfl gX12_bodyFrom_1.2.2.2.2.2
def K_m_body63 (l : Launch) (G : GG) (h0 : Nat) (xx : Int32) (nw : Nat) (nk : Nat) (mhasKept : Int32) (nt : Nat) (mtaped : Int32) (nr : Nat) (mrowMany : Int32) (mroundOf : Int32) (mroundFrom : Int32) (mouts : Int32) (nm : Nat) (mfromHour : Int32) (mtoHour : Int32) (ns : Nat) (mfrom : Int32) (mto : Int32) (msort : Int32) (misFault : Int32) (mdeep : Int32) (mcoded : Int32) (mlines : Int32) (nl : Nat) (nc : Nat) (nF : Nat) (np : Nat) (ntr : Nat) (nb : Nat) (mbestCost : Int32) (nso : Nat) (nsi : Nat) (nit : Nat) (nsh : Nat) (nsf : Nat) (nss : Nat) (nrc : Nat) (jr : Nat) (jd : Nat) (mnumber : Int32) (mwhose : Int32) (msize : Int32) (misParted : Int32) (fnrc : Nat → Int32) : Prop := MI l G yX12_body cX12_body 6 (some .int) 45 0 0 [.ref h0, .int 6, .int 3, .int xx] [(h0, oX12 nw nk mhasKept nt mtaped nr mrowMany mroundOf mroundFrom mouts nm mfromHour mtoHour ns mfrom mto msort misFault mdeep mcoded mlines nl nc nF np ntr nb mbestCost nso nsi nit nsh nsf nss nrc (nI jr) (nI jd) mnumber mwhose msize misParted), (nrc, iA G 30 fnrc)] (fun (r : Int32) (u : Nat × Int32 × (Nat → Int32)) => (True) ∧ (u.1 ≤ 30)) (fun u : Nat × Int32 × (Nat → Int32) => [(h0, oX12 nw nk mhasKept nt mtaped nr mrowMany mroundOf mroundFrom mouts nm mfromHour mtoHour ns mfrom mto msort misFault mdeep mcoded mlines nl nc nF np ntr nb mbestCost nso nsi nit nsh nsf nss nrc (nI u.1) (nI jd) mnumber mwhose msize u.2.1), (nrc, iA G 30 u.2.2)])
set_option maxHeartbeats 4000000 in
set_option maxRecDepth 100000 in
theorem m_body63 (l : Launch) (G : GG) (h0 : Nat) (xx : Int32) (nw : Nat) (nk : Nat) (mhasKept : Int32) (nt : Nat) (mtaped : Int32) (nr : Nat) (mrowMany : Int32) (mroundOf : Int32) (mroundFrom : Int32) (mouts : Int32) (nm : Nat) (mfromHour : Int32) (mtoHour : Int32) (ns : Nat) (mfrom : Int32) (mto : Int32) (msort : Int32) (misFault : Int32) (mdeep : Int32) (mcoded : Int32) (mlines : Int32) (nl : Nat) (nc : Nat) (nF : Nat) (np : Nat) (ntr : Nat) (nb : Nat) (mbestCost : Int32) (nso : Nat) (nsi : Nat) (nit : Nat) (nsh : Nat) (nsf : Nat) (nss : Nat) (nrc : Nat) (jr : Nat) (jd : Nat) (mnumber : Int32) (mwhose : Int32) (msize : Int32) (misParted : Int32) (fnrc : Nat → Int32) (hjr : jr ≤ 30) (hjd : jd < 7) : K_m_body63 l G h0 xx nw nk mhasKept nt mtaped nr mrowMany mroundOf mroundFrom mouts nm mfromHour mtoHour ns mfrom mto msort misFault mdeep mcoded mlines nl nc nF np ntr nb mbestCost nso nsi nit nsh nsf nss nrc jr jd mnumber mwhose msize misParted fnrc := by
  refine MI.start (by decide +kernel) (Nat.le_of_ble_eq_true rfl) ?_
  intro p e s m below meth c A ls hC hK hP hD hS hA hl
  refine absQ (fun Q0 hQ0 => ?_)
  have hl : lv_has ls 6 [(0, .ref h0), (1, .int 6), (2, .int 3), (3, .int xx)] := hl
  refine Kan8 hC (fun hx hb hr hml hB hown hlocks hnm => ?_)
  refine lv_iconst (v := 4) hx hb gX12_body_0.1 (by decide) ?_
  refine lv_iload_n hx hb gX12_body_0.2.1 rfl (lv_at1 hl) ?_
  refine lv_imul hx hb gX12_body_0.2.2.1 ?_
  refine eqi (x1 := 24) (by decide) ?_
  refine lv_iload_n hx hb gX12_body_0.2.2.2.1 rfl (lv_at2 hl) ?_
  refine lv_iadd hx hb gX12_body_0.2.2.2.2.1 ?_
  refine eqi (x1 := 27) (by decide) ?_
  refine lv_tableOut (tgt := 353) hx hb gX12_body_0.2.2.2.2.2.1 (by decide) (by decide) ?_
  refine lv_aload_n hx hb gX12_body_15.2.2.2.2.2.2.2.1 rfl (lv_at0 hl) ?_
  refine lv_bipush (v := 70) hx hb gX12_body_15.2.2.2.2.2.2.2.2.1 (by decide) ?_
  refine vV (wr := []) hC hK hl hP hD hS hA (m_began l G h0 70 nw nk mhasKept nt mtaped nr mrowMany mroundOf mroundFrom mouts nm mfromHour mtoHour ns mfrom mto msort misFault mdeep mcoded mlines nl nc nF np ntr nb mbestCost nso nsi nit nsh nsf nss nrc jr (nI jd) mnumber mwhose msize misParted fnrc (hjr)) si_X12_366 [0, 1] [] sm_0_1 fm_0_1 nd_0_1 rfl rfl (by decide) rfl rfl rfl rfl rfl (Nat.le_of_ble_eq_true rfl) rm_45_1_2 ⟨Nat.le_of_ble_eq_true rfl, Nat.le_of_ble_eq_true rfl⟩ gX12_body_15.2.2.2.2.2.2.2.2.2 (Ktu2 fun jr16491 gtrc6492 => ?_)
  intro H locs hr6489 hP hD hS
  try dsimp only at hr6489
  refine Kpdr (ws := [(h0, oX12 nw nk mhasKept nt mtaped nr mrowMany mroundOf mroundFrom mouts nm mfromHour mtoHour ns mfrom mto msort misFault mdeep mcoded mlines nl nc nF np ntr nb mbestCost nso nsi nit nsh nsf nss nrc (nI jr16491) (nI jd) mnumber mwhose msize misParted), (nrc, iA G 30 gtrc6492)]) hP hD (fun hP hD => ?_)
  have w6493 := hr6489
  refine lv_aload_n hx hb gX12_body_16.1 rfl (lv_at0 hl) ?_
  refine lv_iconst (v := 0) hx hb gX12_body_16.2.1 (by decide) ?_
  refine lv_iconst (v := 3) hx hb gX12_body_16.2.2.1 (by decide) ?_
  refine lv_iload_n hx hb gX12_body_16.2.2.2.1 rfl (lv_at3 hl) ?_
  refine iV (wr := []) hC hK hl hP hD hS hA (m_from03 l G h0 xx nw nk mhasKept nt mtaped nr mrowMany mroundOf mroundFrom mouts nm mfromHour mtoHour ns mfrom mto msort misFault mdeep mcoded mlines nl nc nF np ntr nb mbestCost nso nsi nit nsh nsf nss nrc jr16491 jd mnumber mwhose msize misParted gtrc6492 (w6493) (hjd)) si_X12_357 [0, 1] [] sm_0_1 fm_0_1 nd_0_1 rfl rfl (by decide) rfl rfl rfl rfl rfl (Nat.le_of_ble_eq_true rfl) rm_45_40_5 ⟨Nat.le_of_ble_eq_true rfl, Nat.le_of_ble_eq_true rfl⟩ gX12_body_16.2.2.2.2.1 (fun r6494 => Ktu3 fun jr16496 ip16497 gtrc6498 => ?_)
  intro H locs hr6494 hP hD hS
  try dsimp only at hr6494
  refine Kpdr (ws := [(h0, oX12 nw nk mhasKept nt mtaped nr mrowMany mroundOf mroundFrom mouts nm mfromHour mtoHour ns mfrom mto msort misFault mdeep mcoded mlines nl nc nF np ntr nb mbestCost nso nsi nit nsh nsf nss nrc (nI jr16496) (nI jd) mnumber mwhose msize ip16497), (nrc, iA G 30 gtrc6498)]) hP hD (fun hP hD => ?_)
  obtain ⟨hr6494, w6499⟩ := hr6494
  refine lv_istore (lv' := [(5, .int r6494), (0, .ref h0), (1, .int 6), (2, .int 3), (3, .int xx)]) hx hb gX12_body_16.2.2.2.2.2.1 hl (by decide) rfl (fun ls hl => ?_)
  refine lv_aload_n hx hb gX12_body_16.2.2.2.2.2.2.1 rfl (lv_at1 hl) ?_
  refine gf_X12_380 hC rfl hK hP 0 rfl rfl gX12_body_16.2.2.2.2.2.2.2.1 ?_
  refine lv_if_eq (tgt := 379) hx hb gX12_body_16.2.2.2.2.2.2.2.2.1 (by decide) (fun c_372_6500 => ?_) (fun c_372_6500 => ?_)
  · refine lv_iload hx hb gX12_body_17.2.1 (lv_at0 hl) ?_
    refine lv_aload_n hx hb gX12_body_17.2.2.1 rfl (lv_at1 hl) ?_
    refine lv_iconst (v := 0) hx hb gX12_body_17.2.2.2.1 (by decide) ?_
    refine lv_aload_n hx hb gX12_body_17.2.2.2.2.1 rfl (lv_at1 hl) ?_
    refine gf_X12_378 hC rfl hK hP 0 rfl rfl gX12_body_17.2.2.2.2.2.1 ?_
    refine iV (wr := []) hC hK hl hP hD hS hA (m_dealt0 l G h0 mnumber nw nk mhasKept nt mtaped nr mrowMany mroundOf mroundFrom mouts nm mfromHour mtoHour ns mfrom mto msort misFault mdeep mcoded mlines nl nc nF np ntr nb mbestCost nso nsi nit nsh nsf nss nrc jr16496 jd mnumber mwhose msize ip16497 gtrc6498 (w6499) (hjd)) si_X12_372 [0, 1] [] sm_0_1 fm_0_1 nd_0_1 rfl rfl (by decide) rfl rfl rfl rfl rfl (Nat.le_of_ble_eq_true rfl) rm_45_14_3 ⟨Nat.le_of_ble_eq_true rfl, Nat.le_of_ble_eq_true rfl⟩ gX12_body_17.2.2.2.2.2.2.1 (fun r6501 => Ktu3 fun jr16503 ip16504 gtrc6505 => ?_)
    intro H locs hr6501 hP hD hS
    try dsimp only at hr6501
    refine Kpdr (ws := [(h0, oX12 nw nk mhasKept nt mtaped nr mrowMany mroundOf mroundFrom mouts nm mfromHour mtoHour ns mfrom mto msort misFault mdeep mcoded mlines nl nc nF np ntr nb mbestCost nso nsi nit nsh nsf nss nrc (nI jr16503) (nI jd) mnumber mwhose msize ip16504), (nrc, iA G 30 gtrc6505)]) hP hD (fun hP hD => ?_)
    obtain ⟨hr6501, w6506⟩ := hr6501
    refine lv_isub hx hb gX12_body_17.2.2.2.2.2.2.2.1 ?_
    refine toQ hQ0 ?_
    exact RI (v := r6494 - r6501) hC hP hD hS [0, 1] (jr16503, ip16504, gtrc6505) rfl rfl (by decide) (⟨trivial, by omega⟩) rfl gX12_body_17.2.2.2.2.2.2.2.2
  · refine lv_iconst (v := 0) hx hb gX12_body_16.2.2.2.2.2.2.2.2.2 (by decide) ?_
    refine lv_goto (tgt := 391) hx hb gX12_body_17.1 (by decide) ?_
    refine toQ hQ0 ?_
    exact RI (v := 0) hC hP hD hS [0, 1] (jr16496, ip16497, gtrc6498) rfl rfl (by decide) (⟨trivial, by omega⟩) rfl gX12_body_17.2.2.2.2.2.2.2.2
def K_m_from63 (l : Launch) (G : GG) (h0 : Nat) (xx : Int32) (nw : Nat) (nk : Nat) (mhasKept : Int32) (nt : Nat) (mtaped : Int32) (nr : Nat) (mrowMany : Int32) (mroundOf : Int32) (mroundFrom : Int32) (mouts : Int32) (nm : Nat) (mfromHour : Int32) (mtoHour : Int32) (ns : Nat) (mfrom : Int32) (mto : Int32) (msort : Int32) (misFault : Int32) (mdeep : Int32) (mcoded : Int32) (mlines : Int32) (nl : Nat) (nc : Nat) (nF : Nat) (np : Nat) (ntr : Nat) (nb : Nat) (mbestCost : Int32) (nso : Nat) (nsi : Nat) (nit : Nat) (nsh : Nat) (nsf : Nat) (nss : Nat) (nrc : Nat) (jr : Nat) (jd : Nat) (mnumber : Int32) (mwhose : Int32) (msize : Int32) (misParted : Int32) (fnrc : Nat → Int32) : Prop := MI l G yX12_bodyFrom cX12_bodyFrom 5 (some .int) 46 0 0 [.ref h0, .int 6, .int 3, .int xx] [(h0, oX12 nw nk mhasKept nt mtaped nr mrowMany mroundOf mroundFrom mouts nm mfromHour mtoHour ns mfrom mto msort misFault mdeep mcoded mlines nl nc nF np ntr nb mbestCost nso nsi nit nsh nsf nss nrc (nI jr) (nI jd) mnumber mwhose msize misParted), (nrc, iA G 30 fnrc)] (fun (r : Int32) (u : Nat × Int32 × (Nat → Int32)) => (True) ∧ (u.1 ≤ 30)) (fun u : Nat × Int32 × (Nat → Int32) => [(h0, oX12 nw nk mhasKept nt mtaped nr mrowMany mroundOf mroundFrom mouts nm mfromHour mtoHour ns mfrom mto msort misFault mdeep mcoded mlines nl nc nF np ntr nb mbestCost nso nsi nit nsh nsf nss nrc (nI u.1) (nI jd) mnumber mwhose msize u.2.1), (nrc, iA G 30 u.2.2)])
set_option maxHeartbeats 4000000 in
set_option maxRecDepth 100000 in
theorem m_from63 (l : Launch) (G : GG) (h0 : Nat) (xx : Int32) (nw : Nat) (nk : Nat) (mhasKept : Int32) (nt : Nat) (mtaped : Int32) (nr : Nat) (mrowMany : Int32) (mroundOf : Int32) (mroundFrom : Int32) (mouts : Int32) (nm : Nat) (mfromHour : Int32) (mtoHour : Int32) (ns : Nat) (mfrom : Int32) (mto : Int32) (msort : Int32) (misFault : Int32) (mdeep : Int32) (mcoded : Int32) (mlines : Int32) (nl : Nat) (nc : Nat) (nF : Nat) (np : Nat) (ntr : Nat) (nb : Nat) (mbestCost : Int32) (nso : Nat) (nsi : Nat) (nit : Nat) (nsh : Nat) (nsf : Nat) (nss : Nat) (nrc : Nat) (jr : Nat) (jd : Nat) (mnumber : Int32) (mwhose : Int32) (msize : Int32) (misParted : Int32) (fnrc : Nat → Int32) (hjr : jr ≤ 30) (hjd : jd < 7) : K_m_from63 l G h0 xx nw nk mhasKept nt mtaped nr mrowMany mroundOf mroundFrom mouts nm mfromHour mtoHour ns mfrom mto msort misFault mdeep mcoded mlines nl nc nF np ntr nb mbestCost nso nsi nit nsh nsf nss nrc jr jd mnumber mwhose msize misParted fnrc := by
  refine MI.start (by decide +kernel) (Nat.le_of_ble_eq_true rfl) ?_
  intro p e s m below meth c A ls hC hK hP hD hS hA hl
  refine absQ (fun Q0 hQ0 => ?_)
  have hl : lv_has ls 5 [(0, .ref h0), (1, .int 6), (2, .int 3), (3, .int xx)] := hl
  refine Kan8 hC (fun hx hb hr hml hB hown hlocks hnm => ?_)
  refine lv_iload_n hx hb gX12_bodyFrom_0.1 rfl (lv_at1 hl) ?_
  refine lv_istore (lv' := [(4, .int 6), (0, .ref h0), (1, .int 6), (2, .int 3), (3, .int xx)]) hx hb gX12_bodyFrom_0.2.1 hl (by decide) rfl (fun ls hl => ?_)
  refine lv_iload hx hb gX12_bodyFrom_0.2.2.1 (lv_at0 hl) ?_
  refine lv_iload_n hx hb gX12_bodyFrom_0.2.2.2.1 rfl (lv_at3 hl) ?_
  refine pS hC hK hl (m_hasOwn63 l G) si_X12_360 rfl rfl (Nat.le_of_ble_eq_true rfl) rm_46_1_2 ⟨by first | exact Nat.le_of_ble_eq_true rfl | exact Nat.zero_le _, by first | exact Nat.le_of_ble_eq_true rfl | exact Nat.zero_le _⟩ gX12_bodyFrom_0.2.2.2.2.1 (Keqr ?_)
  refine lv_if_ne (tgt := 22) hx hb gX12_bodyFrom_0.2.2.2.2.2.1 (by decide) (fun _ => ?_) (fun c9 => absurd c9 (by decide))
  refine lv_aload_n hx hb gX12_bodyFrom_1.1 rfl (lv_at1 hl) ?_
  refine lv_iload hx hb gX12_bodyFrom_1.2.1 (lv_at0 hl) ?_
  refine lv_iload_n hx hb gX12_bodyFrom_1.2.2.1 rfl (lv_at3 hl) ?_
  refine lv_iload_n hx hb gX12_bodyFrom_1.2.2.2.1 rfl (lv_at4 hl) ?_
  refine iV (wr := []) hC hK hl hP hD hS hA (m_body63 l G h0 xx nw nk mhasKept nt mtaped nr mrowMany mroundOf mroundFrom mouts nm mfromHour mtoHour ns mfrom mto msort misFault mdeep mcoded mlines nl nc nF np ntr nb mbestCost nso nsi nit nsh nsf nss nrc jr jd mnumber mwhose msize misParted fnrc (hjr) (hjd)) si_X12_363 [0, 1] [] sm_0_1 fm_0_1 nd_0_1 rfl rfl (by decide) rfl rfl rfl rfl rfl (Nat.le_of_ble_eq_true rfl) rm_46_45_6 ⟨Nat.le_of_ble_eq_true rfl, Nat.le_of_ble_eq_true rfl⟩ gX12_bodyFrom_1.2.2.2.2.1 (fun r6509 => Ktu3 fun jr16511 ip16512 gtrc6513 => ?_)
  intro H locs hr6509 hP hD hS
  try dsimp only at hr6509
  refine Kpdr (ws := [(h0, oX12 nw nk mhasKept nt mtaped nr mrowMany mroundOf mroundFrom mouts nm mfromHour mtoHour ns mfrom mto msort misFault mdeep mcoded mlines nl nc nF np ntr nb mbestCost nso nsi nit nsh nsf nss nrc (nI jr16511) (nI jd) mnumber mwhose msize ip16512), (nrc, iA G 30 gtrc6513)]) hP hD (fun hP hD => ?_)
  obtain ⟨hr6509, w6514⟩ := hr6509
  refine toQ hQ0 ?_
  exact RI (v := r6509) hC hP hD hS [0, 1] (jr16511, ip16512, gtrc6513) rfl rfl (by decide) (⟨trivial, by omega⟩) rfl gX12_bodyFrom_1.2.2.2.2.2
def K_m_from23 (l : Launch) (G : GG) (h0 : Nat) (xx : Int32) (nw : Nat) (nk : Nat) (mhasKept : Int32) (nt : Nat) (mtaped : Int32) (nr : Nat) (mrowMany : Int32) (mroundOf : Int32) (mroundFrom : Int32) (mouts : Int32) (nm : Nat) (mfromHour : Int32) (mtoHour : Int32) (ns : Nat) (mfrom : Int32) (mto : Int32) (msort : Int32) (misFault : Int32) (mdeep : Int32) (mcoded : Int32) (mlines : Int32) (nl : Nat) (nc : Nat) (nF : Nat) (np : Nat) (ntr : Nat) (nb : Nat) (mbestCost : Int32) (nso : Nat) (nsi : Nat) (nit : Nat) (nsh : Nat) (nsf : Nat) (nss : Nat) (nrc : Nat) (jr : Nat) (jd : Nat) (mnumber : Int32) (mwhose : Int32) (msize : Int32) (misParted : Int32) (fnrc : Nat → Int32) : Prop := MI l G yX12_bodyFrom cX12_bodyFrom 5 (some .int) 48 0 0 [.ref h0, .int 2, .int 3, .int xx] [(h0, oX12 nw nk mhasKept nt mtaped nr mrowMany mroundOf mroundFrom mouts nm mfromHour mtoHour ns mfrom mto msort misFault mdeep mcoded mlines nl nc nF np ntr nb mbestCost nso nsi nit nsh nsf nss nrc (nI jr) (nI jd) mnumber mwhose msize misParted), (nrc, iA G 30 fnrc)] (fun (r : Int32) (u : Nat × Int32 × (Nat → Int32)) => (True) ∧ (u.1 ≤ 30)) (fun u : Nat × Int32 × (Nat → Int32) => [(h0, oX12 nw nk mhasKept nt mtaped nr mrowMany mroundOf mroundFrom mouts nm mfromHour mtoHour ns mfrom mto msort misFault mdeep mcoded mlines nl nc nF np ntr nb mbestCost nso nsi nit nsh nsf nss nrc (nI u.1) (nI jd) mnumber mwhose msize u.2.1), (nrc, iA G 30 u.2.2)])
set_option maxHeartbeats 4000000 in
set_option maxRecDepth 100000 in
theorem m_from23 (l : Launch) (G : GG) (h0 : Nat) (xx : Int32) (nw : Nat) (nk : Nat) (mhasKept : Int32) (nt : Nat) (mtaped : Int32) (nr : Nat) (mrowMany : Int32) (mroundOf : Int32) (mroundFrom : Int32) (mouts : Int32) (nm : Nat) (mfromHour : Int32) (mtoHour : Int32) (ns : Nat) (mfrom : Int32) (mto : Int32) (msort : Int32) (misFault : Int32) (mdeep : Int32) (mcoded : Int32) (mlines : Int32) (nl : Nat) (nc : Nat) (nF : Nat) (np : Nat) (ntr : Nat) (nb : Nat) (mbestCost : Int32) (nso : Nat) (nsi : Nat) (nit : Nat) (nsh : Nat) (nsf : Nat) (nss : Nat) (nrc : Nat) (jr : Nat) (jd : Nat) (mnumber : Int32) (mwhose : Int32) (msize : Int32) (misParted : Int32) (fnrc : Nat → Int32) (hjr : jr ≤ 30) (hjd : jd < 7) : K_m_from23 l G h0 xx nw nk mhasKept nt mtaped nr mrowMany mroundOf mroundFrom mouts nm mfromHour mtoHour ns mfrom mto msort misFault mdeep mcoded mlines nl nc nF np ntr nb mbestCost nso nsi nit nsh nsf nss nrc jr jd mnumber mwhose msize misParted fnrc := by
  refine MI.start (by decide +kernel) (Nat.le_of_ble_eq_true rfl) ?_
  intro p e s m below meth c A ls hC hK hP hD hS hA hl
  refine absQ (fun Q0 hQ0 => ?_)
  have hl : lv_has ls 5 [(0, .ref h0), (1, .int 2), (2, .int 3), (3, .int xx)] := hl
  refine Kan8 hC (fun hx hb hr hml hB hown hlocks hnm => ?_)
  refine lv_iload_n hx hb gX12_bodyFrom_0.1 rfl (lv_at1 hl) ?_
  refine lv_istore (lv' := [(4, .int 2), (0, .ref h0), (1, .int 2), (2, .int 3), (3, .int xx)]) hx hb gX12_bodyFrom_0.2.1 hl (by decide) rfl (fun ls hl => ?_)
  refine lv_iload hx hb gX12_bodyFrom_0.2.2.1 (lv_at0 hl) ?_
  refine lv_iload_n hx hb gX12_bodyFrom_0.2.2.2.1 rfl (lv_at3 hl) ?_
  refine pS hC hK hl (m_hasOwn23 l G) si_X12_360 rfl rfl (Nat.le_of_ble_eq_true rfl) rm_48_1_2 ⟨by first | exact Nat.le_of_ble_eq_true rfl | exact Nat.zero_le _, by first | exact Nat.le_of_ble_eq_true rfl | exact Nat.zero_le _⟩ gX12_bodyFrom_0.2.2.2.2.1 (Keqr ?_)
  refine lv_if_ne (tgt := 22) hx hb gX12_bodyFrom_0.2.2.2.2.2.1 (by decide) (fun c9 => absurd (by decide) c9) (fun _ => ?_)
  refine lv_iload hx hb gX12_bodyFrom_0.2.2.2.2.2.2.1 (lv_at0 hl) ?_
  refine pS hC hK hl (m_above2 l G) si_X12_348 rfl rfl (Nat.le_of_ble_eq_true rfl) rm_48_1_1 ⟨by first | exact Nat.le_of_ble_eq_true rfl | exact Nat.zero_le _, by first | exact Nat.le_of_ble_eq_true rfl | exact Nat.zero_le _⟩ gX12_bodyFrom_0.2.2.2.2.2.2.2.1 (Keqr ?_)
  refine lv_istore (lv' := [(4, .int 0), (0, .ref h0), (1, .int 2), (2, .int 3), (3, .int xx)]) hx hb gX12_bodyFrom_0.2.2.2.2.2.2.2.2.1 hl (by decide) rfl (fun ls hl => ?_)
  refine lv_goto (tgt := 3) hx hb gX12_bodyFrom_0.2.2.2.2.2.2.2.2.2 (by decide) ?_
  refine lv_iload hx hb gX12_bodyFrom_0.2.2.1 (lv_at0 hl) ?_
  refine lv_iload_n hx hb gX12_bodyFrom_0.2.2.2.1 rfl (lv_at3 hl) ?_
  refine pS hC hK hl (m_hasOwn03 l G) si_X12_360 rfl rfl (Nat.le_of_ble_eq_true rfl) rm_48_1_2 ⟨by first | exact Nat.le_of_ble_eq_true rfl | exact Nat.zero_le _, by first | exact Nat.le_of_ble_eq_true rfl | exact Nat.zero_le _⟩ gX12_bodyFrom_0.2.2.2.2.1 (Keqr ?_)
  refine lv_if_ne (tgt := 22) hx hb gX12_bodyFrom_0.2.2.2.2.2.1 (by decide) (fun _ => ?_) (fun c9 => absurd c9 (by decide))
  refine lv_aload_n hx hb gX12_bodyFrom_1.1 rfl (lv_at1 hl) ?_
  refine lv_iload hx hb gX12_bodyFrom_1.2.1 (lv_at0 hl) ?_
  refine lv_iload_n hx hb gX12_bodyFrom_1.2.2.1 rfl (lv_at3 hl) ?_
  refine lv_iload_n hx hb gX12_bodyFrom_1.2.2.2.1 rfl (lv_at4 hl) ?_
  refine iV (wr := []) hC hK hl hP hD hS hA (m_body03 l G h0 xx nw nk mhasKept nt mtaped nr mrowMany mroundOf mroundFrom mouts nm mfromHour mtoHour ns mfrom mto msort misFault mdeep mcoded mlines nl nc nF np ntr nb mbestCost nso nsi nit nsh nsf nss nrc jr jd mnumber mwhose msize misParted fnrc (hjr) (hjd)) si_X12_363 [0, 1] [] sm_0_1 fm_0_1 nd_0_1 rfl rfl (by decide) rfl rfl rfl rfl rfl (Nat.le_of_ble_eq_true rfl) rm_48_39_6 ⟨Nat.le_of_ble_eq_true rfl, Nat.le_of_ble_eq_true rfl⟩ gX12_bodyFrom_1.2.2.2.2.1 (fun r6521 => Ktu3 fun jr16523 ip16524 gtrc6525 => ?_)
  intro H locs hr6521 hP hD hS
  try dsimp only at hr6521
  refine Kpdr (ws := [(h0, oX12 nw nk mhasKept nt mtaped nr mrowMany mroundOf mroundFrom mouts nm mfromHour mtoHour ns mfrom mto msort misFault mdeep mcoded mlines nl nc nF np ntr nb mbestCost nso nsi nit nsh nsf nss nrc (nI jr16523) (nI jd) mnumber mwhose msize ip16524), (nrc, iA G 30 gtrc6525)]) hP hD (fun hP hD => ?_)
  obtain ⟨hr6521, w6526⟩ := hr6521
  refine toQ hQ0 ?_
  exact RI (v := r6521) hC hP hD hS [0, 1] (jr16523, ip16524, gtrc6525) rfl rfl (by decide) (⟨trivial, by omega⟩) rfl gX12_bodyFrom_1.2.2.2.2.2
def K_m_from43 (l : Launch) (G : GG) (h0 : Nat) (xx : Int32) (nw : Nat) (nk : Nat) (mhasKept : Int32) (nt : Nat) (mtaped : Int32) (nr : Nat) (mrowMany : Int32) (mroundOf : Int32) (mroundFrom : Int32) (mouts : Int32) (nm : Nat) (mfromHour : Int32) (mtoHour : Int32) (ns : Nat) (mfrom : Int32) (mto : Int32) (msort : Int32) (misFault : Int32) (mdeep : Int32) (mcoded : Int32) (mlines : Int32) (nl : Nat) (nc : Nat) (nF : Nat) (np : Nat) (ntr : Nat) (nb : Nat) (mbestCost : Int32) (nso : Nat) (nsi : Nat) (nit : Nat) (nsh : Nat) (nsf : Nat) (nss : Nat) (nrc : Nat) (jr : Nat) (jd : Nat) (mnumber : Int32) (mwhose : Int32) (msize : Int32) (misParted : Int32) (fnrc : Nat → Int32) : Prop := MI l G yX12_bodyFrom cX12_bodyFrom 5 (some .int) 48 0 0 [.ref h0, .int 4, .int 3, .int xx] [(h0, oX12 nw nk mhasKept nt mtaped nr mrowMany mroundOf mroundFrom mouts nm mfromHour mtoHour ns mfrom mto msort misFault mdeep mcoded mlines nl nc nF np ntr nb mbestCost nso nsi nit nsh nsf nss nrc (nI jr) (nI jd) mnumber mwhose msize misParted), (nrc, iA G 30 fnrc)] (fun (r : Int32) (u : Nat × Int32 × (Nat → Int32)) => (True) ∧ (u.1 ≤ 30)) (fun u : Nat × Int32 × (Nat → Int32) => [(h0, oX12 nw nk mhasKept nt mtaped nr mrowMany mroundOf mroundFrom mouts nm mfromHour mtoHour ns mfrom mto msort misFault mdeep mcoded mlines nl nc nF np ntr nb mbestCost nso nsi nit nsh nsf nss nrc (nI u.1) (nI jd) mnumber mwhose msize u.2.1), (nrc, iA G 30 u.2.2)])
set_option maxHeartbeats 4000000 in
set_option maxRecDepth 100000 in
theorem m_from43 (l : Launch) (G : GG) (h0 : Nat) (xx : Int32) (nw : Nat) (nk : Nat) (mhasKept : Int32) (nt : Nat) (mtaped : Int32) (nr : Nat) (mrowMany : Int32) (mroundOf : Int32) (mroundFrom : Int32) (mouts : Int32) (nm : Nat) (mfromHour : Int32) (mtoHour : Int32) (ns : Nat) (mfrom : Int32) (mto : Int32) (msort : Int32) (misFault : Int32) (mdeep : Int32) (mcoded : Int32) (mlines : Int32) (nl : Nat) (nc : Nat) (nF : Nat) (np : Nat) (ntr : Nat) (nb : Nat) (mbestCost : Int32) (nso : Nat) (nsi : Nat) (nit : Nat) (nsh : Nat) (nsf : Nat) (nss : Nat) (nrc : Nat) (jr : Nat) (jd : Nat) (mnumber : Int32) (mwhose : Int32) (msize : Int32) (misParted : Int32) (fnrc : Nat → Int32) (hjr : jr ≤ 30) (hjd : jd < 7) : K_m_from43 l G h0 xx nw nk mhasKept nt mtaped nr mrowMany mroundOf mroundFrom mouts nm mfromHour mtoHour ns mfrom mto msort misFault mdeep mcoded mlines nl nc nF np ntr nb mbestCost nso nsi nit nsh nsf nss nrc jr jd mnumber mwhose msize misParted fnrc := by
  refine MI.start (by decide +kernel) (Nat.le_of_ble_eq_true rfl) ?_
  intro p e s m below meth c A ls hC hK hP hD hS hA hl
  refine absQ (fun Q0 hQ0 => ?_)
  have hl : lv_has ls 5 [(0, .ref h0), (1, .int 4), (2, .int 3), (3, .int xx)] := hl
  refine Kan8 hC (fun hx hb hr hml hB hown hlocks hnm => ?_)
  refine lv_iload_n hx hb gX12_bodyFrom_0.1 rfl (lv_at1 hl) ?_
  refine lv_istore (lv' := [(4, .int 4), (0, .ref h0), (1, .int 4), (2, .int 3), (3, .int xx)]) hx hb gX12_bodyFrom_0.2.1 hl (by decide) rfl (fun ls hl => ?_)
  refine lv_iload hx hb gX12_bodyFrom_0.2.2.1 (lv_at0 hl) ?_
  refine lv_iload_n hx hb gX12_bodyFrom_0.2.2.2.1 rfl (lv_at3 hl) ?_
  refine pS hC hK hl (m_hasOwn43 l G) si_X12_360 rfl rfl (Nat.le_of_ble_eq_true rfl) rm_48_1_2 ⟨by first | exact Nat.le_of_ble_eq_true rfl | exact Nat.zero_le _, by first | exact Nat.le_of_ble_eq_true rfl | exact Nat.zero_le _⟩ gX12_bodyFrom_0.2.2.2.2.1 (Keqr ?_)
  refine lv_if_ne (tgt := 22) hx hb gX12_bodyFrom_0.2.2.2.2.2.1 (by decide) (fun c9 => absurd (by decide) c9) (fun _ => ?_)
  refine lv_iload hx hb gX12_bodyFrom_0.2.2.2.2.2.2.1 (lv_at0 hl) ?_
  refine pS hC hK hl (m_above4 l G) si_X12_348 rfl rfl (Nat.le_of_ble_eq_true rfl) rm_48_1_1 ⟨by first | exact Nat.le_of_ble_eq_true rfl | exact Nat.zero_le _, by first | exact Nat.le_of_ble_eq_true rfl | exact Nat.zero_le _⟩ gX12_bodyFrom_0.2.2.2.2.2.2.2.1 (Keqr ?_)
  refine lv_istore (lv' := [(4, .int 0), (0, .ref h0), (1, .int 4), (2, .int 3), (3, .int xx)]) hx hb gX12_bodyFrom_0.2.2.2.2.2.2.2.2.1 hl (by decide) rfl (fun ls hl => ?_)
  refine lv_goto (tgt := 3) hx hb gX12_bodyFrom_0.2.2.2.2.2.2.2.2.2 (by decide) ?_
  refine lv_iload hx hb gX12_bodyFrom_0.2.2.1 (lv_at0 hl) ?_
  refine lv_iload_n hx hb gX12_bodyFrom_0.2.2.2.1 rfl (lv_at3 hl) ?_
  refine pS hC hK hl (m_hasOwn03 l G) si_X12_360 rfl rfl (Nat.le_of_ble_eq_true rfl) rm_48_1_2 ⟨by first | exact Nat.le_of_ble_eq_true rfl | exact Nat.zero_le _, by first | exact Nat.le_of_ble_eq_true rfl | exact Nat.zero_le _⟩ gX12_bodyFrom_0.2.2.2.2.1 (Keqr ?_)
  refine lv_if_ne (tgt := 22) hx hb gX12_bodyFrom_0.2.2.2.2.2.1 (by decide) (fun _ => ?_) (fun c9 => absurd c9 (by decide))
  refine lv_aload_n hx hb gX12_bodyFrom_1.1 rfl (lv_at1 hl) ?_
  refine lv_iload hx hb gX12_bodyFrom_1.2.1 (lv_at0 hl) ?_
  refine lv_iload_n hx hb gX12_bodyFrom_1.2.2.1 rfl (lv_at3 hl) ?_
  refine lv_iload_n hx hb gX12_bodyFrom_1.2.2.2.1 rfl (lv_at4 hl) ?_
  refine iV (wr := []) hC hK hl hP hD hS hA (m_body03 l G h0 xx nw nk mhasKept nt mtaped nr mrowMany mroundOf mroundFrom mouts nm mfromHour mtoHour ns mfrom mto msort misFault mdeep mcoded mlines nl nc nF np ntr nb mbestCost nso nsi nit nsh nsf nss nrc jr jd mnumber mwhose msize misParted fnrc (hjr) (hjd)) si_X12_363 [0, 1] [] sm_0_1 fm_0_1 nd_0_1 rfl rfl (by decide) rfl rfl rfl rfl rfl (Nat.le_of_ble_eq_true rfl) rm_48_39_6 ⟨Nat.le_of_ble_eq_true rfl, Nat.le_of_ble_eq_true rfl⟩ gX12_bodyFrom_1.2.2.2.2.1 (fun r6533 => Ktu3 fun jr16535 ip16536 gtrc6537 => ?_)
  intro H locs hr6533 hP hD hS
  try dsimp only at hr6533
  refine Kpdr (ws := [(h0, oX12 nw nk mhasKept nt mtaped nr mrowMany mroundOf mroundFrom mouts nm mfromHour mtoHour ns mfrom mto msort misFault mdeep mcoded mlines nl nc nF np ntr nb mbestCost nso nsi nit nsh nsf nss nrc (nI jr16535) (nI jd) mnumber mwhose msize ip16536), (nrc, iA G 30 gtrc6537)]) hP hD (fun hP hD => ?_)
  obtain ⟨hr6533, w6538⟩ := hr6533
  refine toQ hQ0 ?_
  exact RI (v := r6533) hC hP hD hS [0, 1] (jr16535, ip16536, gtrc6537) rfl rfl (by decide) (⟨trivial, by omega⟩) rfl gX12_bodyFrom_1.2.2.2.2.2
def K_m_from53 (l : Launch) (G : GG) (h0 : Nat) (xx : Int32) (nw : Nat) (nk : Nat) (mhasKept : Int32) (nt : Nat) (mtaped : Int32) (nr : Nat) (mrowMany : Int32) (mroundOf : Int32) (mroundFrom : Int32) (mouts : Int32) (nm : Nat) (mfromHour : Int32) (mtoHour : Int32) (ns : Nat) (mfrom : Int32) (mto : Int32) (msort : Int32) (misFault : Int32) (mdeep : Int32) (mcoded : Int32) (mlines : Int32) (nl : Nat) (nc : Nat) (nF : Nat) (np : Nat) (ntr : Nat) (nb : Nat) (mbestCost : Int32) (nso : Nat) (nsi : Nat) (nit : Nat) (nsh : Nat) (nsf : Nat) (nss : Nat) (nrc : Nat) (jr : Nat) (jd : Nat) (mnumber : Int32) (mwhose : Int32) (msize : Int32) (misParted : Int32) (fnrc : Nat → Int32) : Prop := MI l G yX12_bodyFrom cX12_bodyFrom 5 (some .int) 48 0 0 [.ref h0, .int 5, .int 3, .int xx] [(h0, oX12 nw nk mhasKept nt mtaped nr mrowMany mroundOf mroundFrom mouts nm mfromHour mtoHour ns mfrom mto msort misFault mdeep mcoded mlines nl nc nF np ntr nb mbestCost nso nsi nit nsh nsf nss nrc (nI jr) (nI jd) mnumber mwhose msize misParted), (nrc, iA G 30 fnrc)] (fun (r : Int32) (u : Nat × Int32 × (Nat → Int32)) => (True) ∧ (u.1 ≤ 30)) (fun u : Nat × Int32 × (Nat → Int32) => [(h0, oX12 nw nk mhasKept nt mtaped nr mrowMany mroundOf mroundFrom mouts nm mfromHour mtoHour ns mfrom mto msort misFault mdeep mcoded mlines nl nc nF np ntr nb mbestCost nso nsi nit nsh nsf nss nrc (nI u.1) (nI jd) mnumber mwhose msize u.2.1), (nrc, iA G 30 u.2.2)])
set_option maxHeartbeats 4000000 in
set_option maxRecDepth 100000 in
theorem m_from53 (l : Launch) (G : GG) (h0 : Nat) (xx : Int32) (nw : Nat) (nk : Nat) (mhasKept : Int32) (nt : Nat) (mtaped : Int32) (nr : Nat) (mrowMany : Int32) (mroundOf : Int32) (mroundFrom : Int32) (mouts : Int32) (nm : Nat) (mfromHour : Int32) (mtoHour : Int32) (ns : Nat) (mfrom : Int32) (mto : Int32) (msort : Int32) (misFault : Int32) (mdeep : Int32) (mcoded : Int32) (mlines : Int32) (nl : Nat) (nc : Nat) (nF : Nat) (np : Nat) (ntr : Nat) (nb : Nat) (mbestCost : Int32) (nso : Nat) (nsi : Nat) (nit : Nat) (nsh : Nat) (nsf : Nat) (nss : Nat) (nrc : Nat) (jr : Nat) (jd : Nat) (mnumber : Int32) (mwhose : Int32) (msize : Int32) (misParted : Int32) (fnrc : Nat → Int32) (hjr : jr ≤ 30) (hjd : jd < 7) : K_m_from53 l G h0 xx nw nk mhasKept nt mtaped nr mrowMany mroundOf mroundFrom mouts nm mfromHour mtoHour ns mfrom mto msort misFault mdeep mcoded mlines nl nc nF np ntr nb mbestCost nso nsi nit nsh nsf nss nrc jr jd mnumber mwhose msize misParted fnrc := by
  refine MI.start (by decide +kernel) (Nat.le_of_ble_eq_true rfl) ?_
  intro p e s m below meth c A ls hC hK hP hD hS hA hl
  refine absQ (fun Q0 hQ0 => ?_)
  have hl : lv_has ls 5 [(0, .ref h0), (1, .int 5), (2, .int 3), (3, .int xx)] := hl
  refine Kan8 hC (fun hx hb hr hml hB hown hlocks hnm => ?_)
  refine lv_iload_n hx hb gX12_bodyFrom_0.1 rfl (lv_at1 hl) ?_
  refine lv_istore (lv' := [(4, .int 5), (0, .ref h0), (1, .int 5), (2, .int 3), (3, .int xx)]) hx hb gX12_bodyFrom_0.2.1 hl (by decide) rfl (fun ls hl => ?_)
  refine lv_iload hx hb gX12_bodyFrom_0.2.2.1 (lv_at0 hl) ?_
  refine lv_iload_n hx hb gX12_bodyFrom_0.2.2.2.1 rfl (lv_at3 hl) ?_
  refine pS hC hK hl (m_hasOwn53 l G) si_X12_360 rfl rfl (Nat.le_of_ble_eq_true rfl) rm_48_1_2 ⟨by first | exact Nat.le_of_ble_eq_true rfl | exact Nat.zero_le _, by first | exact Nat.le_of_ble_eq_true rfl | exact Nat.zero_le _⟩ gX12_bodyFrom_0.2.2.2.2.1 (Keqr ?_)
  refine lv_if_ne (tgt := 22) hx hb gX12_bodyFrom_0.2.2.2.2.2.1 (by decide) (fun c9 => absurd (by decide) c9) (fun _ => ?_)
  refine lv_iload hx hb gX12_bodyFrom_0.2.2.2.2.2.2.1 (lv_at0 hl) ?_
  refine pS hC hK hl (m_above5 l G) si_X12_348 rfl rfl (Nat.le_of_ble_eq_true rfl) rm_48_1_1 ⟨by first | exact Nat.le_of_ble_eq_true rfl | exact Nat.zero_le _, by first | exact Nat.le_of_ble_eq_true rfl | exact Nat.zero_le _⟩ gX12_bodyFrom_0.2.2.2.2.2.2.2.1 (Keqr ?_)
  refine lv_istore (lv' := [(4, .int 4), (0, .ref h0), (1, .int 5), (2, .int 3), (3, .int xx)]) hx hb gX12_bodyFrom_0.2.2.2.2.2.2.2.2.1 hl (by decide) rfl (fun ls hl => ?_)
  refine lv_goto (tgt := 3) hx hb gX12_bodyFrom_0.2.2.2.2.2.2.2.2.2 (by decide) ?_
  refine lv_iload hx hb gX12_bodyFrom_0.2.2.1 (lv_at0 hl) ?_
  refine lv_iload_n hx hb gX12_bodyFrom_0.2.2.2.1 rfl (lv_at3 hl) ?_
  refine pS hC hK hl (m_hasOwn43 l G) si_X12_360 rfl rfl (Nat.le_of_ble_eq_true rfl) rm_48_1_2 ⟨by first | exact Nat.le_of_ble_eq_true rfl | exact Nat.zero_le _, by first | exact Nat.le_of_ble_eq_true rfl | exact Nat.zero_le _⟩ gX12_bodyFrom_0.2.2.2.2.1 (Keqr ?_)
  refine lv_if_ne (tgt := 22) hx hb gX12_bodyFrom_0.2.2.2.2.2.1 (by decide) (fun c9 => absurd (by decide) c9) (fun _ => ?_)
  refine lv_iload hx hb gX12_bodyFrom_0.2.2.2.2.2.2.1 (lv_at0 hl) ?_
  refine pS hC hK hl (m_above4 l G) si_X12_348 rfl rfl (Nat.le_of_ble_eq_true rfl) rm_48_1_1 ⟨by first | exact Nat.le_of_ble_eq_true rfl | exact Nat.zero_le _, by first | exact Nat.le_of_ble_eq_true rfl | exact Nat.zero_le _⟩ gX12_bodyFrom_0.2.2.2.2.2.2.2.1 (Keqr ?_)
  refine lv_istore (lv' := [(4, .int 0), (0, .ref h0), (1, .int 5), (2, .int 3), (3, .int xx)]) hx hb gX12_bodyFrom_0.2.2.2.2.2.2.2.2.1 hl (by decide) rfl (fun ls hl => ?_)
  refine lv_goto (tgt := 3) hx hb gX12_bodyFrom_0.2.2.2.2.2.2.2.2.2 (by decide) ?_
  refine lv_iload hx hb gX12_bodyFrom_0.2.2.1 (lv_at0 hl) ?_
  refine lv_iload_n hx hb gX12_bodyFrom_0.2.2.2.1 rfl (lv_at3 hl) ?_
  refine pS hC hK hl (m_hasOwn03 l G) si_X12_360 rfl rfl (Nat.le_of_ble_eq_true rfl) rm_48_1_2 ⟨by first | exact Nat.le_of_ble_eq_true rfl | exact Nat.zero_le _, by first | exact Nat.le_of_ble_eq_true rfl | exact Nat.zero_le _⟩ gX12_bodyFrom_0.2.2.2.2.1 (Keqr ?_)
  refine lv_if_ne (tgt := 22) hx hb gX12_bodyFrom_0.2.2.2.2.2.1 (by decide) (fun _ => ?_) (fun c9 => absurd c9 (by decide))
  refine lv_aload_n hx hb gX12_bodyFrom_1.1 rfl (lv_at1 hl) ?_
  refine lv_iload hx hb gX12_bodyFrom_1.2.1 (lv_at0 hl) ?_
  refine lv_iload_n hx hb gX12_bodyFrom_1.2.2.1 rfl (lv_at3 hl) ?_
  refine lv_iload_n hx hb gX12_bodyFrom_1.2.2.2.1 rfl (lv_at4 hl) ?_
  refine iV (wr := []) hC hK hl hP hD hS hA (m_body03 l G h0 xx nw nk mhasKept nt mtaped nr mrowMany mroundOf mroundFrom mouts nm mfromHour mtoHour ns mfrom mto msort misFault mdeep mcoded mlines nl nc nF np ntr nb mbestCost nso nsi nit nsh nsf nss nrc jr jd mnumber mwhose msize misParted fnrc (hjr) (hjd)) si_X12_363 [0, 1] [] sm_0_1 fm_0_1 nd_0_1 rfl rfl (by decide) rfl rfl rfl rfl rfl (Nat.le_of_ble_eq_true rfl) rm_48_39_6 ⟨Nat.le_of_ble_eq_true rfl, Nat.le_of_ble_eq_true rfl⟩ gX12_bodyFrom_1.2.2.2.2.1 (fun r6549 => Ktu3 fun jr16551 ip16552 gtrc6553 => ?_)
  intro H locs hr6549 hP hD hS
  try dsimp only at hr6549
  refine Kpdr (ws := [(h0, oX12 nw nk mhasKept nt mtaped nr mrowMany mroundOf mroundFrom mouts nm mfromHour mtoHour ns mfrom mto msort misFault mdeep mcoded mlines nl nc nF np ntr nb mbestCost nso nsi nit nsh nsf nss nrc (nI jr16551) (nI jd) mnumber mwhose msize ip16552), (nrc, iA G 30 gtrc6553)]) hP hD (fun hP hD => ?_)
  obtain ⟨hr6549, w6554⟩ := hr6549
  refine toQ hQ0 ?_
  exact RI (v := r6549) hC hP hD hS [0, 1] (jr16551, ip16552, gtrc6553) rfl rfl (by decide) (⟨trivial, by omega⟩) rfl gX12_bodyFrom_1.2.2.2.2.2
def K_m_dealt3 (l : Launch) (G : GG) (h0 : Nat) (xx : Int32) (nw : Nat) (nk : Nat) (mhasKept : Int32) (nt : Nat) (mtaped : Int32) (nr : Nat) (mrowMany : Int32) (mroundOf : Int32) (mroundFrom : Int32) (mouts : Int32) (nm : Nat) (mfromHour : Int32) (mtoHour : Int32) (ns : Nat) (mfrom : Int32) (mto : Int32) (msort : Int32) (misFault : Int32) (mdeep : Int32) (mcoded : Int32) (mlines : Int32) (nl : Nat) (nc : Nat) (nF : Nat) (np : Nat) (ntr : Nat) (nb : Nat) (mbestCost : Int32) (nso : Nat) (nsi : Nat) (nit : Nat) (nsh : Nat) (nsf : Nat) (nss : Nat) (nrc : Nat) (jr : Nat) (jd : Nat) (mnumber : Int32) (mwhose : Int32) (msize : Int32) (misParted : Int32) (fnrc : Nat → Int32) : Prop := MI l G yX12_dealt cX12_dealt 3 (some .int) 50 0 0 [.ref h0, .int 3, .int xx] [(h0, oX12 nw nk mhasKept nt mtaped nr mrowMany mroundOf mroundFrom mouts nm mfromHour mtoHour ns mfrom mto msort misFault mdeep mcoded mlines nl nc nF np ntr nb mbestCost nso nsi nit nsh nsf nss nrc (nI jr) (nI jd) mnumber mwhose msize misParted), (nrc, iA G 30 fnrc)] (fun (r : Int32) (u : Nat × Int32 × (Nat → Int32)) => (True) ∧ (u.1 ≤ 30)) (fun u : Nat × Int32 × (Nat → Int32) => [(h0, oX12 nw nk mhasKept nt mtaped nr mrowMany mroundOf mroundFrom mouts nm mfromHour mtoHour ns mfrom mto msort misFault mdeep mcoded mlines nl nc nF np ntr nb mbestCost nso nsi nit nsh nsf nss nrc (nI u.1) (nI jd) mnumber mwhose msize u.2.1), (nrc, iA G 30 u.2.2)])
set_option maxHeartbeats 4000000 in
set_option maxRecDepth 100000 in
theorem m_dealt3 (l : Launch) (G : GG) (h0 : Nat) (xx : Int32) (nw : Nat) (nk : Nat) (mhasKept : Int32) (nt : Nat) (mtaped : Int32) (nr : Nat) (mrowMany : Int32) (mroundOf : Int32) (mroundFrom : Int32) (mouts : Int32) (nm : Nat) (mfromHour : Int32) (mtoHour : Int32) (ns : Nat) (mfrom : Int32) (mto : Int32) (msort : Int32) (misFault : Int32) (mdeep : Int32) (mcoded : Int32) (mlines : Int32) (nl : Nat) (nc : Nat) (nF : Nat) (np : Nat) (ntr : Nat) (nb : Nat) (mbestCost : Int32) (nso : Nat) (nsi : Nat) (nit : Nat) (nsh : Nat) (nsf : Nat) (nss : Nat) (nrc : Nat) (jr : Nat) (jd : Nat) (mnumber : Int32) (mwhose : Int32) (msize : Int32) (misParted : Int32) (fnrc : Nat → Int32) (hjr : jr ≤ 30) (hjd : jd < 7) : K_m_dealt3 l G h0 xx nw nk mhasKept nt mtaped nr mrowMany mroundOf mroundFrom mouts nm mfromHour mtoHour ns mfrom mto msort misFault mdeep mcoded mlines nl nc nF np ntr nb mbestCost nso nsi nit nsh nsf nss nrc jr jd mnumber mwhose msize misParted fnrc := by
  refine MI.start (by decide +kernel) (Nat.le_of_ble_eq_true rfl) ?_
  intro p e s m below meth c A ls hC hK hP hD hS hA hl
  refine absQ (fun Q0 hQ0 => ?_)
  have hl : lv_has ls 3 [(0, .ref h0), (1, .int 3), (2, .int xx)] := hl
  refine Kan8 hC (fun hx hb hr hml hB hown hlocks hnm => ?_)
  refine lv_aload_n hx hb gX12_dealt_0.1 rfl (lv_at0 hl) ?_
  refine lv_aload_n hx hb gX12_dealt_0.2.1 rfl (lv_at0 hl) ?_
  refine gf_X12_354 hC rfl hK hP 0 rfl rfl gX12_dealt_0.2.2.1 ?_
  refine lv_iload_n hx hb gX12_dealt_0.2.2.2.1 rfl (lv_at1 hl) ?_
  refine lv_iload_n hx hb gX12_dealt_0.2.2.2.2.1 rfl (lv_at2 hl) ?_
  rcases (show jd = 0 ∨ jd = 1 ∨ jd = 2 ∨ jd = 3 ∨ jd = 4 ∨ jd = 5 ∨ jd = 6 by omega) with rfl | rfl | rfl | rfl | rfl | rfl | rfl
  · refine iV (wr := []) hC hK hl hP hD hS hA (m_from03 l G h0 xx nw nk mhasKept nt mtaped nr mrowMany mroundOf mroundFrom mouts nm mfromHour mtoHour ns mfrom mto msort misFault mdeep mcoded mlines nl nc nF np ntr nb mbestCost nso nsi nit nsh nsf nss nrc jr 0 mnumber mwhose msize misParted fnrc (hjr) (hjd)) si_X12_357 [0, 1] [] sm_0_1 fm_0_1 nd_0_1 rfl rfl (by decide) rfl rfl rfl rfl rfl (Nat.le_of_ble_eq_true rfl) rm_50_40_5 ⟨Nat.le_of_ble_eq_true rfl, Nat.le_of_ble_eq_true rfl⟩ gX12_dealt_0.2.2.2.2.2.1 (fun r6555 => Ktu3 fun jr16557 ip16558 gtrc6559 => ?_)
    intro H locs hr6555 hP hD hS
    try dsimp only at hr6555
    refine Kpdr (ws := [(h0, oX12 nw nk mhasKept nt mtaped nr mrowMany mroundOf mroundFrom mouts nm mfromHour mtoHour ns mfrom mto msort misFault mdeep mcoded mlines nl nc nF np ntr nb mbestCost nso nsi nit nsh nsf nss nrc (nI jr16557) 0 mnumber mwhose msize ip16558), (nrc, iA G 30 gtrc6559)]) hP hD (fun hP hD => ?_)
    obtain ⟨hr6555, w6560⟩ := hr6555
    refine toQ hQ0 ?_
    exact RI (v := r6555) hC hP hD hS [0, 1] (jr16557, ip16558, gtrc6559) rfl rfl (by decide) (⟨trivial, by omega⟩) rfl gX12_dealt_0.2.2.2.2.2.2
  · refine iV (wr := []) hC hK hl hP hD hS hA (m_from13 l G h0 xx nw nk mhasKept nt mtaped nr mrowMany mroundOf mroundFrom mouts nm mfromHour mtoHour ns mfrom mto msort misFault mdeep mcoded mlines nl nc nF np ntr nb mbestCost nso nsi nit nsh nsf nss nrc jr 1 mnumber mwhose msize misParted fnrc (hjr) (hjd)) si_X12_357 [0, 1] [] sm_0_1 fm_0_1 nd_0_1 rfl rfl (by decide) rfl rfl rfl rfl rfl (Nat.le_of_ble_eq_true rfl) rm_50_42_5 ⟨Nat.le_of_ble_eq_true rfl, Nat.le_of_ble_eq_true rfl⟩ gX12_dealt_0.2.2.2.2.2.1 (fun r6561 => Ktu3 fun jr16563 ip16564 gtrc6565 => ?_)
    intro H locs hr6561 hP hD hS
    try dsimp only at hr6561
    refine Kpdr (ws := [(h0, oX12 nw nk mhasKept nt mtaped nr mrowMany mroundOf mroundFrom mouts nm mfromHour mtoHour ns mfrom mto msort misFault mdeep mcoded mlines nl nc nF np ntr nb mbestCost nso nsi nit nsh nsf nss nrc (nI jr16563) 1 mnumber mwhose msize ip16564), (nrc, iA G 30 gtrc6565)]) hP hD (fun hP hD => ?_)
    obtain ⟨hr6561, w6566⟩ := hr6561
    refine toQ hQ0 ?_
    exact RI (v := r6561) hC hP hD hS [0, 1] (jr16563, ip16564, gtrc6565) rfl rfl (by decide) (⟨trivial, by omega⟩) rfl gX12_dealt_0.2.2.2.2.2.2
  · refine iV (wr := []) hC hK hl hP hD hS hA (m_from23 l G h0 xx nw nk mhasKept nt mtaped nr mrowMany mroundOf mroundFrom mouts nm mfromHour mtoHour ns mfrom mto msort misFault mdeep mcoded mlines nl nc nF np ntr nb mbestCost nso nsi nit nsh nsf nss nrc jr 2 mnumber mwhose msize misParted fnrc (hjr) (hjd)) si_X12_357 [0, 1] [] sm_0_1 fm_0_1 nd_0_1 rfl rfl (by decide) rfl rfl rfl rfl rfl (Nat.le_of_ble_eq_true rfl) rm_50_48_5 ⟨Nat.le_of_ble_eq_true rfl, Nat.le_of_ble_eq_true rfl⟩ gX12_dealt_0.2.2.2.2.2.1 (fun r6567 => Ktu3 fun jr16569 ip16570 gtrc6571 => ?_)
    intro H locs hr6567 hP hD hS
    try dsimp only at hr6567
    refine Kpdr (ws := [(h0, oX12 nw nk mhasKept nt mtaped nr mrowMany mroundOf mroundFrom mouts nm mfromHour mtoHour ns mfrom mto msort misFault mdeep mcoded mlines nl nc nF np ntr nb mbestCost nso nsi nit nsh nsf nss nrc (nI jr16569) 2 mnumber mwhose msize ip16570), (nrc, iA G 30 gtrc6571)]) hP hD (fun hP hD => ?_)
    obtain ⟨hr6567, w6572⟩ := hr6567
    refine toQ hQ0 ?_
    exact RI (v := r6567) hC hP hD hS [0, 1] (jr16569, ip16570, gtrc6571) rfl rfl (by decide) (⟨trivial, by omega⟩) rfl gX12_dealt_0.2.2.2.2.2.2
  · refine iV (wr := []) hC hK hl hP hD hS hA (m_from33 l G h0 xx nw nk mhasKept nt mtaped nr mrowMany mroundOf mroundFrom mouts nm mfromHour mtoHour ns mfrom mto msort misFault mdeep mcoded mlines nl nc nF np ntr nb mbestCost nso nsi nit nsh nsf nss nrc jr 3 mnumber mwhose msize misParted fnrc (hjr) (hjd)) si_X12_357 [0, 1] [] sm_0_1 fm_0_1 nd_0_1 rfl rfl (by decide) rfl rfl rfl rfl rfl (Nat.le_of_ble_eq_true rfl) rm_50_44_5 ⟨Nat.le_of_ble_eq_true rfl, Nat.le_of_ble_eq_true rfl⟩ gX12_dealt_0.2.2.2.2.2.1 (fun r6573 => Ktu3 fun jr16575 ip16576 gtrc6577 => ?_)
    intro H locs hr6573 hP hD hS
    try dsimp only at hr6573
    refine Kpdr (ws := [(h0, oX12 nw nk mhasKept nt mtaped nr mrowMany mroundOf mroundFrom mouts nm mfromHour mtoHour ns mfrom mto msort misFault mdeep mcoded mlines nl nc nF np ntr nb mbestCost nso nsi nit nsh nsf nss nrc (nI jr16575) 3 mnumber mwhose msize ip16576), (nrc, iA G 30 gtrc6577)]) hP hD (fun hP hD => ?_)
    obtain ⟨hr6573, w6578⟩ := hr6573
    refine toQ hQ0 ?_
    exact RI (v := r6573) hC hP hD hS [0, 1] (jr16575, ip16576, gtrc6577) rfl rfl (by decide) (⟨trivial, by omega⟩) rfl gX12_dealt_0.2.2.2.2.2.2
  · refine iV (wr := []) hC hK hl hP hD hS hA (m_from43 l G h0 xx nw nk mhasKept nt mtaped nr mrowMany mroundOf mroundFrom mouts nm mfromHour mtoHour ns mfrom mto msort misFault mdeep mcoded mlines nl nc nF np ntr nb mbestCost nso nsi nit nsh nsf nss nrc jr 4 mnumber mwhose msize misParted fnrc (hjr) (hjd)) si_X12_357 [0, 1] [] sm_0_1 fm_0_1 nd_0_1 rfl rfl (by decide) rfl rfl rfl rfl rfl (Nat.le_of_ble_eq_true rfl) rm_50_48_5 ⟨Nat.le_of_ble_eq_true rfl, Nat.le_of_ble_eq_true rfl⟩ gX12_dealt_0.2.2.2.2.2.1 (fun r6579 => Ktu3 fun jr16581 ip16582 gtrc6583 => ?_)
    intro H locs hr6579 hP hD hS
    try dsimp only at hr6579
    refine Kpdr (ws := [(h0, oX12 nw nk mhasKept nt mtaped nr mrowMany mroundOf mroundFrom mouts nm mfromHour mtoHour ns mfrom mto msort misFault mdeep mcoded mlines nl nc nF np ntr nb mbestCost nso nsi nit nsh nsf nss nrc (nI jr16581) 4 mnumber mwhose msize ip16582), (nrc, iA G 30 gtrc6583)]) hP hD (fun hP hD => ?_)
    obtain ⟨hr6579, w6584⟩ := hr6579
    refine toQ hQ0 ?_
    exact RI (v := r6579) hC hP hD hS [0, 1] (jr16581, ip16582, gtrc6583) rfl rfl (by decide) (⟨trivial, by omega⟩) rfl gX12_dealt_0.2.2.2.2.2.2
  · refine iV (wr := []) hC hK hl hP hD hS hA (m_from53 l G h0 xx nw nk mhasKept nt mtaped nr mrowMany mroundOf mroundFrom mouts nm mfromHour mtoHour ns mfrom mto msort misFault mdeep mcoded mlines nl nc nF np ntr nb mbestCost nso nsi nit nsh nsf nss nrc jr 5 mnumber mwhose msize misParted fnrc (hjr) (hjd)) si_X12_357 [0, 1] [] sm_0_1 fm_0_1 nd_0_1 rfl rfl (by decide) rfl rfl rfl rfl rfl (Nat.le_of_ble_eq_true rfl) rm_50_48_5 ⟨Nat.le_of_ble_eq_true rfl, Nat.le_of_ble_eq_true rfl⟩ gX12_dealt_0.2.2.2.2.2.1 (fun r6585 => Ktu3 fun jr16587 ip16588 gtrc6589 => ?_)
    intro H locs hr6585 hP hD hS
    try dsimp only at hr6585
    refine Kpdr (ws := [(h0, oX12 nw nk mhasKept nt mtaped nr mrowMany mroundOf mroundFrom mouts nm mfromHour mtoHour ns mfrom mto msort misFault mdeep mcoded mlines nl nc nF np ntr nb mbestCost nso nsi nit nsh nsf nss nrc (nI jr16587) 5 mnumber mwhose msize ip16588), (nrc, iA G 30 gtrc6589)]) hP hD (fun hP hD => ?_)
    obtain ⟨hr6585, w6590⟩ := hr6585
    refine toQ hQ0 ?_
    exact RI (v := r6585) hC hP hD hS [0, 1] (jr16587, ip16588, gtrc6589) rfl rfl (by decide) (⟨trivial, by omega⟩) rfl gX12_dealt_0.2.2.2.2.2.2
  · refine iV (wr := []) hC hK hl hP hD hS hA (m_from63 l G h0 xx nw nk mhasKept nt mtaped nr mrowMany mroundOf mroundFrom mouts nm mfromHour mtoHour ns mfrom mto msort misFault mdeep mcoded mlines nl nc nF np ntr nb mbestCost nso nsi nit nsh nsf nss nrc jr 6 mnumber mwhose msize misParted fnrc (hjr) (hjd)) si_X12_357 [0, 1] [] sm_0_1 fm_0_1 nd_0_1 rfl rfl (by decide) rfl rfl rfl rfl rfl (Nat.le_of_ble_eq_true rfl) rm_50_46_5 ⟨Nat.le_of_ble_eq_true rfl, Nat.le_of_ble_eq_true rfl⟩ gX12_dealt_0.2.2.2.2.2.1 (fun r6591 => Ktu3 fun jr16593 ip16594 gtrc6595 => ?_)
    intro H locs hr6591 hP hD hS
    try dsimp only at hr6591
    refine Kpdr (ws := [(h0, oX12 nw nk mhasKept nt mtaped nr mrowMany mroundOf mroundFrom mouts nm mfromHour mtoHour ns mfrom mto msort misFault mdeep mcoded mlines nl nc nF np ntr nb mbestCost nso nsi nit nsh nsf nss nrc (nI jr16593) 6 mnumber mwhose msize ip16594), (nrc, iA G 30 gtrc6595)]) hP hD (fun hP hD => ?_)
    obtain ⟨hr6591, w6596⟩ := hr6591
    refine toQ hQ0 ?_
    exact RI (v := r6591) hC hP hD hS [0, 1] (jr16593, ip16594, gtrc6595) rfl rfl (by decide) (⟨trivial, by omega⟩) rfl gX12_dealt_0.2.2.2.2.2.2
def K_w_deal (l : Launch) (G : GG) (h0 : Nat) (x1 : Int32) (x2 : Int32) (x3 : Int32) (nw : Nat) (nk : Nat) (mhasKept : Int32) (nt : Nat) (mtaped : Int32) (nr : Nat) (mrowMany : Int32) (mroundOf : Int32) (mroundFrom : Int32) (mouts : Int32) (nm : Nat) (mfromHour : Int32) (mtoHour : Int32) (ns : Nat) (mfrom : Int32) (mto : Int32) (msort : Int32) (misFault : Int32) (mdeep : Int32) (mcoded : Int32) (mlines : Int32) (nl : Nat) (nc : Nat) (nF : Nat) (np : Nat) (ntr : Nat) (nb : Nat) (mbestCost : Int32) (nso : Nat) (nsi : Nat) (nit : Nat) (nsh : Nat) (nsf : Nat) (nss : Nat) (nrc : Nat) (mtraced : Int32) (mdealer : Int32) (mnumber : Int32) (mwhose : Int32) (msize : Int32) (misParted : Int32) (fnw : Nat → Int32) (fnsh : Nat → Int32) (fnsf : Nat → Int32) (fnrc : Nat → Int32) : Prop := MI l G yX12_deal cX12_deal 8 (some .int) 60 0 0 [.ref h0, .int x1, .int x2, .int x3] [(h0, oX12 nw nk mhasKept nt mtaped nr mrowMany mroundOf mroundFrom mouts nm mfromHour mtoHour ns mfrom mto msort misFault mdeep mcoded mlines nl nc nF np ntr nb mbestCost nso nsi nit nsh nsf nss nrc mtraced mdealer mnumber mwhose msize misParted), (nw, iA G 1662 fnw), (nsh, iA G 4 fnsh), (nsf, iA G 4 fnsf), (nrc, iA G 30 fnrc)] (fun (r : Int32) (u : Nat × Int32 × Int32 × Int32 × Int32 × Int32 × (Nat → Int32)) => (True) ∧ (u.1 ≤ 30)) (fun u : Nat × Int32 × Int32 × Int32 × Int32 × Int32 × (Nat → Int32) => [(h0, oX12 nw nk mhasKept nt mtaped nr mrowMany mroundOf mroundFrom mouts nm mfromHour mtoHour ns mfrom mto msort misFault mdeep mcoded mlines nl nc nF np ntr nb mbestCost nso nsi nit nsh nsf nss nrc (nI u.1) u.2.1 u.2.2.1 u.2.2.2.1 u.2.2.2.2.1 u.2.2.2.2.2.1), (nw, iA G 1662 fnw), (nsh, iA G 4 fnsh), (nsf, iA G 4 fnsf), (nrc, iA G 30 u.2.2.2.2.2.2)])
set_option maxHeartbeats 4000000 in
set_option maxRecDepth 100000 in
theorem w_deal (l : Launch) (G : GG) (h0 : Nat) (x1 : Int32) (x2 : Int32) (x3 : Int32) (nw : Nat) (nk : Nat) (mhasKept : Int32) (nt : Nat) (mtaped : Int32) (nr : Nat) (mrowMany : Int32) (mroundOf : Int32) (mroundFrom : Int32) (mouts : Int32) (nm : Nat) (mfromHour : Int32) (mtoHour : Int32) (ns : Nat) (mfrom : Int32) (mto : Int32) (msort : Int32) (misFault : Int32) (mdeep : Int32) (mcoded : Int32) (mlines : Int32) (nl : Nat) (nc : Nat) (nF : Nat) (np : Nat) (ntr : Nat) (nb : Nat) (mbestCost : Int32) (nso : Nat) (nsi : Nat) (nit : Nat) (nsh : Nat) (nsf : Nat) (nss : Nat) (nrc : Nat) (mtraced : Int32) (mdealer : Int32) (mnumber : Int32) (mwhose : Int32) (msize : Int32) (misParted : Int32) (fnw : Nat → Int32) (fnsh : Nat → Int32) (fnsf : Nat → Int32) (fnrc : Nat → Int32) (hN : NI fnw) : K_w_deal l G h0 x1 x2 x3 nw nk mhasKept nt mtaped nr mrowMany mroundOf mroundFrom mouts nm mfromHour mtoHour ns mfrom mto msort misFault mdeep mcoded mlines nl nc nF np ntr nb mbestCost nso nsi nit nsh nsf nss nrc mtraced mdealer mnumber mwhose msize misParted fnw fnsh fnsf fnrc := by
  refine MI.start (by decide +kernel) (Nat.le_of_ble_eq_true rfl) ?_
  intro p e s m below meth c A ls hC hK hP hD hS hA hl
  refine absQ (fun Q0 hQ0 => ?_)
  have hl : lv_has ls 8 [(0, .ref h0), (1, .int x1), (2, .int x2), (3, .int x3)] := hl
  refine Kan8 hC (fun hx hb hr hml hB hown hlocks hnm => ?_)
  refine lv_aload_n hx hb gX12_deal_0.1 rfl (lv_at0 hl) ?_
  refine lv_iconst (v := 0) hx hb gX12_deal_0.2.1 (by decide) ?_
  refine pf_X12_351 hC rfl hK hP hD hS 0 (ws' := [(h0, oX12 nw nk mhasKept nt mtaped nr mrowMany mroundOf mroundFrom mouts nm mfromHour mtoHour ns mfrom mto msort misFault mdeep mcoded mlines nl nc nF np ntr nb mbestCost nso nsi nit nsh nsf nss nrc 0 mdealer mnumber mwhose msize misParted), (nw, iA G 1662 fnw), (nsh, iA G 4 fnsh), (nsf, iA G 4 fnsf), (nrc, iA G 30 fnrc)]) rfl (Nat.le_of_ble_eq_true rfl) rfl rfl rfl gX12_deal_0.2.2.1 (fun H locs hP hD hS => ?_)
  refine lv_iload_n hx hb gX12_deal_0.2.2.2.1 rfl (lv_at1 hl) ?_
  refine pS hC hK hl (m_isFour l G x1) si_X12_336 rfl rfl (Nat.le_of_ble_eq_true rfl) rm_60_2_1 ⟨by first | exact Nat.le_of_ble_eq_true rfl | exact Nat.zero_le _, by first | exact Nat.le_of_ble_eq_true rfl | exact Nat.zero_le _⟩ gX12_deal_0.2.2.2.2.1 (Kors (Keqa fun a6598 => ?_) (Keqa fun a6598 => ?_))
  · refine lv_if_eq (tgt := 19) hx hb gX12_deal_0.2.2.2.2.2.1 (by decide) (fun c9 => absurd c9 (by decide)) (fun _ => ?_)
    refine lv_iload_n hx hb gX12_deal_0.2.2.2.2.2.2.1 rfl (lv_at2 hl) ?_
    refine pS hC hK hl (m_isFour l G x2) si_X12_336 rfl rfl (Nat.le_of_ble_eq_true rfl) rm_60_2_1 ⟨by first | exact Nat.le_of_ble_eq_true rfl | exact Nat.zero_le _, by first | exact Nat.le_of_ble_eq_true rfl | exact Nat.zero_le _⟩ gX12_deal_0.2.2.2.2.2.2.2.1 (Kors (Keqa fun a6600 => ?_) (Keqa fun a6600 => ?_))
    · refine lv_if_ne (tgt := 23) hx hb gX12_deal_0.2.2.2.2.2.2.2.2.1 (by decide) (fun _ => ?_) (fun c9 => absurd c9 (by decide))
      obtain ⟨jt, hjt, rfl⟩ := Wi_nat (N := 3) (by decide) a6598
      refine lv_aload_n hx hb gX12_deal_1.2.1 rfl (lv_at0 hl) ?_
      refine lv_iload_n hx hb gX12_deal_1.2.2.1 rfl (lv_at1 hl) ?_
      refine pV hC hK hl hP hD (m_kindOn l G h0 jt nw nk mhasKept nt mtaped nr mrowMany mroundOf mroundFrom mouts nm mfromHour mtoHour ns mfrom mto msort misFault mdeep mcoded mlines nl nc nF np ntr nb mbestCost nso nsi nit nsh nsf nss nrc 0 mdealer mnumber mwhose msize misParted fnw fnsh fnsf (by omega) (hN)) si_X12_345 [0, 1, 2, 3] sm_0_1_2_3 fm_0_1_2_3 nd_0_1_2_3 rfl rfl rfl rfl rfl (Nat.le_of_ble_eq_true rfl) rm_60_3_4 ⟨by first | exact Nat.le_of_ble_eq_true rfl | exact Nat.zero_le _, by first | exact Nat.le_of_ble_eq_true rfl | exact Nat.zero_le _⟩ gX12_deal_1.2.2.2.1 (Kors (Keqr ?_) (Kors (Keqa fun a6602 => ?_) (Kors (Keqa fun a6602 => ?_) (Kors (Keqa fun a6602 => ?_) (Kors (Keqa fun a6602 => ?_) (Kors (Keqa fun a6602 => ?_) (Keqa fun a6602 => ?_)))))))
      · refine lv_istore (lv' := [(4, .int (-1)), (0, .ref h0), (1, .int (nI jt)), (2, .int x2), (3, .int x3)]) hx hb gX12_deal_1.2.2.2.2.1 hl (by decide) rfl (fun ls hl => ?_)
        refine lv_iload hx hb gX12_deal_1.2.2.2.2.2.1 (lv_at0 hl) ?_
        refine lv_if_ge (tgt := 37) hx hb gX12_deal_1.2.2.2.2.2.2.1 (by decide) (fun c9 => absurd c9 (by decide)) (fun _ => ?_)
        refine lv_iconst (v := 0) hx hb gX12_deal_1.2.2.2.2.2.2.2.1 (by decide) ?_
        refine toQ hQ0 ?_
        exact RI (v := 0) hC hP hD hS [0, 1, 2, 3, 4] (0, mdealer, mnumber, mwhose, msize, misParted, fnrc) rfl rfl (by decide) (⟨trivial, by omega⟩) rfl gX12_deal_1.2.2.2.2.2.2.2.2.1
      · refine lv_istore (lv' := [(4, .int 1), (0, .ref h0), (1, .int (nI jt)), (2, .int x2), (3, .int x3)]) hx hb gX12_deal_1.2.2.2.2.1 hl (by decide) rfl (fun ls hl => ?_)
        refine lv_iload hx hb gX12_deal_1.2.2.2.2.2.1 (lv_at0 hl) ?_
        refine lv_if_ge (tgt := 37) hx hb gX12_deal_1.2.2.2.2.2.2.1 (by decide) (fun _ => ?_) (fun c9 => absurd (by decide) c9)
        refine lv_aload_n hx hb gX12_deal_1.2.2.2.2.2.2.2.2.2 rfl (lv_at1 hl) ?_
        refine lv_iload hx hb gX12_deal_2.1 (lv_at0 hl) ?_
        refine pf_X12_354 hC rfl hK hP hD hS 0 (ws' := [(h0, oX12 nw nk mhasKept nt mtaped nr mrowMany mroundOf mroundFrom mouts nm mfromHour mtoHour ns mfrom mto msort misFault mdeep mcoded mlines nl nc nF np ntr nb mbestCost nso nsi nit nsh nsf nss nrc 0 1 mnumber mwhose msize misParted), (nw, iA G 1662 fnw), (nsh, iA G 4 fnsh), (nsf, iA G 4 fnsf), (nrc, iA G 30 fnrc)]) rfl (Nat.le_of_ble_eq_true rfl) rfl rfl rfl gX12_deal_2.2.1 (fun H locs hP hD hS => ?_)
        refine lv_aload_n hx hb gX12_deal_2.2.2.1 rfl (lv_at1 hl) ?_
        refine lv_aload_n hx hb gX12_deal_2.2.2.2.1 rfl (lv_at1 hl) ?_
        refine gf_X12_75 hC rfl hK hP 0 rfl rfl gX12_deal_2.2.2.2.2.1 ?_
        refine lv_iload_n hx hb gX12_deal_2.2.2.2.2.2.1 rfl (lv_at2 hl) ?_
        refine aldN hC hK hP 3 rfl (k := jt) (by omega) (Nat.le_of_ble_eq_true rfl) (v := fnsf jt) rfl gX12_deal_2.2.2.2.2.2.2.1 ?_
        refine lv_topi (fun x6603 ex6603 => ?_)
        obtain ⟨hko9, jno, hjno, ejno⟩ := a6602
        refine eqi (x1 := nI jno) (ex6603.trans ejno) ?_
        refine pf_X12_378 hC rfl hK hP hD hS 0 (ws' := [(h0, oX12 nw nk mhasKept nt mtaped nr mrowMany mroundOf mroundFrom mouts nm mfromHour mtoHour ns mfrom mto msort misFault mdeep mcoded mlines nl nc nF np ntr nb mbestCost nso nsi nit nsh nsf nss nrc 0 1 (nI jno) mwhose msize misParted), (nw, iA G 1662 fnw), (nsh, iA G 4 fnsh), (nsf, iA G 4 fnsf), (nrc, iA G 30 fnrc)]) rfl (Nat.le_of_ble_eq_true rfl) rfl rfl rfl gX12_deal_2.2.2.2.2.2.2.2.1 (fun H locs hP hD hS => ?_)
        refine lv_aload_n hx hb gX12_deal_2.2.2.2.2.2.2.2.2.1 rfl (lv_at1 hl) ?_
        refine gf_X12_72 hC rfl hK hP 0 rfl rfl gX12_deal_2.2.2.2.2.2.2.2.2.2 ?_
        refine lv_iload_n hx hb gX12_deal_3.1 rfl (lv_at2 hl) ?_
        refine aldN hC hK hP 2 rfl (k := jt) (by omega) (Nat.le_of_ble_eq_true rfl) (v := fnsh jt) rfl gX12_deal_3.2.1 ?_
        refine lv_topi (fun x6604 ex6604 => ?_)
        refine lv_iconst (v := 1) hx hb gX12_deal_3.2.2.1 (by decide) ?_
        refine lv_icmp_ne (tgt := 67) hx hb gX12_deal_3.2.2.2.1 (by decide) (fun c9 => absurd (ex6604.trans hko9) c9) (fun _ => ?_)
        refine lv_iconst (v := 1) hx hb gX12_deal_3.2.2.2.2.1 (by decide) ?_
        refine lv_goto (tgt := 68) hx hb gX12_deal_3.2.2.2.2.2.1 (by decide) ?_
        refine lv_istore (lv' := [(5, .int 1), (4, .int 1), (0, .ref h0), (1, .int (nI jt)), (2, .int x2), (3, .int x3)]) hx hb gX12_deal_3.2.2.2.2.2.2.2.1 hl (by decide) rfl (fun ls hl => ?_)
        refine lv_aload_n hx hb gX12_deal_3.2.2.2.2.2.2.2.2.1 rfl (lv_at2 hl) ?_
        refine gf_X12_72 hC rfl hK hP 0 rfl rfl gX12_deal_3.2.2.2.2.2.2.2.2.2 ?_
        refine lv_iload_n hx hb gX12_deal_4.1 rfl (lv_at3 hl) ?_
        refine aldN hC hK hP 2 rfl (k := jt) (by omega) (Nat.le_of_ble_eq_true rfl) (v := fnsh jt) rfl gX12_deal_4.2.1 ?_
        refine lv_topi (fun x6605 ex6605 => ?_)
        refine lv_iconst (v := 2) hx hb gX12_deal_4.2.2.1 (by decide) ?_
        refine lv_icmp_ne (tgt := 84) hx hb gX12_deal_4.2.2.2.1 (by decide) (fun _ => ?_) (fun c9 => absurd c9 (fun h9 => absurd (hko9.symm.trans ((ex6605.symm).trans h9)) (by decide)))
        refine lv_iconst (v := 0) hx hb gX12_deal_4.2.2.2.2.2.2.1 (by decide) ?_
        refine lv_istore (lv' := [(6, .int 0), (5, .int 1), (4, .int 1), (0, .ref h0), (1, .int (nI jt)), (2, .int x2), (3, .int x3)]) hx hb gX12_deal_4.2.2.2.2.2.2.2.1 hl (by decide) rfl (fun ls hl => ?_)
        refine lv_aload_n hx hb gX12_deal_4.2.2.2.2.2.2.2.2.1 rfl (lv_at3 hl) ?_
        refine lv_iload hx hb gX12_deal_4.2.2.2.2.2.2.2.2.2 (lv_at1 hl) ?_
        refine lv_if_eq (tgt := 105) hx hb gX12_deal_5.1 (by decide) (fun c9 => absurd c9 (by decide)) (fun _ => ?_)
        refine lv_aload_n hx hb gX12_deal_5.2.1 rfl (lv_at3 hl) ?_
        refine lv_aload_n hx hb gX12_deal_5.2.2.1 rfl (lv_at3 hl) ?_
        refine gf_X12_378 hC rfl hK hP 0 rfl rfl gX12_deal_5.2.2.2.1 ?_
        refine lv_iconst (v := 0) hx hb gX12_deal_5.2.2.2.2.1 (by decide) ?_
        refine pV hC hK hl hP hD (m_paper l G h0 jno 0 nw nk mhasKept nt mtaped nr mrowMany mroundOf mroundFrom mouts nm mfromHour mtoHour ns mfrom mto msort misFault mdeep mcoded mlines nl nc nF np ntr nb mbestCost nso nsi nit nsh nsf nss nrc 0 1 (nI jno) mwhose msize misParted fnw (by omega) (by omega)) si_X12_88 [0, 1] sm_0_1 fm_0_1 nd_0_1 rfl rfl rfl rfl rfl (Nat.le_of_ble_eq_true rfl) rm_60_1_3 ⟨by first | exact Nat.le_of_ble_eq_true rfl | exact Nat.zero_le _, by first | exact Nat.le_of_ble_eq_true rfl | exact Nat.zero_le _⟩ gX12_deal_5.2.2.2.2.2.1 (Keqr ?_)
        refine lv_goto (tgt := 139) hx hb gX12_deal_5.2.2.2.2.2.2.1 (by decide) ?_
        refine pf_X12_375 hC rfl hK hP hD hS 0 (ws' := [(h0, oX12 nw nk mhasKept nt mtaped nr mrowMany mroundOf mroundFrom mouts nm mfromHour mtoHour ns mfrom mto msort misFault mdeep mcoded mlines nl nc nF np ntr nb mbestCost nso nsi nit nsh nsf nss nrc 0 1 (nI jno) (fnw (32 + 6 * jno + 0)) msize misParted), (nw, iA G 1662 fnw), (nsh, iA G 4 fnsh), (nsf, iA G 4 fnsf), (nrc, iA G 30 fnrc)]) rfl (Nat.le_of_ble_eq_true rfl) rfl rfl rfl gX12_deal_7.2.2.2.2.2.2.1 (fun H locs hP hD hS => ?_)
        refine lv_aload_n hx hb gX12_deal_7.2.2.2.2.2.2.2.1 rfl (lv_at3 hl) ?_
        refine lv_iload hx hb gX12_deal_7.2.2.2.2.2.2.2.2.1 (lv_at1 hl) ?_
        refine lv_if_eq (tgt := 160) hx hb gX12_deal_7.2.2.2.2.2.2.2.2.2 (by decide) (fun c9 => absurd c9 (by decide)) (fun _ => ?_)
        refine lv_aload_n hx hb gX12_deal_8.1 rfl (lv_at3 hl) ?_
        refine lv_aload_n hx hb gX12_deal_8.2.1 rfl (lv_at3 hl) ?_
        refine gf_X12_378 hC rfl hK hP 0 rfl rfl gX12_deal_8.2.2.1 ?_
        refine lv_iconst (v := 2) hx hb gX12_deal_8.2.2.2.1 (by decide) ?_
        refine pV hC hK hl hP hD (m_paper l G h0 jno 2 nw nk mhasKept nt mtaped nr mrowMany mroundOf mroundFrom mouts nm mfromHour mtoHour ns mfrom mto msort misFault mdeep mcoded mlines nl nc nF np ntr nb mbestCost nso nsi nit nsh nsf nss nrc 0 1 (nI jno) (fnw (32 + 6 * jno + 0)) msize misParted fnw (by omega) (by omega)) si_X12_88 [0, 1] sm_0_1 fm_0_1 nd_0_1 rfl rfl rfl rfl rfl (Nat.le_of_ble_eq_true rfl) rm_60_1_3 ⟨by first | exact Nat.le_of_ble_eq_true rfl | exact Nat.zero_le _, by first | exact Nat.le_of_ble_eq_true rfl | exact Nat.zero_le _⟩ gX12_deal_8.2.2.2.2.1 (Keqr ?_)
        refine lv_goto (tgt := 194) hx hb gX12_deal_8.2.2.2.2.2.1 (by decide) ?_
        refine pf_X12_369 hC rfl hK hP hD hS 0 (ws' := [(h0, oX12 nw nk mhasKept nt mtaped nr mrowMany mroundOf mroundFrom mouts nm mfromHour mtoHour ns mfrom mto msort misFault mdeep mcoded mlines nl nc nF np ntr nb mbestCost nso nsi nit nsh nsf nss nrc 0 1 (nI jno) (fnw (32 + 6 * jno + 0)) (fnw (32 + 6 * jno + 2)) misParted), (nw, iA G 1662 fnw), (nsh, iA G 4 fnsh), (nsf, iA G 4 fnsf), (nrc, iA G 30 fnrc)]) rfl (Nat.le_of_ble_eq_true rfl) rfl rfl rfl gX12_deal_10.2.2.2.2.2.1 (fun H locs hP hD hS => ?_)
        refine lv_aload_n hx hb gX12_deal_10.2.2.2.2.2.2.1 rfl (lv_at3 hl) ?_
        refine lv_iconst (v := 0) hx hb gX12_deal_10.2.2.2.2.2.2.2.1 (by decide) ?_
        refine pf_X12_380 hC rfl hK hP hD hS 0 (ws' := [(h0, oX12 nw nk mhasKept nt mtaped nr mrowMany mroundOf mroundFrom mouts nm mfromHour mtoHour ns mfrom mto msort misFault mdeep mcoded mlines nl nc nF np ntr nb mbestCost nso nsi nit nsh nsf nss nrc 0 1 (nI jno) (fnw (32 + 6 * jno + 0)) (fnw (32 + 6 * jno + 2)) 0), (nw, iA G 1662 fnw), (nsh, iA G 4 fnsh), (nsf, iA G 4 fnsf), (nrc, iA G 30 fnrc)]) rfl (Nat.le_of_ble_eq_true rfl) rfl (by decide +kernel) (by decide +kernel) gX12_deal_10.2.2.2.2.2.2.2.2.1 (fun H locs hP hD hS => ?_)
        obtain ⟨jdl, hjdl, rfl⟩ := Wi_nat (N := 3) (by decide) a6600
        rcases (show jdl = 0 ∨ jdl = 1 ∨ jdl = 2 ∨ jdl = 3 by omega) with rfl | rfl | rfl | rfl
        · refine lv_aload_n hx hb gX12_deal_10.2.2.2.2.2.2.2.2.2 rfl (lv_at3 hl) ?_
          refine lv_iload_n hx hb gX12_deal_11.1 rfl (lv_at5 hl) ?_
          refine lv_iload_n hx hb gX12_deal_11.2.1 rfl (lv_at6 hl) ?_
          refine iV (wr := [(nw, iA G 1662 fnw), (nsh, iA G 4 fnsh), (nsf, iA G 4 fnsf)]) hC hK hl hP hD hS hA (m_dealt0 l G h0 x3 nw nk mhasKept nt mtaped nr mrowMany mroundOf mroundFrom mouts nm mfromHour mtoHour ns mfrom mto msort misFault mdeep mcoded mlines nl nc nF np ntr nb mbestCost nso nsi nit nsh nsf nss nrc 0 1 (nI jno) (fnw (32 + 6 * jno + 0)) (fnw (32 + 6 * jno + 2)) 0 fnrc (by omega) (by omega)) si_X12_372 [0, 4] [1, 2, 3] sm_0_4 fm_0_4 nd_0_4 sm_1_2_3 nd_1_2_3 dj_0_4__1_2_3 rfl rfl rfl rfl rfl (Nat.le_of_ble_eq_true rfl) rm_60_14_3 ⟨Nat.le_of_ble_eq_true rfl, Nat.le_of_ble_eq_true rfl⟩ gX12_deal_11.2.2.1 (fun r6610 => Ktu3 fun jr16612 ip16613 gtrc6614 => ?_)
          intro H locs hr6610 hP hD hS
          try dsimp only at hr6610
          refine Kpdr (ws := [(nw, iA G 1662 fnw), (nsh, iA G 4 fnsh), (nsf, iA G 4 fnsf), (h0, oX12 nw nk mhasKept nt mtaped nr mrowMany mroundOf mroundFrom mouts nm mfromHour mtoHour ns mfrom mto msort misFault mdeep mcoded mlines nl nc nF np ntr nb mbestCost nso nsi nit nsh nsf nss nrc (nI jr16612) 1 (nI jno) (fnw (32 + 6 * jno + 0)) (fnw (32 + 6 * jno + 2)) ip16613), (nrc, iA G 30 gtrc6614)]) hP hD (fun hP hD => ?_)
          obtain ⟨hr6610, w6615⟩ := hr6610
          refine lv_istore (lv' := [(7, .int r6610), (6, .int 0), (5, .int 1), (4, .int 1), (0, .ref h0), (1, .int (nI jt)), (2, .int 0), (3, .int x3)]) hx hb gX12_deal_11.2.2.2.1 hl (by decide) rfl (fun ls hl => ?_)
          refine lv_aload_n hx hb gX12_deal_11.2.2.2.2.1 rfl (lv_at4 hl) ?_
          refine gf_X12_380 hC rfl hK hP 3 rfl rfl gX12_deal_11.2.2.2.2.2.1 ?_
          refine lv_if_eq (tgt := 222) hx hb gX12_deal_11.2.2.2.2.2.2.1 (by decide) (fun c_214_6616 => ?_) (fun c_214_6616 => ?_)
          · refine lv_iload hx hb gX12_deal_11.2.2.2.2.2.2.2.2.2 (lv_at0 hl) ?_
            refine toQ hQ0 ?_
            exact RI (v := r6610) hC hP hD hS [3, 0, 1, 2, 4] (jr16612, 1, nI jno, fnw (32 + 6 * jno + 0), fnw (32 + 6 * jno + 2), ip16613, gtrc6614) rfl rfl (by decide) (⟨trivial, by omega⟩) rfl gX12_deal_12
          · refine lv_bipush (v := (-15)) hx hb gX12_deal_11.2.2.2.2.2.2.2.1 (by decide) ?_
            refine lv_goto (tgt := 224) hx hb gX12_deal_11.2.2.2.2.2.2.2.2.1 (by decide) ?_
            refine toQ hQ0 ?_
            exact RI (v := (-15)) hC hP hD hS [3, 0, 1, 2, 4] (jr16612, 1, nI jno, fnw (32 + 6 * jno + 0), fnw (32 + 6 * jno + 2), ip16613, gtrc6614) rfl rfl (by decide) (⟨trivial, by omega⟩) rfl gX12_deal_12
        · refine lv_aload_n hx hb gX12_deal_10.2.2.2.2.2.2.2.2.2 rfl (lv_at3 hl) ?_
          refine lv_iload_n hx hb gX12_deal_11.1 rfl (lv_at5 hl) ?_
          refine lv_iload_n hx hb gX12_deal_11.2.1 rfl (lv_at6 hl) ?_
          refine iV (wr := [(nw, iA G 1662 fnw), (nsh, iA G 4 fnsh), (nsf, iA G 4 fnsf)]) hC hK hl hP hD hS hA (m_dealt1 l G h0 x3 nw nk mhasKept nt mtaped nr mrowMany mroundOf mroundFrom mouts nm mfromHour mtoHour ns mfrom mto msort misFault mdeep mcoded mlines nl nc nF np ntr nb mbestCost nso nsi nit nsh nsf nss nrc 0 1 (nI jno) (fnw (32 + 6 * jno + 0)) (fnw (32 + 6 * jno + 2)) 0 fnrc (by omega) (by omega)) si_X12_372 [0, 4] [1, 2, 3] sm_0_4 fm_0_4 nd_0_4 sm_1_2_3 nd_1_2_3 dj_0_4__1_2_3 rfl rfl rfl rfl rfl (Nat.le_of_ble_eq_true rfl) rm_60_26_3 ⟨Nat.le_of_ble_eq_true rfl, Nat.le_of_ble_eq_true rfl⟩ gX12_deal_11.2.2.1 (fun r6617 => Ktu3 fun jr16619 ip16620 gtrc6621 => ?_)
          intro H locs hr6617 hP hD hS
          try dsimp only at hr6617
          refine Kpdr (ws := [(nw, iA G 1662 fnw), (nsh, iA G 4 fnsh), (nsf, iA G 4 fnsf), (h0, oX12 nw nk mhasKept nt mtaped nr mrowMany mroundOf mroundFrom mouts nm mfromHour mtoHour ns mfrom mto msort misFault mdeep mcoded mlines nl nc nF np ntr nb mbestCost nso nsi nit nsh nsf nss nrc (nI jr16619) 1 (nI jno) (fnw (32 + 6 * jno + 0)) (fnw (32 + 6 * jno + 2)) ip16620), (nrc, iA G 30 gtrc6621)]) hP hD (fun hP hD => ?_)
          obtain ⟨hr6617, w6622⟩ := hr6617
          refine lv_istore (lv' := [(7, .int r6617), (6, .int 0), (5, .int 1), (4, .int 1), (0, .ref h0), (1, .int (nI jt)), (2, .int 1), (3, .int x3)]) hx hb gX12_deal_11.2.2.2.1 hl (by decide) rfl (fun ls hl => ?_)
          refine lv_aload_n hx hb gX12_deal_11.2.2.2.2.1 rfl (lv_at4 hl) ?_
          refine gf_X12_380 hC rfl hK hP 3 rfl rfl gX12_deal_11.2.2.2.2.2.1 ?_
          refine lv_if_eq (tgt := 222) hx hb gX12_deal_11.2.2.2.2.2.2.1 (by decide) (fun c_214_6623 => ?_) (fun c_214_6623 => ?_)
          · refine lv_iload hx hb gX12_deal_11.2.2.2.2.2.2.2.2.2 (lv_at0 hl) ?_
            refine toQ hQ0 ?_
            exact RI (v := r6617) hC hP hD hS [3, 0, 1, 2, 4] (jr16619, 1, nI jno, fnw (32 + 6 * jno + 0), fnw (32 + 6 * jno + 2), ip16620, gtrc6621) rfl rfl (by decide) (⟨trivial, by omega⟩) rfl gX12_deal_12
          · refine lv_bipush (v := (-15)) hx hb gX12_deal_11.2.2.2.2.2.2.2.1 (by decide) ?_
            refine lv_goto (tgt := 224) hx hb gX12_deal_11.2.2.2.2.2.2.2.2.1 (by decide) ?_
            refine toQ hQ0 ?_
            exact RI (v := (-15)) hC hP hD hS [3, 0, 1, 2, 4] (jr16619, 1, nI jno, fnw (32 + 6 * jno + 0), fnw (32 + 6 * jno + 2), ip16620, gtrc6621) rfl rfl (by decide) (⟨trivial, by omega⟩) rfl gX12_deal_12
        · refine lv_aload_n hx hb gX12_deal_10.2.2.2.2.2.2.2.2.2 rfl (lv_at3 hl) ?_
          refine lv_iload_n hx hb gX12_deal_11.1 rfl (lv_at5 hl) ?_
          refine lv_iload_n hx hb gX12_deal_11.2.1 rfl (lv_at6 hl) ?_
          refine iV (wr := [(nw, iA G 1662 fnw), (nsh, iA G 4 fnsh), (nsf, iA G 4 fnsf)]) hC hK hl hP hD hS hA (m_dealt2 l G h0 x3 nw nk mhasKept nt mtaped nr mrowMany mroundOf mroundFrom mouts nm mfromHour mtoHour ns mfrom mto msort misFault mdeep mcoded mlines nl nc nF np ntr nb mbestCost nso nsi nit nsh nsf nss nrc 0 1 (nI jno) (fnw (32 + 6 * jno + 0)) (fnw (32 + 6 * jno + 2)) 0 fnrc (by omega) (by omega)) si_X12_372 [0, 4] [1, 2, 3] sm_0_4 fm_0_4 nd_0_4 sm_1_2_3 nd_1_2_3 dj_0_4__1_2_3 rfl rfl rfl rfl rfl (Nat.le_of_ble_eq_true rfl) rm_60_38_3 ⟨Nat.le_of_ble_eq_true rfl, Nat.le_of_ble_eq_true rfl⟩ gX12_deal_11.2.2.1 (fun r6624 => Ktu3 fun jr16626 ip16627 gtrc6628 => ?_)
          intro H locs hr6624 hP hD hS
          try dsimp only at hr6624
          refine Kpdr (ws := [(nw, iA G 1662 fnw), (nsh, iA G 4 fnsh), (nsf, iA G 4 fnsf), (h0, oX12 nw nk mhasKept nt mtaped nr mrowMany mroundOf mroundFrom mouts nm mfromHour mtoHour ns mfrom mto msort misFault mdeep mcoded mlines nl nc nF np ntr nb mbestCost nso nsi nit nsh nsf nss nrc (nI jr16626) 1 (nI jno) (fnw (32 + 6 * jno + 0)) (fnw (32 + 6 * jno + 2)) ip16627), (nrc, iA G 30 gtrc6628)]) hP hD (fun hP hD => ?_)
          obtain ⟨hr6624, w6629⟩ := hr6624
          refine lv_istore (lv' := [(7, .int r6624), (6, .int 0), (5, .int 1), (4, .int 1), (0, .ref h0), (1, .int (nI jt)), (2, .int 2), (3, .int x3)]) hx hb gX12_deal_11.2.2.2.1 hl (by decide) rfl (fun ls hl => ?_)
          refine lv_aload_n hx hb gX12_deal_11.2.2.2.2.1 rfl (lv_at4 hl) ?_
          refine gf_X12_380 hC rfl hK hP 3 rfl rfl gX12_deal_11.2.2.2.2.2.1 ?_
          refine lv_if_eq (tgt := 222) hx hb gX12_deal_11.2.2.2.2.2.2.1 (by decide) (fun c_214_6630 => ?_) (fun c_214_6630 => ?_)
          · refine lv_iload hx hb gX12_deal_11.2.2.2.2.2.2.2.2.2 (lv_at0 hl) ?_
            refine toQ hQ0 ?_
            exact RI (v := r6624) hC hP hD hS [3, 0, 1, 2, 4] (jr16626, 1, nI jno, fnw (32 + 6 * jno + 0), fnw (32 + 6 * jno + 2), ip16627, gtrc6628) rfl rfl (by decide) (⟨trivial, by omega⟩) rfl gX12_deal_12
          · refine lv_bipush (v := (-15)) hx hb gX12_deal_11.2.2.2.2.2.2.2.1 (by decide) ?_
            refine lv_goto (tgt := 224) hx hb gX12_deal_11.2.2.2.2.2.2.2.2.1 (by decide) ?_
            refine toQ hQ0 ?_
            exact RI (v := (-15)) hC hP hD hS [3, 0, 1, 2, 4] (jr16626, 1, nI jno, fnw (32 + 6 * jno + 0), fnw (32 + 6 * jno + 2), ip16627, gtrc6628) rfl rfl (by decide) (⟨trivial, by omega⟩) rfl gX12_deal_12
        · refine lv_aload_n hx hb gX12_deal_10.2.2.2.2.2.2.2.2.2 rfl (lv_at3 hl) ?_
          refine lv_iload_n hx hb gX12_deal_11.1 rfl (lv_at5 hl) ?_
          refine lv_iload_n hx hb gX12_deal_11.2.1 rfl (lv_at6 hl) ?_
          refine iV (wr := [(nw, iA G 1662 fnw), (nsh, iA G 4 fnsh), (nsf, iA G 4 fnsf)]) hC hK hl hP hD hS hA (m_dealt3 l G h0 x3 nw nk mhasKept nt mtaped nr mrowMany mroundOf mroundFrom mouts nm mfromHour mtoHour ns mfrom mto msort misFault mdeep mcoded mlines nl nc nF np ntr nb mbestCost nso nsi nit nsh nsf nss nrc 0 1 (nI jno) (fnw (32 + 6 * jno + 0)) (fnw (32 + 6 * jno + 2)) 0 fnrc (by omega) (by omega)) si_X12_372 [0, 4] [1, 2, 3] sm_0_4 fm_0_4 nd_0_4 sm_1_2_3 nd_1_2_3 dj_0_4__1_2_3 rfl rfl rfl rfl rfl (Nat.le_of_ble_eq_true rfl) rm_60_50_3 ⟨Nat.le_of_ble_eq_true rfl, Nat.le_of_ble_eq_true rfl⟩ gX12_deal_11.2.2.1 (fun r6631 => Ktu3 fun jr16633 ip16634 gtrc6635 => ?_)
          intro H locs hr6631 hP hD hS
          try dsimp only at hr6631
          refine Kpdr (ws := [(nw, iA G 1662 fnw), (nsh, iA G 4 fnsh), (nsf, iA G 4 fnsf), (h0, oX12 nw nk mhasKept nt mtaped nr mrowMany mroundOf mroundFrom mouts nm mfromHour mtoHour ns mfrom mto msort misFault mdeep mcoded mlines nl nc nF np ntr nb mbestCost nso nsi nit nsh nsf nss nrc (nI jr16633) 1 (nI jno) (fnw (32 + 6 * jno + 0)) (fnw (32 + 6 * jno + 2)) ip16634), (nrc, iA G 30 gtrc6635)]) hP hD (fun hP hD => ?_)
          obtain ⟨hr6631, w6636⟩ := hr6631
          refine lv_istore (lv' := [(7, .int r6631), (6, .int 0), (5, .int 1), (4, .int 1), (0, .ref h0), (1, .int (nI jt)), (2, .int 3), (3, .int x3)]) hx hb gX12_deal_11.2.2.2.1 hl (by decide) rfl (fun ls hl => ?_)
          refine lv_aload_n hx hb gX12_deal_11.2.2.2.2.1 rfl (lv_at4 hl) ?_
          refine gf_X12_380 hC rfl hK hP 3 rfl rfl gX12_deal_11.2.2.2.2.2.1 ?_
          refine lv_if_eq (tgt := 222) hx hb gX12_deal_11.2.2.2.2.2.2.1 (by decide) (fun c_214_6637 => ?_) (fun c_214_6637 => ?_)
          · refine lv_iload hx hb gX12_deal_11.2.2.2.2.2.2.2.2.2 (lv_at0 hl) ?_
            refine toQ hQ0 ?_
            exact RI (v := r6631) hC hP hD hS [3, 0, 1, 2, 4] (jr16633, 1, nI jno, fnw (32 + 6 * jno + 0), fnw (32 + 6 * jno + 2), ip16634, gtrc6635) rfl rfl (by decide) (⟨trivial, by omega⟩) rfl gX12_deal_12
          · refine lv_bipush (v := (-15)) hx hb gX12_deal_11.2.2.2.2.2.2.2.1 (by decide) ?_
            refine lv_goto (tgt := 224) hx hb gX12_deal_11.2.2.2.2.2.2.2.2.1 (by decide) ?_
            refine toQ hQ0 ?_
            exact RI (v := (-15)) hC hP hD hS [3, 0, 1, 2, 4] (jr16633, 1, nI jno, fnw (32 + 6 * jno + 0), fnw (32 + 6 * jno + 2), ip16634, gtrc6635) rfl rfl (by decide) (⟨trivial, by omega⟩) rfl gX12_deal_12
      · refine lv_istore (lv' := [(4, .int 2), (0, .ref h0), (1, .int (nI jt)), (2, .int x2), (3, .int x3)]) hx hb gX12_deal_1.2.2.2.2.1 hl (by decide) rfl (fun ls hl => ?_)
        refine lv_iload hx hb gX12_deal_1.2.2.2.2.2.1 (lv_at0 hl) ?_
        refine lv_if_ge (tgt := 37) hx hb gX12_deal_1.2.2.2.2.2.2.1 (by decide) (fun _ => ?_) (fun c9 => absurd (by decide) c9)
        refine lv_aload_n hx hb gX12_deal_1.2.2.2.2.2.2.2.2.2 rfl (lv_at1 hl) ?_
        refine lv_iload hx hb gX12_deal_2.1 (lv_at0 hl) ?_
        refine pf_X12_354 hC rfl hK hP hD hS 0 (ws' := [(h0, oX12 nw nk mhasKept nt mtaped nr mrowMany mroundOf mroundFrom mouts nm mfromHour mtoHour ns mfrom mto msort misFault mdeep mcoded mlines nl nc nF np ntr nb mbestCost nso nsi nit nsh nsf nss nrc 0 2 mnumber mwhose msize misParted), (nw, iA G 1662 fnw), (nsh, iA G 4 fnsh), (nsf, iA G 4 fnsf), (nrc, iA G 30 fnrc)]) rfl (Nat.le_of_ble_eq_true rfl) rfl rfl rfl gX12_deal_2.2.1 (fun H locs hP hD hS => ?_)
        refine lv_aload_n hx hb gX12_deal_2.2.2.1 rfl (lv_at1 hl) ?_
        refine lv_aload_n hx hb gX12_deal_2.2.2.2.1 rfl (lv_at1 hl) ?_
        refine gf_X12_75 hC rfl hK hP 0 rfl rfl gX12_deal_2.2.2.2.2.1 ?_
        refine lv_iload_n hx hb gX12_deal_2.2.2.2.2.2.1 rfl (lv_at2 hl) ?_
        refine aldN hC hK hP 3 rfl (k := jt) (by omega) (Nat.le_of_ble_eq_true rfl) (v := fnsf jt) rfl gX12_deal_2.2.2.2.2.2.2.1 ?_
        refine lv_topi (fun x6638 ex6638 => ?_)
        obtain ⟨hko9, jno, hjno, ejno⟩ := a6602
        refine eqi (x1 := nI jno) (ex6638.trans ejno) ?_
        refine pf_X12_378 hC rfl hK hP hD hS 0 (ws' := [(h0, oX12 nw nk mhasKept nt mtaped nr mrowMany mroundOf mroundFrom mouts nm mfromHour mtoHour ns mfrom mto msort misFault mdeep mcoded mlines nl nc nF np ntr nb mbestCost nso nsi nit nsh nsf nss nrc 0 2 (nI jno) mwhose msize misParted), (nw, iA G 1662 fnw), (nsh, iA G 4 fnsh), (nsf, iA G 4 fnsf), (nrc, iA G 30 fnrc)]) rfl (Nat.le_of_ble_eq_true rfl) rfl rfl rfl gX12_deal_2.2.2.2.2.2.2.2.1 (fun H locs hP hD hS => ?_)
        refine lv_aload_n hx hb gX12_deal_2.2.2.2.2.2.2.2.2.1 rfl (lv_at1 hl) ?_
        refine gf_X12_72 hC rfl hK hP 0 rfl rfl gX12_deal_2.2.2.2.2.2.2.2.2.2 ?_
        refine lv_iload_n hx hb gX12_deal_3.1 rfl (lv_at2 hl) ?_
        refine aldN hC hK hP 2 rfl (k := jt) (by omega) (Nat.le_of_ble_eq_true rfl) (v := fnsh jt) rfl gX12_deal_3.2.1 ?_
        refine lv_topi (fun x6639 ex6639 => ?_)
        refine lv_iconst (v := 1) hx hb gX12_deal_3.2.2.1 (by decide) ?_
        refine lv_icmp_ne (tgt := 67) hx hb gX12_deal_3.2.2.2.1 (by decide) (fun c9 => absurd (ex6639.trans hko9) c9) (fun _ => ?_)
        refine lv_iconst (v := 1) hx hb gX12_deal_3.2.2.2.2.1 (by decide) ?_
        refine lv_goto (tgt := 68) hx hb gX12_deal_3.2.2.2.2.2.1 (by decide) ?_
        refine lv_istore (lv' := [(5, .int 1), (4, .int 2), (0, .ref h0), (1, .int (nI jt)), (2, .int x2), (3, .int x3)]) hx hb gX12_deal_3.2.2.2.2.2.2.2.1 hl (by decide) rfl (fun ls hl => ?_)
        refine lv_aload_n hx hb gX12_deal_3.2.2.2.2.2.2.2.2.1 rfl (lv_at2 hl) ?_
        refine gf_X12_72 hC rfl hK hP 0 rfl rfl gX12_deal_3.2.2.2.2.2.2.2.2.2 ?_
        refine lv_iload_n hx hb gX12_deal_4.1 rfl (lv_at3 hl) ?_
        refine aldN hC hK hP 2 rfl (k := jt) (by omega) (Nat.le_of_ble_eq_true rfl) (v := fnsh jt) rfl gX12_deal_4.2.1 ?_
        refine lv_topi (fun x6640 ex6640 => ?_)
        refine lv_iconst (v := 2) hx hb gX12_deal_4.2.2.1 (by decide) ?_
        refine lv_icmp_ne (tgt := 84) hx hb gX12_deal_4.2.2.2.1 (by decide) (fun _ => ?_) (fun c9 => absurd c9 (fun h9 => absurd (hko9.symm.trans ((ex6640.symm).trans h9)) (by decide)))
        refine lv_iconst (v := 0) hx hb gX12_deal_4.2.2.2.2.2.2.1 (by decide) ?_
        refine lv_istore (lv' := [(6, .int 0), (5, .int 1), (4, .int 2), (0, .ref h0), (1, .int (nI jt)), (2, .int x2), (3, .int x3)]) hx hb gX12_deal_4.2.2.2.2.2.2.2.1 hl (by decide) rfl (fun ls hl => ?_)
        refine lv_aload_n hx hb gX12_deal_4.2.2.2.2.2.2.2.2.1 rfl (lv_at3 hl) ?_
        refine lv_iload hx hb gX12_deal_4.2.2.2.2.2.2.2.2.2 (lv_at1 hl) ?_
        refine lv_if_eq (tgt := 105) hx hb gX12_deal_5.1 (by decide) (fun c9 => absurd c9 (by decide)) (fun _ => ?_)
        refine lv_aload_n hx hb gX12_deal_5.2.1 rfl (lv_at3 hl) ?_
        refine lv_aload_n hx hb gX12_deal_5.2.2.1 rfl (lv_at3 hl) ?_
        refine gf_X12_378 hC rfl hK hP 0 rfl rfl gX12_deal_5.2.2.2.1 ?_
        refine lv_iconst (v := 0) hx hb gX12_deal_5.2.2.2.2.1 (by decide) ?_
        refine pV hC hK hl hP hD (m_paper l G h0 jno 0 nw nk mhasKept nt mtaped nr mrowMany mroundOf mroundFrom mouts nm mfromHour mtoHour ns mfrom mto msort misFault mdeep mcoded mlines nl nc nF np ntr nb mbestCost nso nsi nit nsh nsf nss nrc 0 2 (nI jno) mwhose msize misParted fnw (by omega) (by omega)) si_X12_88 [0, 1] sm_0_1 fm_0_1 nd_0_1 rfl rfl rfl rfl rfl (Nat.le_of_ble_eq_true rfl) rm_60_1_3 ⟨by first | exact Nat.le_of_ble_eq_true rfl | exact Nat.zero_le _, by first | exact Nat.le_of_ble_eq_true rfl | exact Nat.zero_le _⟩ gX12_deal_5.2.2.2.2.2.1 (Keqr ?_)
        refine lv_goto (tgt := 139) hx hb gX12_deal_5.2.2.2.2.2.2.1 (by decide) ?_
        refine pf_X12_375 hC rfl hK hP hD hS 0 (ws' := [(h0, oX12 nw nk mhasKept nt mtaped nr mrowMany mroundOf mroundFrom mouts nm mfromHour mtoHour ns mfrom mto msort misFault mdeep mcoded mlines nl nc nF np ntr nb mbestCost nso nsi nit nsh nsf nss nrc 0 2 (nI jno) (fnw (32 + 6 * jno + 0)) msize misParted), (nw, iA G 1662 fnw), (nsh, iA G 4 fnsh), (nsf, iA G 4 fnsf), (nrc, iA G 30 fnrc)]) rfl (Nat.le_of_ble_eq_true rfl) rfl rfl rfl gX12_deal_7.2.2.2.2.2.2.1 (fun H locs hP hD hS => ?_)
        refine lv_aload_n hx hb gX12_deal_7.2.2.2.2.2.2.2.1 rfl (lv_at3 hl) ?_
        refine lv_iload hx hb gX12_deal_7.2.2.2.2.2.2.2.2.1 (lv_at1 hl) ?_
        refine lv_if_eq (tgt := 160) hx hb gX12_deal_7.2.2.2.2.2.2.2.2.2 (by decide) (fun c9 => absurd c9 (by decide)) (fun _ => ?_)
        refine lv_aload_n hx hb gX12_deal_8.1 rfl (lv_at3 hl) ?_
        refine lv_aload_n hx hb gX12_deal_8.2.1 rfl (lv_at3 hl) ?_
        refine gf_X12_378 hC rfl hK hP 0 rfl rfl gX12_deal_8.2.2.1 ?_
        refine lv_iconst (v := 2) hx hb gX12_deal_8.2.2.2.1 (by decide) ?_
        refine pV hC hK hl hP hD (m_paper l G h0 jno 2 nw nk mhasKept nt mtaped nr mrowMany mroundOf mroundFrom mouts nm mfromHour mtoHour ns mfrom mto msort misFault mdeep mcoded mlines nl nc nF np ntr nb mbestCost nso nsi nit nsh nsf nss nrc 0 2 (nI jno) (fnw (32 + 6 * jno + 0)) msize misParted fnw (by omega) (by omega)) si_X12_88 [0, 1] sm_0_1 fm_0_1 nd_0_1 rfl rfl rfl rfl rfl (Nat.le_of_ble_eq_true rfl) rm_60_1_3 ⟨by first | exact Nat.le_of_ble_eq_true rfl | exact Nat.zero_le _, by first | exact Nat.le_of_ble_eq_true rfl | exact Nat.zero_le _⟩ gX12_deal_8.2.2.2.2.1 (Keqr ?_)
        refine lv_goto (tgt := 194) hx hb gX12_deal_8.2.2.2.2.2.1 (by decide) ?_
        refine pf_X12_369 hC rfl hK hP hD hS 0 (ws' := [(h0, oX12 nw nk mhasKept nt mtaped nr mrowMany mroundOf mroundFrom mouts nm mfromHour mtoHour ns mfrom mto msort misFault mdeep mcoded mlines nl nc nF np ntr nb mbestCost nso nsi nit nsh nsf nss nrc 0 2 (nI jno) (fnw (32 + 6 * jno + 0)) (fnw (32 + 6 * jno + 2)) misParted), (nw, iA G 1662 fnw), (nsh, iA G 4 fnsh), (nsf, iA G 4 fnsf), (nrc, iA G 30 fnrc)]) rfl (Nat.le_of_ble_eq_true rfl) rfl rfl rfl gX12_deal_10.2.2.2.2.2.1 (fun H locs hP hD hS => ?_)
        refine lv_aload_n hx hb gX12_deal_10.2.2.2.2.2.2.1 rfl (lv_at3 hl) ?_
        refine lv_iconst (v := 0) hx hb gX12_deal_10.2.2.2.2.2.2.2.1 (by decide) ?_
        refine pf_X12_380 hC rfl hK hP hD hS 0 (ws' := [(h0, oX12 nw nk mhasKept nt mtaped nr mrowMany mroundOf mroundFrom mouts nm mfromHour mtoHour ns mfrom mto msort misFault mdeep mcoded mlines nl nc nF np ntr nb mbestCost nso nsi nit nsh nsf nss nrc 0 2 (nI jno) (fnw (32 + 6 * jno + 0)) (fnw (32 + 6 * jno + 2)) 0), (nw, iA G 1662 fnw), (nsh, iA G 4 fnsh), (nsf, iA G 4 fnsf), (nrc, iA G 30 fnrc)]) rfl (Nat.le_of_ble_eq_true rfl) rfl (by decide +kernel) (by decide +kernel) gX12_deal_10.2.2.2.2.2.2.2.2.1 (fun H locs hP hD hS => ?_)
        obtain ⟨jdl, hjdl, rfl⟩ := Wi_nat (N := 3) (by decide) a6600
        rcases (show jdl = 0 ∨ jdl = 1 ∨ jdl = 2 ∨ jdl = 3 by omega) with rfl | rfl | rfl | rfl
        · refine lv_aload_n hx hb gX12_deal_10.2.2.2.2.2.2.2.2.2 rfl (lv_at3 hl) ?_
          refine lv_iload_n hx hb gX12_deal_11.1 rfl (lv_at5 hl) ?_
          refine lv_iload_n hx hb gX12_deal_11.2.1 rfl (lv_at6 hl) ?_
          refine iV (wr := [(nw, iA G 1662 fnw), (nsh, iA G 4 fnsh), (nsf, iA G 4 fnsf)]) hC hK hl hP hD hS hA (m_dealt0 l G h0 x3 nw nk mhasKept nt mtaped nr mrowMany mroundOf mroundFrom mouts nm mfromHour mtoHour ns mfrom mto msort misFault mdeep mcoded mlines nl nc nF np ntr nb mbestCost nso nsi nit nsh nsf nss nrc 0 2 (nI jno) (fnw (32 + 6 * jno + 0)) (fnw (32 + 6 * jno + 2)) 0 fnrc (by omega) (by omega)) si_X12_372 [0, 4] [1, 2, 3] sm_0_4 fm_0_4 nd_0_4 sm_1_2_3 nd_1_2_3 dj_0_4__1_2_3 rfl rfl rfl rfl rfl (Nat.le_of_ble_eq_true rfl) rm_60_14_3 ⟨Nat.le_of_ble_eq_true rfl, Nat.le_of_ble_eq_true rfl⟩ gX12_deal_11.2.2.1 (fun r6645 => Ktu3 fun jr16647 ip16648 gtrc6649 => ?_)
          intro H locs hr6645 hP hD hS
          try dsimp only at hr6645
          refine Kpdr (ws := [(nw, iA G 1662 fnw), (nsh, iA G 4 fnsh), (nsf, iA G 4 fnsf), (h0, oX12 nw nk mhasKept nt mtaped nr mrowMany mroundOf mroundFrom mouts nm mfromHour mtoHour ns mfrom mto msort misFault mdeep mcoded mlines nl nc nF np ntr nb mbestCost nso nsi nit nsh nsf nss nrc (nI jr16647) 2 (nI jno) (fnw (32 + 6 * jno + 0)) (fnw (32 + 6 * jno + 2)) ip16648), (nrc, iA G 30 gtrc6649)]) hP hD (fun hP hD => ?_)
          obtain ⟨hr6645, w6650⟩ := hr6645
          refine lv_istore (lv' := [(7, .int r6645), (6, .int 0), (5, .int 1), (4, .int 2), (0, .ref h0), (1, .int (nI jt)), (2, .int 0), (3, .int x3)]) hx hb gX12_deal_11.2.2.2.1 hl (by decide) rfl (fun ls hl => ?_)
          refine lv_aload_n hx hb gX12_deal_11.2.2.2.2.1 rfl (lv_at4 hl) ?_
          refine gf_X12_380 hC rfl hK hP 3 rfl rfl gX12_deal_11.2.2.2.2.2.1 ?_
          refine lv_if_eq (tgt := 222) hx hb gX12_deal_11.2.2.2.2.2.2.1 (by decide) (fun c_214_6651 => ?_) (fun c_214_6651 => ?_)
          · refine lv_iload hx hb gX12_deal_11.2.2.2.2.2.2.2.2.2 (lv_at0 hl) ?_
            refine toQ hQ0 ?_
            exact RI (v := r6645) hC hP hD hS [3, 0, 1, 2, 4] (jr16647, 2, nI jno, fnw (32 + 6 * jno + 0), fnw (32 + 6 * jno + 2), ip16648, gtrc6649) rfl rfl (by decide) (⟨trivial, by omega⟩) rfl gX12_deal_12
          · refine lv_bipush (v := (-15)) hx hb gX12_deal_11.2.2.2.2.2.2.2.1 (by decide) ?_
            refine lv_goto (tgt := 224) hx hb gX12_deal_11.2.2.2.2.2.2.2.2.1 (by decide) ?_
            refine toQ hQ0 ?_
            exact RI (v := (-15)) hC hP hD hS [3, 0, 1, 2, 4] (jr16647, 2, nI jno, fnw (32 + 6 * jno + 0), fnw (32 + 6 * jno + 2), ip16648, gtrc6649) rfl rfl (by decide) (⟨trivial, by omega⟩) rfl gX12_deal_12
        · refine lv_aload_n hx hb gX12_deal_10.2.2.2.2.2.2.2.2.2 rfl (lv_at3 hl) ?_
          refine lv_iload_n hx hb gX12_deal_11.1 rfl (lv_at5 hl) ?_
          refine lv_iload_n hx hb gX12_deal_11.2.1 rfl (lv_at6 hl) ?_
          refine iV (wr := [(nw, iA G 1662 fnw), (nsh, iA G 4 fnsh), (nsf, iA G 4 fnsf)]) hC hK hl hP hD hS hA (m_dealt1 l G h0 x3 nw nk mhasKept nt mtaped nr mrowMany mroundOf mroundFrom mouts nm mfromHour mtoHour ns mfrom mto msort misFault mdeep mcoded mlines nl nc nF np ntr nb mbestCost nso nsi nit nsh nsf nss nrc 0 2 (nI jno) (fnw (32 + 6 * jno + 0)) (fnw (32 + 6 * jno + 2)) 0 fnrc (by omega) (by omega)) si_X12_372 [0, 4] [1, 2, 3] sm_0_4 fm_0_4 nd_0_4 sm_1_2_3 nd_1_2_3 dj_0_4__1_2_3 rfl rfl rfl rfl rfl (Nat.le_of_ble_eq_true rfl) rm_60_26_3 ⟨Nat.le_of_ble_eq_true rfl, Nat.le_of_ble_eq_true rfl⟩ gX12_deal_11.2.2.1 (fun r6652 => Ktu3 fun jr16654 ip16655 gtrc6656 => ?_)
          intro H locs hr6652 hP hD hS
          try dsimp only at hr6652
          refine Kpdr (ws := [(nw, iA G 1662 fnw), (nsh, iA G 4 fnsh), (nsf, iA G 4 fnsf), (h0, oX12 nw nk mhasKept nt mtaped nr mrowMany mroundOf mroundFrom mouts nm mfromHour mtoHour ns mfrom mto msort misFault mdeep mcoded mlines nl nc nF np ntr nb mbestCost nso nsi nit nsh nsf nss nrc (nI jr16654) 2 (nI jno) (fnw (32 + 6 * jno + 0)) (fnw (32 + 6 * jno + 2)) ip16655), (nrc, iA G 30 gtrc6656)]) hP hD (fun hP hD => ?_)
          obtain ⟨hr6652, w6657⟩ := hr6652
          refine lv_istore (lv' := [(7, .int r6652), (6, .int 0), (5, .int 1), (4, .int 2), (0, .ref h0), (1, .int (nI jt)), (2, .int 1), (3, .int x3)]) hx hb gX12_deal_11.2.2.2.1 hl (by decide) rfl (fun ls hl => ?_)
          refine lv_aload_n hx hb gX12_deal_11.2.2.2.2.1 rfl (lv_at4 hl) ?_
          refine gf_X12_380 hC rfl hK hP 3 rfl rfl gX12_deal_11.2.2.2.2.2.1 ?_
          refine lv_if_eq (tgt := 222) hx hb gX12_deal_11.2.2.2.2.2.2.1 (by decide) (fun c_214_6658 => ?_) (fun c_214_6658 => ?_)
          · refine lv_iload hx hb gX12_deal_11.2.2.2.2.2.2.2.2.2 (lv_at0 hl) ?_
            refine toQ hQ0 ?_
            exact RI (v := r6652) hC hP hD hS [3, 0, 1, 2, 4] (jr16654, 2, nI jno, fnw (32 + 6 * jno + 0), fnw (32 + 6 * jno + 2), ip16655, gtrc6656) rfl rfl (by decide) (⟨trivial, by omega⟩) rfl gX12_deal_12
          · refine lv_bipush (v := (-15)) hx hb gX12_deal_11.2.2.2.2.2.2.2.1 (by decide) ?_
            refine lv_goto (tgt := 224) hx hb gX12_deal_11.2.2.2.2.2.2.2.2.1 (by decide) ?_
            refine toQ hQ0 ?_
            exact RI (v := (-15)) hC hP hD hS [3, 0, 1, 2, 4] (jr16654, 2, nI jno, fnw (32 + 6 * jno + 0), fnw (32 + 6 * jno + 2), ip16655, gtrc6656) rfl rfl (by decide) (⟨trivial, by omega⟩) rfl gX12_deal_12
        · refine lv_aload_n hx hb gX12_deal_10.2.2.2.2.2.2.2.2.2 rfl (lv_at3 hl) ?_
          refine lv_iload_n hx hb gX12_deal_11.1 rfl (lv_at5 hl) ?_
          refine lv_iload_n hx hb gX12_deal_11.2.1 rfl (lv_at6 hl) ?_
          refine iV (wr := [(nw, iA G 1662 fnw), (nsh, iA G 4 fnsh), (nsf, iA G 4 fnsf)]) hC hK hl hP hD hS hA (m_dealt2 l G h0 x3 nw nk mhasKept nt mtaped nr mrowMany mroundOf mroundFrom mouts nm mfromHour mtoHour ns mfrom mto msort misFault mdeep mcoded mlines nl nc nF np ntr nb mbestCost nso nsi nit nsh nsf nss nrc 0 2 (nI jno) (fnw (32 + 6 * jno + 0)) (fnw (32 + 6 * jno + 2)) 0 fnrc (by omega) (by omega)) si_X12_372 [0, 4] [1, 2, 3] sm_0_4 fm_0_4 nd_0_4 sm_1_2_3 nd_1_2_3 dj_0_4__1_2_3 rfl rfl rfl rfl rfl (Nat.le_of_ble_eq_true rfl) rm_60_38_3 ⟨Nat.le_of_ble_eq_true rfl, Nat.le_of_ble_eq_true rfl⟩ gX12_deal_11.2.2.1 (fun r6659 => Ktu3 fun jr16661 ip16662 gtrc6663 => ?_)
          intro H locs hr6659 hP hD hS
          try dsimp only at hr6659
          refine Kpdr (ws := [(nw, iA G 1662 fnw), (nsh, iA G 4 fnsh), (nsf, iA G 4 fnsf), (h0, oX12 nw nk mhasKept nt mtaped nr mrowMany mroundOf mroundFrom mouts nm mfromHour mtoHour ns mfrom mto msort misFault mdeep mcoded mlines nl nc nF np ntr nb mbestCost nso nsi nit nsh nsf nss nrc (nI jr16661) 2 (nI jno) (fnw (32 + 6 * jno + 0)) (fnw (32 + 6 * jno + 2)) ip16662), (nrc, iA G 30 gtrc6663)]) hP hD (fun hP hD => ?_)
          obtain ⟨hr6659, w6664⟩ := hr6659
          refine lv_istore (lv' := [(7, .int r6659), (6, .int 0), (5, .int 1), (4, .int 2), (0, .ref h0), (1, .int (nI jt)), (2, .int 2), (3, .int x3)]) hx hb gX12_deal_11.2.2.2.1 hl (by decide) rfl (fun ls hl => ?_)
          refine lv_aload_n hx hb gX12_deal_11.2.2.2.2.1 rfl (lv_at4 hl) ?_
          refine gf_X12_380 hC rfl hK hP 3 rfl rfl gX12_deal_11.2.2.2.2.2.1 ?_
          refine lv_if_eq (tgt := 222) hx hb gX12_deal_11.2.2.2.2.2.2.1 (by decide) (fun c_214_6665 => ?_) (fun c_214_6665 => ?_)
          · refine lv_iload hx hb gX12_deal_11.2.2.2.2.2.2.2.2.2 (lv_at0 hl) ?_
            refine toQ hQ0 ?_
            exact RI (v := r6659) hC hP hD hS [3, 0, 1, 2, 4] (jr16661, 2, nI jno, fnw (32 + 6 * jno + 0), fnw (32 + 6 * jno + 2), ip16662, gtrc6663) rfl rfl (by decide) (⟨trivial, by omega⟩) rfl gX12_deal_12
          · refine lv_bipush (v := (-15)) hx hb gX12_deal_11.2.2.2.2.2.2.2.1 (by decide) ?_
            refine lv_goto (tgt := 224) hx hb gX12_deal_11.2.2.2.2.2.2.2.2.1 (by decide) ?_
            refine toQ hQ0 ?_
            exact RI (v := (-15)) hC hP hD hS [3, 0, 1, 2, 4] (jr16661, 2, nI jno, fnw (32 + 6 * jno + 0), fnw (32 + 6 * jno + 2), ip16662, gtrc6663) rfl rfl (by decide) (⟨trivial, by omega⟩) rfl gX12_deal_12
        · refine lv_aload_n hx hb gX12_deal_10.2.2.2.2.2.2.2.2.2 rfl (lv_at3 hl) ?_
          refine lv_iload_n hx hb gX12_deal_11.1 rfl (lv_at5 hl) ?_
          refine lv_iload_n hx hb gX12_deal_11.2.1 rfl (lv_at6 hl) ?_
          refine iV (wr := [(nw, iA G 1662 fnw), (nsh, iA G 4 fnsh), (nsf, iA G 4 fnsf)]) hC hK hl hP hD hS hA (m_dealt3 l G h0 x3 nw nk mhasKept nt mtaped nr mrowMany mroundOf mroundFrom mouts nm mfromHour mtoHour ns mfrom mto msort misFault mdeep mcoded mlines nl nc nF np ntr nb mbestCost nso nsi nit nsh nsf nss nrc 0 2 (nI jno) (fnw (32 + 6 * jno + 0)) (fnw (32 + 6 * jno + 2)) 0 fnrc (by omega) (by omega)) si_X12_372 [0, 4] [1, 2, 3] sm_0_4 fm_0_4 nd_0_4 sm_1_2_3 nd_1_2_3 dj_0_4__1_2_3 rfl rfl rfl rfl rfl (Nat.le_of_ble_eq_true rfl) rm_60_50_3 ⟨Nat.le_of_ble_eq_true rfl, Nat.le_of_ble_eq_true rfl⟩ gX12_deal_11.2.2.1 (fun r6666 => Ktu3 fun jr16668 ip16669 gtrc6670 => ?_)
          intro H locs hr6666 hP hD hS
          try dsimp only at hr6666
          refine Kpdr (ws := [(nw, iA G 1662 fnw), (nsh, iA G 4 fnsh), (nsf, iA G 4 fnsf), (h0, oX12 nw nk mhasKept nt mtaped nr mrowMany mroundOf mroundFrom mouts nm mfromHour mtoHour ns mfrom mto msort misFault mdeep mcoded mlines nl nc nF np ntr nb mbestCost nso nsi nit nsh nsf nss nrc (nI jr16668) 2 (nI jno) (fnw (32 + 6 * jno + 0)) (fnw (32 + 6 * jno + 2)) ip16669), (nrc, iA G 30 gtrc6670)]) hP hD (fun hP hD => ?_)
          obtain ⟨hr6666, w6671⟩ := hr6666
          refine lv_istore (lv' := [(7, .int r6666), (6, .int 0), (5, .int 1), (4, .int 2), (0, .ref h0), (1, .int (nI jt)), (2, .int 3), (3, .int x3)]) hx hb gX12_deal_11.2.2.2.1 hl (by decide) rfl (fun ls hl => ?_)
          refine lv_aload_n hx hb gX12_deal_11.2.2.2.2.1 rfl (lv_at4 hl) ?_
          refine gf_X12_380 hC rfl hK hP 3 rfl rfl gX12_deal_11.2.2.2.2.2.1 ?_
          refine lv_if_eq (tgt := 222) hx hb gX12_deal_11.2.2.2.2.2.2.1 (by decide) (fun c_214_6672 => ?_) (fun c_214_6672 => ?_)
          · refine lv_iload hx hb gX12_deal_11.2.2.2.2.2.2.2.2.2 (lv_at0 hl) ?_
            refine toQ hQ0 ?_
            exact RI (v := r6666) hC hP hD hS [3, 0, 1, 2, 4] (jr16668, 2, nI jno, fnw (32 + 6 * jno + 0), fnw (32 + 6 * jno + 2), ip16669, gtrc6670) rfl rfl (by decide) (⟨trivial, by omega⟩) rfl gX12_deal_12
          · refine lv_bipush (v := (-15)) hx hb gX12_deal_11.2.2.2.2.2.2.2.1 (by decide) ?_
            refine lv_goto (tgt := 224) hx hb gX12_deal_11.2.2.2.2.2.2.2.2.1 (by decide) ?_
            refine toQ hQ0 ?_
            exact RI (v := (-15)) hC hP hD hS [3, 0, 1, 2, 4] (jr16668, 2, nI jno, fnw (32 + 6 * jno + 0), fnw (32 + 6 * jno + 2), ip16669, gtrc6670) rfl rfl (by decide) (⟨trivial, by omega⟩) rfl gX12_deal_12
      · refine lv_istore (lv' := [(4, .int 3), (0, .ref h0), (1, .int (nI jt)), (2, .int x2), (3, .int x3)]) hx hb gX12_deal_1.2.2.2.2.1 hl (by decide) rfl (fun ls hl => ?_)
        refine lv_iload hx hb gX12_deal_1.2.2.2.2.2.1 (lv_at0 hl) ?_
        refine lv_if_ge (tgt := 37) hx hb gX12_deal_1.2.2.2.2.2.2.1 (by decide) (fun _ => ?_) (fun c9 => absurd (by decide) c9)
        refine lv_aload_n hx hb gX12_deal_1.2.2.2.2.2.2.2.2.2 rfl (lv_at1 hl) ?_
        refine lv_iload hx hb gX12_deal_2.1 (lv_at0 hl) ?_
        refine pf_X12_354 hC rfl hK hP hD hS 0 (ws' := [(h0, oX12 nw nk mhasKept nt mtaped nr mrowMany mroundOf mroundFrom mouts nm mfromHour mtoHour ns mfrom mto msort misFault mdeep mcoded mlines nl nc nF np ntr nb mbestCost nso nsi nit nsh nsf nss nrc 0 3 mnumber mwhose msize misParted), (nw, iA G 1662 fnw), (nsh, iA G 4 fnsh), (nsf, iA G 4 fnsf), (nrc, iA G 30 fnrc)]) rfl (Nat.le_of_ble_eq_true rfl) rfl rfl rfl gX12_deal_2.2.1 (fun H locs hP hD hS => ?_)
        refine lv_aload_n hx hb gX12_deal_2.2.2.1 rfl (lv_at1 hl) ?_
        refine lv_aload_n hx hb gX12_deal_2.2.2.2.1 rfl (lv_at1 hl) ?_
        refine gf_X12_75 hC rfl hK hP 0 rfl rfl gX12_deal_2.2.2.2.2.1 ?_
        refine lv_iload_n hx hb gX12_deal_2.2.2.2.2.2.1 rfl (lv_at2 hl) ?_
        refine aldN hC hK hP 3 rfl (k := jt) (by omega) (Nat.le_of_ble_eq_true rfl) (v := fnsf jt) rfl gX12_deal_2.2.2.2.2.2.2.1 ?_
        refine lv_topi (fun x6673 ex6673 => ?_)
        obtain ⟨hko9, jno, hjno, ejno⟩ := a6602
        refine eqi (x1 := nI jno) (ex6673.trans ejno) ?_
        refine pf_X12_378 hC rfl hK hP hD hS 0 (ws' := [(h0, oX12 nw nk mhasKept nt mtaped nr mrowMany mroundOf mroundFrom mouts nm mfromHour mtoHour ns mfrom mto msort misFault mdeep mcoded mlines nl nc nF np ntr nb mbestCost nso nsi nit nsh nsf nss nrc 0 3 (nI jno) mwhose msize misParted), (nw, iA G 1662 fnw), (nsh, iA G 4 fnsh), (nsf, iA G 4 fnsf), (nrc, iA G 30 fnrc)]) rfl (Nat.le_of_ble_eq_true rfl) rfl rfl rfl gX12_deal_2.2.2.2.2.2.2.2.1 (fun H locs hP hD hS => ?_)
        refine lv_aload_n hx hb gX12_deal_2.2.2.2.2.2.2.2.2.1 rfl (lv_at1 hl) ?_
        refine gf_X12_72 hC rfl hK hP 0 rfl rfl gX12_deal_2.2.2.2.2.2.2.2.2.2 ?_
        refine lv_iload_n hx hb gX12_deal_3.1 rfl (lv_at2 hl) ?_
        refine aldN hC hK hP 2 rfl (k := jt) (by omega) (Nat.le_of_ble_eq_true rfl) (v := fnsh jt) rfl gX12_deal_3.2.1 ?_
        refine lv_topi (fun x6674 ex6674 => ?_)
        refine lv_iconst (v := 1) hx hb gX12_deal_3.2.2.1 (by decide) ?_
        refine lv_icmp_ne (tgt := 67) hx hb gX12_deal_3.2.2.2.1 (by decide) (fun c9 => absurd (ex6674.trans hko9) c9) (fun _ => ?_)
        refine lv_iconst (v := 1) hx hb gX12_deal_3.2.2.2.2.1 (by decide) ?_
        refine lv_goto (tgt := 68) hx hb gX12_deal_3.2.2.2.2.2.1 (by decide) ?_
        refine lv_istore (lv' := [(5, .int 1), (4, .int 3), (0, .ref h0), (1, .int (nI jt)), (2, .int x2), (3, .int x3)]) hx hb gX12_deal_3.2.2.2.2.2.2.2.1 hl (by decide) rfl (fun ls hl => ?_)
        refine lv_aload_n hx hb gX12_deal_3.2.2.2.2.2.2.2.2.1 rfl (lv_at2 hl) ?_
        refine gf_X12_72 hC rfl hK hP 0 rfl rfl gX12_deal_3.2.2.2.2.2.2.2.2.2 ?_
        refine lv_iload_n hx hb gX12_deal_4.1 rfl (lv_at3 hl) ?_
        refine aldN hC hK hP 2 rfl (k := jt) (by omega) (Nat.le_of_ble_eq_true rfl) (v := fnsh jt) rfl gX12_deal_4.2.1 ?_
        refine lv_topi (fun x6675 ex6675 => ?_)
        refine lv_iconst (v := 2) hx hb gX12_deal_4.2.2.1 (by decide) ?_
        refine lv_icmp_ne (tgt := 84) hx hb gX12_deal_4.2.2.2.1 (by decide) (fun _ => ?_) (fun c9 => absurd c9 (fun h9 => absurd (hko9.symm.trans ((ex6675.symm).trans h9)) (by decide)))
        refine lv_iconst (v := 0) hx hb gX12_deal_4.2.2.2.2.2.2.1 (by decide) ?_
        refine lv_istore (lv' := [(6, .int 0), (5, .int 1), (4, .int 3), (0, .ref h0), (1, .int (nI jt)), (2, .int x2), (3, .int x3)]) hx hb gX12_deal_4.2.2.2.2.2.2.2.1 hl (by decide) rfl (fun ls hl => ?_)
        refine lv_aload_n hx hb gX12_deal_4.2.2.2.2.2.2.2.2.1 rfl (lv_at3 hl) ?_
        refine lv_iload hx hb gX12_deal_4.2.2.2.2.2.2.2.2.2 (lv_at1 hl) ?_
        refine lv_if_eq (tgt := 105) hx hb gX12_deal_5.1 (by decide) (fun c9 => absurd c9 (by decide)) (fun _ => ?_)
        refine lv_aload_n hx hb gX12_deal_5.2.1 rfl (lv_at3 hl) ?_
        refine lv_aload_n hx hb gX12_deal_5.2.2.1 rfl (lv_at3 hl) ?_
        refine gf_X12_378 hC rfl hK hP 0 rfl rfl gX12_deal_5.2.2.2.1 ?_
        refine lv_iconst (v := 0) hx hb gX12_deal_5.2.2.2.2.1 (by decide) ?_
        refine pV hC hK hl hP hD (m_paper l G h0 jno 0 nw nk mhasKept nt mtaped nr mrowMany mroundOf mroundFrom mouts nm mfromHour mtoHour ns mfrom mto msort misFault mdeep mcoded mlines nl nc nF np ntr nb mbestCost nso nsi nit nsh nsf nss nrc 0 3 (nI jno) mwhose msize misParted fnw (by omega) (by omega)) si_X12_88 [0, 1] sm_0_1 fm_0_1 nd_0_1 rfl rfl rfl rfl rfl (Nat.le_of_ble_eq_true rfl) rm_60_1_3 ⟨by first | exact Nat.le_of_ble_eq_true rfl | exact Nat.zero_le _, by first | exact Nat.le_of_ble_eq_true rfl | exact Nat.zero_le _⟩ gX12_deal_5.2.2.2.2.2.1 (Keqr ?_)
        refine lv_goto (tgt := 139) hx hb gX12_deal_5.2.2.2.2.2.2.1 (by decide) ?_
        refine pf_X12_375 hC rfl hK hP hD hS 0 (ws' := [(h0, oX12 nw nk mhasKept nt mtaped nr mrowMany mroundOf mroundFrom mouts nm mfromHour mtoHour ns mfrom mto msort misFault mdeep mcoded mlines nl nc nF np ntr nb mbestCost nso nsi nit nsh nsf nss nrc 0 3 (nI jno) (fnw (32 + 6 * jno + 0)) msize misParted), (nw, iA G 1662 fnw), (nsh, iA G 4 fnsh), (nsf, iA G 4 fnsf), (nrc, iA G 30 fnrc)]) rfl (Nat.le_of_ble_eq_true rfl) rfl rfl rfl gX12_deal_7.2.2.2.2.2.2.1 (fun H locs hP hD hS => ?_)
        refine lv_aload_n hx hb gX12_deal_7.2.2.2.2.2.2.2.1 rfl (lv_at3 hl) ?_
        refine lv_iload hx hb gX12_deal_7.2.2.2.2.2.2.2.2.1 (lv_at1 hl) ?_
        refine lv_if_eq (tgt := 160) hx hb gX12_deal_7.2.2.2.2.2.2.2.2.2 (by decide) (fun c9 => absurd c9 (by decide)) (fun _ => ?_)
        refine lv_aload_n hx hb gX12_deal_8.1 rfl (lv_at3 hl) ?_
        refine lv_aload_n hx hb gX12_deal_8.2.1 rfl (lv_at3 hl) ?_
        refine gf_X12_378 hC rfl hK hP 0 rfl rfl gX12_deal_8.2.2.1 ?_
        refine lv_iconst (v := 2) hx hb gX12_deal_8.2.2.2.1 (by decide) ?_
        refine pV hC hK hl hP hD (m_paper l G h0 jno 2 nw nk mhasKept nt mtaped nr mrowMany mroundOf mroundFrom mouts nm mfromHour mtoHour ns mfrom mto msort misFault mdeep mcoded mlines nl nc nF np ntr nb mbestCost nso nsi nit nsh nsf nss nrc 0 3 (nI jno) (fnw (32 + 6 * jno + 0)) msize misParted fnw (by omega) (by omega)) si_X12_88 [0, 1] sm_0_1 fm_0_1 nd_0_1 rfl rfl rfl rfl rfl (Nat.le_of_ble_eq_true rfl) rm_60_1_3 ⟨by first | exact Nat.le_of_ble_eq_true rfl | exact Nat.zero_le _, by first | exact Nat.le_of_ble_eq_true rfl | exact Nat.zero_le _⟩ gX12_deal_8.2.2.2.2.1 (Keqr ?_)
        refine lv_goto (tgt := 194) hx hb gX12_deal_8.2.2.2.2.2.1 (by decide) ?_
        refine pf_X12_369 hC rfl hK hP hD hS 0 (ws' := [(h0, oX12 nw nk mhasKept nt mtaped nr mrowMany mroundOf mroundFrom mouts nm mfromHour mtoHour ns mfrom mto msort misFault mdeep mcoded mlines nl nc nF np ntr nb mbestCost nso nsi nit nsh nsf nss nrc 0 3 (nI jno) (fnw (32 + 6 * jno + 0)) (fnw (32 + 6 * jno + 2)) misParted), (nw, iA G 1662 fnw), (nsh, iA G 4 fnsh), (nsf, iA G 4 fnsf), (nrc, iA G 30 fnrc)]) rfl (Nat.le_of_ble_eq_true rfl) rfl rfl rfl gX12_deal_10.2.2.2.2.2.1 (fun H locs hP hD hS => ?_)
        refine lv_aload_n hx hb gX12_deal_10.2.2.2.2.2.2.1 rfl (lv_at3 hl) ?_
        refine lv_iconst (v := 0) hx hb gX12_deal_10.2.2.2.2.2.2.2.1 (by decide) ?_
        refine pf_X12_380 hC rfl hK hP hD hS 0 (ws' := [(h0, oX12 nw nk mhasKept nt mtaped nr mrowMany mroundOf mroundFrom mouts nm mfromHour mtoHour ns mfrom mto msort misFault mdeep mcoded mlines nl nc nF np ntr nb mbestCost nso nsi nit nsh nsf nss nrc 0 3 (nI jno) (fnw (32 + 6 * jno + 0)) (fnw (32 + 6 * jno + 2)) 0), (nw, iA G 1662 fnw), (nsh, iA G 4 fnsh), (nsf, iA G 4 fnsf), (nrc, iA G 30 fnrc)]) rfl (Nat.le_of_ble_eq_true rfl) rfl (by decide +kernel) (by decide +kernel) gX12_deal_10.2.2.2.2.2.2.2.2.1 (fun H locs hP hD hS => ?_)
        obtain ⟨jdl, hjdl, rfl⟩ := Wi_nat (N := 3) (by decide) a6600
        rcases (show jdl = 0 ∨ jdl = 1 ∨ jdl = 2 ∨ jdl = 3 by omega) with rfl | rfl | rfl | rfl
        · refine lv_aload_n hx hb gX12_deal_10.2.2.2.2.2.2.2.2.2 rfl (lv_at3 hl) ?_
          refine lv_iload_n hx hb gX12_deal_11.1 rfl (lv_at5 hl) ?_
          refine lv_iload_n hx hb gX12_deal_11.2.1 rfl (lv_at6 hl) ?_
          refine iV (wr := [(nw, iA G 1662 fnw), (nsh, iA G 4 fnsh), (nsf, iA G 4 fnsf)]) hC hK hl hP hD hS hA (m_dealt0 l G h0 x3 nw nk mhasKept nt mtaped nr mrowMany mroundOf mroundFrom mouts nm mfromHour mtoHour ns mfrom mto msort misFault mdeep mcoded mlines nl nc nF np ntr nb mbestCost nso nsi nit nsh nsf nss nrc 0 3 (nI jno) (fnw (32 + 6 * jno + 0)) (fnw (32 + 6 * jno + 2)) 0 fnrc (by omega) (by omega)) si_X12_372 [0, 4] [1, 2, 3] sm_0_4 fm_0_4 nd_0_4 sm_1_2_3 nd_1_2_3 dj_0_4__1_2_3 rfl rfl rfl rfl rfl (Nat.le_of_ble_eq_true rfl) rm_60_14_3 ⟨Nat.le_of_ble_eq_true rfl, Nat.le_of_ble_eq_true rfl⟩ gX12_deal_11.2.2.1 (fun r6680 => Ktu3 fun jr16682 ip16683 gtrc6684 => ?_)
          intro H locs hr6680 hP hD hS
          try dsimp only at hr6680
          refine Kpdr (ws := [(nw, iA G 1662 fnw), (nsh, iA G 4 fnsh), (nsf, iA G 4 fnsf), (h0, oX12 nw nk mhasKept nt mtaped nr mrowMany mroundOf mroundFrom mouts nm mfromHour mtoHour ns mfrom mto msort misFault mdeep mcoded mlines nl nc nF np ntr nb mbestCost nso nsi nit nsh nsf nss nrc (nI jr16682) 3 (nI jno) (fnw (32 + 6 * jno + 0)) (fnw (32 + 6 * jno + 2)) ip16683), (nrc, iA G 30 gtrc6684)]) hP hD (fun hP hD => ?_)
          obtain ⟨hr6680, w6685⟩ := hr6680
          refine lv_istore (lv' := [(7, .int r6680), (6, .int 0), (5, .int 1), (4, .int 3), (0, .ref h0), (1, .int (nI jt)), (2, .int 0), (3, .int x3)]) hx hb gX12_deal_11.2.2.2.1 hl (by decide) rfl (fun ls hl => ?_)
          refine lv_aload_n hx hb gX12_deal_11.2.2.2.2.1 rfl (lv_at4 hl) ?_
          refine gf_X12_380 hC rfl hK hP 3 rfl rfl gX12_deal_11.2.2.2.2.2.1 ?_
          refine lv_if_eq (tgt := 222) hx hb gX12_deal_11.2.2.2.2.2.2.1 (by decide) (fun c_214_6686 => ?_) (fun c_214_6686 => ?_)
          · refine lv_iload hx hb gX12_deal_11.2.2.2.2.2.2.2.2.2 (lv_at0 hl) ?_
            refine toQ hQ0 ?_
            exact RI (v := r6680) hC hP hD hS [3, 0, 1, 2, 4] (jr16682, 3, nI jno, fnw (32 + 6 * jno + 0), fnw (32 + 6 * jno + 2), ip16683, gtrc6684) rfl rfl (by decide) (⟨trivial, by omega⟩) rfl gX12_deal_12
          · refine lv_bipush (v := (-15)) hx hb gX12_deal_11.2.2.2.2.2.2.2.1 (by decide) ?_
            refine lv_goto (tgt := 224) hx hb gX12_deal_11.2.2.2.2.2.2.2.2.1 (by decide) ?_
            refine toQ hQ0 ?_
            exact RI (v := (-15)) hC hP hD hS [3, 0, 1, 2, 4] (jr16682, 3, nI jno, fnw (32 + 6 * jno + 0), fnw (32 + 6 * jno + 2), ip16683, gtrc6684) rfl rfl (by decide) (⟨trivial, by omega⟩) rfl gX12_deal_12
        · refine lv_aload_n hx hb gX12_deal_10.2.2.2.2.2.2.2.2.2 rfl (lv_at3 hl) ?_
          refine lv_iload_n hx hb gX12_deal_11.1 rfl (lv_at5 hl) ?_
          refine lv_iload_n hx hb gX12_deal_11.2.1 rfl (lv_at6 hl) ?_
          refine iV (wr := [(nw, iA G 1662 fnw), (nsh, iA G 4 fnsh), (nsf, iA G 4 fnsf)]) hC hK hl hP hD hS hA (m_dealt1 l G h0 x3 nw nk mhasKept nt mtaped nr mrowMany mroundOf mroundFrom mouts nm mfromHour mtoHour ns mfrom mto msort misFault mdeep mcoded mlines nl nc nF np ntr nb mbestCost nso nsi nit nsh nsf nss nrc 0 3 (nI jno) (fnw (32 + 6 * jno + 0)) (fnw (32 + 6 * jno + 2)) 0 fnrc (by omega) (by omega)) si_X12_372 [0, 4] [1, 2, 3] sm_0_4 fm_0_4 nd_0_4 sm_1_2_3 nd_1_2_3 dj_0_4__1_2_3 rfl rfl rfl rfl rfl (Nat.le_of_ble_eq_true rfl) rm_60_26_3 ⟨Nat.le_of_ble_eq_true rfl, Nat.le_of_ble_eq_true rfl⟩ gX12_deal_11.2.2.1 (fun r6687 => Ktu3 fun jr16689 ip16690 gtrc6691 => ?_)
          intro H locs hr6687 hP hD hS
          try dsimp only at hr6687
          refine Kpdr (ws := [(nw, iA G 1662 fnw), (nsh, iA G 4 fnsh), (nsf, iA G 4 fnsf), (h0, oX12 nw nk mhasKept nt mtaped nr mrowMany mroundOf mroundFrom mouts nm mfromHour mtoHour ns mfrom mto msort misFault mdeep mcoded mlines nl nc nF np ntr nb mbestCost nso nsi nit nsh nsf nss nrc (nI jr16689) 3 (nI jno) (fnw (32 + 6 * jno + 0)) (fnw (32 + 6 * jno + 2)) ip16690), (nrc, iA G 30 gtrc6691)]) hP hD (fun hP hD => ?_)
          obtain ⟨hr6687, w6692⟩ := hr6687
          refine lv_istore (lv' := [(7, .int r6687), (6, .int 0), (5, .int 1), (4, .int 3), (0, .ref h0), (1, .int (nI jt)), (2, .int 1), (3, .int x3)]) hx hb gX12_deal_11.2.2.2.1 hl (by decide) rfl (fun ls hl => ?_)
          refine lv_aload_n hx hb gX12_deal_11.2.2.2.2.1 rfl (lv_at4 hl) ?_
          refine gf_X12_380 hC rfl hK hP 3 rfl rfl gX12_deal_11.2.2.2.2.2.1 ?_
          refine lv_if_eq (tgt := 222) hx hb gX12_deal_11.2.2.2.2.2.2.1 (by decide) (fun c_214_6693 => ?_) (fun c_214_6693 => ?_)
          · refine lv_iload hx hb gX12_deal_11.2.2.2.2.2.2.2.2.2 (lv_at0 hl) ?_
            refine toQ hQ0 ?_
            exact RI (v := r6687) hC hP hD hS [3, 0, 1, 2, 4] (jr16689, 3, nI jno, fnw (32 + 6 * jno + 0), fnw (32 + 6 * jno + 2), ip16690, gtrc6691) rfl rfl (by decide) (⟨trivial, by omega⟩) rfl gX12_deal_12
          · refine lv_bipush (v := (-15)) hx hb gX12_deal_11.2.2.2.2.2.2.2.1 (by decide) ?_
            refine lv_goto (tgt := 224) hx hb gX12_deal_11.2.2.2.2.2.2.2.2.1 (by decide) ?_
            refine toQ hQ0 ?_
            exact RI (v := (-15)) hC hP hD hS [3, 0, 1, 2, 4] (jr16689, 3, nI jno, fnw (32 + 6 * jno + 0), fnw (32 + 6 * jno + 2), ip16690, gtrc6691) rfl rfl (by decide) (⟨trivial, by omega⟩) rfl gX12_deal_12
        · refine lv_aload_n hx hb gX12_deal_10.2.2.2.2.2.2.2.2.2 rfl (lv_at3 hl) ?_
          refine lv_iload_n hx hb gX12_deal_11.1 rfl (lv_at5 hl) ?_
          refine lv_iload_n hx hb gX12_deal_11.2.1 rfl (lv_at6 hl) ?_
          refine iV (wr := [(nw, iA G 1662 fnw), (nsh, iA G 4 fnsh), (nsf, iA G 4 fnsf)]) hC hK hl hP hD hS hA (m_dealt2 l G h0 x3 nw nk mhasKept nt mtaped nr mrowMany mroundOf mroundFrom mouts nm mfromHour mtoHour ns mfrom mto msort misFault mdeep mcoded mlines nl nc nF np ntr nb mbestCost nso nsi nit nsh nsf nss nrc 0 3 (nI jno) (fnw (32 + 6 * jno + 0)) (fnw (32 + 6 * jno + 2)) 0 fnrc (by omega) (by omega)) si_X12_372 [0, 4] [1, 2, 3] sm_0_4 fm_0_4 nd_0_4 sm_1_2_3 nd_1_2_3 dj_0_4__1_2_3 rfl rfl rfl rfl rfl (Nat.le_of_ble_eq_true rfl) rm_60_38_3 ⟨Nat.le_of_ble_eq_true rfl, Nat.le_of_ble_eq_true rfl⟩ gX12_deal_11.2.2.1 (fun r6694 => Ktu3 fun jr16696 ip16697 gtrc6698 => ?_)
          intro H locs hr6694 hP hD hS
          try dsimp only at hr6694
          refine Kpdr (ws := [(nw, iA G 1662 fnw), (nsh, iA G 4 fnsh), (nsf, iA G 4 fnsf), (h0, oX12 nw nk mhasKept nt mtaped nr mrowMany mroundOf mroundFrom mouts nm mfromHour mtoHour ns mfrom mto msort misFault mdeep mcoded mlines nl nc nF np ntr nb mbestCost nso nsi nit nsh nsf nss nrc (nI jr16696) 3 (nI jno) (fnw (32 + 6 * jno + 0)) (fnw (32 + 6 * jno + 2)) ip16697), (nrc, iA G 30 gtrc6698)]) hP hD (fun hP hD => ?_)
          obtain ⟨hr6694, w6699⟩ := hr6694
          refine lv_istore (lv' := [(7, .int r6694), (6, .int 0), (5, .int 1), (4, .int 3), (0, .ref h0), (1, .int (nI jt)), (2, .int 2), (3, .int x3)]) hx hb gX12_deal_11.2.2.2.1 hl (by decide) rfl (fun ls hl => ?_)
          refine lv_aload_n hx hb gX12_deal_11.2.2.2.2.1 rfl (lv_at4 hl) ?_
          refine gf_X12_380 hC rfl hK hP 3 rfl rfl gX12_deal_11.2.2.2.2.2.1 ?_
          refine lv_if_eq (tgt := 222) hx hb gX12_deal_11.2.2.2.2.2.2.1 (by decide) (fun c_214_6700 => ?_) (fun c_214_6700 => ?_)
          · refine lv_iload hx hb gX12_deal_11.2.2.2.2.2.2.2.2.2 (lv_at0 hl) ?_
            refine toQ hQ0 ?_
            exact RI (v := r6694) hC hP hD hS [3, 0, 1, 2, 4] (jr16696, 3, nI jno, fnw (32 + 6 * jno + 0), fnw (32 + 6 * jno + 2), ip16697, gtrc6698) rfl rfl (by decide) (⟨trivial, by omega⟩) rfl gX12_deal_12
          · refine lv_bipush (v := (-15)) hx hb gX12_deal_11.2.2.2.2.2.2.2.1 (by decide) ?_
            refine lv_goto (tgt := 224) hx hb gX12_deal_11.2.2.2.2.2.2.2.2.1 (by decide) ?_
            refine toQ hQ0 ?_
            exact RI (v := (-15)) hC hP hD hS [3, 0, 1, 2, 4] (jr16696, 3, nI jno, fnw (32 + 6 * jno + 0), fnw (32 + 6 * jno + 2), ip16697, gtrc6698) rfl rfl (by decide) (⟨trivial, by omega⟩) rfl gX12_deal_12
        · refine lv_aload_n hx hb gX12_deal_10.2.2.2.2.2.2.2.2.2 rfl (lv_at3 hl) ?_
          refine lv_iload_n hx hb gX12_deal_11.1 rfl (lv_at5 hl) ?_
          refine lv_iload_n hx hb gX12_deal_11.2.1 rfl (lv_at6 hl) ?_
          refine iV (wr := [(nw, iA G 1662 fnw), (nsh, iA G 4 fnsh), (nsf, iA G 4 fnsf)]) hC hK hl hP hD hS hA (m_dealt3 l G h0 x3 nw nk mhasKept nt mtaped nr mrowMany mroundOf mroundFrom mouts nm mfromHour mtoHour ns mfrom mto msort misFault mdeep mcoded mlines nl nc nF np ntr nb mbestCost nso nsi nit nsh nsf nss nrc 0 3 (nI jno) (fnw (32 + 6 * jno + 0)) (fnw (32 + 6 * jno + 2)) 0 fnrc (by omega) (by omega)) si_X12_372 [0, 4] [1, 2, 3] sm_0_4 fm_0_4 nd_0_4 sm_1_2_3 nd_1_2_3 dj_0_4__1_2_3 rfl rfl rfl rfl rfl (Nat.le_of_ble_eq_true rfl) rm_60_50_3 ⟨Nat.le_of_ble_eq_true rfl, Nat.le_of_ble_eq_true rfl⟩ gX12_deal_11.2.2.1 (fun r6701 => Ktu3 fun jr16703 ip16704 gtrc6705 => ?_)
          intro H locs hr6701 hP hD hS
          try dsimp only at hr6701
          refine Kpdr (ws := [(nw, iA G 1662 fnw), (nsh, iA G 4 fnsh), (nsf, iA G 4 fnsf), (h0, oX12 nw nk mhasKept nt mtaped nr mrowMany mroundOf mroundFrom mouts nm mfromHour mtoHour ns mfrom mto msort misFault mdeep mcoded mlines nl nc nF np ntr nb mbestCost nso nsi nit nsh nsf nss nrc (nI jr16703) 3 (nI jno) (fnw (32 + 6 * jno + 0)) (fnw (32 + 6 * jno + 2)) ip16704), (nrc, iA G 30 gtrc6705)]) hP hD (fun hP hD => ?_)
          obtain ⟨hr6701, w6706⟩ := hr6701
          refine lv_istore (lv' := [(7, .int r6701), (6, .int 0), (5, .int 1), (4, .int 3), (0, .ref h0), (1, .int (nI jt)), (2, .int 3), (3, .int x3)]) hx hb gX12_deal_11.2.2.2.1 hl (by decide) rfl (fun ls hl => ?_)
          refine lv_aload_n hx hb gX12_deal_11.2.2.2.2.1 rfl (lv_at4 hl) ?_
          refine gf_X12_380 hC rfl hK hP 3 rfl rfl gX12_deal_11.2.2.2.2.2.1 ?_
          refine lv_if_eq (tgt := 222) hx hb gX12_deal_11.2.2.2.2.2.2.1 (by decide) (fun c_214_6707 => ?_) (fun c_214_6707 => ?_)
          · refine lv_iload hx hb gX12_deal_11.2.2.2.2.2.2.2.2.2 (lv_at0 hl) ?_
            refine toQ hQ0 ?_
            exact RI (v := r6701) hC hP hD hS [3, 0, 1, 2, 4] (jr16703, 3, nI jno, fnw (32 + 6 * jno + 0), fnw (32 + 6 * jno + 2), ip16704, gtrc6705) rfl rfl (by decide) (⟨trivial, by omega⟩) rfl gX12_deal_12
          · refine lv_bipush (v := (-15)) hx hb gX12_deal_11.2.2.2.2.2.2.2.1 (by decide) ?_
            refine lv_goto (tgt := 224) hx hb gX12_deal_11.2.2.2.2.2.2.2.2.1 (by decide) ?_
            refine toQ hQ0 ?_
            exact RI (v := (-15)) hC hP hD hS [3, 0, 1, 2, 4] (jr16703, 3, nI jno, fnw (32 + 6 * jno + 0), fnw (32 + 6 * jno + 2), ip16704, gtrc6705) rfl rfl (by decide) (⟨trivial, by omega⟩) rfl gX12_deal_12
      · refine lv_istore (lv' := [(4, .int 4), (0, .ref h0), (1, .int (nI jt)), (2, .int x2), (3, .int x3)]) hx hb gX12_deal_1.2.2.2.2.1 hl (by decide) rfl (fun ls hl => ?_)
        refine lv_iload hx hb gX12_deal_1.2.2.2.2.2.1 (lv_at0 hl) ?_
        refine lv_if_ge (tgt := 37) hx hb gX12_deal_1.2.2.2.2.2.2.1 (by decide) (fun _ => ?_) (fun c9 => absurd (by decide) c9)
        refine lv_aload_n hx hb gX12_deal_1.2.2.2.2.2.2.2.2.2 rfl (lv_at1 hl) ?_
        refine lv_iload hx hb gX12_deal_2.1 (lv_at0 hl) ?_
        refine pf_X12_354 hC rfl hK hP hD hS 0 (ws' := [(h0, oX12 nw nk mhasKept nt mtaped nr mrowMany mroundOf mroundFrom mouts nm mfromHour mtoHour ns mfrom mto msort misFault mdeep mcoded mlines nl nc nF np ntr nb mbestCost nso nsi nit nsh nsf nss nrc 0 4 mnumber mwhose msize misParted), (nw, iA G 1662 fnw), (nsh, iA G 4 fnsh), (nsf, iA G 4 fnsf), (nrc, iA G 30 fnrc)]) rfl (Nat.le_of_ble_eq_true rfl) rfl rfl rfl gX12_deal_2.2.1 (fun H locs hP hD hS => ?_)
        refine lv_aload_n hx hb gX12_deal_2.2.2.1 rfl (lv_at1 hl) ?_
        refine lv_aload_n hx hb gX12_deal_2.2.2.2.1 rfl (lv_at1 hl) ?_
        refine gf_X12_75 hC rfl hK hP 0 rfl rfl gX12_deal_2.2.2.2.2.1 ?_
        refine lv_iload_n hx hb gX12_deal_2.2.2.2.2.2.1 rfl (lv_at2 hl) ?_
        refine aldN hC hK hP 3 rfl (k := jt) (by omega) (Nat.le_of_ble_eq_true rfl) (v := fnsf jt) rfl gX12_deal_2.2.2.2.2.2.2.1 ?_
        refine lv_topi (fun x6708 ex6708 => ?_)
        obtain ⟨hko9, jno, hjno, ejno⟩ := a6602
        refine eqi (x1 := nI jno) (ex6708.trans ejno) ?_
        refine pf_X12_378 hC rfl hK hP hD hS 0 (ws' := [(h0, oX12 nw nk mhasKept nt mtaped nr mrowMany mroundOf mroundFrom mouts nm mfromHour mtoHour ns mfrom mto msort misFault mdeep mcoded mlines nl nc nF np ntr nb mbestCost nso nsi nit nsh nsf nss nrc 0 4 (nI jno) mwhose msize misParted), (nw, iA G 1662 fnw), (nsh, iA G 4 fnsh), (nsf, iA G 4 fnsf), (nrc, iA G 30 fnrc)]) rfl (Nat.le_of_ble_eq_true rfl) rfl rfl rfl gX12_deal_2.2.2.2.2.2.2.2.1 (fun H locs hP hD hS => ?_)
        refine lv_aload_n hx hb gX12_deal_2.2.2.2.2.2.2.2.2.1 rfl (lv_at1 hl) ?_
        refine gf_X12_72 hC rfl hK hP 0 rfl rfl gX12_deal_2.2.2.2.2.2.2.2.2.2 ?_
        refine lv_iload_n hx hb gX12_deal_3.1 rfl (lv_at2 hl) ?_
        refine aldN hC hK hP 2 rfl (k := jt) (by omega) (Nat.le_of_ble_eq_true rfl) (v := fnsh jt) rfl gX12_deal_3.2.1 ?_
        refine lv_topi (fun x6709 ex6709 => ?_)
        refine lv_iconst (v := 1) hx hb gX12_deal_3.2.2.1 (by decide) ?_
        refine lv_icmp_ne (tgt := 67) hx hb gX12_deal_3.2.2.2.1 (by decide) (fun _ => ?_) (fun c9 => absurd c9 (fun h9 => absurd (hko9.symm.trans ((ex6709.symm).trans h9)) (by decide)))
        refine lv_iconst (v := 0) hx hb gX12_deal_3.2.2.2.2.2.2.1 (by decide) ?_
        refine lv_istore (lv' := [(5, .int 0), (4, .int 4), (0, .ref h0), (1, .int (nI jt)), (2, .int x2), (3, .int x3)]) hx hb gX12_deal_3.2.2.2.2.2.2.2.1 hl (by decide) rfl (fun ls hl => ?_)
        refine lv_aload_n hx hb gX12_deal_3.2.2.2.2.2.2.2.2.1 rfl (lv_at2 hl) ?_
        refine gf_X12_72 hC rfl hK hP 0 rfl rfl gX12_deal_3.2.2.2.2.2.2.2.2.2 ?_
        refine lv_iload_n hx hb gX12_deal_4.1 rfl (lv_at3 hl) ?_
        refine aldN hC hK hP 2 rfl (k := jt) (by omega) (Nat.le_of_ble_eq_true rfl) (v := fnsh jt) rfl gX12_deal_4.2.1 ?_
        refine lv_topi (fun x6710 ex6710 => ?_)
        refine lv_iconst (v := 2) hx hb gX12_deal_4.2.2.1 (by decide) ?_
        refine lv_icmp_ne (tgt := 84) hx hb gX12_deal_4.2.2.2.1 (by decide) (fun c9 => absurd (ex6710.trans hko9) c9) (fun _ => ?_)
        refine lv_iconst (v := 1) hx hb gX12_deal_4.2.2.2.2.1 (by decide) ?_
        refine lv_goto (tgt := 85) hx hb gX12_deal_4.2.2.2.2.2.1 (by decide) ?_
        refine lv_istore (lv' := [(6, .int 1), (5, .int 0), (4, .int 4), (0, .ref h0), (1, .int (nI jt)), (2, .int x2), (3, .int x3)]) hx hb gX12_deal_4.2.2.2.2.2.2.2.1 hl (by decide) rfl (fun ls hl => ?_)
        refine lv_aload_n hx hb gX12_deal_4.2.2.2.2.2.2.2.2.1 rfl (lv_at3 hl) ?_
        refine lv_iload hx hb gX12_deal_4.2.2.2.2.2.2.2.2.2 (lv_at1 hl) ?_
        refine lv_if_eq (tgt := 105) hx hb gX12_deal_5.1 (by decide) (fun _ => ?_) (fun c9 => absurd (by decide) c9)
        refine lv_iload hx hb gX12_deal_5.2.2.2.2.2.2.2.1 (lv_at0 hl) ?_
        refine lv_if_eq (tgt := 122) hx hb gX12_deal_5.2.2.2.2.2.2.2.2.1 (by decide) (fun c9 => absurd c9 (by decide)) (fun _ => ?_)
        refine lv_aload_n hx hb gX12_deal_5.2.2.2.2.2.2.2.2.2 rfl (lv_at3 hl) ?_
        refine lv_aload_n hx hb gX12_deal_6.1 rfl (lv_at3 hl) ?_
        refine gf_X12_378 hC rfl hK hP 0 rfl rfl gX12_deal_6.2.1 ?_
        refine lv_iconst (v := 0) hx hb gX12_deal_6.2.2.1 (by decide) ?_
        refine pV hC hK hl hP hD (m_saying l G h0 jno 0 nw nk mhasKept nt mtaped nr mrowMany mroundOf mroundFrom mouts nm mfromHour mtoHour ns mfrom mto msort misFault mdeep mcoded mlines nl nc nF np ntr nb mbestCost nso nsi nit nsh nsf nss nrc 0 4 (nI jno) mwhose msize misParted fnw (by omega) (by omega)) si_X12_114 [0, 1] sm_0_1 fm_0_1 nd_0_1 rfl rfl rfl rfl rfl (Nat.le_of_ble_eq_true rfl) rm_60_1_3 ⟨by first | exact Nat.le_of_ble_eq_true rfl | exact Nat.zero_le _, by first | exact Nat.le_of_ble_eq_true rfl | exact Nat.zero_le _⟩ gX12_deal_6.2.2.2.1 (Keqr ?_)
        refine lv_goto (tgt := 139) hx hb gX12_deal_6.2.2.2.2.1 (by decide) ?_
        refine pf_X12_375 hC rfl hK hP hD hS 0 (ws' := [(h0, oX12 nw nk mhasKept nt mtaped nr mrowMany mroundOf mroundFrom mouts nm mfromHour mtoHour ns mfrom mto msort misFault mdeep mcoded mlines nl nc nF np ntr nb mbestCost nso nsi nit nsh nsf nss nrc 0 4 (nI jno) (fnw (1424 + 8 * jno + 0)) msize misParted), (nw, iA G 1662 fnw), (nsh, iA G 4 fnsh), (nsf, iA G 4 fnsf), (nrc, iA G 30 fnrc)]) rfl (Nat.le_of_ble_eq_true rfl) rfl rfl rfl gX12_deal_7.2.2.2.2.2.2.1 (fun H locs hP hD hS => ?_)
        refine lv_aload_n hx hb gX12_deal_7.2.2.2.2.2.2.2.1 rfl (lv_at3 hl) ?_
        refine lv_iload hx hb gX12_deal_7.2.2.2.2.2.2.2.2.1 (lv_at1 hl) ?_
        refine lv_if_eq (tgt := 160) hx hb gX12_deal_7.2.2.2.2.2.2.2.2.2 (by decide) (fun _ => ?_) (fun c9 => absurd (by decide) c9)
        refine lv_iload hx hb gX12_deal_8.2.2.2.2.2.2.1 (lv_at0 hl) ?_
        refine lv_if_eq (tgt := 177) hx hb gX12_deal_8.2.2.2.2.2.2.2.1 (by decide) (fun c9 => absurd c9 (by decide)) (fun _ => ?_)
        refine lv_aload_n hx hb gX12_deal_8.2.2.2.2.2.2.2.2.1 rfl (lv_at3 hl) ?_
        refine lv_aload_n hx hb gX12_deal_8.2.2.2.2.2.2.2.2.2 rfl (lv_at3 hl) ?_
        refine gf_X12_378 hC rfl hK hP 0 rfl rfl gX12_deal_9.1 ?_
        refine lv_iconst (v := 4) hx hb gX12_deal_9.2.1 (by decide) ?_
        refine pV hC hK hl hP hD (m_saying l G h0 jno 4 nw nk mhasKept nt mtaped nr mrowMany mroundOf mroundFrom mouts nm mfromHour mtoHour ns mfrom mto msort misFault mdeep mcoded mlines nl nc nF np ntr nb mbestCost nso nsi nit nsh nsf nss nrc 0 4 (nI jno) (fnw (1424 + 8 * jno + 0)) msize misParted fnw (by omega) (by omega)) si_X12_114 [0, 1] sm_0_1 fm_0_1 nd_0_1 rfl rfl rfl rfl rfl (Nat.le_of_ble_eq_true rfl) rm_60_1_3 ⟨by first | exact Nat.le_of_ble_eq_true rfl | exact Nat.zero_le _, by first | exact Nat.le_of_ble_eq_true rfl | exact Nat.zero_le _⟩ gX12_deal_9.2.2.1 (Keqr ?_)
        refine lv_goto (tgt := 194) hx hb gX12_deal_9.2.2.2.1 (by decide) ?_
        refine pf_X12_369 hC rfl hK hP hD hS 0 (ws' := [(h0, oX12 nw nk mhasKept nt mtaped nr mrowMany mroundOf mroundFrom mouts nm mfromHour mtoHour ns mfrom mto msort misFault mdeep mcoded mlines nl nc nF np ntr nb mbestCost nso nsi nit nsh nsf nss nrc 0 4 (nI jno) (fnw (1424 + 8 * jno + 0)) (fnw (1424 + 8 * jno + 4)) misParted), (nw, iA G 1662 fnw), (nsh, iA G 4 fnsh), (nsf, iA G 4 fnsf), (nrc, iA G 30 fnrc)]) rfl (Nat.le_of_ble_eq_true rfl) rfl rfl rfl gX12_deal_10.2.2.2.2.2.1 (fun H locs hP hD hS => ?_)
        refine lv_aload_n hx hb gX12_deal_10.2.2.2.2.2.2.1 rfl (lv_at3 hl) ?_
        refine lv_iconst (v := 0) hx hb gX12_deal_10.2.2.2.2.2.2.2.1 (by decide) ?_
        refine pf_X12_380 hC rfl hK hP hD hS 0 (ws' := [(h0, oX12 nw nk mhasKept nt mtaped nr mrowMany mroundOf mroundFrom mouts nm mfromHour mtoHour ns mfrom mto msort misFault mdeep mcoded mlines nl nc nF np ntr nb mbestCost nso nsi nit nsh nsf nss nrc 0 4 (nI jno) (fnw (1424 + 8 * jno + 0)) (fnw (1424 + 8 * jno + 4)) 0), (nw, iA G 1662 fnw), (nsh, iA G 4 fnsh), (nsf, iA G 4 fnsf), (nrc, iA G 30 fnrc)]) rfl (Nat.le_of_ble_eq_true rfl) rfl (by decide +kernel) (by decide +kernel) gX12_deal_10.2.2.2.2.2.2.2.2.1 (fun H locs hP hD hS => ?_)
        obtain ⟨jdl, hjdl, rfl⟩ := Wi_nat (N := 3) (by decide) a6600
        rcases (show jdl = 0 ∨ jdl = 1 ∨ jdl = 2 ∨ jdl = 3 by omega) with rfl | rfl | rfl | rfl
        · refine lv_aload_n hx hb gX12_deal_10.2.2.2.2.2.2.2.2.2 rfl (lv_at3 hl) ?_
          refine lv_iload_n hx hb gX12_deal_11.1 rfl (lv_at5 hl) ?_
          refine lv_iload_n hx hb gX12_deal_11.2.1 rfl (lv_at6 hl) ?_
          refine iV (wr := [(nw, iA G 1662 fnw), (nsh, iA G 4 fnsh), (nsf, iA G 4 fnsf)]) hC hK hl hP hD hS hA (m_dealt0 l G h0 x3 nw nk mhasKept nt mtaped nr mrowMany mroundOf mroundFrom mouts nm mfromHour mtoHour ns mfrom mto msort misFault mdeep mcoded mlines nl nc nF np ntr nb mbestCost nso nsi nit nsh nsf nss nrc 0 4 (nI jno) (fnw (1424 + 8 * jno + 0)) (fnw (1424 + 8 * jno + 4)) 0 fnrc (by omega) (by omega)) si_X12_372 [0, 4] [1, 2, 3] sm_0_4 fm_0_4 nd_0_4 sm_1_2_3 nd_1_2_3 dj_0_4__1_2_3 rfl rfl rfl rfl rfl (Nat.le_of_ble_eq_true rfl) rm_60_14_3 ⟨Nat.le_of_ble_eq_true rfl, Nat.le_of_ble_eq_true rfl⟩ gX12_deal_11.2.2.1 (fun r6715 => Ktu3 fun jr16717 ip16718 gtrc6719 => ?_)
          intro H locs hr6715 hP hD hS
          try dsimp only at hr6715
          refine Kpdr (ws := [(nw, iA G 1662 fnw), (nsh, iA G 4 fnsh), (nsf, iA G 4 fnsf), (h0, oX12 nw nk mhasKept nt mtaped nr mrowMany mroundOf mroundFrom mouts nm mfromHour mtoHour ns mfrom mto msort misFault mdeep mcoded mlines nl nc nF np ntr nb mbestCost nso nsi nit nsh nsf nss nrc (nI jr16717) 4 (nI jno) (fnw (1424 + 8 * jno + 0)) (fnw (1424 + 8 * jno + 4)) ip16718), (nrc, iA G 30 gtrc6719)]) hP hD (fun hP hD => ?_)
          obtain ⟨hr6715, w6720⟩ := hr6715
          refine lv_istore (lv' := [(7, .int r6715), (6, .int 1), (5, .int 0), (4, .int 4), (0, .ref h0), (1, .int (nI jt)), (2, .int 0), (3, .int x3)]) hx hb gX12_deal_11.2.2.2.1 hl (by decide) rfl (fun ls hl => ?_)
          refine lv_aload_n hx hb gX12_deal_11.2.2.2.2.1 rfl (lv_at4 hl) ?_
          refine gf_X12_380 hC rfl hK hP 3 rfl rfl gX12_deal_11.2.2.2.2.2.1 ?_
          refine lv_if_eq (tgt := 222) hx hb gX12_deal_11.2.2.2.2.2.2.1 (by decide) (fun c_214_6721 => ?_) (fun c_214_6721 => ?_)
          · refine lv_iload hx hb gX12_deal_11.2.2.2.2.2.2.2.2.2 (lv_at0 hl) ?_
            refine toQ hQ0 ?_
            exact RI (v := r6715) hC hP hD hS [3, 0, 1, 2, 4] (jr16717, 4, nI jno, fnw (1424 + 8 * jno + 0), fnw (1424 + 8 * jno + 4), ip16718, gtrc6719) rfl rfl (by decide) (⟨trivial, by omega⟩) rfl gX12_deal_12
          · refine lv_bipush (v := (-15)) hx hb gX12_deal_11.2.2.2.2.2.2.2.1 (by decide) ?_
            refine lv_goto (tgt := 224) hx hb gX12_deal_11.2.2.2.2.2.2.2.2.1 (by decide) ?_
            refine toQ hQ0 ?_
            exact RI (v := (-15)) hC hP hD hS [3, 0, 1, 2, 4] (jr16717, 4, nI jno, fnw (1424 + 8 * jno + 0), fnw (1424 + 8 * jno + 4), ip16718, gtrc6719) rfl rfl (by decide) (⟨trivial, by omega⟩) rfl gX12_deal_12
        · refine lv_aload_n hx hb gX12_deal_10.2.2.2.2.2.2.2.2.2 rfl (lv_at3 hl) ?_
          refine lv_iload_n hx hb gX12_deal_11.1 rfl (lv_at5 hl) ?_
          refine lv_iload_n hx hb gX12_deal_11.2.1 rfl (lv_at6 hl) ?_
          refine iV (wr := [(nw, iA G 1662 fnw), (nsh, iA G 4 fnsh), (nsf, iA G 4 fnsf)]) hC hK hl hP hD hS hA (m_dealt1 l G h0 x3 nw nk mhasKept nt mtaped nr mrowMany mroundOf mroundFrom mouts nm mfromHour mtoHour ns mfrom mto msort misFault mdeep mcoded mlines nl nc nF np ntr nb mbestCost nso nsi nit nsh nsf nss nrc 0 4 (nI jno) (fnw (1424 + 8 * jno + 0)) (fnw (1424 + 8 * jno + 4)) 0 fnrc (by omega) (by omega)) si_X12_372 [0, 4] [1, 2, 3] sm_0_4 fm_0_4 nd_0_4 sm_1_2_3 nd_1_2_3 dj_0_4__1_2_3 rfl rfl rfl rfl rfl (Nat.le_of_ble_eq_true rfl) rm_60_26_3 ⟨Nat.le_of_ble_eq_true rfl, Nat.le_of_ble_eq_true rfl⟩ gX12_deal_11.2.2.1 (fun r6722 => Ktu3 fun jr16724 ip16725 gtrc6726 => ?_)
          intro H locs hr6722 hP hD hS
          try dsimp only at hr6722
          refine Kpdr (ws := [(nw, iA G 1662 fnw), (nsh, iA G 4 fnsh), (nsf, iA G 4 fnsf), (h0, oX12 nw nk mhasKept nt mtaped nr mrowMany mroundOf mroundFrom mouts nm mfromHour mtoHour ns mfrom mto msort misFault mdeep mcoded mlines nl nc nF np ntr nb mbestCost nso nsi nit nsh nsf nss nrc (nI jr16724) 4 (nI jno) (fnw (1424 + 8 * jno + 0)) (fnw (1424 + 8 * jno + 4)) ip16725), (nrc, iA G 30 gtrc6726)]) hP hD (fun hP hD => ?_)
          obtain ⟨hr6722, w6727⟩ := hr6722
          refine lv_istore (lv' := [(7, .int r6722), (6, .int 1), (5, .int 0), (4, .int 4), (0, .ref h0), (1, .int (nI jt)), (2, .int 1), (3, .int x3)]) hx hb gX12_deal_11.2.2.2.1 hl (by decide) rfl (fun ls hl => ?_)
          refine lv_aload_n hx hb gX12_deal_11.2.2.2.2.1 rfl (lv_at4 hl) ?_
          refine gf_X12_380 hC rfl hK hP 3 rfl rfl gX12_deal_11.2.2.2.2.2.1 ?_
          refine lv_if_eq (tgt := 222) hx hb gX12_deal_11.2.2.2.2.2.2.1 (by decide) (fun c_214_6728 => ?_) (fun c_214_6728 => ?_)
          · refine lv_iload hx hb gX12_deal_11.2.2.2.2.2.2.2.2.2 (lv_at0 hl) ?_
            refine toQ hQ0 ?_
            exact RI (v := r6722) hC hP hD hS [3, 0, 1, 2, 4] (jr16724, 4, nI jno, fnw (1424 + 8 * jno + 0), fnw (1424 + 8 * jno + 4), ip16725, gtrc6726) rfl rfl (by decide) (⟨trivial, by omega⟩) rfl gX12_deal_12
          · refine lv_bipush (v := (-15)) hx hb gX12_deal_11.2.2.2.2.2.2.2.1 (by decide) ?_
            refine lv_goto (tgt := 224) hx hb gX12_deal_11.2.2.2.2.2.2.2.2.1 (by decide) ?_
            refine toQ hQ0 ?_
            exact RI (v := (-15)) hC hP hD hS [3, 0, 1, 2, 4] (jr16724, 4, nI jno, fnw (1424 + 8 * jno + 0), fnw (1424 + 8 * jno + 4), ip16725, gtrc6726) rfl rfl (by decide) (⟨trivial, by omega⟩) rfl gX12_deal_12
        · refine lv_aload_n hx hb gX12_deal_10.2.2.2.2.2.2.2.2.2 rfl (lv_at3 hl) ?_
          refine lv_iload_n hx hb gX12_deal_11.1 rfl (lv_at5 hl) ?_
          refine lv_iload_n hx hb gX12_deal_11.2.1 rfl (lv_at6 hl) ?_
          refine iV (wr := [(nw, iA G 1662 fnw), (nsh, iA G 4 fnsh), (nsf, iA G 4 fnsf)]) hC hK hl hP hD hS hA (m_dealt2 l G h0 x3 nw nk mhasKept nt mtaped nr mrowMany mroundOf mroundFrom mouts nm mfromHour mtoHour ns mfrom mto msort misFault mdeep mcoded mlines nl nc nF np ntr nb mbestCost nso nsi nit nsh nsf nss nrc 0 4 (nI jno) (fnw (1424 + 8 * jno + 0)) (fnw (1424 + 8 * jno + 4)) 0 fnrc (by omega) (by omega)) si_X12_372 [0, 4] [1, 2, 3] sm_0_4 fm_0_4 nd_0_4 sm_1_2_3 nd_1_2_3 dj_0_4__1_2_3 rfl rfl rfl rfl rfl (Nat.le_of_ble_eq_true rfl) rm_60_38_3 ⟨Nat.le_of_ble_eq_true rfl, Nat.le_of_ble_eq_true rfl⟩ gX12_deal_11.2.2.1 (fun r6729 => Ktu3 fun jr16731 ip16732 gtrc6733 => ?_)
          intro H locs hr6729 hP hD hS
          try dsimp only at hr6729
          refine Kpdr (ws := [(nw, iA G 1662 fnw), (nsh, iA G 4 fnsh), (nsf, iA G 4 fnsf), (h0, oX12 nw nk mhasKept nt mtaped nr mrowMany mroundOf mroundFrom mouts nm mfromHour mtoHour ns mfrom mto msort misFault mdeep mcoded mlines nl nc nF np ntr nb mbestCost nso nsi nit nsh nsf nss nrc (nI jr16731) 4 (nI jno) (fnw (1424 + 8 * jno + 0)) (fnw (1424 + 8 * jno + 4)) ip16732), (nrc, iA G 30 gtrc6733)]) hP hD (fun hP hD => ?_)
          obtain ⟨hr6729, w6734⟩ := hr6729
          refine lv_istore (lv' := [(7, .int r6729), (6, .int 1), (5, .int 0), (4, .int 4), (0, .ref h0), (1, .int (nI jt)), (2, .int 2), (3, .int x3)]) hx hb gX12_deal_11.2.2.2.1 hl (by decide) rfl (fun ls hl => ?_)
          refine lv_aload_n hx hb gX12_deal_11.2.2.2.2.1 rfl (lv_at4 hl) ?_
          refine gf_X12_380 hC rfl hK hP 3 rfl rfl gX12_deal_11.2.2.2.2.2.1 ?_
          refine lv_if_eq (tgt := 222) hx hb gX12_deal_11.2.2.2.2.2.2.1 (by decide) (fun c_214_6735 => ?_) (fun c_214_6735 => ?_)
          · refine lv_iload hx hb gX12_deal_11.2.2.2.2.2.2.2.2.2 (lv_at0 hl) ?_
            refine toQ hQ0 ?_
            exact RI (v := r6729) hC hP hD hS [3, 0, 1, 2, 4] (jr16731, 4, nI jno, fnw (1424 + 8 * jno + 0), fnw (1424 + 8 * jno + 4), ip16732, gtrc6733) rfl rfl (by decide) (⟨trivial, by omega⟩) rfl gX12_deal_12
          · refine lv_bipush (v := (-15)) hx hb gX12_deal_11.2.2.2.2.2.2.2.1 (by decide) ?_
            refine lv_goto (tgt := 224) hx hb gX12_deal_11.2.2.2.2.2.2.2.2.1 (by decide) ?_
            refine toQ hQ0 ?_
            exact RI (v := (-15)) hC hP hD hS [3, 0, 1, 2, 4] (jr16731, 4, nI jno, fnw (1424 + 8 * jno + 0), fnw (1424 + 8 * jno + 4), ip16732, gtrc6733) rfl rfl (by decide) (⟨trivial, by omega⟩) rfl gX12_deal_12
        · refine lv_aload_n hx hb gX12_deal_10.2.2.2.2.2.2.2.2.2 rfl (lv_at3 hl) ?_
          refine lv_iload_n hx hb gX12_deal_11.1 rfl (lv_at5 hl) ?_
          refine lv_iload_n hx hb gX12_deal_11.2.1 rfl (lv_at6 hl) ?_
          refine iV (wr := [(nw, iA G 1662 fnw), (nsh, iA G 4 fnsh), (nsf, iA G 4 fnsf)]) hC hK hl hP hD hS hA (m_dealt3 l G h0 x3 nw nk mhasKept nt mtaped nr mrowMany mroundOf mroundFrom mouts nm mfromHour mtoHour ns mfrom mto msort misFault mdeep mcoded mlines nl nc nF np ntr nb mbestCost nso nsi nit nsh nsf nss nrc 0 4 (nI jno) (fnw (1424 + 8 * jno + 0)) (fnw (1424 + 8 * jno + 4)) 0 fnrc (by omega) (by omega)) si_X12_372 [0, 4] [1, 2, 3] sm_0_4 fm_0_4 nd_0_4 sm_1_2_3 nd_1_2_3 dj_0_4__1_2_3 rfl rfl rfl rfl rfl (Nat.le_of_ble_eq_true rfl) rm_60_50_3 ⟨Nat.le_of_ble_eq_true rfl, Nat.le_of_ble_eq_true rfl⟩ gX12_deal_11.2.2.1 (fun r6736 => Ktu3 fun jr16738 ip16739 gtrc6740 => ?_)
          intro H locs hr6736 hP hD hS
          try dsimp only at hr6736
          refine Kpdr (ws := [(nw, iA G 1662 fnw), (nsh, iA G 4 fnsh), (nsf, iA G 4 fnsf), (h0, oX12 nw nk mhasKept nt mtaped nr mrowMany mroundOf mroundFrom mouts nm mfromHour mtoHour ns mfrom mto msort misFault mdeep mcoded mlines nl nc nF np ntr nb mbestCost nso nsi nit nsh nsf nss nrc (nI jr16738) 4 (nI jno) (fnw (1424 + 8 * jno + 0)) (fnw (1424 + 8 * jno + 4)) ip16739), (nrc, iA G 30 gtrc6740)]) hP hD (fun hP hD => ?_)
          obtain ⟨hr6736, w6741⟩ := hr6736
          refine lv_istore (lv' := [(7, .int r6736), (6, .int 1), (5, .int 0), (4, .int 4), (0, .ref h0), (1, .int (nI jt)), (2, .int 3), (3, .int x3)]) hx hb gX12_deal_11.2.2.2.1 hl (by decide) rfl (fun ls hl => ?_)
          refine lv_aload_n hx hb gX12_deal_11.2.2.2.2.1 rfl (lv_at4 hl) ?_
          refine gf_X12_380 hC rfl hK hP 3 rfl rfl gX12_deal_11.2.2.2.2.2.1 ?_
          refine lv_if_eq (tgt := 222) hx hb gX12_deal_11.2.2.2.2.2.2.1 (by decide) (fun c_214_6742 => ?_) (fun c_214_6742 => ?_)
          · refine lv_iload hx hb gX12_deal_11.2.2.2.2.2.2.2.2.2 (lv_at0 hl) ?_
            refine toQ hQ0 ?_
            exact RI (v := r6736) hC hP hD hS [3, 0, 1, 2, 4] (jr16738, 4, nI jno, fnw (1424 + 8 * jno + 0), fnw (1424 + 8 * jno + 4), ip16739, gtrc6740) rfl rfl (by decide) (⟨trivial, by omega⟩) rfl gX12_deal_12
          · refine lv_bipush (v := (-15)) hx hb gX12_deal_11.2.2.2.2.2.2.2.1 (by decide) ?_
            refine lv_goto (tgt := 224) hx hb gX12_deal_11.2.2.2.2.2.2.2.2.1 (by decide) ?_
            refine toQ hQ0 ?_
            exact RI (v := (-15)) hC hP hD hS [3, 0, 1, 2, 4] (jr16738, 4, nI jno, fnw (1424 + 8 * jno + 0), fnw (1424 + 8 * jno + 4), ip16739, gtrc6740) rfl rfl (by decide) (⟨trivial, by omega⟩) rfl gX12_deal_12
      · refine lv_istore (lv' := [(4, .int 5), (0, .ref h0), (1, .int (nI jt)), (2, .int x2), (3, .int x3)]) hx hb gX12_deal_1.2.2.2.2.1 hl (by decide) rfl (fun ls hl => ?_)
        refine lv_iload hx hb gX12_deal_1.2.2.2.2.2.1 (lv_at0 hl) ?_
        refine lv_if_ge (tgt := 37) hx hb gX12_deal_1.2.2.2.2.2.2.1 (by decide) (fun _ => ?_) (fun c9 => absurd (by decide) c9)
        refine lv_aload_n hx hb gX12_deal_1.2.2.2.2.2.2.2.2.2 rfl (lv_at1 hl) ?_
        refine lv_iload hx hb gX12_deal_2.1 (lv_at0 hl) ?_
        refine pf_X12_354 hC rfl hK hP hD hS 0 (ws' := [(h0, oX12 nw nk mhasKept nt mtaped nr mrowMany mroundOf mroundFrom mouts nm mfromHour mtoHour ns mfrom mto msort misFault mdeep mcoded mlines nl nc nF np ntr nb mbestCost nso nsi nit nsh nsf nss nrc 0 5 mnumber mwhose msize misParted), (nw, iA G 1662 fnw), (nsh, iA G 4 fnsh), (nsf, iA G 4 fnsf), (nrc, iA G 30 fnrc)]) rfl (Nat.le_of_ble_eq_true rfl) rfl rfl rfl gX12_deal_2.2.1 (fun H locs hP hD hS => ?_)
        refine lv_aload_n hx hb gX12_deal_2.2.2.1 rfl (lv_at1 hl) ?_
        refine lv_aload_n hx hb gX12_deal_2.2.2.2.1 rfl (lv_at1 hl) ?_
        refine gf_X12_75 hC rfl hK hP 0 rfl rfl gX12_deal_2.2.2.2.2.1 ?_
        refine lv_iload_n hx hb gX12_deal_2.2.2.2.2.2.1 rfl (lv_at2 hl) ?_
        refine aldN hC hK hP 3 rfl (k := jt) (by omega) (Nat.le_of_ble_eq_true rfl) (v := fnsf jt) rfl gX12_deal_2.2.2.2.2.2.2.1 ?_
        refine lv_topi (fun x6743 ex6743 => ?_)
        obtain ⟨hko9, jno, hjno, ejno⟩ := a6602
        refine eqi (x1 := nI jno) (ex6743.trans ejno) ?_
        refine pf_X12_378 hC rfl hK hP hD hS 0 (ws' := [(h0, oX12 nw nk mhasKept nt mtaped nr mrowMany mroundOf mroundFrom mouts nm mfromHour mtoHour ns mfrom mto msort misFault mdeep mcoded mlines nl nc nF np ntr nb mbestCost nso nsi nit nsh nsf nss nrc 0 5 (nI jno) mwhose msize misParted), (nw, iA G 1662 fnw), (nsh, iA G 4 fnsh), (nsf, iA G 4 fnsf), (nrc, iA G 30 fnrc)]) rfl (Nat.le_of_ble_eq_true rfl) rfl rfl rfl gX12_deal_2.2.2.2.2.2.2.2.1 (fun H locs hP hD hS => ?_)
        refine lv_aload_n hx hb gX12_deal_2.2.2.2.2.2.2.2.2.1 rfl (lv_at1 hl) ?_
        refine gf_X12_72 hC rfl hK hP 0 rfl rfl gX12_deal_2.2.2.2.2.2.2.2.2.2 ?_
        refine lv_iload_n hx hb gX12_deal_3.1 rfl (lv_at2 hl) ?_
        refine aldN hC hK hP 2 rfl (k := jt) (by omega) (Nat.le_of_ble_eq_true rfl) (v := fnsh jt) rfl gX12_deal_3.2.1 ?_
        refine lv_topi (fun x6744 ex6744 => ?_)
        refine lv_iconst (v := 1) hx hb gX12_deal_3.2.2.1 (by decide) ?_
        refine lv_icmp_ne (tgt := 67) hx hb gX12_deal_3.2.2.2.1 (by decide) (fun _ => ?_) (fun c9 => absurd c9 (fun h9 => absurd (hko9.symm.trans ((ex6744.symm).trans h9)) (by decide)))
        refine lv_iconst (v := 0) hx hb gX12_deal_3.2.2.2.2.2.2.1 (by decide) ?_
        refine lv_istore (lv' := [(5, .int 0), (4, .int 5), (0, .ref h0), (1, .int (nI jt)), (2, .int x2), (3, .int x3)]) hx hb gX12_deal_3.2.2.2.2.2.2.2.1 hl (by decide) rfl (fun ls hl => ?_)
        refine lv_aload_n hx hb gX12_deal_3.2.2.2.2.2.2.2.2.1 rfl (lv_at2 hl) ?_
        refine gf_X12_72 hC rfl hK hP 0 rfl rfl gX12_deal_3.2.2.2.2.2.2.2.2.2 ?_
        refine lv_iload_n hx hb gX12_deal_4.1 rfl (lv_at3 hl) ?_
        refine aldN hC hK hP 2 rfl (k := jt) (by omega) (Nat.le_of_ble_eq_true rfl) (v := fnsh jt) rfl gX12_deal_4.2.1 ?_
        refine lv_topi (fun x6745 ex6745 => ?_)
        refine lv_iconst (v := 2) hx hb gX12_deal_4.2.2.1 (by decide) ?_
        refine lv_icmp_ne (tgt := 84) hx hb gX12_deal_4.2.2.2.1 (by decide) (fun c9 => absurd (ex6745.trans hko9) c9) (fun _ => ?_)
        refine lv_iconst (v := 1) hx hb gX12_deal_4.2.2.2.2.1 (by decide) ?_
        refine lv_goto (tgt := 85) hx hb gX12_deal_4.2.2.2.2.2.1 (by decide) ?_
        refine lv_istore (lv' := [(6, .int 1), (5, .int 0), (4, .int 5), (0, .ref h0), (1, .int (nI jt)), (2, .int x2), (3, .int x3)]) hx hb gX12_deal_4.2.2.2.2.2.2.2.1 hl (by decide) rfl (fun ls hl => ?_)
        refine lv_aload_n hx hb gX12_deal_4.2.2.2.2.2.2.2.2.1 rfl (lv_at3 hl) ?_
        refine lv_iload hx hb gX12_deal_4.2.2.2.2.2.2.2.2.2 (lv_at1 hl) ?_
        refine lv_if_eq (tgt := 105) hx hb gX12_deal_5.1 (by decide) (fun _ => ?_) (fun c9 => absurd (by decide) c9)
        refine lv_iload hx hb gX12_deal_5.2.2.2.2.2.2.2.1 (lv_at0 hl) ?_
        refine lv_if_eq (tgt := 122) hx hb gX12_deal_5.2.2.2.2.2.2.2.2.1 (by decide) (fun c9 => absurd c9 (by decide)) (fun _ => ?_)
        refine lv_aload_n hx hb gX12_deal_5.2.2.2.2.2.2.2.2.2 rfl (lv_at3 hl) ?_
        refine lv_aload_n hx hb gX12_deal_6.1 rfl (lv_at3 hl) ?_
        refine gf_X12_378 hC rfl hK hP 0 rfl rfl gX12_deal_6.2.1 ?_
        refine lv_iconst (v := 0) hx hb gX12_deal_6.2.2.1 (by decide) ?_
        refine pV hC hK hl hP hD (m_saying l G h0 jno 0 nw nk mhasKept nt mtaped nr mrowMany mroundOf mroundFrom mouts nm mfromHour mtoHour ns mfrom mto msort misFault mdeep mcoded mlines nl nc nF np ntr nb mbestCost nso nsi nit nsh nsf nss nrc 0 5 (nI jno) mwhose msize misParted fnw (by omega) (by omega)) si_X12_114 [0, 1] sm_0_1 fm_0_1 nd_0_1 rfl rfl rfl rfl rfl (Nat.le_of_ble_eq_true rfl) rm_60_1_3 ⟨by first | exact Nat.le_of_ble_eq_true rfl | exact Nat.zero_le _, by first | exact Nat.le_of_ble_eq_true rfl | exact Nat.zero_le _⟩ gX12_deal_6.2.2.2.1 (Keqr ?_)
        refine lv_goto (tgt := 139) hx hb gX12_deal_6.2.2.2.2.1 (by decide) ?_
        refine pf_X12_375 hC rfl hK hP hD hS 0 (ws' := [(h0, oX12 nw nk mhasKept nt mtaped nr mrowMany mroundOf mroundFrom mouts nm mfromHour mtoHour ns mfrom mto msort misFault mdeep mcoded mlines nl nc nF np ntr nb mbestCost nso nsi nit nsh nsf nss nrc 0 5 (nI jno) (fnw (1424 + 8 * jno + 0)) msize misParted), (nw, iA G 1662 fnw), (nsh, iA G 4 fnsh), (nsf, iA G 4 fnsf), (nrc, iA G 30 fnrc)]) rfl (Nat.le_of_ble_eq_true rfl) rfl rfl rfl gX12_deal_7.2.2.2.2.2.2.1 (fun H locs hP hD hS => ?_)
        refine lv_aload_n hx hb gX12_deal_7.2.2.2.2.2.2.2.1 rfl (lv_at3 hl) ?_
        refine lv_iload hx hb gX12_deal_7.2.2.2.2.2.2.2.2.1 (lv_at1 hl) ?_
        refine lv_if_eq (tgt := 160) hx hb gX12_deal_7.2.2.2.2.2.2.2.2.2 (by decide) (fun _ => ?_) (fun c9 => absurd (by decide) c9)
        refine lv_iload hx hb gX12_deal_8.2.2.2.2.2.2.1 (lv_at0 hl) ?_
        refine lv_if_eq (tgt := 177) hx hb gX12_deal_8.2.2.2.2.2.2.2.1 (by decide) (fun c9 => absurd c9 (by decide)) (fun _ => ?_)
        refine lv_aload_n hx hb gX12_deal_8.2.2.2.2.2.2.2.2.1 rfl (lv_at3 hl) ?_
        refine lv_aload_n hx hb gX12_deal_8.2.2.2.2.2.2.2.2.2 rfl (lv_at3 hl) ?_
        refine gf_X12_378 hC rfl hK hP 0 rfl rfl gX12_deal_9.1 ?_
        refine lv_iconst (v := 4) hx hb gX12_deal_9.2.1 (by decide) ?_
        refine pV hC hK hl hP hD (m_saying l G h0 jno 4 nw nk mhasKept nt mtaped nr mrowMany mroundOf mroundFrom mouts nm mfromHour mtoHour ns mfrom mto msort misFault mdeep mcoded mlines nl nc nF np ntr nb mbestCost nso nsi nit nsh nsf nss nrc 0 5 (nI jno) (fnw (1424 + 8 * jno + 0)) msize misParted fnw (by omega) (by omega)) si_X12_114 [0, 1] sm_0_1 fm_0_1 nd_0_1 rfl rfl rfl rfl rfl (Nat.le_of_ble_eq_true rfl) rm_60_1_3 ⟨by first | exact Nat.le_of_ble_eq_true rfl | exact Nat.zero_le _, by first | exact Nat.le_of_ble_eq_true rfl | exact Nat.zero_le _⟩ gX12_deal_9.2.2.1 (Keqr ?_)
        refine lv_goto (tgt := 194) hx hb gX12_deal_9.2.2.2.1 (by decide) ?_
        refine pf_X12_369 hC rfl hK hP hD hS 0 (ws' := [(h0, oX12 nw nk mhasKept nt mtaped nr mrowMany mroundOf mroundFrom mouts nm mfromHour mtoHour ns mfrom mto msort misFault mdeep mcoded mlines nl nc nF np ntr nb mbestCost nso nsi nit nsh nsf nss nrc 0 5 (nI jno) (fnw (1424 + 8 * jno + 0)) (fnw (1424 + 8 * jno + 4)) misParted), (nw, iA G 1662 fnw), (nsh, iA G 4 fnsh), (nsf, iA G 4 fnsf), (nrc, iA G 30 fnrc)]) rfl (Nat.le_of_ble_eq_true rfl) rfl rfl rfl gX12_deal_10.2.2.2.2.2.1 (fun H locs hP hD hS => ?_)
        refine lv_aload_n hx hb gX12_deal_10.2.2.2.2.2.2.1 rfl (lv_at3 hl) ?_
        refine lv_iconst (v := 0) hx hb gX12_deal_10.2.2.2.2.2.2.2.1 (by decide) ?_
        refine pf_X12_380 hC rfl hK hP hD hS 0 (ws' := [(h0, oX12 nw nk mhasKept nt mtaped nr mrowMany mroundOf mroundFrom mouts nm mfromHour mtoHour ns mfrom mto msort misFault mdeep mcoded mlines nl nc nF np ntr nb mbestCost nso nsi nit nsh nsf nss nrc 0 5 (nI jno) (fnw (1424 + 8 * jno + 0)) (fnw (1424 + 8 * jno + 4)) 0), (nw, iA G 1662 fnw), (nsh, iA G 4 fnsh), (nsf, iA G 4 fnsf), (nrc, iA G 30 fnrc)]) rfl (Nat.le_of_ble_eq_true rfl) rfl (by decide +kernel) (by decide +kernel) gX12_deal_10.2.2.2.2.2.2.2.2.1 (fun H locs hP hD hS => ?_)
        obtain ⟨jdl, hjdl, rfl⟩ := Wi_nat (N := 3) (by decide) a6600
        rcases (show jdl = 0 ∨ jdl = 1 ∨ jdl = 2 ∨ jdl = 3 by omega) with rfl | rfl | rfl | rfl
        · refine lv_aload_n hx hb gX12_deal_10.2.2.2.2.2.2.2.2.2 rfl (lv_at3 hl) ?_
          refine lv_iload_n hx hb gX12_deal_11.1 rfl (lv_at5 hl) ?_
          refine lv_iload_n hx hb gX12_deal_11.2.1 rfl (lv_at6 hl) ?_
          refine iV (wr := [(nw, iA G 1662 fnw), (nsh, iA G 4 fnsh), (nsf, iA G 4 fnsf)]) hC hK hl hP hD hS hA (m_dealt0 l G h0 x3 nw nk mhasKept nt mtaped nr mrowMany mroundOf mroundFrom mouts nm mfromHour mtoHour ns mfrom mto msort misFault mdeep mcoded mlines nl nc nF np ntr nb mbestCost nso nsi nit nsh nsf nss nrc 0 5 (nI jno) (fnw (1424 + 8 * jno + 0)) (fnw (1424 + 8 * jno + 4)) 0 fnrc (by omega) (by omega)) si_X12_372 [0, 4] [1, 2, 3] sm_0_4 fm_0_4 nd_0_4 sm_1_2_3 nd_1_2_3 dj_0_4__1_2_3 rfl rfl rfl rfl rfl (Nat.le_of_ble_eq_true rfl) rm_60_14_3 ⟨Nat.le_of_ble_eq_true rfl, Nat.le_of_ble_eq_true rfl⟩ gX12_deal_11.2.2.1 (fun r6750 => Ktu3 fun jr16752 ip16753 gtrc6754 => ?_)
          intro H locs hr6750 hP hD hS
          try dsimp only at hr6750
          refine Kpdr (ws := [(nw, iA G 1662 fnw), (nsh, iA G 4 fnsh), (nsf, iA G 4 fnsf), (h0, oX12 nw nk mhasKept nt mtaped nr mrowMany mroundOf mroundFrom mouts nm mfromHour mtoHour ns mfrom mto msort misFault mdeep mcoded mlines nl nc nF np ntr nb mbestCost nso nsi nit nsh nsf nss nrc (nI jr16752) 5 (nI jno) (fnw (1424 + 8 * jno + 0)) (fnw (1424 + 8 * jno + 4)) ip16753), (nrc, iA G 30 gtrc6754)]) hP hD (fun hP hD => ?_)
          obtain ⟨hr6750, w6755⟩ := hr6750
          refine lv_istore (lv' := [(7, .int r6750), (6, .int 1), (5, .int 0), (4, .int 5), (0, .ref h0), (1, .int (nI jt)), (2, .int 0), (3, .int x3)]) hx hb gX12_deal_11.2.2.2.1 hl (by decide) rfl (fun ls hl => ?_)
          refine lv_aload_n hx hb gX12_deal_11.2.2.2.2.1 rfl (lv_at4 hl) ?_
          refine gf_X12_380 hC rfl hK hP 3 rfl rfl gX12_deal_11.2.2.2.2.2.1 ?_
          refine lv_if_eq (tgt := 222) hx hb gX12_deal_11.2.2.2.2.2.2.1 (by decide) (fun c_214_6756 => ?_) (fun c_214_6756 => ?_)
          · refine lv_iload hx hb gX12_deal_11.2.2.2.2.2.2.2.2.2 (lv_at0 hl) ?_
            refine toQ hQ0 ?_
            exact RI (v := r6750) hC hP hD hS [3, 0, 1, 2, 4] (jr16752, 5, nI jno, fnw (1424 + 8 * jno + 0), fnw (1424 + 8 * jno + 4), ip16753, gtrc6754) rfl rfl (by decide) (⟨trivial, by omega⟩) rfl gX12_deal_12
          · refine lv_bipush (v := (-15)) hx hb gX12_deal_11.2.2.2.2.2.2.2.1 (by decide) ?_
            refine lv_goto (tgt := 224) hx hb gX12_deal_11.2.2.2.2.2.2.2.2.1 (by decide) ?_
            refine toQ hQ0 ?_
            exact RI (v := (-15)) hC hP hD hS [3, 0, 1, 2, 4] (jr16752, 5, nI jno, fnw (1424 + 8 * jno + 0), fnw (1424 + 8 * jno + 4), ip16753, gtrc6754) rfl rfl (by decide) (⟨trivial, by omega⟩) rfl gX12_deal_12
        · refine lv_aload_n hx hb gX12_deal_10.2.2.2.2.2.2.2.2.2 rfl (lv_at3 hl) ?_
          refine lv_iload_n hx hb gX12_deal_11.1 rfl (lv_at5 hl) ?_
          refine lv_iload_n hx hb gX12_deal_11.2.1 rfl (lv_at6 hl) ?_
          refine iV (wr := [(nw, iA G 1662 fnw), (nsh, iA G 4 fnsh), (nsf, iA G 4 fnsf)]) hC hK hl hP hD hS hA (m_dealt1 l G h0 x3 nw nk mhasKept nt mtaped nr mrowMany mroundOf mroundFrom mouts nm mfromHour mtoHour ns mfrom mto msort misFault mdeep mcoded mlines nl nc nF np ntr nb mbestCost nso nsi nit nsh nsf nss nrc 0 5 (nI jno) (fnw (1424 + 8 * jno + 0)) (fnw (1424 + 8 * jno + 4)) 0 fnrc (by omega) (by omega)) si_X12_372 [0, 4] [1, 2, 3] sm_0_4 fm_0_4 nd_0_4 sm_1_2_3 nd_1_2_3 dj_0_4__1_2_3 rfl rfl rfl rfl rfl (Nat.le_of_ble_eq_true rfl) rm_60_26_3 ⟨Nat.le_of_ble_eq_true rfl, Nat.le_of_ble_eq_true rfl⟩ gX12_deal_11.2.2.1 (fun r6757 => Ktu3 fun jr16759 ip16760 gtrc6761 => ?_)
          intro H locs hr6757 hP hD hS
          try dsimp only at hr6757
          refine Kpdr (ws := [(nw, iA G 1662 fnw), (nsh, iA G 4 fnsh), (nsf, iA G 4 fnsf), (h0, oX12 nw nk mhasKept nt mtaped nr mrowMany mroundOf mroundFrom mouts nm mfromHour mtoHour ns mfrom mto msort misFault mdeep mcoded mlines nl nc nF np ntr nb mbestCost nso nsi nit nsh nsf nss nrc (nI jr16759) 5 (nI jno) (fnw (1424 + 8 * jno + 0)) (fnw (1424 + 8 * jno + 4)) ip16760), (nrc, iA G 30 gtrc6761)]) hP hD (fun hP hD => ?_)
          obtain ⟨hr6757, w6762⟩ := hr6757
          refine lv_istore (lv' := [(7, .int r6757), (6, .int 1), (5, .int 0), (4, .int 5), (0, .ref h0), (1, .int (nI jt)), (2, .int 1), (3, .int x3)]) hx hb gX12_deal_11.2.2.2.1 hl (by decide) rfl (fun ls hl => ?_)
          refine lv_aload_n hx hb gX12_deal_11.2.2.2.2.1 rfl (lv_at4 hl) ?_
          refine gf_X12_380 hC rfl hK hP 3 rfl rfl gX12_deal_11.2.2.2.2.2.1 ?_
          refine lv_if_eq (tgt := 222) hx hb gX12_deal_11.2.2.2.2.2.2.1 (by decide) (fun c_214_6763 => ?_) (fun c_214_6763 => ?_)
          · refine lv_iload hx hb gX12_deal_11.2.2.2.2.2.2.2.2.2 (lv_at0 hl) ?_
            refine toQ hQ0 ?_
            exact RI (v := r6757) hC hP hD hS [3, 0, 1, 2, 4] (jr16759, 5, nI jno, fnw (1424 + 8 * jno + 0), fnw (1424 + 8 * jno + 4), ip16760, gtrc6761) rfl rfl (by decide) (⟨trivial, by omega⟩) rfl gX12_deal_12
          · refine lv_bipush (v := (-15)) hx hb gX12_deal_11.2.2.2.2.2.2.2.1 (by decide) ?_
            refine lv_goto (tgt := 224) hx hb gX12_deal_11.2.2.2.2.2.2.2.2.1 (by decide) ?_
            refine toQ hQ0 ?_
            exact RI (v := (-15)) hC hP hD hS [3, 0, 1, 2, 4] (jr16759, 5, nI jno, fnw (1424 + 8 * jno + 0), fnw (1424 + 8 * jno + 4), ip16760, gtrc6761) rfl rfl (by decide) (⟨trivial, by omega⟩) rfl gX12_deal_12
        · refine lv_aload_n hx hb gX12_deal_10.2.2.2.2.2.2.2.2.2 rfl (lv_at3 hl) ?_
          refine lv_iload_n hx hb gX12_deal_11.1 rfl (lv_at5 hl) ?_
          refine lv_iload_n hx hb gX12_deal_11.2.1 rfl (lv_at6 hl) ?_
          refine iV (wr := [(nw, iA G 1662 fnw), (nsh, iA G 4 fnsh), (nsf, iA G 4 fnsf)]) hC hK hl hP hD hS hA (m_dealt2 l G h0 x3 nw nk mhasKept nt mtaped nr mrowMany mroundOf mroundFrom mouts nm mfromHour mtoHour ns mfrom mto msort misFault mdeep mcoded mlines nl nc nF np ntr nb mbestCost nso nsi nit nsh nsf nss nrc 0 5 (nI jno) (fnw (1424 + 8 * jno + 0)) (fnw (1424 + 8 * jno + 4)) 0 fnrc (by omega) (by omega)) si_X12_372 [0, 4] [1, 2, 3] sm_0_4 fm_0_4 nd_0_4 sm_1_2_3 nd_1_2_3 dj_0_4__1_2_3 rfl rfl rfl rfl rfl (Nat.le_of_ble_eq_true rfl) rm_60_38_3 ⟨Nat.le_of_ble_eq_true rfl, Nat.le_of_ble_eq_true rfl⟩ gX12_deal_11.2.2.1 (fun r6764 => Ktu3 fun jr16766 ip16767 gtrc6768 => ?_)
          intro H locs hr6764 hP hD hS
          try dsimp only at hr6764
          refine Kpdr (ws := [(nw, iA G 1662 fnw), (nsh, iA G 4 fnsh), (nsf, iA G 4 fnsf), (h0, oX12 nw nk mhasKept nt mtaped nr mrowMany mroundOf mroundFrom mouts nm mfromHour mtoHour ns mfrom mto msort misFault mdeep mcoded mlines nl nc nF np ntr nb mbestCost nso nsi nit nsh nsf nss nrc (nI jr16766) 5 (nI jno) (fnw (1424 + 8 * jno + 0)) (fnw (1424 + 8 * jno + 4)) ip16767), (nrc, iA G 30 gtrc6768)]) hP hD (fun hP hD => ?_)
          obtain ⟨hr6764, w6769⟩ := hr6764
          refine lv_istore (lv' := [(7, .int r6764), (6, .int 1), (5, .int 0), (4, .int 5), (0, .ref h0), (1, .int (nI jt)), (2, .int 2), (3, .int x3)]) hx hb gX12_deal_11.2.2.2.1 hl (by decide) rfl (fun ls hl => ?_)
          refine lv_aload_n hx hb gX12_deal_11.2.2.2.2.1 rfl (lv_at4 hl) ?_
          refine gf_X12_380 hC rfl hK hP 3 rfl rfl gX12_deal_11.2.2.2.2.2.1 ?_
          refine lv_if_eq (tgt := 222) hx hb gX12_deal_11.2.2.2.2.2.2.1 (by decide) (fun c_214_6770 => ?_) (fun c_214_6770 => ?_)
          · refine lv_iload hx hb gX12_deal_11.2.2.2.2.2.2.2.2.2 (lv_at0 hl) ?_
            refine toQ hQ0 ?_
            exact RI (v := r6764) hC hP hD hS [3, 0, 1, 2, 4] (jr16766, 5, nI jno, fnw (1424 + 8 * jno + 0), fnw (1424 + 8 * jno + 4), ip16767, gtrc6768) rfl rfl (by decide) (⟨trivial, by omega⟩) rfl gX12_deal_12
          · refine lv_bipush (v := (-15)) hx hb gX12_deal_11.2.2.2.2.2.2.2.1 (by decide) ?_
            refine lv_goto (tgt := 224) hx hb gX12_deal_11.2.2.2.2.2.2.2.2.1 (by decide) ?_
            refine toQ hQ0 ?_
            exact RI (v := (-15)) hC hP hD hS [3, 0, 1, 2, 4] (jr16766, 5, nI jno, fnw (1424 + 8 * jno + 0), fnw (1424 + 8 * jno + 4), ip16767, gtrc6768) rfl rfl (by decide) (⟨trivial, by omega⟩) rfl gX12_deal_12
        · refine lv_aload_n hx hb gX12_deal_10.2.2.2.2.2.2.2.2.2 rfl (lv_at3 hl) ?_
          refine lv_iload_n hx hb gX12_deal_11.1 rfl (lv_at5 hl) ?_
          refine lv_iload_n hx hb gX12_deal_11.2.1 rfl (lv_at6 hl) ?_
          refine iV (wr := [(nw, iA G 1662 fnw), (nsh, iA G 4 fnsh), (nsf, iA G 4 fnsf)]) hC hK hl hP hD hS hA (m_dealt3 l G h0 x3 nw nk mhasKept nt mtaped nr mrowMany mroundOf mroundFrom mouts nm mfromHour mtoHour ns mfrom mto msort misFault mdeep mcoded mlines nl nc nF np ntr nb mbestCost nso nsi nit nsh nsf nss nrc 0 5 (nI jno) (fnw (1424 + 8 * jno + 0)) (fnw (1424 + 8 * jno + 4)) 0 fnrc (by omega) (by omega)) si_X12_372 [0, 4] [1, 2, 3] sm_0_4 fm_0_4 nd_0_4 sm_1_2_3 nd_1_2_3 dj_0_4__1_2_3 rfl rfl rfl rfl rfl (Nat.le_of_ble_eq_true rfl) rm_60_50_3 ⟨Nat.le_of_ble_eq_true rfl, Nat.le_of_ble_eq_true rfl⟩ gX12_deal_11.2.2.1 (fun r6771 => Ktu3 fun jr16773 ip16774 gtrc6775 => ?_)
          intro H locs hr6771 hP hD hS
          try dsimp only at hr6771
          refine Kpdr (ws := [(nw, iA G 1662 fnw), (nsh, iA G 4 fnsh), (nsf, iA G 4 fnsf), (h0, oX12 nw nk mhasKept nt mtaped nr mrowMany mroundOf mroundFrom mouts nm mfromHour mtoHour ns mfrom mto msort misFault mdeep mcoded mlines nl nc nF np ntr nb mbestCost nso nsi nit nsh nsf nss nrc (nI jr16773) 5 (nI jno) (fnw (1424 + 8 * jno + 0)) (fnw (1424 + 8 * jno + 4)) ip16774), (nrc, iA G 30 gtrc6775)]) hP hD (fun hP hD => ?_)
          obtain ⟨hr6771, w6776⟩ := hr6771
          refine lv_istore (lv' := [(7, .int r6771), (6, .int 1), (5, .int 0), (4, .int 5), (0, .ref h0), (1, .int (nI jt)), (2, .int 3), (3, .int x3)]) hx hb gX12_deal_11.2.2.2.1 hl (by decide) rfl (fun ls hl => ?_)
          refine lv_aload_n hx hb gX12_deal_11.2.2.2.2.1 rfl (lv_at4 hl) ?_
          refine gf_X12_380 hC rfl hK hP 3 rfl rfl gX12_deal_11.2.2.2.2.2.1 ?_
          refine lv_if_eq (tgt := 222) hx hb gX12_deal_11.2.2.2.2.2.2.1 (by decide) (fun c_214_6777 => ?_) (fun c_214_6777 => ?_)
          · refine lv_iload hx hb gX12_deal_11.2.2.2.2.2.2.2.2.2 (lv_at0 hl) ?_
            refine toQ hQ0 ?_
            exact RI (v := r6771) hC hP hD hS [3, 0, 1, 2, 4] (jr16773, 5, nI jno, fnw (1424 + 8 * jno + 0), fnw (1424 + 8 * jno + 4), ip16774, gtrc6775) rfl rfl (by decide) (⟨trivial, by omega⟩) rfl gX12_deal_12
          · refine lv_bipush (v := (-15)) hx hb gX12_deal_11.2.2.2.2.2.2.2.1 (by decide) ?_
            refine lv_goto (tgt := 224) hx hb gX12_deal_11.2.2.2.2.2.2.2.2.1 (by decide) ?_
            refine toQ hQ0 ?_
            exact RI (v := (-15)) hC hP hD hS [3, 0, 1, 2, 4] (jr16773, 5, nI jno, fnw (1424 + 8 * jno + 0), fnw (1424 + 8 * jno + 4), ip16774, gtrc6775) rfl rfl (by decide) (⟨trivial, by omega⟩) rfl gX12_deal_12
      · refine lv_istore (lv' := [(4, .int 6), (0, .ref h0), (1, .int (nI jt)), (2, .int x2), (3, .int x3)]) hx hb gX12_deal_1.2.2.2.2.1 hl (by decide) rfl (fun ls hl => ?_)
        refine lv_iload hx hb gX12_deal_1.2.2.2.2.2.1 (lv_at0 hl) ?_
        refine lv_if_ge (tgt := 37) hx hb gX12_deal_1.2.2.2.2.2.2.1 (by decide) (fun _ => ?_) (fun c9 => absurd (by decide) c9)
        refine lv_aload_n hx hb gX12_deal_1.2.2.2.2.2.2.2.2.2 rfl (lv_at1 hl) ?_
        refine lv_iload hx hb gX12_deal_2.1 (lv_at0 hl) ?_
        refine pf_X12_354 hC rfl hK hP hD hS 0 (ws' := [(h0, oX12 nw nk mhasKept nt mtaped nr mrowMany mroundOf mroundFrom mouts nm mfromHour mtoHour ns mfrom mto msort misFault mdeep mcoded mlines nl nc nF np ntr nb mbestCost nso nsi nit nsh nsf nss nrc 0 6 mnumber mwhose msize misParted), (nw, iA G 1662 fnw), (nsh, iA G 4 fnsh), (nsf, iA G 4 fnsf), (nrc, iA G 30 fnrc)]) rfl (Nat.le_of_ble_eq_true rfl) rfl rfl rfl gX12_deal_2.2.1 (fun H locs hP hD hS => ?_)
        refine lv_aload_n hx hb gX12_deal_2.2.2.1 rfl (lv_at1 hl) ?_
        refine lv_aload_n hx hb gX12_deal_2.2.2.2.1 rfl (lv_at1 hl) ?_
        refine gf_X12_75 hC rfl hK hP 0 rfl rfl gX12_deal_2.2.2.2.2.1 ?_
        refine lv_iload_n hx hb gX12_deal_2.2.2.2.2.2.1 rfl (lv_at2 hl) ?_
        refine aldN hC hK hP 3 rfl (k := jt) (by omega) (Nat.le_of_ble_eq_true rfl) (v := fnsf jt) rfl gX12_deal_2.2.2.2.2.2.2.1 ?_
        refine lv_topi (fun x6778 ex6778 => ?_)
        obtain ⟨hko9, jno, hjno, ejno⟩ := a6602
        refine eqi (x1 := nI jno) (ex6778.trans ejno) ?_
        refine pf_X12_378 hC rfl hK hP hD hS 0 (ws' := [(h0, oX12 nw nk mhasKept nt mtaped nr mrowMany mroundOf mroundFrom mouts nm mfromHour mtoHour ns mfrom mto msort misFault mdeep mcoded mlines nl nc nF np ntr nb mbestCost nso nsi nit nsh nsf nss nrc 0 6 (nI jno) mwhose msize misParted), (nw, iA G 1662 fnw), (nsh, iA G 4 fnsh), (nsf, iA G 4 fnsf), (nrc, iA G 30 fnrc)]) rfl (Nat.le_of_ble_eq_true rfl) rfl rfl rfl gX12_deal_2.2.2.2.2.2.2.2.1 (fun H locs hP hD hS => ?_)
        refine lv_aload_n hx hb gX12_deal_2.2.2.2.2.2.2.2.2.1 rfl (lv_at1 hl) ?_
        refine gf_X12_72 hC rfl hK hP 0 rfl rfl gX12_deal_2.2.2.2.2.2.2.2.2.2 ?_
        refine lv_iload_n hx hb gX12_deal_3.1 rfl (lv_at2 hl) ?_
        refine aldN hC hK hP 2 rfl (k := jt) (by omega) (Nat.le_of_ble_eq_true rfl) (v := fnsh jt) rfl gX12_deal_3.2.1 ?_
        refine lv_topi (fun x6779 ex6779 => ?_)
        refine lv_iconst (v := 1) hx hb gX12_deal_3.2.2.1 (by decide) ?_
        refine lv_icmp_ne (tgt := 67) hx hb gX12_deal_3.2.2.2.1 (by decide) (fun _ => ?_) (fun c9 => absurd c9 (fun h9 => absurd (hko9.symm.trans ((ex6779.symm).trans h9)) (by decide)))
        refine lv_iconst (v := 0) hx hb gX12_deal_3.2.2.2.2.2.2.1 (by decide) ?_
        refine lv_istore (lv' := [(5, .int 0), (4, .int 6), (0, .ref h0), (1, .int (nI jt)), (2, .int x2), (3, .int x3)]) hx hb gX12_deal_3.2.2.2.2.2.2.2.1 hl (by decide) rfl (fun ls hl => ?_)
        refine lv_aload_n hx hb gX12_deal_3.2.2.2.2.2.2.2.2.1 rfl (lv_at2 hl) ?_
        refine gf_X12_72 hC rfl hK hP 0 rfl rfl gX12_deal_3.2.2.2.2.2.2.2.2.2 ?_
        refine lv_iload_n hx hb gX12_deal_4.1 rfl (lv_at3 hl) ?_
        refine aldN hC hK hP 2 rfl (k := jt) (by omega) (Nat.le_of_ble_eq_true rfl) (v := fnsh jt) rfl gX12_deal_4.2.1 ?_
        refine lv_topi (fun x6780 ex6780 => ?_)
        refine lv_iconst (v := 2) hx hb gX12_deal_4.2.2.1 (by decide) ?_
        refine lv_icmp_ne (tgt := 84) hx hb gX12_deal_4.2.2.2.1 (by decide) (fun _ => ?_) (fun c9 => absurd c9 (fun h9 => absurd (hko9.symm.trans ((ex6780.symm).trans h9)) (by decide)))
        refine lv_iconst (v := 0) hx hb gX12_deal_4.2.2.2.2.2.2.1 (by decide) ?_
        refine lv_istore (lv' := [(6, .int 0), (5, .int 0), (4, .int 6), (0, .ref h0), (1, .int (nI jt)), (2, .int x2), (3, .int x3)]) hx hb gX12_deal_4.2.2.2.2.2.2.2.1 hl (by decide) rfl (fun ls hl => ?_)
        refine lv_aload_n hx hb gX12_deal_4.2.2.2.2.2.2.2.2.1 rfl (lv_at3 hl) ?_
        refine lv_iload hx hb gX12_deal_4.2.2.2.2.2.2.2.2.2 (lv_at1 hl) ?_
        refine lv_if_eq (tgt := 105) hx hb gX12_deal_5.1 (by decide) (fun _ => ?_) (fun c9 => absurd (by decide) c9)
        refine lv_iload hx hb gX12_deal_5.2.2.2.2.2.2.2.1 (lv_at0 hl) ?_
        refine lv_if_eq (tgt := 122) hx hb gX12_deal_5.2.2.2.2.2.2.2.2.1 (by decide) (fun _ => ?_) (fun c9 => absurd (by decide) c9)
        refine lv_aload_n hx hb gX12_deal_6.2.2.2.2.2.1 rfl (lv_at3 hl) ?_
        refine gf_X12_9 hC rfl hK hP 0 rfl rfl gX12_deal_6.2.2.2.2.2.2.1 ?_
        refine lv_sipush (v := 1552) hx hb gX12_deal_6.2.2.2.2.2.2.2.1 (by decide) ?_
        refine lv_iconst (v := 4) hx hb gX12_deal_6.2.2.2.2.2.2.2.2.1 (by decide) ?_
        refine lv_aload_n hx hb gX12_deal_6.2.2.2.2.2.2.2.2.2 rfl (lv_at3 hl) ?_
        refine gf_X12_378 hC rfl hK hP 0 rfl rfl gX12_deal_7.1 ?_
        refine lv_imul hx hb gX12_deal_7.2.1 ?_
        refine eqi (x1 := nI (4 * jno)) (nI_mul 4 jno) ?_
        refine lv_iadd hx hb gX12_deal_7.2.2.1 ?_
        refine eqi (x1 := nI (1552 + 4 * jno)) (nI_add 1552 (4 * jno)) ?_
        refine lv_iconst (v := 0) hx hb gX12_deal_7.2.2.2.1 (by decide) ?_
        refine lv_iadd hx hb gX12_deal_7.2.2.2.2.1 ?_
        refine eqi (x1 := nI (1552 + 4 * jno + 0)) (nI_add (1552 + 4 * jno) 0) ?_
        refine aldN hC hK hP 1 rfl (k := (1552 + 4 * jno + 0)) (by omega) (Nat.le_of_ble_eq_true rfl) (v := fnw (1552 + 4 * jno + 0)) rfl gX12_deal_7.2.2.2.2.2.1 ?_
        refine lv_topi (fun x6781 ex6781 => ?_)
        refine pf_X12_375 hC rfl hK hP hD hS 0 (ws' := [(h0, oX12 nw nk mhasKept nt mtaped nr mrowMany mroundOf mroundFrom mouts nm mfromHour mtoHour ns mfrom mto msort misFault mdeep mcoded mlines nl nc nF np ntr nb mbestCost nso nsi nit nsh nsf nss nrc 0 6 (nI jno) x6781 msize misParted), (nw, iA G 1662 fnw), (nsh, iA G 4 fnsh), (nsf, iA G 4 fnsf), (nrc, iA G 30 fnrc)]) rfl (Nat.le_of_ble_eq_true rfl) rfl rfl rfl gX12_deal_7.2.2.2.2.2.2.1 (fun H locs hP hD hS => ?_)
        refine lv_aload_n hx hb gX12_deal_7.2.2.2.2.2.2.2.1 rfl (lv_at3 hl) ?_
        refine lv_iload hx hb gX12_deal_7.2.2.2.2.2.2.2.2.1 (lv_at1 hl) ?_
        refine lv_if_eq (tgt := 160) hx hb gX12_deal_7.2.2.2.2.2.2.2.2.2 (by decide) (fun _ => ?_) (fun c9 => absurd (by decide) c9)
        refine lv_iload hx hb gX12_deal_8.2.2.2.2.2.2.1 (lv_at0 hl) ?_
        refine lv_if_eq (tgt := 177) hx hb gX12_deal_8.2.2.2.2.2.2.2.1 (by decide) (fun _ => ?_) (fun c9 => absurd (by decide) c9)
        refine lv_aload_n hx hb gX12_deal_9.2.2.2.2.1 rfl (lv_at3 hl) ?_
        refine gf_X12_9 hC rfl hK hP 0 rfl rfl gX12_deal_9.2.2.2.2.2.1 ?_
        refine lv_sipush (v := 1552) hx hb gX12_deal_9.2.2.2.2.2.2.1 (by decide) ?_
        refine lv_iconst (v := 4) hx hb gX12_deal_9.2.2.2.2.2.2.2.1 (by decide) ?_
        refine lv_aload_n hx hb gX12_deal_9.2.2.2.2.2.2.2.2.1 rfl (lv_at3 hl) ?_
        refine gf_X12_378 hC rfl hK hP 0 rfl rfl gX12_deal_9.2.2.2.2.2.2.2.2.2 ?_
        refine lv_imul hx hb gX12_deal_10.1 ?_
        refine eqi (x1 := nI (4 * jno)) (nI_mul 4 jno) ?_
        refine lv_iadd hx hb gX12_deal_10.2.1 ?_
        refine eqi (x1 := nI (1552 + 4 * jno)) (nI_add 1552 (4 * jno)) ?_
        refine lv_iconst (v := 2) hx hb gX12_deal_10.2.2.1 (by decide) ?_
        refine lv_iadd hx hb gX12_deal_10.2.2.2.1 ?_
        refine eqi (x1 := nI (1552 + 4 * jno + 2)) (nI_add (1552 + 4 * jno) 2) ?_
        refine aldN hC hK hP 1 rfl (k := (1552 + 4 * jno + 2)) (by omega) (Nat.le_of_ble_eq_true rfl) (v := fnw (1552 + 4 * jno + 2)) rfl gX12_deal_10.2.2.2.2.1 ?_
        refine lv_topi (fun x6782 ex6782 => ?_)
        refine pf_X12_369 hC rfl hK hP hD hS 0 (ws' := [(h0, oX12 nw nk mhasKept nt mtaped nr mrowMany mroundOf mroundFrom mouts nm mfromHour mtoHour ns mfrom mto msort misFault mdeep mcoded mlines nl nc nF np ntr nb mbestCost nso nsi nit nsh nsf nss nrc 0 6 (nI jno) x6781 x6782 misParted), (nw, iA G 1662 fnw), (nsh, iA G 4 fnsh), (nsf, iA G 4 fnsf), (nrc, iA G 30 fnrc)]) rfl (Nat.le_of_ble_eq_true rfl) rfl rfl rfl gX12_deal_10.2.2.2.2.2.1 (fun H locs hP hD hS => ?_)
        refine lv_aload_n hx hb gX12_deal_10.2.2.2.2.2.2.1 rfl (lv_at3 hl) ?_
        refine lv_iconst (v := 0) hx hb gX12_deal_10.2.2.2.2.2.2.2.1 (by decide) ?_
        refine pf_X12_380 hC rfl hK hP hD hS 0 (ws' := [(h0, oX12 nw nk mhasKept nt mtaped nr mrowMany mroundOf mroundFrom mouts nm mfromHour mtoHour ns mfrom mto msort misFault mdeep mcoded mlines nl nc nF np ntr nb mbestCost nso nsi nit nsh nsf nss nrc 0 6 (nI jno) x6781 x6782 0), (nw, iA G 1662 fnw), (nsh, iA G 4 fnsh), (nsf, iA G 4 fnsf), (nrc, iA G 30 fnrc)]) rfl (Nat.le_of_ble_eq_true rfl) rfl (by decide +kernel) (by decide +kernel) gX12_deal_10.2.2.2.2.2.2.2.2.1 (fun H locs hP hD hS => ?_)
        obtain ⟨jdl, hjdl, rfl⟩ := Wi_nat (N := 3) (by decide) a6600
        rcases (show jdl = 0 ∨ jdl = 1 ∨ jdl = 2 ∨ jdl = 3 by omega) with rfl | rfl | rfl | rfl
        · refine lv_aload_n hx hb gX12_deal_10.2.2.2.2.2.2.2.2.2 rfl (lv_at3 hl) ?_
          refine lv_iload_n hx hb gX12_deal_11.1 rfl (lv_at5 hl) ?_
          refine lv_iload_n hx hb gX12_deal_11.2.1 rfl (lv_at6 hl) ?_
          refine iV (wr := [(nw, iA G 1662 fnw), (nsh, iA G 4 fnsh), (nsf, iA G 4 fnsf)]) hC hK hl hP hD hS hA (m_dealt0 l G h0 x3 nw nk mhasKept nt mtaped nr mrowMany mroundOf mroundFrom mouts nm mfromHour mtoHour ns mfrom mto msort misFault mdeep mcoded mlines nl nc nF np ntr nb mbestCost nso nsi nit nsh nsf nss nrc 0 6 (nI jno) x6781 x6782 0 fnrc (by omega) (by omega)) si_X12_372 [0, 4] [1, 2, 3] sm_0_4 fm_0_4 nd_0_4 sm_1_2_3 nd_1_2_3 dj_0_4__1_2_3 rfl rfl rfl rfl rfl (Nat.le_of_ble_eq_true rfl) rm_60_14_3 ⟨Nat.le_of_ble_eq_true rfl, Nat.le_of_ble_eq_true rfl⟩ gX12_deal_11.2.2.1 (fun r6783 => Ktu3 fun jr16785 ip16786 gtrc6787 => ?_)
          intro H locs hr6783 hP hD hS
          try dsimp only at hr6783
          refine Kpdr (ws := [(nw, iA G 1662 fnw), (nsh, iA G 4 fnsh), (nsf, iA G 4 fnsf), (h0, oX12 nw nk mhasKept nt mtaped nr mrowMany mroundOf mroundFrom mouts nm mfromHour mtoHour ns mfrom mto msort misFault mdeep mcoded mlines nl nc nF np ntr nb mbestCost nso nsi nit nsh nsf nss nrc (nI jr16785) 6 (nI jno) x6781 x6782 ip16786), (nrc, iA G 30 gtrc6787)]) hP hD (fun hP hD => ?_)
          obtain ⟨hr6783, w6788⟩ := hr6783
          refine lv_istore (lv' := [(7, .int r6783), (6, .int 0), (5, .int 0), (4, .int 6), (0, .ref h0), (1, .int (nI jt)), (2, .int 0), (3, .int x3)]) hx hb gX12_deal_11.2.2.2.1 hl (by decide) rfl (fun ls hl => ?_)
          refine lv_aload_n hx hb gX12_deal_11.2.2.2.2.1 rfl (lv_at4 hl) ?_
          refine gf_X12_380 hC rfl hK hP 3 rfl rfl gX12_deal_11.2.2.2.2.2.1 ?_
          refine lv_if_eq (tgt := 222) hx hb gX12_deal_11.2.2.2.2.2.2.1 (by decide) (fun c_214_6789 => ?_) (fun c_214_6789 => ?_)
          · refine lv_iload hx hb gX12_deal_11.2.2.2.2.2.2.2.2.2 (lv_at0 hl) ?_
            refine toQ hQ0 ?_
            exact RI (v := r6783) hC hP hD hS [3, 0, 1, 2, 4] (jr16785, 6, nI jno, x6781, x6782, ip16786, gtrc6787) rfl rfl (by decide) (⟨trivial, by omega⟩) rfl gX12_deal_12
          · refine lv_bipush (v := (-15)) hx hb gX12_deal_11.2.2.2.2.2.2.2.1 (by decide) ?_
            refine lv_goto (tgt := 224) hx hb gX12_deal_11.2.2.2.2.2.2.2.2.1 (by decide) ?_
            refine toQ hQ0 ?_
            exact RI (v := (-15)) hC hP hD hS [3, 0, 1, 2, 4] (jr16785, 6, nI jno, x6781, x6782, ip16786, gtrc6787) rfl rfl (by decide) (⟨trivial, by omega⟩) rfl gX12_deal_12
        · refine lv_aload_n hx hb gX12_deal_10.2.2.2.2.2.2.2.2.2 rfl (lv_at3 hl) ?_
          refine lv_iload_n hx hb gX12_deal_11.1 rfl (lv_at5 hl) ?_
          refine lv_iload_n hx hb gX12_deal_11.2.1 rfl (lv_at6 hl) ?_
          refine iV (wr := [(nw, iA G 1662 fnw), (nsh, iA G 4 fnsh), (nsf, iA G 4 fnsf)]) hC hK hl hP hD hS hA (m_dealt1 l G h0 x3 nw nk mhasKept nt mtaped nr mrowMany mroundOf mroundFrom mouts nm mfromHour mtoHour ns mfrom mto msort misFault mdeep mcoded mlines nl nc nF np ntr nb mbestCost nso nsi nit nsh nsf nss nrc 0 6 (nI jno) x6781 x6782 0 fnrc (by omega) (by omega)) si_X12_372 [0, 4] [1, 2, 3] sm_0_4 fm_0_4 nd_0_4 sm_1_2_3 nd_1_2_3 dj_0_4__1_2_3 rfl rfl rfl rfl rfl (Nat.le_of_ble_eq_true rfl) rm_60_26_3 ⟨Nat.le_of_ble_eq_true rfl, Nat.le_of_ble_eq_true rfl⟩ gX12_deal_11.2.2.1 (fun r6790 => Ktu3 fun jr16792 ip16793 gtrc6794 => ?_)
          intro H locs hr6790 hP hD hS
          try dsimp only at hr6790
          refine Kpdr (ws := [(nw, iA G 1662 fnw), (nsh, iA G 4 fnsh), (nsf, iA G 4 fnsf), (h0, oX12 nw nk mhasKept nt mtaped nr mrowMany mroundOf mroundFrom mouts nm mfromHour mtoHour ns mfrom mto msort misFault mdeep mcoded mlines nl nc nF np ntr nb mbestCost nso nsi nit nsh nsf nss nrc (nI jr16792) 6 (nI jno) x6781 x6782 ip16793), (nrc, iA G 30 gtrc6794)]) hP hD (fun hP hD => ?_)
          obtain ⟨hr6790, w6795⟩ := hr6790
          refine lv_istore (lv' := [(7, .int r6790), (6, .int 0), (5, .int 0), (4, .int 6), (0, .ref h0), (1, .int (nI jt)), (2, .int 1), (3, .int x3)]) hx hb gX12_deal_11.2.2.2.1 hl (by decide) rfl (fun ls hl => ?_)
          refine lv_aload_n hx hb gX12_deal_11.2.2.2.2.1 rfl (lv_at4 hl) ?_
          refine gf_X12_380 hC rfl hK hP 3 rfl rfl gX12_deal_11.2.2.2.2.2.1 ?_
          refine lv_if_eq (tgt := 222) hx hb gX12_deal_11.2.2.2.2.2.2.1 (by decide) (fun c_214_6796 => ?_) (fun c_214_6796 => ?_)
          · refine lv_iload hx hb gX12_deal_11.2.2.2.2.2.2.2.2.2 (lv_at0 hl) ?_
            refine toQ hQ0 ?_
            exact RI (v := r6790) hC hP hD hS [3, 0, 1, 2, 4] (jr16792, 6, nI jno, x6781, x6782, ip16793, gtrc6794) rfl rfl (by decide) (⟨trivial, by omega⟩) rfl gX12_deal_12
          · refine lv_bipush (v := (-15)) hx hb gX12_deal_11.2.2.2.2.2.2.2.1 (by decide) ?_
            refine lv_goto (tgt := 224) hx hb gX12_deal_11.2.2.2.2.2.2.2.2.1 (by decide) ?_
            refine toQ hQ0 ?_
            exact RI (v := (-15)) hC hP hD hS [3, 0, 1, 2, 4] (jr16792, 6, nI jno, x6781, x6782, ip16793, gtrc6794) rfl rfl (by decide) (⟨trivial, by omega⟩) rfl gX12_deal_12
        · refine lv_aload_n hx hb gX12_deal_10.2.2.2.2.2.2.2.2.2 rfl (lv_at3 hl) ?_
          refine lv_iload_n hx hb gX12_deal_11.1 rfl (lv_at5 hl) ?_
          refine lv_iload_n hx hb gX12_deal_11.2.1 rfl (lv_at6 hl) ?_
          refine iV (wr := [(nw, iA G 1662 fnw), (nsh, iA G 4 fnsh), (nsf, iA G 4 fnsf)]) hC hK hl hP hD hS hA (m_dealt2 l G h0 x3 nw nk mhasKept nt mtaped nr mrowMany mroundOf mroundFrom mouts nm mfromHour mtoHour ns mfrom mto msort misFault mdeep mcoded mlines nl nc nF np ntr nb mbestCost nso nsi nit nsh nsf nss nrc 0 6 (nI jno) x6781 x6782 0 fnrc (by omega) (by omega)) si_X12_372 [0, 4] [1, 2, 3] sm_0_4 fm_0_4 nd_0_4 sm_1_2_3 nd_1_2_3 dj_0_4__1_2_3 rfl rfl rfl rfl rfl (Nat.le_of_ble_eq_true rfl) rm_60_38_3 ⟨Nat.le_of_ble_eq_true rfl, Nat.le_of_ble_eq_true rfl⟩ gX12_deal_11.2.2.1 (fun r6797 => Ktu3 fun jr16799 ip16800 gtrc6801 => ?_)
          intro H locs hr6797 hP hD hS
          try dsimp only at hr6797
          refine Kpdr (ws := [(nw, iA G 1662 fnw), (nsh, iA G 4 fnsh), (nsf, iA G 4 fnsf), (h0, oX12 nw nk mhasKept nt mtaped nr mrowMany mroundOf mroundFrom mouts nm mfromHour mtoHour ns mfrom mto msort misFault mdeep mcoded mlines nl nc nF np ntr nb mbestCost nso nsi nit nsh nsf nss nrc (nI jr16799) 6 (nI jno) x6781 x6782 ip16800), (nrc, iA G 30 gtrc6801)]) hP hD (fun hP hD => ?_)
          obtain ⟨hr6797, w6802⟩ := hr6797
          refine lv_istore (lv' := [(7, .int r6797), (6, .int 0), (5, .int 0), (4, .int 6), (0, .ref h0), (1, .int (nI jt)), (2, .int 2), (3, .int x3)]) hx hb gX12_deal_11.2.2.2.1 hl (by decide) rfl (fun ls hl => ?_)
          refine lv_aload_n hx hb gX12_deal_11.2.2.2.2.1 rfl (lv_at4 hl) ?_
          refine gf_X12_380 hC rfl hK hP 3 rfl rfl gX12_deal_11.2.2.2.2.2.1 ?_
          refine lv_if_eq (tgt := 222) hx hb gX12_deal_11.2.2.2.2.2.2.1 (by decide) (fun c_214_6803 => ?_) (fun c_214_6803 => ?_)
          · refine lv_iload hx hb gX12_deal_11.2.2.2.2.2.2.2.2.2 (lv_at0 hl) ?_
            refine toQ hQ0 ?_
            exact RI (v := r6797) hC hP hD hS [3, 0, 1, 2, 4] (jr16799, 6, nI jno, x6781, x6782, ip16800, gtrc6801) rfl rfl (by decide) (⟨trivial, by omega⟩) rfl gX12_deal_12
          · refine lv_bipush (v := (-15)) hx hb gX12_deal_11.2.2.2.2.2.2.2.1 (by decide) ?_
            refine lv_goto (tgt := 224) hx hb gX12_deal_11.2.2.2.2.2.2.2.2.1 (by decide) ?_
            refine toQ hQ0 ?_
            exact RI (v := (-15)) hC hP hD hS [3, 0, 1, 2, 4] (jr16799, 6, nI jno, x6781, x6782, ip16800, gtrc6801) rfl rfl (by decide) (⟨trivial, by omega⟩) rfl gX12_deal_12
        · refine lv_aload_n hx hb gX12_deal_10.2.2.2.2.2.2.2.2.2 rfl (lv_at3 hl) ?_
          refine lv_iload_n hx hb gX12_deal_11.1 rfl (lv_at5 hl) ?_
          refine lv_iload_n hx hb gX12_deal_11.2.1 rfl (lv_at6 hl) ?_
          refine iV (wr := [(nw, iA G 1662 fnw), (nsh, iA G 4 fnsh), (nsf, iA G 4 fnsf)]) hC hK hl hP hD hS hA (m_dealt3 l G h0 x3 nw nk mhasKept nt mtaped nr mrowMany mroundOf mroundFrom mouts nm mfromHour mtoHour ns mfrom mto msort misFault mdeep mcoded mlines nl nc nF np ntr nb mbestCost nso nsi nit nsh nsf nss nrc 0 6 (nI jno) x6781 x6782 0 fnrc (by omega) (by omega)) si_X12_372 [0, 4] [1, 2, 3] sm_0_4 fm_0_4 nd_0_4 sm_1_2_3 nd_1_2_3 dj_0_4__1_2_3 rfl rfl rfl rfl rfl (Nat.le_of_ble_eq_true rfl) rm_60_50_3 ⟨Nat.le_of_ble_eq_true rfl, Nat.le_of_ble_eq_true rfl⟩ gX12_deal_11.2.2.1 (fun r6804 => Ktu3 fun jr16806 ip16807 gtrc6808 => ?_)
          intro H locs hr6804 hP hD hS
          try dsimp only at hr6804
          refine Kpdr (ws := [(nw, iA G 1662 fnw), (nsh, iA G 4 fnsh), (nsf, iA G 4 fnsf), (h0, oX12 nw nk mhasKept nt mtaped nr mrowMany mroundOf mroundFrom mouts nm mfromHour mtoHour ns mfrom mto msort misFault mdeep mcoded mlines nl nc nF np ntr nb mbestCost nso nsi nit nsh nsf nss nrc (nI jr16806) 6 (nI jno) x6781 x6782 ip16807), (nrc, iA G 30 gtrc6808)]) hP hD (fun hP hD => ?_)
          obtain ⟨hr6804, w6809⟩ := hr6804
          refine lv_istore (lv' := [(7, .int r6804), (6, .int 0), (5, .int 0), (4, .int 6), (0, .ref h0), (1, .int (nI jt)), (2, .int 3), (3, .int x3)]) hx hb gX12_deal_11.2.2.2.1 hl (by decide) rfl (fun ls hl => ?_)
          refine lv_aload_n hx hb gX12_deal_11.2.2.2.2.1 rfl (lv_at4 hl) ?_
          refine gf_X12_380 hC rfl hK hP 3 rfl rfl gX12_deal_11.2.2.2.2.2.1 ?_
          refine lv_if_eq (tgt := 222) hx hb gX12_deal_11.2.2.2.2.2.2.1 (by decide) (fun c_214_6810 => ?_) (fun c_214_6810 => ?_)
          · refine lv_iload hx hb gX12_deal_11.2.2.2.2.2.2.2.2.2 (lv_at0 hl) ?_
            refine toQ hQ0 ?_
            exact RI (v := r6804) hC hP hD hS [3, 0, 1, 2, 4] (jr16806, 6, nI jno, x6781, x6782, ip16807, gtrc6808) rfl rfl (by decide) (⟨trivial, by omega⟩) rfl gX12_deal_12
          · refine lv_bipush (v := (-15)) hx hb gX12_deal_11.2.2.2.2.2.2.2.1 (by decide) ?_
            refine lv_goto (tgt := 224) hx hb gX12_deal_11.2.2.2.2.2.2.2.2.1 (by decide) ?_
            refine toQ hQ0 ?_
            exact RI (v := (-15)) hC hP hD hS [3, 0, 1, 2, 4] (jr16806, 6, nI jno, x6781, x6782, ip16807, gtrc6808) rfl rfl (by decide) (⟨trivial, by omega⟩) rfl gX12_deal_12
    · refine lv_if_ne (tgt := 23) hx hb gX12_deal_0.2.2.2.2.2.2.2.2.1 (by decide) (fun c9 => absurd (by decide) c9) (fun _ => ?_)
      refine lv_iconst (v := (-1)) hx hb gX12_deal_0.2.2.2.2.2.2.2.2.2 (by decide) ?_
      refine lv_goto (tgt := 28) hx hb gX12_deal_1.1 (by decide) ?_
      refine lv_istore (lv' := [(4, .int (-1)), (0, .ref h0), (1, .int x1), (2, .int x2), (3, .int x3)]) hx hb gX12_deal_1.2.2.2.2.1 hl (by decide) rfl (fun ls hl => ?_)
      refine lv_iload hx hb gX12_deal_1.2.2.2.2.2.1 (lv_at0 hl) ?_
      refine lv_if_ge (tgt := 37) hx hb gX12_deal_1.2.2.2.2.2.2.1 (by decide) (fun c9 => absurd c9 (by decide)) (fun _ => ?_)
      refine lv_iconst (v := 0) hx hb gX12_deal_1.2.2.2.2.2.2.2.1 (by decide) ?_
      refine toQ hQ0 ?_
      exact RI (v := 0) hC hP hD hS [0, 1, 2, 3, 4] (0, mdealer, mnumber, mwhose, msize, misParted, fnrc) rfl rfl (by decide) (⟨trivial, by omega⟩) rfl gX12_deal_1.2.2.2.2.2.2.2.2.1
  · refine lv_if_eq (tgt := 19) hx hb gX12_deal_0.2.2.2.2.2.1 (by decide) (fun _ => ?_) (fun c9 => absurd (by decide) c9)
    refine lv_iconst (v := (-1)) hx hb gX12_deal_0.2.2.2.2.2.2.2.2.2 (by decide) ?_
    refine lv_goto (tgt := 28) hx hb gX12_deal_1.1 (by decide) ?_
    refine lv_istore (lv' := [(4, .int (-1)), (0, .ref h0), (1, .int x1), (2, .int x2), (3, .int x3)]) hx hb gX12_deal_1.2.2.2.2.1 hl (by decide) rfl (fun ls hl => ?_)
    refine lv_iload hx hb gX12_deal_1.2.2.2.2.2.1 (lv_at0 hl) ?_
    refine lv_if_ge (tgt := 37) hx hb gX12_deal_1.2.2.2.2.2.2.1 (by decide) (fun c9 => absurd c9 (by decide)) (fun _ => ?_)
    refine lv_iconst (v := 0) hx hb gX12_deal_1.2.2.2.2.2.2.2.1 (by decide) ?_
    refine toQ hQ0 ?_
    exact RI (v := 0) hC hP hD hS [0, 1, 2, 3, 4] (0, mdealer, mnumber, mwhose, msize, misParted, fnrc) rfl rfl (by decide) (⟨trivial, by omega⟩) rfl gX12_deal_1.2.2.2.2.2.2.2.2.1
def K_r_trace (l : Launch) (G : GG) (h0 : Nat) (x1 : Int32) (nw : Nat) (nk : Nat) (mhasKept : Int32) (nt : Nat) (mtaped : Int32) (nr : Nat) (mrowMany : Int32) (mroundOf : Int32) (mroundFrom : Int32) (mouts : Int32) (nm : Nat) (mfromHour : Int32) (mtoHour : Int32) (ns : Nat) (mfrom : Int32) (mto : Int32) (msort : Int32) (misFault : Int32) (mdeep : Int32) (mcoded : Int32) (mlines : Int32) (nl : Nat) (nc : Nat) (nF : Nat) (np : Nat) (ntr : Nat) (nb : Nat) (mbestCost : Int32) (nso : Nat) (nsi : Nat) (nit : Nat) (nsh : Nat) (nsf : Nat) (nss : Nat) (nrc : Nat) (jr : Nat) (mdealer : Int32) (mnumber : Int32) (mwhose : Int32) (msize : Int32) (misParted : Int32) (fnrc : Nat → Int32) : Prop := MP l G yX12_trace cX12_trace 2 (some .int) 2 [.ref h0, .int x1] [(h0, oX12 nw nk mhasKept nt mtaped nr mrowMany mroundOf mroundFrom mouts nm mfromHour mtoHour ns mfrom mto msort misFault mdeep mcoded mlines nl nc nF np ntr nb mbestCost nso nsi nit nsh nsf nss nrc (nI jr) mdealer mnumber mwhose msize misParted), (nrc, iA G 30 fnrc)] (fun r : Int32 => r = ifc (Hs x1 jr) (fnrc x1.toNatClampNeg) (-3))
set_option maxHeartbeats 4000000 in
set_option maxRecDepth 100000 in
theorem r_trace (l : Launch) (G : GG) (h0 : Nat) (x1 : Int32) (nw : Nat) (nk : Nat) (mhasKept : Int32) (nt : Nat) (mtaped : Int32) (nr : Nat) (mrowMany : Int32) (mroundOf : Int32) (mroundFrom : Int32) (mouts : Int32) (nm : Nat) (mfromHour : Int32) (mtoHour : Int32) (ns : Nat) (mfrom : Int32) (mto : Int32) (msort : Int32) (misFault : Int32) (mdeep : Int32) (mcoded : Int32) (mlines : Int32) (nl : Nat) (nc : Nat) (nF : Nat) (np : Nat) (ntr : Nat) (nb : Nat) (mbestCost : Int32) (nso : Nat) (nsi : Nat) (nit : Nat) (nsh : Nat) (nsf : Nat) (nss : Nat) (nrc : Nat) (jr : Nat) (mdealer : Int32) (mnumber : Int32) (mwhose : Int32) (msize : Int32) (misParted : Int32) (fnrc : Nat → Int32) (hjr : jr ≤ 30) : K_r_trace l G h0 x1 nw nk mhasKept nt mtaped nr mrowMany mroundOf mroundFrom mouts nm mfromHour mtoHour ns mfrom mto msort misFault mdeep mcoded mlines nl nc nF np ntr nb mbestCost nso nsi nit nsh nsf nss nrc jr mdealer mnumber mwhose msize misParted fnrc := by
  refine MP.start (by decide +kernel) (Nat.le_of_ble_eq_true rfl) ?_
  intro p e s m below meth c ls hC hK hP hD hl
  refine absQ (fun Q0 hQ0 => ?_)
  have hl : lv_has ls 2 [(0, .ref h0), (1, .int x1)] := hl
  refine Kan8 hC (fun hx hb hr hml hB hown hlocks hnm => ?_)
  refine lv_iload_n hx hb gX12_trace_0.1 rfl (lv_at1 hl) ?_
  refine lv_iconst (v := 0) hx hb gX12_trace_0.2.1 (by decide) ?_
  refine lv_aload_n hx hb gX12_trace_0.2.2.1 rfl (lv_at0 hl) ?_
  refine gf_X12_351 hC rfl hK hP 0 rfl rfl gX12_trace_0.2.2.2.1 ?_
  refine lv_iconst (v := 1) hx hb gX12_trace_0.2.2.2.2.1 (by decide) ?_
  refine lv_isub hx hb gX12_trace_0.2.2.2.2.2.1 ?_
  refine eqi (x1 := (nI jr) - 1) (rfl) ?_
  refine pS hC hK hl (m_within l G x1 0 ((nI jr) - 1)) si_X12_84 rfl rfl (Nat.le_of_ble_eq_true rfl) rm_2_1_3 ⟨by first | exact Nat.le_of_ble_eq_true rfl | exact Nat.zero_le _, by first | exact Nat.le_of_ble_eq_true rfl | exact Nat.zero_le _⟩ gX12_trace_0.2.2.2.2.2.2.1 (Kors (Keqa fun a6812 => ?_) (Keqa fun a6812 => ?_))
  · refine lv_if_eq (tgt := 23) hx hb gX12_trace_0.2.2.2.2.2.2.2.1 (by decide) (fun c9 => absurd c9 (by decide)) (fun _ => ?_)
    obtain ⟨ji, hji, rfl⟩ := Hs_nat (by omega) ((WiHs (by omega)).mp a6812)
    refine lv_aload_n hx hb gX12_trace_0.2.2.2.2.2.2.2.2.1 rfl (lv_at0 hl) ?_
    refine gf_X12_81 hC rfl hK hP 0 rfl rfl gX12_trace_0.2.2.2.2.2.2.2.2.2 ?_
    refine lv_iload_n hx hb gX12_trace_1.1 rfl (lv_at1 hl) ?_
    refine aldN hC hK hP 1 rfl (k := ji) (by omega) (Nat.le_of_ble_eq_true rfl) (v := fnrc ji) rfl gX12_trace_1.2.1 ?_
    refine lv_goto (tgt := 25) hx hb gX12_trace_1.2.2.1 (by decide) ?_
    refine toQ hQ0 ?_
    exact RP (v := fnrc ji) hC ((by simp only [nI_clamp (n := ji) (by omega), ifc_t (q := Hs (nI ji) jr) ((WiHc (by omega)).mp a6812)])) rfl gX12_trace_1.2.2.2.2
  · refine lv_if_eq (tgt := 23) hx hb gX12_trace_0.2.2.2.2.2.2.2.1 (by decide) (fun _ => ?_) (fun c9 => absurd (by decide) c9)
    refine lv_bipush (v := (-3)) hx hb gX12_trace_1.2.2.2.1 (by decide) ?_
    refine toQ hQ0 ?_
    exact RP (v := (-3)) hC ((by simp only [ifc_f (q := Hs x1 jr) (fun h9 => a6812 ((WiHc (by omega)).mpr h9))])) rfl gX12_trace_1.2.2.2.2
def K_r_many (l : Launch) (G : GG) (h0 : Nat) (x1 : Int32) (nw : Nat) (nk : Nat) (mhasKept : Int32) (nt : Nat) (mtaped : Int32) (nr : Nat) (mrowMany : Int32) (mroundOf : Int32) (mroundFrom : Int32) (mouts : Int32) (nm : Nat) (mfromHour : Int32) (mtoHour : Int32) (ns : Nat) (mfrom : Int32) (mto : Int32) (msort : Int32) (misFault : Int32) (mdeep : Int32) (mcoded : Int32) (mlines : Int32) (nl : Nat) (nc : Nat) (nF : Nat) (np : Nat) (ntr : Nat) (nb : Nat) (mbestCost : Int32) (nso : Nat) (nsi : Nat) (nit : Nat) (nsh : Nat) (nsf : Nat) (nss : Nat) (nrc : Nat) (mtraced : Int32) (mdealer : Int32) (mnumber : Int32) (mwhose : Int32) (msize : Int32) (misParted : Int32) (fnw : Nat → Int32) (fnm : Nat → Int32) (fns : Nat → Int32) (fnp : Nat → Int32) : Prop := MI l G yX12_many cX12_many 4 (some .int) 10 0 0 [.ref h0, .int x1] [(h0, oX12 nw nk mhasKept nt mtaped nr mrowMany mroundOf mroundFrom mouts nm mfromHour mtoHour ns mfrom mto msort misFault mdeep mcoded mlines nl nc nF np ntr nb mbestCost nso nsi nit nsh nsf nss nrc mtraced mdealer mnumber mwhose msize misParted), (nw, iA G 1662 fnw), (nm, iA G 36 fnm), (ns, iA G 8 fns), (np, iA G 100 fnp)] (fun (r : Int32) (u : Int32 × Int32 × (Nat → Int32) × (Nat → Int32) × (Nat → Int32)) => (True) ∧ (MB u.2.2.1)) (fun u : Int32 × Int32 × (Nat → Int32) × (Nat → Int32) × (Nat → Int32) => [(h0, oX12 nw nk mhasKept nt mtaped nr mrowMany mroundOf mroundFrom mouts nm u.1 u.2.1 ns mfrom mto msort misFault mdeep mcoded mlines nl nc nF np ntr nb mbestCost nso nsi nit nsh nsf nss nrc mtraced mdealer mnumber mwhose msize misParted), (nw, iA G 1662 fnw), (nm, iA G 36 u.2.2.1), (ns, iA G 8 u.2.2.2.1), (np, iA G 100 u.2.2.2.2)])
set_option maxHeartbeats 4000000 in
set_option maxRecDepth 100000 in
theorem r_many (l : Launch) (G : GG) (h0 : Nat) (x1 : Int32) (nw : Nat) (nk : Nat) (mhasKept : Int32) (nt : Nat) (mtaped : Int32) (nr : Nat) (mrowMany : Int32) (mroundOf : Int32) (mroundFrom : Int32) (mouts : Int32) (nm : Nat) (mfromHour : Int32) (mtoHour : Int32) (ns : Nat) (mfrom : Int32) (mto : Int32) (msort : Int32) (misFault : Int32) (mdeep : Int32) (mcoded : Int32) (mlines : Int32) (nl : Nat) (nc : Nat) (nF : Nat) (np : Nat) (ntr : Nat) (nb : Nat) (mbestCost : Int32) (nso : Nat) (nsi : Nat) (nit : Nat) (nsh : Nat) (nsf : Nat) (nss : Nat) (nrc : Nat) (mtraced : Int32) (mdealer : Int32) (mnumber : Int32) (mwhose : Int32) (msize : Int32) (misParted : Int32) (fnw : Nat → Int32) (fnm : Nat → Int32) (fns : Nat → Int32) (fnp : Nat → Int32) (hN : NI fnw) (hV : VI fnw) (hM : MB fnm) : K_r_many l G h0 x1 nw nk mhasKept nt mtaped nr mrowMany mroundOf mroundFrom mouts nm mfromHour mtoHour ns mfrom mto msort misFault mdeep mcoded mlines nl nc nF np ntr nb mbestCost nso nsi nit nsh nsf nss nrc mtraced mdealer mnumber mwhose msize misParted fnw fnm fns fnp := by
  refine MI.start (by decide +kernel) (Nat.le_of_ble_eq_true rfl) ?_
  intro p e s m below meth c A ls hC hK hP hD hS hA hl
  refine absQ (fun Q0 hQ0 => ?_)
  have hl : lv_has ls 4 [(0, .ref h0), (1, .int x1)] := hl
  refine Kan8 hC (fun hx hb hr hml hB hown hlocks hnm => ?_)
  obtain ⟨k9, hk9, ek9⟩ := NI.nat hN (i := 9) (B := 12) (by decide +kernel) (by decide)
  refine lv_iload_n hx hb gX12_many_0.1 rfl (lv_at1 hl) ?_
  by_cases c_1_6813 : x1 = 0
  · refine lv_tableIn (tgt := 76) hx hb gX12_many_0.2.1 (by rw [c_1_6813]; decide) (by rw [c_1_6813]; decide) (by rw [c_1_6813]; rfl) (by decide) ?_
    refine lv_aload_n hx hb gX12_many_0.2.2.1 rfl (lv_at0 hl) ?_
    refine gf_X12_9 hC rfl hK hP 0 rfl rfl gX12_many_0.2.2.2.1 ?_
    refine lv_iconst (v := 0) hx hb gX12_many_0.2.2.2.2.1 (by decide) ?_
    refine ald hC hK hP 1 rfl (vin (by decide +kernel)) (k := 0) (by decide +kernel) (v := fnw 0) (rfl) gX12_many_0.2.2.2.2.2.1 ?_
    refine toQ hQ0 ?_
    exact RI (v := fnw 0) hC hP hD hS [0, 1, 2, 3, 4] (mfromHour, mtoHour, fnm, fns, fnp) rfl rfl (by decide) (⟨trivial, by first | assumption | exact hM⟩) rfl gX12_many_0.2.2.2.2.2.2.1
  by_cases c_1_6814 : x1 = 1
  · refine lv_tableIn (tgt := 83) hx hb gX12_many_0.2.1 (by rw [c_1_6814]; decide) (by rw [c_1_6814]; decide) (by rw [c_1_6814]; rfl) (by decide) ?_
    refine lv_aload_n hx hb gX12_many_0.2.2.2.2.2.2.2.1 rfl (lv_at0 hl) ?_
    refine gf_X12_9 hC rfl hK hP 0 rfl rfl gX12_many_0.2.2.2.2.2.2.2.2.1 ?_
    refine lv_iconst (v := 4) hx hb gX12_many_0.2.2.2.2.2.2.2.2.2 (by decide) ?_
    refine ald hC hK hP 1 rfl (vin (by decide +kernel)) (k := 4) (by decide +kernel) (v := fnw 4) (rfl) gX12_many_1.1 ?_
    refine toQ hQ0 ?_
    exact RI (v := fnw 4) hC hP hD hS [0, 1, 2, 3, 4] (mfromHour, mtoHour, fnm, fns, fnp) rfl rfl (by decide) (⟨trivial, by first | assumption | exact hM⟩) rfl gX12_many_1.2.1
  by_cases c_1_6815 : x1 = 2
  · refine lv_tableIn (tgt := 90) hx hb gX12_many_0.2.1 (by rw [c_1_6815]; decide) (by rw [c_1_6815]; decide) (by rw [c_1_6815]; rfl) (by decide) ?_
    refine lv_aload_n hx hb gX12_many_1.2.2.1 rfl (lv_at0 hl) ?_
    refine gf_X12_9 hC rfl hK hP 0 rfl rfl gX12_many_1.2.2.2.1 ?_
    refine lv_iconst (v := 5) hx hb gX12_many_1.2.2.2.2.1 (by decide) ?_
    refine ald hC hK hP 1 rfl (vin (by decide +kernel)) (k := 5) (by decide +kernel) (v := fnw 5) (rfl) gX12_many_1.2.2.2.2.2.1 ?_
    refine toQ hQ0 ?_
    exact RI (v := fnw 5) hC hP hD hS [0, 1, 2, 3, 4] (mfromHour, mtoHour, fnm, fns, fnp) rfl rfl (by decide) (⟨trivial, by first | assumption | exact hM⟩) rfl gX12_many_1.2.2.2.2.2.2.1
  by_cases c_1_6816 : x1 = 3
  · refine lv_tableIn (tgt := 97) hx hb gX12_many_0.2.1 (by rw [c_1_6816]; decide) (by rw [c_1_6816]; decide) (by rw [c_1_6816]; rfl) (by decide) ?_
    refine lv_aload_n hx hb gX12_many_1.2.2.2.2.2.2.2.1 rfl (lv_at0 hl) ?_
    refine pV hC hK hl hP hD (m_inView l G h0 nw nk mhasKept nt mtaped nr mrowMany mroundOf mroundFrom mouts nm mfromHour mtoHour ns mfrom mto msort misFault mdeep mcoded mlines nl nc nF np ntr nb mbestCost nso nsi nit nsh nsf nss nrc mtraced mdealer mnumber mwhose msize misParted fnw (hN)) si_X12_107 [0, 1] sm_0_1 fm_0_1 nd_0_1 rfl rfl rfl rfl rfl (Nat.le_of_ble_eq_true rfl) rm_10_3_3 ⟨by first | exact Nat.le_of_ble_eq_true rfl | exact Nat.zero_le _, by first | exact Nat.le_of_ble_eq_true rfl | exact Nat.zero_le _⟩ gX12_many_1.2.2.2.2.2.2.2.2.1 (fun r6817 hr6817 => ?_)
    refine pS hC hK hl (m_bits l G r6817) si_X12_110 rfl rfl (Nat.le_of_ble_eq_true rfl) rm_10_1_3 ⟨by first | exact Nat.le_of_ble_eq_true rfl | exact Nat.zero_le _, by first | exact Nat.le_of_ble_eq_true rfl | exact Nat.zero_le _⟩ gX12_many_1.2.2.2.2.2.2.2.2.2 (fun r6818 hr6818 => ?_)
    refine toQ hQ0 ?_
    exact RI (v := r6818) hC hP hD hS [0, 1, 2, 3, 4] (mfromHour, mtoHour, fnm, fns, fnp) rfl rfl (by decide) (⟨trivial, by first | assumption | exact hM⟩) rfl gX12_many_2.1
  by_cases c_1_6819 : x1 = 4
  · refine lv_tableIn (tgt := 105) hx hb gX12_many_0.2.1 (by rw [c_1_6819]; decide) (by rw [c_1_6819]; decide) (by rw [c_1_6819]; rfl) (by decide) ?_
    refine lv_aload_n hx hb gX12_many_2.2.1 rfl (lv_at0 hl) ?_
    refine gf_X12_9 hC rfl hK hP 0 rfl rfl gX12_many_2.2.2.1 ?_
    refine lv_bipush (v := 6) hx hb gX12_many_2.2.2.2.1 (by decide) ?_
    refine ald hC hK hP 1 rfl (vin (by decide +kernel)) (k := 6) (by decide +kernel) (v := fnw 6) (rfl) gX12_many_2.2.2.2.2.1 ?_
    refine toQ hQ0 ?_
    exact RI (v := fnw 6) hC hP hD hS [0, 1, 2, 3, 4] (mfromHour, mtoHour, fnm, fns, fnp) rfl rfl (by decide) (⟨trivial, by first | assumption | exact hM⟩) rfl gX12_many_2.2.2.2.2.2.1
  by_cases c_1_6820 : x1 = 5
  · refine lv_tableIn (tgt := 113) hx hb gX12_many_0.2.1 (by rw [c_1_6820]; decide) (by rw [c_1_6820]; decide) (by rw [c_1_6820]; rfl) (by decide) ?_
    refine lv_aload_n hx hb gX12_many_2.2.2.2.2.2.2.1 rfl (lv_at0 hl) ?_
    refine gf_X12_9 hC rfl hK hP 0 rfl rfl gX12_many_2.2.2.2.2.2.2.2.1 ?_
    refine lv_bipush (v := 7) hx hb gX12_many_2.2.2.2.2.2.2.2.2.1 (by decide) ?_
    refine ald hC hK hP 1 rfl (vin (by decide +kernel)) (k := 7) (by decide +kernel) (v := fnw 7) (rfl) gX12_many_2.2.2.2.2.2.2.2.2.2 ?_
    refine toQ hQ0 ?_
    exact RI (v := fnw 7) hC hP hD hS [0, 1, 2, 3, 4] (mfromHour, mtoHour, fnm, fns, fnp) rfl rfl (by decide) (⟨trivial, by first | assumption | exact hM⟩) rfl gX12_many_3.1
  by_cases c_1_6821 : x1 = 6
  · refine lv_tableIn (tgt := 121) hx hb gX12_many_0.2.1 (by rw [c_1_6821]; decide) (by rw [c_1_6821]; decide) (by rw [c_1_6821]; rfl) (by decide) ?_
    refine lv_aload_n hx hb gX12_many_3.2.1 rfl (lv_at0 hl) ?_
    refine gf_X12_9 hC rfl hK hP 0 rfl rfl gX12_many_3.2.2.1 ?_
    refine lv_bipush (v := 8) hx hb gX12_many_3.2.2.2.1 (by decide) ?_
    refine ald hC hK hP 1 rfl (vin (by decide +kernel)) (k := 8) (by decide +kernel) (v := fnw 8) (rfl) gX12_many_3.2.2.2.2.1 ?_
    refine toQ hQ0 ?_
    exact RI (v := fnw 8) hC hP hD hS [0, 1, 2, 3, 4] (mfromHour, mtoHour, fnm, fns, fnp) rfl rfl (by decide) (⟨trivial, by first | assumption | exact hM⟩) rfl gX12_many_3.2.2.2.2.2.1
  by_cases c_1_6822 : x1 = 7
  · refine lv_tableIn (tgt := 129) hx hb gX12_many_0.2.1 (by rw [c_1_6822]; decide) (by rw [c_1_6822]; decide) (by rw [c_1_6822]; rfl) (by decide) ?_
    refine lv_aload_n hx hb gX12_many_3.2.2.2.2.2.2.1 rfl (lv_at0 hl) ?_
    refine lv_iconst (v := (-1)) hx hb gX12_many_3.2.2.2.2.2.2.2.1 (by decide) ?_
    refine pV hC hK hl hP hD (m_saidBy l G h0 (-1) nw nk mhasKept nt mtaped nr mrowMany mroundOf mroundFrom mouts nm mfromHour mtoHour ns mfrom mto msort misFault mdeep mcoded mlines nl nc nF np ntr nb mbestCost nso nsi nit nsh nsf nss nrc mtraced mdealer mnumber mwhose msize misParted fnw (hN)) si_X12_127 [0, 1] sm_0_1 fm_0_1 nd_0_1 rfl rfl rfl rfl rfl (Nat.le_of_ble_eq_true rfl) rm_10_5_4 ⟨by first | exact Nat.le_of_ble_eq_true rfl | exact Nat.zero_le _, by first | exact Nat.le_of_ble_eq_true rfl | exact Nat.zero_le _⟩ gX12_many_3.2.2.2.2.2.2.2.2.1 (fun r6823 hr6823 => ?_)
    refine toQ hQ0 ?_
    exact RI (v := r6823) hC hP hD hS [0, 1, 2, 3, 4] (mfromHour, mtoHour, fnm, fns, fnp) rfl rfl (by decide) (⟨trivial, by first | assumption | exact hM⟩) rfl gX12_many_3.2.2.2.2.2.2.2.2.2
  by_cases c_1_6824 : x1 = 8
  · refine lv_tableIn (tgt := 135) hx hb gX12_many_0.2.1 (by rw [c_1_6824]; decide) (by rw [c_1_6824]; decide) (by rw [c_1_6824]; rfl) (by decide) ?_
    refine lv_aload_n hx hb gX12_many_4.1 rfl (lv_at0 hl) ?_
    refine gf_X12_9 hC rfl hK hP 0 rfl rfl gX12_many_4.2.1 ?_
    refine lv_bipush (v := 9) hx hb gX12_many_4.2.2.1 (by decide) ?_
    refine ald hC hK hP 1 rfl (vin (by decide +kernel)) (k := 9) (by decide +kernel) (v := nI k9) (ek9) gX12_many_4.2.2.2.1 ?_
    refine toQ hQ0 ?_
    exact RI (v := nI k9) hC hP hD hS [0, 1, 2, 3, 4] (mfromHour, mtoHour, fnm, fns, fnp) rfl rfl (by decide) (⟨trivial, by first | assumption | exact hM⟩) rfl gX12_many_4.2.2.2.2.1
  by_cases c_1_6825 : x1 = 9
  · refine lv_tableIn (tgt := 143) hx hb gX12_many_0.2.1 (by rw [c_1_6825]; decide) (by rw [c_1_6825]; decide) (by rw [c_1_6825]; rfl) (by decide) ?_
    refine lv_iconst (v := 0) hx hb gX12_many_4.2.2.2.2.2.1 (by decide) ?_
    refine lv_istore_n (lv' := [(2, .int 0), (0, .ref h0), (1, .int x1)]) hx hb gX12_many_4.2.2.2.2.2.2.1 rfl hl (by decide) rfl (fun ls hl => ?_)
    refine lv_iconst (v := 0) hx hb gX12_many_4.2.2.2.2.2.2.2.1 (by decide) ?_
    refine lv_istore_n (lv' := [(3, .int 0), (2, .int 0), (0, .ref h0), (1, .int x1)]) hx hb gX12_many_4.2.2.2.2.2.2.2.2.1 rfl hl (by decide) rfl (fun ls hl => ?_)
    have keyP : ∀ (nP kP : Nat) (nn : Int32) (vfh : Int32) (vth : Int32) (vA : Nat → Int32) (vS : Nat → Int32) (vR : Nat → Int32) (H : Heap) (locs : List Loc) (ls : Array Slot), kP + nP = k9 → (MB vA) → va_PD G A [(h0, oX12 nw nk mhasKept nt mtaped nr mrowMany mroundOf mroundFrom mouts nm vfh vth ns mfrom mto msort misFault mdeep mcoded mlines nl nc nF np ntr nb mbestCost nso nsi nit nsh nsf nss nrc mtraced mdealer mnumber mwhose msize misParted), (nw, iA G 1662 fnw), (nm, iA G 36 vA), (ns, iA G 8 vS), (np, iA G 100 vR)] H → va_S A s.heap H locs → lv_has ls 4 [(3, .int (nI kP)), (2, .int nn), (0, .ref h0), (1, .int x1)] → W p l e (RM 10 0 0) s m ([.ref h0, .int x1] : List Value).toArray below meth c H locs 0 0 Q0 (F0 m 147 ls []) := by
      intro nP
      induction nP with
      | zero =>
        intro kP nn vfh vth vA vS vR H locs ls hkP hvA hPD hS hl
        refine Kan2 hPD (fun hP hD => ?_)
        obtain rfl : k9 = kP := by omega
        have hl : lv_has ls 4 [(3, .int (nI k9)), (2, .int nn), (0, .ref h0), (1, .int x1)] := hl
        refine lv_iload_n hx hb gX12_many_4.2.2.2.2.2.2.2.2.2 rfl (lv_at0 hl) ?_
        refine lv_aload_n hx hb gX12_many_5.1 rfl (lv_at2 hl) ?_
        refine gf_X12_9 hC rfl hK hP 0 rfl rfl gX12_many_5.2.1 ?_
        refine lv_bipush (v := 9) hx hb gX12_many_5.2.2.1 (by decide) ?_
        refine ald hC hK hP 1 rfl (vin (by decide +kernel)) (k := 9) (by decide +kernel) (v := nI k9) (ek9) gX12_many_5.2.2.2.1 ?_
        refine lv_icmp_ge (tgt := 180) hx hb gX12_many_5.2.2.2.2.1 (by decide) (fun _ => ?_) (fun c9 => absurd (Int32.le_refl _) c9)
        refine lv_iload_n hx hb gX12_many_6.2.2.2.2.2.2.2.1 rfl (lv_at1 hl) ?_
        refine toQ hQ0 ?_
        exact RI (v := nn) hC hP hD hS [0, 1, 2, 3, 4] (vfh, vth, vA, vS, vR) rfl rfl (by decide) (⟨trivial, by first | assumption | exact hM⟩) rfl gX12_many_6.2.2.2.2.2.2.2.2.1
      | succ nP ihP =>
        intro kP nn vfh vth vA vS vR H locs ls hkP hvA hPD hS hl
        refine Kan2 hPD (fun hP hD => ?_)
        refine lv_iload_n hx hb gX12_many_4.2.2.2.2.2.2.2.2.2 rfl (lv_at0 hl) ?_
        refine lv_aload_n hx hb gX12_many_5.1 rfl (lv_at2 hl) ?_
        refine gf_X12_9 hC rfl hK hP 0 rfl rfl gX12_many_5.2.1 ?_
        refine lv_bipush (v := 9) hx hb gX12_many_5.2.2.1 (by decide) ?_
        refine ald hC hK hP 1 rfl (vin (by decide +kernel)) (k := 9) (by decide +kernel) (v := nI k9) (ek9) gX12_many_5.2.2.2.1 ?_
        refine lv_icmp_ge (tgt := 180) hx hb gX12_many_5.2.2.2.2.1 (by decide) (fun c9 => absurd c9 (nI_ge (a := kP) (b := k9) (by omega) (by omega))) (fun _ => ?_)
        refine lv_iload_n hx hb gX12_many_5.2.2.2.2.2.1 rfl (lv_at1 hl) ?_
        refine lv_aload_n hx hb gX12_many_5.2.2.2.2.2.2.1 rfl (lv_at2 hl) ?_
        refine lv_iload_n hx hb gX12_many_5.2.2.2.2.2.2.2.1 rfl (lv_at0 hl) ?_
        refine iV (wr := []) hC hK hl hP hD hS hA (m_stands l G h0 kP nw nk mhasKept nt mtaped nr mrowMany mroundOf mroundFrom mouts nm vfh vth ns mfrom mto msort misFault mdeep mcoded mlines nl nc nF np ntr nb mbestCost nso nsi nit nsh nsf nss nrc mtraced mdealer mnumber mwhose msize misParted fnw vA vS vR (by omega) (hN) (hV) (hvA)) si_X12_305 [0, 1, 2, 3, 4] [] sm_0_1_2_3_4 fm_0_1_2_3_4 nd_0_1_2_3_4 rfl rfl (by decide) rfl rfl rfl rfl rfl (Nat.le_of_ble_eq_true rfl) rm_10_9_3 ⟨Nat.le_of_ble_eq_true rfl, Nat.le_of_ble_eq_true rfl⟩ gX12_many_5.2.2.2.2.2.2.2.2.1 (fun r6826 => Ktu5 fun fh16828 th16829 gnm6830 gns6831 gnp6832 => ?_)
        intro H locs hr6826 hP hD hS
        try dsimp only at hr6826
        refine Kpdr (ws := [(h0, oX12 nw nk mhasKept nt mtaped nr mrowMany mroundOf mroundFrom mouts nm fh16828 th16829 ns mfrom mto msort misFault mdeep mcoded mlines nl nc nF np ntr nb mbestCost nso nsi nit nsh nsf nss nrc mtraced mdealer mnumber mwhose msize misParted), (nw, iA G 1662 fnw), (nm, iA G 36 gnm6830), (ns, iA G 8 gns6831), (np, iA G 100 gnp6832)]) hP hD (fun hP hD => ?_)
        obtain ⟨hr6826, w6833⟩ := hr6826
        rcases hr6826 with rfl | rfl
        · refine lv_if_eq (tgt := 171) hx hb gX12_many_5.2.2.2.2.2.2.2.2.2 (by decide) (fun c9 => absurd c9 (by decide)) (fun _ => ?_)
          refine lv_iconst (v := 1) hx hb gX12_many_6.1 (by decide) ?_
          refine lv_goto (tgt := 172) hx hb gX12_many_6.2.1 (by decide) ?_
          refine lv_iadd hx hb gX12_many_6.2.2.2.1 ?_
          refine lv_istore_n (lv' := [(2, .int (nn + 1)), (3, .int (nI kP)), (0, .ref h0), (1, .int x1)]) hx hb gX12_many_6.2.2.2.2.1 rfl hl (by decide) rfl (fun ls hl => ?_)
          refine lv_iinc (v := nI (kP + 1)) (lv' := [(3, .int (nI (kP + 1))), (2, .int (nn + 1)), (0, .ref h0), (1, .int x1)]) hx hb gX12_many_6.2.2.2.2.2.1 hl (k := 1) rfl (nI_1 _) (by decide) rfl (fun ls hl => ?_)
          refine lv_goto (tgt := 147) hx hb gX12_many_6.2.2.2.2.2.2.1 (by decide) ?_
          exact ihP (kP + 1) (nn + 1) fh16828 th16829 gnm6830 gns6831 gnp6832 _ _ _ (by omega) (by first | assumption | exact Or.inl rfl | exact Or.inr rfl) (And.intro hP hD) hS (lv_sub hl [0, 1, 2, 3] rfl)
        · refine lv_if_eq (tgt := 171) hx hb gX12_many_5.2.2.2.2.2.2.2.2.2 (by decide) (fun _ => ?_) (fun c9 => absurd (by decide) c9)
          refine lv_iconst (v := 0) hx hb gX12_many_6.2.2.1 (by decide) ?_
          refine lv_iadd hx hb gX12_many_6.2.2.2.1 ?_
          refine lv_istore_n (lv' := [(2, .int (nn + 0)), (3, .int (nI kP)), (0, .ref h0), (1, .int x1)]) hx hb gX12_many_6.2.2.2.2.1 rfl hl (by decide) rfl (fun ls hl => ?_)
          refine lv_iinc (v := nI (kP + 1)) (lv' := [(3, .int (nI (kP + 1))), (2, .int (nn + 0)), (0, .ref h0), (1, .int x1)]) hx hb gX12_many_6.2.2.2.2.2.1 hl (k := 1) rfl (nI_1 _) (by decide) rfl (fun ls hl => ?_)
          refine lv_goto (tgt := 147) hx hb gX12_many_6.2.2.2.2.2.2.1 (by decide) ?_
          exact ihP (kP + 1) (nn + 0) fh16828 th16829 gnm6830 gns6831 gnp6832 _ _ _ (by omega) (by first | assumption | exact Or.inl rfl | exact Or.inr rfl) (And.intro hP hD) hS (lv_sub hl [0, 1, 2, 3] rfl)
    exact keyP k9 0 0 mfromHour mtoHour fnm fns fnp _ _ _ (by omega) (by first | assumption | exact Or.inl rfl | exact Or.inr rfl) (And.intro hP hD) hS (lv_sub hl [0, 1, 2, 3] rfl)
  by_cases c_1_6835 : x1 = 10
  · refine lv_tableIn (tgt := 182) hx hb gX12_many_0.2.1 (by rw [c_1_6835]; decide) (by rw [c_1_6835]; decide) (by rw [c_1_6835]; rfl) (by decide) ?_
    refine lv_aload_n hx hb gX12_many_6.2.2.2.2.2.2.2.2.2 rfl (lv_at0 hl) ?_
    refine gf_X12_9 hC rfl hK hP 0 rfl rfl gX12_many_7.1 ?_
    refine lv_bipush (v := 10) hx hb gX12_many_7.2.1 (by decide) ?_
    refine ald hC hK hP 1 rfl (vin (by decide +kernel)) (k := 10) (by decide +kernel) (v := fnw 10) (rfl) gX12_many_7.2.2.1 ?_
    refine toQ hQ0 ?_
    exact RI (v := fnw 10) hC hP hD hS [0, 1, 2, 3, 4] (mfromHour, mtoHour, fnm, fns, fnp) rfl rfl (by decide) (⟨trivial, by first | assumption | exact hM⟩) rfl gX12_many_7.2.2.2.1
  by_cases c_1_6836 : x1 = 11
  · refine lv_tableIn (tgt := 190) hx hb gX12_many_0.2.1 (by rw [c_1_6836]; decide) (by rw [c_1_6836]; decide) (by rw [c_1_6836]; rfl) (by decide) ?_
    refine lv_aload_n hx hb gX12_many_7.2.2.2.2.1 rfl (lv_at0 hl) ?_
    refine gf_X12_9 hC rfl hK hP 0 rfl rfl gX12_many_7.2.2.2.2.2.1 ?_
    refine lv_bipush (v := 11) hx hb gX12_many_7.2.2.2.2.2.2.1 (by decide) ?_
    refine ald hC hK hP 1 rfl (vin (by decide +kernel)) (k := 11) (by decide +kernel) (v := fnw 11) (rfl) gX12_many_7.2.2.2.2.2.2.2.1 ?_
    refine toQ hQ0 ?_
    exact RI (v := fnw 11) hC hP hD hS [0, 1, 2, 3, 4] (mfromHour, mtoHour, fnm, fns, fnp) rfl rfl (by decide) (⟨trivial, by first | assumption | exact hM⟩) rfl gX12_many_7.2.2.2.2.2.2.2.2.1
  by_cases c_1_6837 : x1 = 12
  · refine lv_tableIn (tgt := 198) hx hb gX12_many_0.2.1 (by rw [c_1_6837]; decide) (by rw [c_1_6837]; decide) (by rw [c_1_6837]; rfl) (by decide) ?_
    refine lv_aload_n hx hb gX12_many_7.2.2.2.2.2.2.2.2.2 rfl (lv_at0 hl) ?_
    refine gf_X12_327 hC rfl hK hP 0 rfl rfl gX12_many_8.1 ?_
    refine toQ hQ0 ?_
    exact RI (v := mrowMany) hC hP hD hS [0, 1, 2, 3, 4] (mfromHour, mtoHour, fnm, fns, fnp) rfl rfl (by decide) (⟨trivial, by first | assumption | exact hM⟩) rfl gX12_many_8.2.1
  by_cases c_1_6838 : x1 = 13
  · refine lv_tableIn (tgt := 203) hx hb gX12_many_0.2.1 (by rw [c_1_6838]; decide) (by rw [c_1_6838]; decide) (by rw [c_1_6838]; rfl) (by decide) ?_
    refine lv_aload_n hx hb gX12_many_8.2.2.1 rfl (lv_at0 hl) ?_
    refine gf_X12_206 hC rfl hK hP 0 rfl rfl gX12_many_8.2.2.2.1 ?_
    refine toQ hQ0 ?_
    exact RI (v := mtaped) hC hP hD hS [0, 1, 2, 3, 4] (mfromHour, mtoHour, fnm, fns, fnp) rfl rfl (by decide) (⟨trivial, by first | assumption | exact hM⟩) rfl gX12_many_8.2.2.2.2.1
  by_cases c_1_6839 : x1 = 14
  · refine lv_tableIn (tgt := 208) hx hb gX12_many_0.2.1 (by rw [c_1_6839]; decide) (by rw [c_1_6839]; decide) (by rw [c_1_6839]; rfl) (by decide) ?_
    refine lv_aload_n hx hb gX12_many_8.2.2.2.2.2.1 rfl (lv_at0 hl) ?_
    refine gf_X12_351 hC rfl hK hP 0 rfl rfl gX12_many_8.2.2.2.2.2.2.1 ?_
    refine toQ hQ0 ?_
    exact RI (v := mtraced) hC hP hD hS [0, 1, 2, 3, 4] (mfromHour, mtoHour, fnm, fns, fnp) rfl rfl (by decide) (⟨trivial, by first | assumption | exact hM⟩) rfl gX12_many_8.2.2.2.2.2.2.2.1
  refine lv_tableOut (tgt := 213) hx hb gX12_many_0.2.1 (by have q9 := sw_0_14 (x := x1); simp only [c_1_6813, c_1_6814, c_1_6815, c_1_6816, c_1_6819, c_1_6820, c_1_6821, c_1_6822, c_1_6824, c_1_6825, c_1_6835, c_1_6836, c_1_6837, c_1_6838, c_1_6839, not_false_eq_true, true_implies] at q9; exact q9) (by decide) ?_
  refine lv_iconst (v := (-1)) hx hb gX12_many_8.2.2.2.2.2.2.2.2.1 (by decide) ?_
  refine toQ hQ0 ?_
  exact RI (v := (-1)) hC hP hD hS [0, 1, 2, 3, 4] (mfromHour, mtoHour, fnm, fns, fnp) rfl rfl (by decide) (⟨trivial, by first | assumption | exact hM⟩) rfl gX12_many_8.2.2.2.2.2.2.2.2.2
def K_w_keep (l : Launch) (G : GG) (h0 : Nat) (nw : Nat) (nk : Nat) (mhasKept : Int32) (nt : Nat) (mtaped : Int32) (nr : Nat) (mrowMany : Int32) (mroundOf : Int32) (mroundFrom : Int32) (mouts : Int32) (nm : Nat) (mfromHour : Int32) (mtoHour : Int32) (ns : Nat) (mfrom : Int32) (mto : Int32) (msort : Int32) (misFault : Int32) (mdeep : Int32) (mcoded : Int32) (mlines : Int32) (nl : Nat) (nc : Nat) (nF : Nat) (np : Nat) (ntr : Nat) (nb : Nat) (mbestCost : Int32) (nso : Nat) (nsi : Nat) (nit : Nat) (nsh : Nat) (nsf : Nat) (nss : Nat) (nrc : Nat) (mtraced : Int32) (mdealer : Int32) (mnumber : Int32) (mwhose : Int32) (msize : Int32) (misParted : Int32) (fnw : Nat → Int32) (fnk : Nat → Int32) : Prop := MI l G yX12_keep cX12_keep 2 (some .int) 1 0 0 [.ref h0] [(h0, oX12 nw nk mhasKept nt mtaped nr mrowMany mroundOf mroundFrom mouts nm mfromHour mtoHour ns mfrom mto msort misFault mdeep mcoded mlines nl nc nF np ntr nb mbestCost nso nsi nit nsh nsf nss nrc mtraced mdealer mnumber mwhose msize misParted), (nw, iA G 1662 fnw), (nk, iA G 1662 fnk)] (fun (r : Int32) (u : (Nat → Int32)) => (r = 1) ∧ (NI u ∧ VI u ∧ SCX u (fnw 0) (fnw 1) (fnw 2) (fnw 3) (fnw 4) (fnw 5) (fnw 6) (fnw 8) (fnw 9) (fnw 10) (fnw 11) ∧ AG 1662 fnw u)) (fun u : (Nat → Int32) => [(h0, oX12 nw nk 1 nt mtaped nr mrowMany mroundOf mroundFrom mouts nm mfromHour mtoHour ns mfrom mto msort misFault mdeep mcoded mlines nl nc nF np ntr nb mbestCost nso nsi nit nsh nsf nss nrc mtraced mdealer mnumber mwhose msize misParted), (nw, iA G 1662 fnw), (nk, iA G 1662 u)])
set_option maxHeartbeats 4000000 in
set_option maxRecDepth 100000 in
theorem w_keep (l : Launch) (G : GG) (h0 : Nat) (nw : Nat) (nk : Nat) (mhasKept : Int32) (nt : Nat) (mtaped : Int32) (nr : Nat) (mrowMany : Int32) (mroundOf : Int32) (mroundFrom : Int32) (mouts : Int32) (nm : Nat) (mfromHour : Int32) (mtoHour : Int32) (ns : Nat) (mfrom : Int32) (mto : Int32) (msort : Int32) (misFault : Int32) (mdeep : Int32) (mcoded : Int32) (mlines : Int32) (nl : Nat) (nc : Nat) (nF : Nat) (np : Nat) (ntr : Nat) (nb : Nat) (mbestCost : Int32) (nso : Nat) (nsi : Nat) (nit : Nat) (nsh : Nat) (nsf : Nat) (nss : Nat) (nrc : Nat) (mtraced : Int32) (mdealer : Int32) (mnumber : Int32) (mwhose : Int32) (msize : Int32) (misParted : Int32) (fnw : Nat → Int32) (fnk : Nat → Int32) (hN : NI fnw) (hV : VI fnw) : K_w_keep l G h0 nw nk mhasKept nt mtaped nr mrowMany mroundOf mroundFrom mouts nm mfromHour mtoHour ns mfrom mto msort misFault mdeep mcoded mlines nl nc nF np ntr nb mbestCost nso nsi nit nsh nsf nss nrc mtraced mdealer mnumber mwhose msize misParted fnw fnk := by
  refine MI.start (by decide +kernel) (Nat.le_of_ble_eq_true rfl) ?_
  intro p e s m below meth c A ls hC hK hP hD hS hA hl
  refine absQ (fun Q0 hQ0 => ?_)
  have hl : lv_has ls 2 [(0, .ref h0)] := hl
  refine Kan8 hC (fun hx hb hr hml hB hown hlocks hnm => ?_)
  refine lv_iconst (v := 0) hx hb gX12_keep_0.1 (by decide) ?_
  refine lv_istore_n (lv' := [(1, .int 0), (0, .ref h0)]) hx hb gX12_keep_0.2.1 rfl hl (by decide) rfl (fun ls hl => ?_)
  have keyP : ∀ (nP kP : Nat) (vK : Nat → Int32) (H : Heap) (locs : List Loc) (ls : Array Slot), kP + nP = 1662 → (AG kP fnw vK) → va_PD G A [(h0, oX12 nw nk mhasKept nt mtaped nr mrowMany mroundOf mroundFrom mouts nm mfromHour mtoHour ns mfrom mto msort misFault mdeep mcoded mlines nl nc nF np ntr nb mbestCost nso nsi nit nsh nsf nss nrc mtraced mdealer mnumber mwhose msize misParted), (nw, iA G 1662 fnw), (nk, iA G 1662 vK)] H → va_S A s.heap H locs → lv_has ls 2 [(1, .int (nI kP)), (0, .ref h0)] → W p l e (RM 1 0 0) s m ([.ref h0] : List Value).toArray below meth c H locs 0 0 Q0 (F0 m 2 ls []) := by
    intro nP
    induction nP with
    | zero =>
      intro kP vK H locs ls hkP hag hPD hS hl
      refine Kan2 hPD (fun hP hD => ?_)
      obtain rfl : 1662 = kP := by omega
      have hl : lv_has ls 2 [(1, .int 1662), (0, .ref h0)] := hl
      refine lv_iload_n hx hb gX12_keep_0.2.2.1 rfl (lv_at0 hl) ?_
      refine lv_sipush (v := 1662) hx hb gX12_keep_0.2.2.2.1 (by decide) ?_
      refine lv_icmp_ge (tgt := 27) hx hb gX12_keep_0.2.2.2.2.1 (by decide) (fun _ => ?_) (fun c9 => absurd (by decide) c9)
      refine lv_aload_n hx hb gX12_keep_1.2.2.2.2.2.1 rfl (lv_at1 hl) ?_
      refine lv_iconst (v := 1) hx hb gX12_keep_1.2.2.2.2.2.2.1 (by decide) ?_
      refine pf_X12_383 hC rfl hK hP hD hS 0 (ws' := [(h0, oX12 nw nk 1 nt mtaped nr mrowMany mroundOf mroundFrom mouts nm mfromHour mtoHour ns mfrom mto msort misFault mdeep mcoded mlines nl nc nF np ntr nb mbestCost nso nsi nit nsh nsf nss nrc mtraced mdealer mnumber mwhose msize misParted), (nw, iA G 1662 fnw), (nk, iA G 1662 vK)]) rfl (Nat.le_of_ble_eq_true rfl) rfl (by decide +kernel) (by decide +kernel) gX12_keep_1.2.2.2.2.2.2.2.1 (fun H locs hP hD hS => ?_)
      refine lv_iconst (v := 1) hx hb gX12_keep_1.2.2.2.2.2.2.2.2.1 (by decide) ?_
      refine toQ hQ0 ?_
      exact RI (v := 1) hC hP hD hS [0, 1, 2] vK rfl rfl (by decide) (⟨rfl, ⟨AG.NI hag hN, AG.VI hag hV, AG.SC hag, hag⟩⟩) rfl gX12_keep_1.2.2.2.2.2.2.2.2.2
    | succ nP ihP =>
      intro kP vK H locs ls hkP hag hPD hS hl
      refine Kan2 hPD (fun hP hD => ?_)
      refine lv_iload_n hx hb gX12_keep_0.2.2.1 rfl (lv_at0 hl) ?_
      refine lv_sipush (v := 1662) hx hb gX12_keep_0.2.2.2.1 (by decide) ?_
      refine lv_icmp_ge (tgt := 27) hx hb gX12_keep_0.2.2.2.2.1 (by decide) (fun c9 => absurd c9 (nI_ge (a := kP) (b := 1662) (by omega) (by omega))) (fun _ => ?_)
      refine lv_aload_n hx hb gX12_keep_0.2.2.2.2.2.1 rfl (lv_at1 hl) ?_
      refine gf_X12_13 hC rfl hK hP 0 rfl rfl gX12_keep_0.2.2.2.2.2.2.1 ?_
      refine lv_iload_n hx hb gX12_keep_0.2.2.2.2.2.2.2.1 rfl (lv_at0 hl) ?_
      refine lv_aload_n hx hb gX12_keep_0.2.2.2.2.2.2.2.2.1 rfl (lv_at1 hl) ?_
      refine gf_X12_9 hC rfl hK hP 0 rfl rfl gX12_keep_0.2.2.2.2.2.2.2.2.2 ?_
      refine lv_iload_n hx hb gX12_keep_1.1 rfl (lv_at0 hl) ?_
      refine aldN hC hK hP 1 rfl (k := kP) (by omega) (Nat.le_of_ble_eq_true rfl) (v := fnw kP) rfl gX12_keep_1.2.1 ?_
      refine lv_topi (fun x6840 ex6840 => ?_)
      refine astN hC hK hP hD hS 2 (ws' := [(h0, oX12 nw nk mhasKept nt mtaped nr mrowMany mroundOf mroundFrom mouts nm mfromHour mtoHour ns mfrom mto msort misFault mdeep mcoded mlines nl nc nF np ntr nb mbestCost nso nsi nit nsh nsf nss nrc mtraced mdealer mnumber mwhose msize misParted), (nw, iA G 1662 fnw), (nk, iA G 1662 (upd vK kP x6840))]) rfl (k := kP) (by omega) (Nat.le_of_ble_eq_true rfl) (rfl) gX12_keep_1.2.2.1 (fun H locs hP hD hS => ?_)
      refine lv_iinc (v := nI (kP + 1)) (lv' := [(1, .int (nI (kP + 1))), (0, .ref h0)]) hx hb gX12_keep_1.2.2.2.1 hl (k := 0) rfl (nI_1 _) (by decide) rfl (fun ls hl => ?_)
      refine lv_goto (tgt := 2) hx hb gX12_keep_1.2.2.2.2.1 (by decide) ?_
      exact ihP (kP + 1) (upd vK kP x6840) _ _ _ (by omega) (by first | assumption | exact Or.inl rfl | exact Or.inr rfl | exact AG.zero | exact AG.next (by assumption) (by assumption)) (And.intro hP hD) hS (lv_sub hl [0, 1] rfl)
  exact keyP 1662 0 fnk _ _ _ (by omega) (by first | assumption | exact Or.inl rfl | exact Or.inr rfl | exact AG.zero | exact AG.next (by assumption) (by assumption)) (And.intro hP hD) hS (lv_sub hl [0, 1] rfl)
def K_w_again0 (l : Launch) (G : GG) (h0 : Nat) (nw : Nat) (nk : Nat) (nt : Nat) (mtaped : Int32) (nr : Nat) (mrowMany : Int32) (mroundOf : Int32) (mroundFrom : Int32) (mouts : Int32) (nm : Nat) (mfromHour : Int32) (mtoHour : Int32) (ns : Nat) (mfrom : Int32) (mto : Int32) (msort : Int32) (misFault : Int32) (mdeep : Int32) (mcoded : Int32) (mlines : Int32) (nl : Nat) (nc : Nat) (nF : Nat) (np : Nat) (ntr : Nat) (nb : Nat) (mbestCost : Int32) (nso : Nat) (nsi : Nat) (nit : Nat) (nsh : Nat) (nsf : Nat) (nss : Nat) (nrc : Nat) (mtraced : Int32) (mdealer : Int32) (mnumber : Int32) (mwhose : Int32) (msize : Int32) (misParted : Int32) : Prop := MP l G yX12_again cX12_again 2 (some .int) 1 [.ref h0] [(h0, oX12 nw nk 0 nt mtaped nr mrowMany mroundOf mroundFrom mouts nm mfromHour mtoHour ns mfrom mto msort misFault mdeep mcoded mlines nl nc nF np ntr nb mbestCost nso nsi nit nsh nsf nss nrc mtraced mdealer mnumber mwhose msize misParted)] (fun r : Int32 => r = (-3))
set_option maxHeartbeats 4000000 in
set_option maxRecDepth 100000 in
theorem w_again0 (l : Launch) (G : GG) (h0 : Nat) (nw : Nat) (nk : Nat) (nt : Nat) (mtaped : Int32) (nr : Nat) (mrowMany : Int32) (mroundOf : Int32) (mroundFrom : Int32) (mouts : Int32) (nm : Nat) (mfromHour : Int32) (mtoHour : Int32) (ns : Nat) (mfrom : Int32) (mto : Int32) (msort : Int32) (misFault : Int32) (mdeep : Int32) (mcoded : Int32) (mlines : Int32) (nl : Nat) (nc : Nat) (nF : Nat) (np : Nat) (ntr : Nat) (nb : Nat) (mbestCost : Int32) (nso : Nat) (nsi : Nat) (nit : Nat) (nsh : Nat) (nsf : Nat) (nss : Nat) (nrc : Nat) (mtraced : Int32) (mdealer : Int32) (mnumber : Int32) (mwhose : Int32) (msize : Int32) (misParted : Int32) : K_w_again0 l G h0 nw nk nt mtaped nr mrowMany mroundOf mroundFrom mouts nm mfromHour mtoHour ns mfrom mto msort misFault mdeep mcoded mlines nl nc nF np ntr nb mbestCost nso nsi nit nsh nsf nss nrc mtraced mdealer mnumber mwhose msize misParted := by
  refine MP.start (by decide +kernel) (Nat.le_of_ble_eq_true rfl) ?_
  intro p e s m below meth c ls hC hK hP hD hl
  refine absQ (fun Q0 hQ0 => ?_)
  have hl : lv_has ls 2 [(0, .ref h0)] := hl
  refine Kan8 hC (fun hx hb hr hml hB hown hlocks hnm => ?_)
  refine lv_aload_n hx hb gX12_again_0.1 rfl (lv_at0 hl) ?_
  refine gf_X12_383 hC rfl hK hP 0 rfl rfl gX12_again_0.2.1 ?_
  refine lv_if_ne (tgt := 10) hx hb gX12_again_0.2.2.1 (by decide) (fun c9 => absurd (by decide) c9) (fun _ => ?_)
  refine lv_bipush (v := (-3)) hx hb gX12_again_0.2.2.2.1 (by decide) ?_
  refine toQ hQ0 ?_
  exact RP (v := (-3)) hC (rfl) rfl gX12_again_0.2.2.2.2.1
def K_w_again1 (l : Launch) (G : GG) (h0 : Nat) (nw : Nat) (nk : Nat) (nt : Nat) (mtaped : Int32) (nr : Nat) (mrowMany : Int32) (mroundOf : Int32) (mroundFrom : Int32) (mouts : Int32) (nm : Nat) (mfromHour : Int32) (mtoHour : Int32) (ns : Nat) (mfrom : Int32) (mto : Int32) (msort : Int32) (misFault : Int32) (mdeep : Int32) (mcoded : Int32) (mlines : Int32) (nl : Nat) (nc : Nat) (nF : Nat) (np : Nat) (ntr : Nat) (nb : Nat) (mbestCost : Int32) (nso : Nat) (nsi : Nat) (nit : Nat) (nsh : Nat) (nsf : Nat) (nss : Nat) (nrc : Nat) (mtraced : Int32) (mdealer : Int32) (mnumber : Int32) (mwhose : Int32) (msize : Int32) (misParted : Int32) (fnw : Nat → Int32) (fnk : Nat → Int32) : Prop := MI l G yX12_again cX12_again 2 (some .int) 1 0 0 [.ref h0] [(h0, oX12 nw nk 1 nt mtaped nr mrowMany mroundOf mroundFrom mouts nm mfromHour mtoHour ns mfrom mto msort misFault mdeep mcoded mlines nl nc nF np ntr nb mbestCost nso nsi nit nsh nsf nss nrc mtraced mdealer mnumber mwhose msize misParted), (nw, iA G 1662 fnw), (nk, iA G 1662 fnk)] (fun (r : Int32) (u : (Nat → Int32)) => (r = 1) ∧ (NI u ∧ VI u ∧ SCX u (fnk 0) (fnk 1) (fnk 2) (fnk 3) (fnk 4) (fnk 5) (fnk 6) (fnk 8) (fnk 9) (fnk 10) (fnk 11) ∧ AG 1662 fnk u)) (fun u : (Nat → Int32) => [(h0, oX12 nw nk 1 nt mtaped nr mrowMany mroundOf mroundFrom mouts nm mfromHour mtoHour ns mfrom mto msort misFault mdeep mcoded mlines nl nc nF np ntr nb mbestCost nso nsi nit nsh nsf nss nrc mtraced mdealer mnumber mwhose msize misParted), (nw, iA G 1662 u), (nk, iA G 1662 fnk)])
set_option maxHeartbeats 4000000 in
set_option maxRecDepth 100000 in
theorem w_again1 (l : Launch) (G : GG) (h0 : Nat) (nw : Nat) (nk : Nat) (nt : Nat) (mtaped : Int32) (nr : Nat) (mrowMany : Int32) (mroundOf : Int32) (mroundFrom : Int32) (mouts : Int32) (nm : Nat) (mfromHour : Int32) (mtoHour : Int32) (ns : Nat) (mfrom : Int32) (mto : Int32) (msort : Int32) (misFault : Int32) (mdeep : Int32) (mcoded : Int32) (mlines : Int32) (nl : Nat) (nc : Nat) (nF : Nat) (np : Nat) (ntr : Nat) (nb : Nat) (mbestCost : Int32) (nso : Nat) (nsi : Nat) (nit : Nat) (nsh : Nat) (nsf : Nat) (nss : Nat) (nrc : Nat) (mtraced : Int32) (mdealer : Int32) (mnumber : Int32) (mwhose : Int32) (msize : Int32) (misParted : Int32) (fnw : Nat → Int32) (fnk : Nat → Int32) (hN : NI fnw) (hV : VI fnw) (hNk : NI fnk) (hVk : VI fnk) : K_w_again1 l G h0 nw nk nt mtaped nr mrowMany mroundOf mroundFrom mouts nm mfromHour mtoHour ns mfrom mto msort misFault mdeep mcoded mlines nl nc nF np ntr nb mbestCost nso nsi nit nsh nsf nss nrc mtraced mdealer mnumber mwhose msize misParted fnw fnk := by
  refine MI.start (by decide +kernel) (Nat.le_of_ble_eq_true rfl) ?_
  intro p e s m below meth c A ls hC hK hP hD hS hA hl
  refine absQ (fun Q0 hQ0 => ?_)
  have hl : lv_has ls 2 [(0, .ref h0)] := hl
  refine Kan8 hC (fun hx hb hr hml hB hown hlocks hnm => ?_)
  refine lv_aload_n hx hb gX12_again_0.1 rfl (lv_at0 hl) ?_
  refine gf_X12_383 hC rfl hK hP 0 rfl rfl gX12_again_0.2.1 ?_
  refine lv_if_ne (tgt := 10) hx hb gX12_again_0.2.2.1 (by decide) (fun _ => ?_) (fun c9 => absurd c9 (by decide))
  refine lv_iconst (v := 0) hx hb gX12_again_0.2.2.2.2.2.1 (by decide) ?_
  refine lv_istore_n (lv' := [(1, .int 0), (0, .ref h0)]) hx hb gX12_again_0.2.2.2.2.2.2.1 rfl hl (by decide) rfl (fun ls hl => ?_)
  have keyP : ∀ (nP kP : Nat) (vK : Nat → Int32) (H : Heap) (locs : List Loc) (ls : Array Slot), kP + nP = 1662 → (AG kP fnk vK) → va_PD G A [(h0, oX12 nw nk 1 nt mtaped nr mrowMany mroundOf mroundFrom mouts nm mfromHour mtoHour ns mfrom mto msort misFault mdeep mcoded mlines nl nc nF np ntr nb mbestCost nso nsi nit nsh nsf nss nrc mtraced mdealer mnumber mwhose msize misParted), (nw, iA G 1662 vK), (nk, iA G 1662 fnk)] H → va_S A s.heap H locs → lv_has ls 2 [(1, .int (nI kP)), (0, .ref h0)] → W p l e (RM 1 0 0) s m ([.ref h0] : List Value).toArray below meth c H locs 0 0 Q0 (F0 m 12 ls []) := by
    intro nP
    induction nP with
    | zero =>
      intro kP vK H locs ls hkP hag hPD hS hl
      refine Kan2 hPD (fun hP hD => ?_)
      obtain rfl : 1662 = kP := by omega
      have hl : lv_has ls 2 [(1, .int 1662), (0, .ref h0)] := hl
      refine lv_iload_n hx hb gX12_again_0.2.2.2.2.2.2.2.1 rfl (lv_at0 hl) ?_
      refine lv_sipush (v := 1662) hx hb gX12_again_0.2.2.2.2.2.2.2.2.1 (by decide) ?_
      refine lv_icmp_ge (tgt := 37) hx hb gX12_again_0.2.2.2.2.2.2.2.2.2 (by decide) (fun _ => ?_) (fun c9 => absurd (by decide) c9)
      refine lv_iconst (v := 1) hx hb gX12_again_2.1 (by decide) ?_
      refine toQ hQ0 ?_
      exact RI (v := 1) hC hP hD hS [0, 1, 2] vK rfl rfl (by decide) (⟨rfl, ⟨AG.NI hag hNk, AG.VI hag hVk, AG.SC hag, hag⟩⟩) rfl gX12_again_2.2
    | succ nP ihP =>
      intro kP vK H locs ls hkP hag hPD hS hl
      refine Kan2 hPD (fun hP hD => ?_)
      refine lv_iload_n hx hb gX12_again_0.2.2.2.2.2.2.2.1 rfl (lv_at0 hl) ?_
      refine lv_sipush (v := 1662) hx hb gX12_again_0.2.2.2.2.2.2.2.2.1 (by decide) ?_
      refine lv_icmp_ge (tgt := 37) hx hb gX12_again_0.2.2.2.2.2.2.2.2.2 (by decide) (fun c9 => absurd c9 (nI_ge (a := kP) (b := 1662) (by omega) (by omega))) (fun _ => ?_)
      refine lv_aload_n hx hb gX12_again_1.1 rfl (lv_at1 hl) ?_
      refine gf_X12_9 hC rfl hK hP 0 rfl rfl gX12_again_1.2.1 ?_
      refine lv_iload_n hx hb gX12_again_1.2.2.1 rfl (lv_at0 hl) ?_
      refine lv_aload_n hx hb gX12_again_1.2.2.2.1 rfl (lv_at1 hl) ?_
      refine gf_X12_13 hC rfl hK hP 0 rfl rfl gX12_again_1.2.2.2.2.1 ?_
      refine lv_iload_n hx hb gX12_again_1.2.2.2.2.2.1 rfl (lv_at0 hl) ?_
      refine aldN hC hK hP 2 rfl (k := kP) (by omega) (Nat.le_of_ble_eq_true rfl) (v := fnk kP) rfl gX12_again_1.2.2.2.2.2.2.1 ?_
      refine lv_topi (fun x6841 ex6841 => ?_)
      refine astN hC hK hP hD hS 1 (ws' := [(h0, oX12 nw nk 1 nt mtaped nr mrowMany mroundOf mroundFrom mouts nm mfromHour mtoHour ns mfrom mto msort misFault mdeep mcoded mlines nl nc nF np ntr nb mbestCost nso nsi nit nsh nsf nss nrc mtraced mdealer mnumber mwhose msize misParted), (nw, iA G 1662 (upd vK kP x6841)), (nk, iA G 1662 fnk)]) rfl (k := kP) (by omega) (Nat.le_of_ble_eq_true rfl) (rfl) gX12_again_1.2.2.2.2.2.2.2.1 (fun H locs hP hD hS => ?_)
      refine lv_iinc (v := nI (kP + 1)) (lv' := [(1, .int (nI (kP + 1))), (0, .ref h0)]) hx hb gX12_again_1.2.2.2.2.2.2.2.2.1 hl (k := 0) rfl (nI_1 _) (by decide) rfl (fun ls hl => ?_)
      refine lv_goto (tgt := 12) hx hb gX12_again_1.2.2.2.2.2.2.2.2.2 (by decide) ?_
      exact ihP (kP + 1) (upd vK kP x6841) _ _ _ (by omega) (by first | assumption | exact Or.inl rfl | exact Or.inr rfl | exact AG.zero | exact AG.next (by assumption) (by assumption)) (And.intro hP hD) hS (lv_sub hl [0, 1] rfl)
  exact keyP 1662 0 fnw _ _ _ (by omega) (by first | assumption | exact Or.inl rfl | exact Or.inr rfl | exact AG.zero | exact AG.next (by assumption) (by assumption)) (And.intro hP hD) hS (lv_sub hl [0, 1] rfl)
